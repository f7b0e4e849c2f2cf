section
-- ===== PART A: goes FIRST, ahead of the names: the tables' words, and 'selects' of the private methods out of them =====
/-- a private method of a class that the tables say can be made, by its rows of tables_1 -/
def lw_okq (q : MethodName × Nat) : Prop := (q.1.cls ≠ "java/lang/invoke/MethodHandle" ∧ q.1.cls ≠ "java/lang/invoke/VarHandle") ∧ Cond.instantiable q.1.cls q.2 ∈ tables_1 ∧ Cond.privateMethod q.1 ∈ tables_1 ∧ Cond.instanceMethod q.1 ∈ tables_1
theorem lw_p0 : lw_okq (⟨"TextBridge$JsonReader", "skipBlanks", "()V"⟩, 6) := ⟨⟨by decide +kernel, by decide +kernel⟩, List.mem_of_getElem? (i := 90) (by decide +kernel), List.mem_of_getElem? (i := 138) (by decide +kernel), List.mem_of_getElem? (i := 139) (by decide +kernel)⟩
theorem lw_p1 : lw_okq (⟨"TextBridge$JsonReader", "readString", "()Z"⟩, 6) := ⟨⟨by decide +kernel, by decide +kernel⟩, List.mem_of_getElem? (i := 90) (by decide +kernel), List.mem_of_getElem? (i := 150) (by decide +kernel), List.mem_of_getElem? (i := 151) (by decide +kernel)⟩
theorem lw_p2 : lw_okq (⟨"TextBridge$Row", "makeGap", "(II)V"⟩, 2) := ⟨⟨by decide +kernel, by decide +kernel⟩, List.mem_of_getElem? (i := 22) (by decide +kernel), List.mem_of_getElem? (i := 172) (by decide +kernel), List.mem_of_getElem? (i := 173) (by decide +kernel)⟩
theorem lw_p3 : lw_okq (⟨"TextBridge$Row", "set", "(II)V"⟩, 2) := ⟨⟨by decide +kernel, by decide +kernel⟩, List.mem_of_getElem? (i := 22) (by decide +kernel), List.mem_of_getElem? (i := 182) (by decide +kernel), List.mem_of_getElem? (i := 183) (by decide +kernel)⟩
theorem lw_p4 : lw_okq (⟨"TextBridge$JsonReader", "readNumberedSign", "()Z"⟩, 6) := ⟨⟨by decide +kernel, by decide +kernel⟩, List.mem_of_getElem? (i := 90) (by decide +kernel), List.mem_of_getElem? (i := 186) (by decide +kernel), List.mem_of_getElem? (i := 187) (by decide +kernel)⟩
theorem lw_p5 : lw_okq (⟨"TextBridge$JsonReader", "codeOfEscape", "(I)I"⟩, 6) := ⟨⟨by decide +kernel, by decide +kernel⟩, List.mem_of_getElem? (i := 90) (by decide +kernel), List.mem_of_getElem? (i := 199) (by decide +kernel), List.mem_of_getElem? (i := 200) (by decide +kernel)⟩
theorem lw_p6 : lw_okq (⟨"TextBridge$JsonReader", "putSign", "(I)V"⟩, 6) := ⟨⟨by decide +kernel, by decide +kernel⟩, List.mem_of_getElem? (i := 90) (by decide +kernel), List.mem_of_getElem? (i := 213) (by decide +kernel), List.mem_of_getElem? (i := 214) (by decide +kernel)⟩
theorem lw_p7 : lw_okq (⟨"TextBridge$JsonReader", "readLetter", "()Z"⟩, 6) := ⟨⟨by decide +kernel, by decide +kernel⟩, List.mem_of_getElem? (i := 90) (by decide +kernel), List.mem_of_getElem? (i := 220) (by decide +kernel), List.mem_of_getElem? (i := 221) (by decide +kernel)⟩
theorem lw_p8 : lw_okq (⟨"TextBridge$JsonReader", "readPlainSign", "(I)Z"⟩, 6) := ⟨⟨by decide +kernel, by decide +kernel⟩, List.mem_of_getElem? (i := 90) (by decide +kernel), List.mem_of_getElem? (i := 227) (by decide +kernel), List.mem_of_getElem? (i := 228) (by decide +kernel)⟩
theorem lw_p9 : lw_okq (⟨"TextBridge$JsonReader", "readParts", "(III)Z"⟩, 6) := ⟨⟨by decide +kernel, by decide +kernel⟩, List.mem_of_getElem? (i := 90) (by decide +kernel), List.mem_of_getElem? (i := 245) (by decide +kernel), List.mem_of_getElem? (i := 246) (by decide +kernel)⟩
theorem lw_p10 : lw_okq (⟨"TextBridge$JsonReader", "closeParts", "(III)Z"⟩, 6) := ⟨⟨by decide +kernel, by decide +kernel⟩, List.mem_of_getElem? (i := 90) (by decide +kernel), List.mem_of_getElem? (i := 249) (by decide +kernel), List.mem_of_getElem? (i := 250) (by decide +kernel)⟩
theorem lw_p11 : lw_okq (⟨"TextBridge$JsonReader", "readKey", "()Z"⟩, 6) := ⟨⟨by decide +kernel, by decide +kernel⟩, List.mem_of_getElem? (i := 90) (by decide +kernel), List.mem_of_getElem? (i := 253) (by decide +kernel), List.mem_of_getElem? (i := 254) (by decide +kernel)⟩
theorem lw_p12 : lw_okq (⟨"TextBridge$JsonReader", "readWord", "(Ljava/lang/String;I)Z"⟩, 6) := ⟨⟨by decide +kernel, by decide +kernel⟩, List.mem_of_getElem? (i := 90) (by decide +kernel), List.mem_of_getElem? (i := 259) (by decide +kernel), List.mem_of_getElem? (i := 260) (by decide +kernel)⟩
theorem lw_p13 : lw_okq (⟨"TextBridge$JsonReader", "readNumber", "()Z"⟩, 6) := ⟨⟨by decide +kernel, by decide +kernel⟩, List.mem_of_getElem? (i := 90) (by decide +kernel), List.mem_of_getElem? (i := 322) (by decide +kernel), List.mem_of_getElem? (i := 323) (by decide +kernel)⟩
theorem lw_p14 : lw_okq (⟨"TextBridge$JsonReader", "readDigits", "()Z"⟩, 6) := ⟨⟨by decide +kernel, by decide +kernel⟩, List.mem_of_getElem? (i := 90) (by decide +kernel), List.mem_of_getElem? (i := 326) (by decide +kernel), List.mem_of_getElem? (i := 327) (by decide +kernel)⟩
theorem lw_p15 : lw_okq (⟨"TextBridge$JsonReader", "readFraction", "()Z"⟩, 6) := ⟨⟨by decide +kernel, by decide +kernel⟩, List.mem_of_getElem? (i := 90) (by decide +kernel), List.mem_of_getElem? (i := 330) (by decide +kernel), List.mem_of_getElem? (i := 331) (by decide +kernel)⟩
def lw_privs_1 : List (MethodName × Nat) := [(⟨"TextBridge$JsonReader", "skipBlanks", "()V"⟩, 6), (⟨"TextBridge$JsonReader", "readString", "()Z"⟩, 6), (⟨"TextBridge$Row", "makeGap", "(II)V"⟩, 2), (⟨"TextBridge$Row", "set", "(II)V"⟩, 2), (⟨"TextBridge$JsonReader", "readNumberedSign", "()Z"⟩, 6), (⟨"TextBridge$JsonReader", "codeOfEscape", "(I)I"⟩, 6), (⟨"TextBridge$JsonReader", "putSign", "(I)V"⟩, 6), (⟨"TextBridge$JsonReader", "readLetter", "()Z"⟩, 6), (⟨"TextBridge$JsonReader", "readPlainSign", "(I)Z"⟩, 6), (⟨"TextBridge$JsonReader", "readParts", "(III)Z"⟩, 6), (⟨"TextBridge$JsonReader", "closeParts", "(III)Z"⟩, 6), (⟨"TextBridge$JsonReader", "readKey", "()Z"⟩, 6), (⟨"TextBridge$JsonReader", "readWord", "(Ljava/lang/String;I)Z"⟩, 6), (⟨"TextBridge$JsonReader", "readNumber", "()Z"⟩, 6), (⟨"TextBridge$JsonReader", "readDigits", "()Z"⟩, 6), (⟨"TextBridge$JsonReader", "readFraction", "()Z"⟩, 6)]
theorem lw_r1 : ∀ q ∈ lw_privs_1, lw_okq q := List.forall_mem_cons.mpr ⟨lw_p0, List.forall_mem_cons.mpr ⟨lw_p1, List.forall_mem_cons.mpr ⟨lw_p2, List.forall_mem_cons.mpr ⟨lw_p3, List.forall_mem_cons.mpr ⟨lw_p4, List.forall_mem_cons.mpr ⟨lw_p5, List.forall_mem_cons.mpr ⟨lw_p6, List.forall_mem_cons.mpr ⟨lw_p7, List.forall_mem_cons.mpr ⟨lw_p8, List.forall_mem_cons.mpr ⟨lw_p9, List.forall_mem_cons.mpr ⟨lw_p10, List.forall_mem_cons.mpr ⟨lw_p11, List.forall_mem_cons.mpr ⟨lw_p12, List.forall_mem_cons.mpr ⟨lw_p13, List.forall_mem_cons.mpr ⟨lw_p14, List.forall_mem_cons.mpr ⟨lw_p15, fun _ h => absurd h List.not_mem_nil⟩⟩⟩⟩⟩⟩⟩⟩⟩⟩⟩⟩⟩⟩⟩⟩
theorem lw_p16 : lw_okq (⟨"TextBridge$JsonReader", "readExponent", "()Z"⟩, 6) := ⟨⟨by decide +kernel, by decide +kernel⟩, List.mem_of_getElem? (i := 90) (by decide +kernel), List.mem_of_getElem? (i := 334) (by decide +kernel), List.mem_of_getElem? (i := 335) (by decide +kernel)⟩
theorem lw_p17 : lw_okq (⟨"TextBridge$JsonReader", "putWhole", "(IIZ)Z"⟩, 6) := ⟨⟨by decide +kernel, by decide +kernel⟩, List.mem_of_getElem? (i := 90) (by decide +kernel), List.mem_of_getElem? (i := 338) (by decide +kernel), List.mem_of_getElem? (i := 339) (by decide +kernel)⟩
theorem lw_p18 : lw_okq (⟨"TextBridge", "answerOf", "(LTextBridge$Reader;Z)I"⟩, 6) := ⟨⟨by decide +kernel, by decide +kernel⟩, List.mem_of_getElem? (i := 14) (by decide +kernel), List.mem_of_getElem? (i := 351) (by decide +kernel), List.mem_of_getElem? (i := 352) (by decide +kernel)⟩
theorem lw_p19 : lw_okq (⟨"TextBridge", "exchangeRows", "()V"⟩, 6) := ⟨⟨by decide +kernel, by decide +kernel⟩, List.mem_of_getElem? (i := 14) (by decide +kernel), List.mem_of_getElem? (i := 368) (by decide +kernel), List.mem_of_getElem? (i := 369) (by decide +kernel)⟩
theorem lw_p20 : lw_okq (⟨"TextBridge$CborReader", "readHead", "(Z)Z"⟩, 8) := ⟨⟨by decide +kernel, by decide +kernel⟩, List.mem_of_getElem? (i := 376) (by decide +kernel), List.mem_of_getElem? (i := 399) (by decide +kernel), List.mem_of_getElem? (i := 400) (by decide +kernel)⟩
theorem lw_p21 : lw_okq (⟨"TextBridge$CborReader", "faultOfFirst", "(IZ)I"⟩, 8) := ⟨⟨by decide +kernel, by decide +kernel⟩, List.mem_of_getElem? (i := 376) (by decide +kernel), List.mem_of_getElem? (i := 408) (by decide +kernel), List.mem_of_getElem? (i := 409) (by decide +kernel)⟩
theorem lw_p22 : lw_okq (⟨"TextBridge$CborReader", "numberBehind", "(I)J"⟩, 8) := ⟨⟨by decide +kernel, by decide +kernel⟩, List.mem_of_getElem? (i := 376) (by decide +kernel), List.mem_of_getElem? (i := 413) (by decide +kernel), List.mem_of_getElem? (i := 414) (by decide +kernel)⟩
theorem lw_p23 : lw_okq (⟨"TextBridge$CborReader", "putDecimal", "(J)V"⟩, 8) := ⟨⟨by decide +kernel, by decide +kernel⟩, List.mem_of_getElem? (i := 376) (by decide +kernel), List.mem_of_getElem? (i := 418) (by decide +kernel), List.mem_of_getElem? (i := 419) (by decide +kernel)⟩
theorem lw_p24 : lw_okq (⟨"TextBridge$CborReader", "putDigits", "(JI)V"⟩, 8) := ⟨⟨by decide +kernel, by decide +kernel⟩, List.mem_of_getElem? (i := 376) (by decide +kernel), List.mem_of_getElem? (i := 427) (by decide +kernel), List.mem_of_getElem? (i := 428) (by decide +kernel)⟩
theorem lw_p25 : lw_okq (⟨"TextBridge$CborReader", "putNegative", "(J)V"⟩, 8) := ⟨⟨by decide +kernel, by decide +kernel⟩, List.mem_of_getElem? (i := 376) (by decide +kernel), List.mem_of_getElem? (i := 432) (by decide +kernel), List.mem_of_getElem? (i := 433) (by decide +kernel)⟩
theorem lw_p26 : lw_okq (⟨"TextBridge$CborReader", "readText", "()Z"⟩, 8) := ⟨⟨by decide +kernel, by decide +kernel⟩, List.mem_of_getElem? (i := 376) (by decide +kernel), List.mem_of_getElem? (i := 436) (by decide +kernel), List.mem_of_getElem? (i := 437) (by decide +kernel)⟩
theorem lw_p27 : lw_okq (⟨"TextBridge$CborReader", "putSign", "(I)V"⟩, 8) := ⟨⟨by decide +kernel, by decide +kernel⟩, List.mem_of_getElem? (i := 376) (by decide +kernel), List.mem_of_getElem? (i := 444) (by decide +kernel), List.mem_of_getElem? (i := 445) (by decide +kernel)⟩
theorem lw_p28 : lw_okq (⟨"TextBridge$CborReader", "putShortSign", "(I)V"⟩, 8) := ⟨⟨by decide +kernel, by decide +kernel⟩, List.mem_of_getElem? (i := 376) (by decide +kernel), List.mem_of_getElem? (i := 448) (by decide +kernel), List.mem_of_getElem? (i := 449) (by decide +kernel)⟩
theorem lw_p29 : lw_okq (⟨"TextBridge$CborReader", "readParts", "(I)Z"⟩, 8) := ⟨⟨by decide +kernel, by decide +kernel⟩, List.mem_of_getElem? (i := 376) (by decide +kernel), List.mem_of_getElem? (i := 457) (by decide +kernel), List.mem_of_getElem? (i := 458) (by decide +kernel)⟩
theorem lw_p30 : lw_okq (⟨"TextBridge$CborReader", "readKey", "()Z"⟩, 8) := ⟨⟨by decide +kernel, by decide +kernel⟩, List.mem_of_getElem? (i := 376) (by decide +kernel), List.mem_of_getElem? (i := 461) (by decide +kernel), List.mem_of_getElem? (i := 462) (by decide +kernel)⟩
theorem lw_p31 : lw_okq (⟨"TextBridgeModel", "begin", "()V"⟩, 22) := ⟨⟨by decide +kernel, by decide +kernel⟩, List.mem_of_getElem? (i := 501) (by decide +kernel), List.mem_of_getElem? (i := 608) (by decide +kernel), List.mem_of_getElem? (i := 609) (by decide +kernel)⟩
def lw_privs_2 : List (MethodName × Nat) := [(⟨"TextBridge$JsonReader", "readExponent", "()Z"⟩, 6), (⟨"TextBridge$JsonReader", "putWhole", "(IIZ)Z"⟩, 6), (⟨"TextBridge", "answerOf", "(LTextBridge$Reader;Z)I"⟩, 6), (⟨"TextBridge", "exchangeRows", "()V"⟩, 6), (⟨"TextBridge$CborReader", "readHead", "(Z)Z"⟩, 8), (⟨"TextBridge$CborReader", "faultOfFirst", "(IZ)I"⟩, 8), (⟨"TextBridge$CborReader", "numberBehind", "(I)J"⟩, 8), (⟨"TextBridge$CborReader", "putDecimal", "(J)V"⟩, 8), (⟨"TextBridge$CborReader", "putDigits", "(JI)V"⟩, 8), (⟨"TextBridge$CborReader", "putNegative", "(J)V"⟩, 8), (⟨"TextBridge$CborReader", "readText", "()Z"⟩, 8), (⟨"TextBridge$CborReader", "putSign", "(I)V"⟩, 8), (⟨"TextBridge$CborReader", "putShortSign", "(I)V"⟩, 8), (⟨"TextBridge$CborReader", "readParts", "(I)Z"⟩, 8), (⟨"TextBridge$CborReader", "readKey", "()Z"⟩, 8), (⟨"TextBridgeModel", "begin", "()V"⟩, 22)]
theorem lw_r2 : ∀ q ∈ lw_privs_2, lw_okq q := List.forall_mem_cons.mpr ⟨lw_p16, List.forall_mem_cons.mpr ⟨lw_p17, List.forall_mem_cons.mpr ⟨lw_p18, List.forall_mem_cons.mpr ⟨lw_p19, List.forall_mem_cons.mpr ⟨lw_p20, List.forall_mem_cons.mpr ⟨lw_p21, List.forall_mem_cons.mpr ⟨lw_p22, List.forall_mem_cons.mpr ⟨lw_p23, List.forall_mem_cons.mpr ⟨lw_p24, List.forall_mem_cons.mpr ⟨lw_p25, List.forall_mem_cons.mpr ⟨lw_p26, List.forall_mem_cons.mpr ⟨lw_p27, List.forall_mem_cons.mpr ⟨lw_p28, List.forall_mem_cons.mpr ⟨lw_p29, List.forall_mem_cons.mpr ⟨lw_p30, List.forall_mem_cons.mpr ⟨lw_p31, fun _ h => absurd h List.not_mem_nil⟩⟩⟩⟩⟩⟩⟩⟩⟩⟩⟩⟩⟩⟩⟩⟩
theorem lw_p32 : lw_okq (⟨"TextBridgeModel", "readsJson", "()V"⟩, 22) := ⟨⟨by decide +kernel, by decide +kernel⟩, List.mem_of_getElem? (i := 501) (by decide +kernel), List.mem_of_getElem? (i := 612) (by decide +kernel), List.mem_of_getElem? (i := 613) (by decide +kernel)⟩
theorem lw_p33 : lw_okq (⟨"TextBridgeModel", "blanks", "()V"⟩, 22) := ⟨⟨by decide +kernel, by decide +kernel⟩, List.mem_of_getElem? (i := 501) (by decide +kernel), List.mem_of_getElem? (i := 616) (by decide +kernel), List.mem_of_getElem? (i := 617) (by decide +kernel)⟩
theorem lw_p34 : lw_okq (⟨"TextBridgeModel", "here", "()I"⟩, 22) := ⟨⟨by decide +kernel, by decide +kernel⟩, List.mem_of_getElem? (i := 501) (by decide +kernel), List.mem_of_getElem? (i := 620) (by decide +kernel), List.mem_of_getElem? (i := 621) (by decide +kernel)⟩
theorem lw_p35 : lw_okq (⟨"TextBridgeModel", "item", "()Z"⟩, 22) := ⟨⟨by decide +kernel, by decide +kernel⟩, List.mem_of_getElem? (i := 501) (by decide +kernel), List.mem_of_getElem? (i := 624) (by decide +kernel), List.mem_of_getElem? (i := 625) (by decide +kernel)⟩
theorem lw_p36 : lw_okq (⟨"TextBridgeModel", "isMap", "()Z"⟩, 22) := ⟨⟨by decide +kernel, by decide +kernel⟩, List.mem_of_getElem? (i := 501) (by decide +kernel), List.mem_of_getElem? (i := 628) (by decide +kernel), List.mem_of_getElem? (i := 629) (by decide +kernel)⟩
theorem lw_p37 : lw_okq (⟨"TextBridgeModel", "key", "()Z"⟩, 22) := ⟨⟨by decide +kernel, by decide +kernel⟩, List.mem_of_getElem? (i := 501) (by decide +kernel), List.mem_of_getElem? (i := 632) (by decide +kernel), List.mem_of_getElem? (i := 633) (by decide +kernel)⟩
theorem lw_p38 : lw_okq (⟨"TextBridgeModel", "stuck", "()Z"⟩, 22) := ⟨⟨by decide +kernel, by decide +kernel⟩, List.mem_of_getElem? (i := 501) (by decide +kernel), List.mem_of_getElem? (i := 636) (by decide +kernel), List.mem_of_getElem? (i := 637) (by decide +kernel)⟩
theorem lw_p39 : lw_okq (⟨"TextBridgeModel", "wrong", "(II)Z"⟩, 22) := ⟨⟨by decide +kernel, by decide +kernel⟩, List.mem_of_getElem? (i := 501) (by decide +kernel), List.mem_of_getElem? (i := 640) (by decide +kernel), List.mem_of_getElem? (i := 641) (by decide +kernel)⟩
theorem lw_p40 : lw_okq (⟨"TextBridgeModel", "string", "()Z"⟩, 22) := ⟨⟨by decide +kernel, by decide +kernel⟩, List.mem_of_getElem? (i := 501) (by decide +kernel), List.mem_of_getElem? (i := 644) (by decide +kernel), List.mem_of_getElem? (i := 645) (by decide +kernel)⟩
theorem lw_p41 : lw_okq (⟨"TextBridgeModel", "thing", "(IJ)I"⟩, 22) := ⟨⟨by decide +kernel, by decide +kernel⟩, List.mem_of_getElem? (i := 501) (by decide +kernel), List.mem_of_getElem? (i := 648) (by decide +kernel), List.mem_of_getElem? (i := 649) (by decide +kernel)⟩
theorem lw_p42 : lw_okq (⟨"TextBridgeModel", "escape", "()Z"⟩, 22) := ⟨⟨by decide +kernel, by decide +kernel⟩, List.mem_of_getElem? (i := 501) (by decide +kernel), List.mem_of_getElem? (i := 652) (by decide +kernel), List.mem_of_getElem? (i := 653) (by decide +kernel)⟩
theorem lw_p43 : lw_okq (⟨"TextBridgeModel", "coded", "(I)Z"⟩, 22) := ⟨⟨by decide +kernel, by decide +kernel⟩, List.mem_of_getElem? (i := 501) (by decide +kernel), List.mem_of_getElem? (i := 656) (by decide +kernel), List.mem_of_getElem? (i := 657) (by decide +kernel)⟩
theorem lw_p44 : lw_okq (⟨"TextBridgeModel", "four", "(I)I"⟩, 22) := ⟨⟨by decide +kernel, by decide +kernel⟩, List.mem_of_getElem? (i := 501) (by decide +kernel), List.mem_of_getElem? (i := 663) (by decide +kernel), List.mem_of_getElem? (i := 664) (by decide +kernel)⟩
theorem lw_p45 : lw_okq (⟨"TextBridgeModel", "sign", "(I)V"⟩, 22) := ⟨⟨by decide +kernel, by decide +kernel⟩, List.mem_of_getElem? (i := 501) (by decide +kernel), List.mem_of_getElem? (i := 671) (by decide +kernel), List.mem_of_getElem? (i := 672) (by decide +kernel)⟩
theorem lw_p46 : lw_okq (⟨"TextBridgeModel", "letter", "(I)V"⟩, 22) := ⟨⟨by decide +kernel, by decide +kernel⟩, List.mem_of_getElem? (i := 501) (by decide +kernel), List.mem_of_getElem? (i := 675) (by decide +kernel), List.mem_of_getElem? (i := 676) (by decide +kernel)⟩
theorem lw_p47 : lw_okq (⟨"TextBridgeModel", "signSize", "(II)I"⟩, 22) := ⟨⟨by decide +kernel, by decide +kernel⟩, List.mem_of_getElem? (i := 501) (by decide +kernel), List.mem_of_getElem? (i := 681) (by decide +kernel), List.mem_of_getElem? (i := 682) (by decide +kernel)⟩
def lw_privs_3 : List (MethodName × Nat) := [(⟨"TextBridgeModel", "readsJson", "()V"⟩, 22), (⟨"TextBridgeModel", "blanks", "()V"⟩, 22), (⟨"TextBridgeModel", "here", "()I"⟩, 22), (⟨"TextBridgeModel", "item", "()Z"⟩, 22), (⟨"TextBridgeModel", "isMap", "()Z"⟩, 22), (⟨"TextBridgeModel", "key", "()Z"⟩, 22), (⟨"TextBridgeModel", "stuck", "()Z"⟩, 22), (⟨"TextBridgeModel", "wrong", "(II)Z"⟩, 22), (⟨"TextBridgeModel", "string", "()Z"⟩, 22), (⟨"TextBridgeModel", "thing", "(IJ)I"⟩, 22), (⟨"TextBridgeModel", "escape", "()Z"⟩, 22), (⟨"TextBridgeModel", "coded", "(I)Z"⟩, 22), (⟨"TextBridgeModel", "four", "(I)I"⟩, 22), (⟨"TextBridgeModel", "sign", "(I)V"⟩, 22), (⟨"TextBridgeModel", "letter", "(I)V"⟩, 22), (⟨"TextBridgeModel", "signSize", "(II)I"⟩, 22)]
theorem lw_r3 : ∀ q ∈ lw_privs_3, lw_okq q := List.forall_mem_cons.mpr ⟨lw_p32, List.forall_mem_cons.mpr ⟨lw_p33, List.forall_mem_cons.mpr ⟨lw_p34, List.forall_mem_cons.mpr ⟨lw_p35, List.forall_mem_cons.mpr ⟨lw_p36, List.forall_mem_cons.mpr ⟨lw_p37, List.forall_mem_cons.mpr ⟨lw_p38, List.forall_mem_cons.mpr ⟨lw_p39, List.forall_mem_cons.mpr ⟨lw_p40, List.forall_mem_cons.mpr ⟨lw_p41, List.forall_mem_cons.mpr ⟨lw_p42, List.forall_mem_cons.mpr ⟨lw_p43, List.forall_mem_cons.mpr ⟨lw_p44, List.forall_mem_cons.mpr ⟨lw_p45, List.forall_mem_cons.mpr ⟨lw_p46, List.forall_mem_cons.mpr ⟨lw_p47, fun _ h => absurd h List.not_mem_nil⟩⟩⟩⟩⟩⟩⟩⟩⟩⟩⟩⟩⟩⟩⟩⟩
theorem lw_p48 : lw_okq (⟨"TextBridgeModel", "follows", "(IIII)Z"⟩, 22) := ⟨⟨by decide +kernel, by decide +kernel⟩, List.mem_of_getElem? (i := 501) (by decide +kernel), List.mem_of_getElem? (i := 685) (by decide +kernel), List.mem_of_getElem? (i := 686) (by decide +kernel)⟩
theorem lw_p49 : lw_okq (⟨"TextBridgeModel", "value", "()Z"⟩, 22) := ⟨⟨by decide +kernel, by decide +kernel⟩, List.mem_of_getElem? (i := 501) (by decide +kernel), List.mem_of_getElem? (i := 689) (by decide +kernel), List.mem_of_getElem? (i := 690) (by decide +kernel)⟩
theorem lw_p50 : lw_okq (⟨"TextBridgeModel", "opens", "(I)Z"⟩, 22) := ⟨⟨by decide +kernel, by decide +kernel⟩, List.mem_of_getElem? (i := 501) (by decide +kernel), List.mem_of_getElem? (i := 693) (by decide +kernel), List.mem_of_getElem? (i := 694) (by decide +kernel)⟩
theorem lw_p51 : lw_okq (⟨"TextBridgeModel", "word", "(Ljava/lang/String;I)Z"⟩, 22) := ⟨⟨by decide +kernel, by decide +kernel⟩, List.mem_of_getElem? (i := 501) (by decide +kernel), List.mem_of_getElem? (i := 698) (by decide +kernel), List.mem_of_getElem? (i := 699) (by decide +kernel)⟩
theorem lw_p52 : lw_okq (⟨"TextBridgeModel", "isDigit", "(I)Z"⟩, 22) := ⟨⟨by decide +kernel, by decide +kernel⟩, List.mem_of_getElem? (i := 501) (by decide +kernel), List.mem_of_getElem? (i := 706) (by decide +kernel), List.mem_of_getElem? (i := 707) (by decide +kernel)⟩
theorem lw_p53 : lw_okq (⟨"TextBridgeModel", "number", "()Z"⟩, 22) := ⟨⟨by decide +kernel, by decide +kernel⟩, List.mem_of_getElem? (i := 501) (by decide +kernel), List.mem_of_getElem? (i := 710) (by decide +kernel), List.mem_of_getElem? (i := 711) (by decide +kernel)⟩
theorem lw_p54 : lw_okq (⟨"TextBridgeModel", "digits", "()Z"⟩, 22) := ⟨⟨by decide +kernel, by decide +kernel⟩, List.mem_of_getElem? (i := 501) (by decide +kernel), List.mem_of_getElem? (i := 714) (by decide +kernel), List.mem_of_getElem? (i := 715) (by decide +kernel)⟩
theorem lw_p55 : lw_okq (⟨"TextBridgeModel", "whole", "(IIZ)Z"⟩, 22) := ⟨⟨by decide +kernel, by decide +kernel⟩, List.mem_of_getElem? (i := 501) (by decide +kernel), List.mem_of_getElem? (i := 718) (by decide +kernel), List.mem_of_getElem? (i := 719) (by decide +kernel)⟩
theorem lw_p56 : lw_okq (⟨"TextBridgeModel", "order", "(II)I"⟩, 22) := ⟨⟨by decide +kernel, by decide +kernel⟩, List.mem_of_getElem? (i := 501) (by decide +kernel), List.mem_of_getElem? (i := 722) (by decide +kernel), List.mem_of_getElem? (i := 723) (by decide +kernel)⟩
theorem lw_p57 : lw_okq (⟨"TextBridgeModel", "isCloser", "()Z"⟩, 22) := ⟨⟨by decide +kernel, by decide +kernel⟩, List.mem_of_getElem? (i := 501) (by decide +kernel), List.mem_of_getElem? (i := 729) (by decide +kernel), List.mem_of_getElem? (i := 730) (by decide +kernel)⟩
theorem lw_p58 : lw_okq (⟨"TextBridgeModel", "goesOn", "()Z"⟩, 22) := ⟨⟨by decide +kernel, by decide +kernel⟩, List.mem_of_getElem? (i := 501) (by decide +kernel), List.mem_of_getElem? (i := 733) (by decide +kernel), List.mem_of_getElem? (i := 734) (by decide +kernel)⟩
theorem lw_p59 : lw_okq (⟨"TextBridgeModel", "writesCbor", "()I"⟩, 22) := ⟨⟨by decide +kernel, by decide +kernel⟩, List.mem_of_getElem? (i := 501) (by decide +kernel), List.mem_of_getElem? (i := 737) (by decide +kernel), List.mem_of_getElem? (i := 738) (by decide +kernel)⟩
theorem lw_p60 : lw_okq (⟨"TextBridgeModel", "puts", "(IJ)V"⟩, 22) := ⟨⟨by decide +kernel, by decide +kernel⟩, List.mem_of_getElem? (i := 501) (by decide +kernel), List.mem_of_getElem? (i := 741) (by decide +kernel), List.mem_of_getElem? (i := 742) (by decide +kernel)⟩
theorem lw_p61 : lw_okq (⟨"TextBridgeModel", "put", "(I)V"⟩, 22) := ⟨⟨by decide +kernel, by decide +kernel⟩, List.mem_of_getElem? (i := 501) (by decide +kernel), List.mem_of_getElem? (i := 748) (by decide +kernel), List.mem_of_getElem? (i := 749) (by decide +kernel)⟩
theorem lw_p62 : lw_okq (⟨"TextBridgeModel", "putsLetters", "(I)V"⟩, 22) := ⟨⟨by decide +kernel, by decide +kernel⟩, List.mem_of_getElem? (i := 501) (by decide +kernel), List.mem_of_getElem? (i := 752) (by decide +kernel), List.mem_of_getElem? (i := 753) (by decide +kernel)⟩
theorem lw_p63 : lw_okq (⟨"TextBridgeModel", "ends", "()I"⟩, 22) := ⟨⟨by decide +kernel, by decide +kernel⟩, List.mem_of_getElem? (i := 501) (by decide +kernel), List.mem_of_getElem? (i := 756) (by decide +kernel), List.mem_of_getElem? (i := 757) (by decide +kernel)⟩
def lw_privs_4 : List (MethodName × Nat) := [(⟨"TextBridgeModel", "follows", "(IIII)Z"⟩, 22), (⟨"TextBridgeModel", "value", "()Z"⟩, 22), (⟨"TextBridgeModel", "opens", "(I)Z"⟩, 22), (⟨"TextBridgeModel", "word", "(Ljava/lang/String;I)Z"⟩, 22), (⟨"TextBridgeModel", "isDigit", "(I)Z"⟩, 22), (⟨"TextBridgeModel", "number", "()Z"⟩, 22), (⟨"TextBridgeModel", "digits", "()Z"⟩, 22), (⟨"TextBridgeModel", "whole", "(IIZ)Z"⟩, 22), (⟨"TextBridgeModel", "order", "(II)I"⟩, 22), (⟨"TextBridgeModel", "isCloser", "()Z"⟩, 22), (⟨"TextBridgeModel", "goesOn", "()Z"⟩, 22), (⟨"TextBridgeModel", "writesCbor", "()I"⟩, 22), (⟨"TextBridgeModel", "puts", "(IJ)V"⟩, 22), (⟨"TextBridgeModel", "put", "(I)V"⟩, 22), (⟨"TextBridgeModel", "putsLetters", "(I)V"⟩, 22), (⟨"TextBridgeModel", "ends", "()I"⟩, 22)]
theorem lw_r4 : ∀ q ∈ lw_privs_4, lw_okq q := List.forall_mem_cons.mpr ⟨lw_p48, List.forall_mem_cons.mpr ⟨lw_p49, List.forall_mem_cons.mpr ⟨lw_p50, List.forall_mem_cons.mpr ⟨lw_p51, List.forall_mem_cons.mpr ⟨lw_p52, List.forall_mem_cons.mpr ⟨lw_p53, List.forall_mem_cons.mpr ⟨lw_p54, List.forall_mem_cons.mpr ⟨lw_p55, List.forall_mem_cons.mpr ⟨lw_p56, List.forall_mem_cons.mpr ⟨lw_p57, List.forall_mem_cons.mpr ⟨lw_p58, List.forall_mem_cons.mpr ⟨lw_p59, List.forall_mem_cons.mpr ⟨lw_p60, List.forall_mem_cons.mpr ⟨lw_p61, List.forall_mem_cons.mpr ⟨lw_p62, List.forall_mem_cons.mpr ⟨lw_p63, fun _ h => absurd h List.not_mem_nil⟩⟩⟩⟩⟩⟩⟩⟩⟩⟩⟩⟩⟩⟩⟩⟩
theorem lw_p64 : lw_okq (⟨"TextBridgeModel", "readsCbor", "()V"⟩, 22) := ⟨⟨by decide +kernel, by decide +kernel⟩, List.mem_of_getElem? (i := 501) (by decide +kernel), List.mem_of_getElem? (i := 764) (by decide +kernel), List.mem_of_getElem? (i := 765) (by decide +kernel)⟩
theorem lw_p65 : lw_okq (⟨"TextBridgeModel", "isKey", "()Z"⟩, 22) := ⟨⟨by decide +kernel, by decide +kernel⟩, List.mem_of_getElem? (i := 501) (by decide +kernel), List.mem_of_getElem? (i := 768) (by decide +kernel), List.mem_of_getElem? (i := 769) (by decide +kernel)⟩
theorem lw_p66 : lw_okq (⟨"TextBridgeModel", "head", "(Z)Z"⟩, 22) := ⟨⟨by decide +kernel, by decide +kernel⟩, List.mem_of_getElem? (i := 501) (by decide +kernel), List.mem_of_getElem? (i := 772) (by decide +kernel), List.mem_of_getElem? (i := 773) (by decide +kernel)⟩
theorem lw_p67 : lw_okq (⟨"TextBridgeModel", "text", "(J)Z"⟩, 22) := ⟨⟨by decide +kernel, by decide +kernel⟩, List.mem_of_getElem? (i := 501) (by decide +kernel), List.mem_of_getElem? (i := 776) (by decide +kernel), List.mem_of_getElem? (i := 777) (by decide +kernel)⟩
theorem lw_p68 : lw_okq (⟨"TextBridgeModel", "writesJson", "()I"⟩, 22) := ⟨⟨by decide +kernel, by decide +kernel⟩, List.mem_of_getElem? (i := 501) (by decide +kernel), List.mem_of_getElem? (i := 782) (by decide +kernel), List.mem_of_getElem? (i := 783) (by decide +kernel)⟩
theorem lw_p69 : lw_okq (⟨"TextBridgeModel", "putsThing", "(I)V"⟩, 22) := ⟨⟨by decide +kernel, by decide +kernel⟩, List.mem_of_getElem? (i := 501) (by decide +kernel), List.mem_of_getElem? (i := 786) (by decide +kernel), List.mem_of_getElem? (i := 787) (by decide +kernel)⟩
theorem lw_p70 : lw_okq (⟨"TextBridgeModel", "putsNumber", "(JZ)V"⟩, 22) := ⟨⟨by decide +kernel, by decide +kernel⟩, List.mem_of_getElem? (i := 501) (by decide +kernel), List.mem_of_getElem? (i := 790) (by decide +kernel), List.mem_of_getElem? (i := 791) (by decide +kernel)⟩
theorem lw_p71 : lw_okq (⟨"TextBridgeModel", "putsWord", "(Ljava/lang/String;)V"⟩, 22) := ⟨⟨by decide +kernel, by decide +kernel⟩, List.mem_of_getElem? (i := 501) (by decide +kernel), List.mem_of_getElem? (i := 795) (by decide +kernel), List.mem_of_getElem? (i := 796) (by decide +kernel)⟩
theorem lw_p72 : lw_okq (⟨"TextBridgeModel", "putsString", "(I)V"⟩, 22) := ⟨⟨by decide +kernel, by decide +kernel⟩, List.mem_of_getElem? (i := 501) (by decide +kernel), List.mem_of_getElem? (i := 800) (by decide +kernel), List.mem_of_getElem? (i := 801) (by decide +kernel)⟩
def lw_privs_5 : List (MethodName × Nat) := [(⟨"TextBridgeModel", "readsCbor", "()V"⟩, 22), (⟨"TextBridgeModel", "isKey", "()Z"⟩, 22), (⟨"TextBridgeModel", "head", "(Z)Z"⟩, 22), (⟨"TextBridgeModel", "text", "(J)Z"⟩, 22), (⟨"TextBridgeModel", "writesJson", "()I"⟩, 22), (⟨"TextBridgeModel", "putsThing", "(I)V"⟩, 22), (⟨"TextBridgeModel", "putsNumber", "(JZ)V"⟩, 22), (⟨"TextBridgeModel", "putsWord", "(Ljava/lang/String;)V"⟩, 22), (⟨"TextBridgeModel", "putsString", "(I)V"⟩, 22)]
theorem lw_r5 : ∀ q ∈ lw_privs_5, lw_okq q := List.forall_mem_cons.mpr ⟨lw_p64, List.forall_mem_cons.mpr ⟨lw_p65, List.forall_mem_cons.mpr ⟨lw_p66, List.forall_mem_cons.mpr ⟨lw_p67, List.forall_mem_cons.mpr ⟨lw_p68, List.forall_mem_cons.mpr ⟨lw_p69, List.forall_mem_cons.mpr ⟨lw_p70, List.forall_mem_cons.mpr ⟨lw_p71, List.forall_mem_cons.mpr ⟨lw_p72, fun _ h => absurd h List.not_mem_nil⟩⟩⟩⟩⟩⟩⟩⟩⟩
def lw_privs : List (MethodName × Nat) := lw_privs_1 ++ (lw_privs_2 ++ (lw_privs_3 ++ (lw_privs_4 ++ (lw_privs_5))))
def lw_tbl : List Cond := k2_sels lw_privs ++ tables_1
theorem lw_privs_ok : ∀ q ∈ lw_privs, lw_okq q := by
  show ∀ q ∈ lw_privs_1 ++ (lw_privs_2 ++ (lw_privs_3 ++ (lw_privs_4 ++ (lw_privs_5)))), lw_okq q
  exact List.forall_mem_append.mpr ⟨lw_r1, List.forall_mem_append.mpr ⟨lw_r2, List.forall_mem_append.mpr ⟨lw_r3, List.forall_mem_append.mpr ⟨lw_r4, lw_r5⟩⟩⟩⟩
end
section
def RX0 : String := "TextBridge$CborReader"
def TX0 : u_T := fun k => match k with
  | 0 => ("TextBridge$Reader", "tape", "LTextBridge$Row;", true)
  | 1 => ("TextBridge$Reader", "target", "LTextBridge$Row;", true)
  | 2 => ("TextBridge$Reader", "depthLimit", "I", true)
  | 3 => ("TextBridge$Reader", "place", "I", false)
  | 4 => ("TextBridge$Reader", "faultKind", "I", false)
  | 5 => ("TextBridge$Reader", "faultPlace", "I", false)
  | 6 => ("TextBridge$CborReader", "type", "I", false)
  | _ => ("TextBridge$CborReader", "number", "J", false)
def tyX0 : Nat → FieldType := fun k => match k with
  | 0 => .object "TextBridge$Row"
  | 1 => .object "TextBridge$Row"
  | 2 => .int
  | 3 => .int
  | 4 => .int
  | 5 => .int
  | 6 => .int
  | _ => .long
abbrev wsX00 : List Cond := u_ws RX0 TX0 8
theorem nmX0 : ∀ a, a < 8 → ∀ b, b < 8 → a ≠ b → (TX0 a).2.1 ≠ (TX0 b).2.1 := by decide +kernel
theorem tyX0_ok : ∀ k, k < 8 → parseFieldDescriptor (TX0 k).2.2.1 = some (tyX0 k) := by decide +kernel
abbrev cX0_init : ByteArray := prog_2_method_1_code
def yX0_init : MethodName := ⟨RX0, "<init>", "(LTextBridge$Row;LTextBridge$Row;I)V"⟩
abbrev cX0_readEnd : ByteArray := prog_2_method_2_code
def yX0_readEnd : MethodName := ⟨RX0, "readEnd", "()Z"⟩
abbrev cX0_readItem : ByteArray := prog_2_method_3_code
def yX0_readItem : MethodName := ⟨RX0, "readItem", "(I)Z"⟩
abbrev cX0_readHead : ByteArray := prog_2_method_4_code
def yX0_readHead : MethodName := ⟨RX0, "readHead", "(Z)Z"⟩
abbrev cX0_faultOfFirst : ByteArray := prog_2_method_5_code
def yX0_faultOfFirst : MethodName := ⟨RX0, "faultOfFirst", "(IZ)I"⟩
abbrev cX0_numberBehind : ByteArray := prog_2_method_6_code
def yX0_numberBehind : MethodName := ⟨RX0, "numberBehind", "(I)J"⟩
abbrev cX0_readParts : ByteArray := prog_2_method_7_code
def yX0_readParts : MethodName := ⟨RX0, "readParts", "(I)Z"⟩
abbrev cX0_readKey : ByteArray := prog_2_method_8_code
def yX0_readKey : MethodName := ⟨RX0, "readKey", "()Z"⟩
abbrev cX0_readText : ByteArray := prog_2_method_9_code
def yX0_readText : MethodName := ⟨RX0, "readText", "()Z"⟩
abbrev cX0_isWithin : ByteArray := prog_2_method_10_code
def yX0_isWithin : MethodName := ⟨RX0, "isWithin", "(JI)Z"⟩
abbrev cX0_putSign : ByteArray := prog_2_method_11_code
def yX0_putSign : MethodName := ⟨RX0, "putSign", "(I)V"⟩
abbrev cX0_putShortSign : ByteArray := prog_2_method_12_code
def yX0_putShortSign : MethodName := ⟨RX0, "putShortSign", "(I)V"⟩
abbrev cX0_letterOf : ByteArray := prog_2_method_13_code
def yX0_letterOf : MethodName := ⟨RX0, "letterOf", "(I)I"⟩
abbrev cX0_putDecimal : ByteArray := prog_2_method_14_code
def yX0_putDecimal : MethodName := ⟨RX0, "putDecimal", "(J)V"⟩
abbrev cX0_putNegative : ByteArray := prog_2_method_15_code
def yX0_putNegative : MethodName := ⟨RX0, "putNegative", "(J)V"⟩
abbrev cX0_tenthOf : ByteArray := prog_2_method_16_code
def yX0_tenthOf : MethodName := ⟨RX0, "tenthOf", "(J)J"⟩
abbrev cX0_putDigits : ByteArray := prog_2_method_17_code
def yX0_putDigits : MethodName := ⟨RX0, "putDigits", "(JI)V"⟩
def RX1 : String := "TextBridge$JsonReader"
def TX1 : u_T := fun k => match k with
  | 0 => ("TextBridge$Reader", "tape", "LTextBridge$Row;", true)
  | 1 => ("TextBridge$Reader", "target", "LTextBridge$Row;", true)
  | 2 => ("TextBridge$Reader", "depthLimit", "I", true)
  | 3 => ("TextBridge$Reader", "place", "I", false)
  | 4 => ("TextBridge$Reader", "faultKind", "I", false)
  | _ => ("TextBridge$Reader", "faultPlace", "I", false)
def tyX1 : Nat → FieldType := fun k => match k with
  | 0 => .object "TextBridge$Row"
  | 1 => .object "TextBridge$Row"
  | 2 => .int
  | 3 => .int
  | 4 => .int
  | _ => .int
abbrev wsX10 : List Cond := u_ws RX1 TX1 6
theorem nmX1 : ∀ a, a < 6 → ∀ b, b < 6 → a ≠ b → (TX1 a).2.1 ≠ (TX1 b).2.1 := by decide +kernel
theorem tyX1_ok : ∀ k, k < 6 → parseFieldDescriptor (TX1 k).2.2.1 = some (tyX1 k) := by decide +kernel
abbrev cX1_init : ByteArray := prog_3_method_1_code
def yX1_init : MethodName := ⟨RX1, "<init>", "(LTextBridge$Row;LTextBridge$Row;I)V"⟩
abbrev cX1_readEnd : ByteArray := prog_3_method_2_code
def yX1_readEnd : MethodName := ⟨RX1, "readEnd", "()Z"⟩
abbrev cX1_readValue : ByteArray := prog_3_method_3_code
def yX1_readValue : MethodName := ⟨RX1, "readValue", "(I)Z"⟩
abbrev cX1_skipBlanks : ByteArray := prog_3_method_4_code
def yX1_skipBlanks : MethodName := ⟨RX1, "skipBlanks", "()V"⟩
abbrev cX1_readWord : ByteArray := prog_3_method_5_code
def yX1_readWord : MethodName := ⟨RX1, "readWord", "(Ljava/lang/String;I)Z"⟩
abbrev cX1_readParts : ByteArray := prog_3_method_6_code
def yX1_readParts : MethodName := ⟨RX1, "readParts", "(III)Z"⟩
abbrev cX1_closeParts : ByteArray := prog_3_method_7_code
def yX1_closeParts : MethodName := ⟨RX1, "closeParts", "(III)Z"⟩
abbrev cX1_readKey : ByteArray := prog_3_method_8_code
def yX1_readKey : MethodName := ⟨RX1, "readKey", "()Z"⟩
abbrev cX1_readString : ByteArray := prog_3_method_9_code
def yX1_readString : MethodName := ⟨RX1, "readString", "()Z"⟩
abbrev cX1_readPlainSign : ByteArray := prog_3_method_10_code
def yX1_readPlainSign : MethodName := ⟨RX1, "readPlainSign", "(I)Z"⟩
abbrev cX1_readLetter : ByteArray := prog_3_method_11_code
def yX1_readLetter : MethodName := ⟨RX1, "readLetter", "()Z"⟩
abbrev cX1_signOf : ByteArray := prog_3_method_12_code
def yX1_signOf : MethodName := ⟨RX1, "signOf", "(I)I"⟩
abbrev cX1_readNumberedSign : ByteArray := prog_3_method_13_code
def yX1_readNumberedSign : MethodName := ⟨RX1, "readNumberedSign", "()Z"⟩
abbrev cX1_codeOfEscape : ByteArray := prog_3_method_14_code
def yX1_codeOfEscape : MethodName := ⟨RX1, "codeOfEscape", "(I)I"⟩
abbrev cX1_putSign : ByteArray := prog_3_method_15_code
def yX1_putSign : MethodName := ⟨RX1, "putSign", "(I)V"⟩
abbrev cX1_readNumber : ByteArray := prog_3_method_16_code
def yX1_readNumber : MethodName := ⟨RX1, "readNumber", "()Z"⟩
abbrev cX1_readDigits : ByteArray := prog_3_method_17_code
def yX1_readDigits : MethodName := ⟨RX1, "readDigits", "()Z"⟩
abbrev cX1_readFraction : ByteArray := prog_3_method_18_code
def yX1_readFraction : MethodName := ⟨RX1, "readFraction", "()Z"⟩
abbrev cX1_readExponent : ByteArray := prog_3_method_19_code
def yX1_readExponent : MethodName := ⟨RX1, "readExponent", "()Z"⟩
abbrev cX1_putWhole : ByteArray := prog_3_method_20_code
def yX1_putWhole : MethodName := ⟨RX1, "putWhole", "(IIZ)Z"⟩
abbrev cX1_isBeyond : ByteArray := prog_3_method_21_code
def yX1_isBeyond : MethodName := ⟨RX1, "isBeyond", "(JIIZ)Z"⟩
abbrev cX1_isBlank : ByteArray := prog_3_method_22_code
def yX1_isBlank : MethodName := ⟨RX1, "isBlank", "(I)Z"⟩
abbrev cX1_isDigit : ByteArray := prog_3_method_23_code
def yX1_isDigit : MethodName := ⟨RX1, "isDigit", "(I)Z"⟩
abbrev cX1_hexValue : ByteArray := prog_3_method_24_code
def yX1_hexValue : MethodName := ⟨RX1, "hexValue", "(I)I"⟩
abbrev cX1_isFirstHalf : ByteArray := prog_3_method_25_code
def yX1_isFirstHalf : MethodName := ⟨RX1, "isFirstHalf", "(I)Z"⟩
abbrev cX1_isSecondHalf : ByteArray := prog_3_method_26_code
def yX1_isSecondHalf : MethodName := ⟨RX1, "isSecondHalf", "(I)Z"⟩
def RX2 : String := "TextBridge$Reader"
def TX2 : u_T := fun k => match k with
  | _ => ("", "", "", false)
def tyX2 : Nat → FieldType := fun k => match k with
  | _ => .int
abbrev wsX20 : List Cond := u_ws RX2 TX2 0
theorem nmX2 : ∀ a, a < 0 → ∀ b, b < 0 → a ≠ b → (TX2 a).2.1 ≠ (TX2 b).2.1 := by decide +kernel
theorem tyX2_ok : ∀ k, k < 0 → parseFieldDescriptor (TX2 k).2.2.1 = some (tyX2 k) := by decide +kernel
abbrev cX2_init : ByteArray := prog_4_method_1_code
def yX2_init : MethodName := ⟨RX2, "<init>", "(LTextBridge$Row;LTextBridge$Row;I)V"⟩
abbrev cX2_refuse : ByteArray := prog_4_method_2_code
def yX2_refuse : MethodName := ⟨RX2, "refuse", "(II)Z"⟩
abbrev cX2_faultKind : ByteArray := prog_4_method_3_code
def yX2_faultKind : MethodName := ⟨RX2, "faultKind", "()I"⟩
abbrev cX2_faultPlace : ByteArray := prog_4_method_4_code
def yX2_faultPlace : MethodName := ⟨RX2, "faultPlace", "()I"⟩
def RX3 : String := "TextBridge$Row"
def TX3 : u_T := fun k => match k with
  | 0 => ("TextBridge$Row", "bytes", "[B", true)
  | _ => ("TextBridge$Row", "size", "I", false)
def tyX3 : Nat → FieldType := fun k => match k with
  | 0 => .array .byte
  | _ => .int
abbrev wsX30 : List Cond := u_ws RX3 TX3 2
theorem nmX3 : ∀ a, a < 2 → ∀ b, b < 2 → a ≠ b → (TX3 a).2.1 ≠ (TX3 b).2.1 := by decide +kernel
theorem tyX3_ok : ∀ k, k < 2 → parseFieldDescriptor (TX3 k).2.2.1 = some (tyX3 k) := by decide +kernel
abbrev cX3_init : ByteArray := prog_5_method_1_code
def yX3_init : MethodName := ⟨RX3, "<init>", "(I)V"⟩
abbrev cX3_size : ByteArray := prog_5_method_2_code
def yX3_size : MethodName := ⟨RX3, "size", "()I"⟩
abbrev cX3_at : ByteArray := prog_5_method_3_code
def yX3_at : MethodName := ⟨RX3, "at", "(I)I"⟩
abbrev cX3_put : ByteArray := prog_5_method_4_code
def yX3_put : MethodName := ⟨RX3, "put", "(I)V"⟩
abbrev cX3_putFour : ByteArray := prog_5_method_5_code
def yX3_putFour : MethodName := ⟨RX3, "putFour", "(I)V"⟩
abbrev cX3_putWord : ByteArray := prog_5_method_6_code
def yX3_putWord : MethodName := ⟨RX3, "putWord", "(Ljava/lang/String;)V"⟩
abbrev cX3_cutTo : ByteArray := prog_5_method_7_code
def yX3_cutTo : MethodName := ⟨RX3, "cutTo", "(I)V"⟩
abbrev cX3_copyFrom : ByteArray := prog_5_method_8_code
def yX3_copyFrom : MethodName := ⟨RX3, "copyFrom", "(LTextBridge$Row;)V"⟩
abbrev cX3_openHead : ByteArray := prog_5_method_9_code
def yX3_openHead : MethodName := ⟨RX3, "openHead", "()I"⟩
abbrev cX3_closeHead : ByteArray := prog_5_method_10_code
def yX3_closeHead : MethodName := ⟨RX3, "closeHead", "(IIJ)V"⟩
abbrev cX3_putHead : ByteArray := prog_5_method_11_code
def yX3_putHead : MethodName := ⟨RX3, "putHead", "(IJ)V"⟩
abbrev cX3_makeGap : ByteArray := prog_5_method_12_code
def yX3_makeGap : MethodName := ⟨RX3, "makeGap", "(II)V"⟩
abbrev cX3_set : ByteArray := prog_5_method_13_code
def yX3_set : MethodName := ⟨RX3, "set", "(II)V"⟩
def RX4 : String := "TextBridge"
def TX4 : u_T := fun k => match k with
  | 0 => ("TextBridge", "tape", "LTextBridge$Row;", true)
  | 1 => ("TextBridge", "written", "LTextBridge$Row;", false)
  | 2 => ("TextBridge", "draft", "LTextBridge$Row;", false)
  | 3 => ("TextBridge", "depth", "I", false)
  | 4 => ("TextBridge", "room", "I", false)
  | _ => ("TextBridge", "faultPlace", "I", false)
def tyX4 : Nat → FieldType := fun k => match k with
  | 0 => .object "TextBridge$Row"
  | 1 => .object "TextBridge$Row"
  | 2 => .object "TextBridge$Row"
  | 3 => .int
  | 4 => .int
  | _ => .int
abbrev wsX40 : List Cond := u_ws RX4 TX4 6
theorem nmX4 : ∀ a, a < 6 → ∀ b, b < 6 → a ≠ b → (TX4 a).2.1 ≠ (TX4 b).2.1 := by decide +kernel
theorem tyX4_ok : ∀ k, k < 6 → parseFieldDescriptor (TX4 k).2.2.1 = some (tyX4 k) := by decide +kernel
abbrev cX4_init : ByteArray := prog_1_method_1_code
def yX4_init : MethodName := ⟨RX4, "<init>", "()V"⟩
abbrev cX4_feed : ByteArray := prog_1_method_2_code
def yX4_feed : MethodName := ⟨RX4, "feed", "(IIIII)I"⟩
abbrev cX4_end : ByteArray := prog_1_method_3_code
def yX4_end : MethodName := ⟨RX4, "end", "(I)I"⟩
abbrev cX4_bounds : ByteArray := prog_1_method_4_code
def yX4_bounds : MethodName := ⟨RX4, "bounds", "(II)Z"⟩
abbrev cX4_toCbor : ByteArray := prog_1_method_5_code
def yX4_toCbor : MethodName := ⟨RX4, "toCbor", "()I"⟩
abbrev cX4_toJson : ByteArray := prog_1_method_6_code
def yX4_toJson : MethodName := ⟨RX4, "toJson", "()I"⟩
abbrev cX4_errorAt : ByteArray := prog_1_method_7_code
def yX4_errorAt : MethodName := ⟨RX4, "errorAt", "()I"⟩
abbrev cX4_out : ByteArray := prog_1_method_8_code
def yX4_out : MethodName := ⟨RX4, "out", "(I)I"⟩
abbrev cX4_outSize : ByteArray := prog_1_method_9_code
def yX4_outSize : MethodName := ⟨RX4, "outSize", "()I"⟩
abbrev cX4_take : ByteArray := prog_1_method_10_code
def yX4_take : MethodName := ⟨RX4, "take", "()I"⟩
abbrev cX4_answerOf : ByteArray := prog_1_method_11_code
def yX4_answerOf : MethodName := ⟨RX4, "answerOf", "(LTextBridge$Reader;Z)I"⟩
abbrev cX4_exchangeRows : ByteArray := prog_1_method_12_code
def yX4_exchangeRows : MethodName := ⟨RX4, "exchangeRows", "()V"⟩
abbrev cX4_shortestInfo : ByteArray := prog_1_method_13_code
def yX4_shortestInfo : MethodName := ⟨RX4, "shortestInfo", "(J)I"⟩
abbrev cX4_bytesBehind : ByteArray := prog_1_method_14_code
def yX4_bytesBehind : MethodName := ⟨RX4, "bytesBehind", "(I)I"⟩
abbrev cX4_signLength : ByteArray := prog_1_method_15_code
def yX4_signLength : MethodName := ⟨RX4, "signLength", "(LTextBridge$Row;II)I"⟩
abbrev cX4_lengthByFirst : ByteArray := prog_1_method_16_code
def yX4_lengthByFirst : MethodName := ⟨RX4, "lengthByFirst", "(I)I"⟩
abbrev cX4_isSignOf : ByteArray := prog_1_method_17_code
def yX4_isSignOf : MethodName := ⟨RX4, "isSignOf", "(II)Z"⟩
def RX5 : String := "TextBridgeModel"
def TX5 : u_T := fun k => match k with
  | 0 => ("TextBridgeModel", "thrown", "I", false)
  | 1 => ("TextBridgeModel", "tape", "[I", true)
  | 2 => ("TextBridgeModel", "taped", "I", false)
  | 3 => ("TextBridgeModel", "depth", "I", false)
  | 4 => ("TextBridgeModel", "room", "I", false)
  | 5 => ("TextBridgeModel", "written", "[B", true)
  | 6 => ("TextBridgeModel", "writtenMany", "I", false)
  | 7 => ("TextBridgeModel", "errorPlace", "I", false)
  | 8 => ("TextBridgeModel", "sorts", "[I", true)
  | 9 => ("TextBridgeModel", "numbers", "[J", true)
  | 10 => ("TextBridgeModel", "places", "[I", true)
  | 11 => ("TextBridgeModel", "things", "I", false)
  | 12 => ("TextBridgeModel", "letters", "[B", true)
  | 13 => ("TextBridgeModel", "lettersMany", "I", false)
  | 14 => ("TextBridgeModel", "openThing", "[I", true)
  | 15 => ("TextBridgeModel", "openLeft", "[J", true)
  | 16 => ("TextBridgeModel", "open", "I", false)
  | 17 => ("TextBridgeModel", "at", "I", false)
  | 18 => ("TextBridgeModel", "fault", "I", false)
  | 19 => ("TextBridgeModel", "fresh", "[B", true)
  | 20 => ("TextBridgeModel", "freshMany", "I", false)
  | _ => ("TextBridgeModel", "figures", "[I", true)
def tyX5 : Nat → FieldType := fun k => match k with
  | 0 => .int
  | 1 => .array .int
  | 2 => .int
  | 3 => .int
  | 4 => .int
  | 5 => .array .byte
  | 6 => .int
  | 7 => .int
  | 8 => .array .int
  | 9 => .array .long
  | 10 => .array .int
  | 11 => .int
  | 12 => .array .byte
  | 13 => .int
  | 14 => .array .int
  | 15 => .array .long
  | 16 => .int
  | 17 => .int
  | 18 => .int
  | 19 => .array .byte
  | 20 => .int
  | _ => .array .int
abbrev wsX50 : List Cond := u_ws RX5 TX5 22
theorem nmX5 : ∀ a, a < 22 → ∀ b, b < 22 → a ≠ b → (TX5 a).2.1 ≠ (TX5 b).2.1 := by decide +kernel
theorem tyX5_ok : ∀ k, k < 22 → parseFieldDescriptor (TX5 k).2.2.1 = some (tyX5 k) := by decide +kernel
abbrev cX5_init : ByteArray := prog_7_method_1_code
def yX5_init : MethodName := ⟨RX5, "<init>", "()V"⟩
abbrev cX5_feed : ByteArray := prog_7_method_3_code
def yX5_feed : MethodName := ⟨RX5, "feed", "(IIIII)I"⟩
abbrev cX5_end : ByteArray := prog_7_method_4_code
def yX5_end : MethodName := ⟨RX5, "end", "(I)I"⟩
abbrev cX5_bounds : ByteArray := prog_7_method_5_code
def yX5_bounds : MethodName := ⟨RX5, "bounds", "(II)Z"⟩
abbrev cX5_errorAt : ByteArray := prog_7_method_6_code
def yX5_errorAt : MethodName := ⟨RX5, "errorAt", "()I"⟩
abbrev cX5_out : ByteArray := prog_7_method_7_code
def yX5_out : MethodName := ⟨RX5, "out", "(I)I"⟩
abbrev cX5_outSize : ByteArray := prog_7_method_8_code
def yX5_outSize : MethodName := ⟨RX5, "outSize", "()I"⟩
abbrev cX5_take : ByteArray := prog_7_method_9_code
def yX5_take : MethodName := ⟨RX5, "take", "()I"⟩
abbrev cX5_wrong : ByteArray := prog_7_method_10_code
def yX5_wrong : MethodName := ⟨RX5, "wrong", "(II)Z"⟩
abbrev cX5_begin : ByteArray := prog_7_method_11_code
def yX5_begin : MethodName := ⟨RX5, "begin", "()V"⟩
abbrev cX5_thing : ByteArray := prog_7_method_12_code
def yX5_thing : MethodName := ⟨RX5, "thing", "(IJ)I"⟩
abbrev cX5_here : ByteArray := prog_7_method_13_code
def yX5_here : MethodName := ⟨RX5, "here", "()I"⟩
abbrev cX5_follows : ByteArray := prog_7_method_14_code
def yX5_follows : MethodName := ⟨RX5, "follows", "(IIII)Z"⟩
abbrev cX5_signSize : ByteArray := prog_7_method_15_code
def yX5_signSize : MethodName := ⟨RX5, "signSize", "(II)I"⟩
abbrev cX5_letter : ByteArray := prog_7_method_16_code
def yX5_letter : MethodName := ⟨RX5, "letter", "(I)V"⟩
abbrev cX5_sign : ByteArray := prog_7_method_17_code
def yX5_sign : MethodName := ⟨RX5, "sign", "(I)V"⟩
abbrev cX5_blanks : ByteArray := prog_7_method_18_code
def yX5_blanks : MethodName := ⟨RX5, "blanks", "()V"⟩
abbrev cX5_stuck : ByteArray := prog_7_method_19_code
def yX5_stuck : MethodName := ⟨RX5, "stuck", "()Z"⟩
abbrev cX5_isDigit : ByteArray := prog_7_method_20_code
def yX5_isDigit : MethodName := ⟨RX5, "isDigit", "(I)Z"⟩
abbrev cX5_digits : ByteArray := prog_7_method_21_code
def yX5_digits : MethodName := ⟨RX5, "digits", "()Z"⟩
abbrev cX5_number : ByteArray := prog_7_method_22_code
def yX5_number : MethodName := ⟨RX5, "number", "()Z"⟩
abbrev cX5_order : ByteArray := prog_7_method_23_code
def yX5_order : MethodName := ⟨RX5, "order", "(II)I"⟩
abbrev cX5_whole : ByteArray := prog_7_method_24_code
def yX5_whole : MethodName := ⟨RX5, "whole", "(IIZ)Z"⟩
abbrev cX5_hexOf : ByteArray := prog_7_method_25_code
def yX5_hexOf : MethodName := ⟨RX5, "hexOf", "(I)I"⟩
abbrev cX5_four : ByteArray := prog_7_method_26_code
def yX5_four : MethodName := ⟨RX5, "four", "(I)I"⟩
abbrev cX5_coded : ByteArray := prog_7_method_27_code
def yX5_coded : MethodName := ⟨RX5, "coded", "(I)Z"⟩
abbrev cX5_escape : ByteArray := prog_7_method_28_code
def yX5_escape : MethodName := ⟨RX5, "escape", "()Z"⟩
abbrev cX5_string : ByteArray := prog_7_method_29_code
def yX5_string : MethodName := ⟨RX5, "string", "()Z"⟩
abbrev cX5_word : ByteArray := prog_7_method_30_code
def yX5_word : MethodName := ⟨RX5, "word", "(Ljava/lang/String;I)Z"⟩
abbrev cX5_opens : ByteArray := prog_7_method_31_code
def yX5_opens : MethodName := ⟨RX5, "opens", "(I)Z"⟩
abbrev cX5_isMap : ByteArray := prog_7_method_32_code
def yX5_isMap : MethodName := ⟨RX5, "isMap", "()Z"⟩
abbrev cX5_value : ByteArray := prog_7_method_33_code
def yX5_value : MethodName := ⟨RX5, "value", "()Z"⟩
abbrev cX5_key : ByteArray := prog_7_method_34_code
def yX5_key : MethodName := ⟨RX5, "key", "()Z"⟩
abbrev cX5_item : ByteArray := prog_7_method_35_code
def yX5_item : MethodName := ⟨RX5, "item", "()Z"⟩
abbrev cX5_isCloser : ByteArray := prog_7_method_36_code
def yX5_isCloser : MethodName := ⟨RX5, "isCloser", "()Z"⟩
abbrev cX5_goesOn : ByteArray := prog_7_method_37_code
def yX5_goesOn : MethodName := ⟨RX5, "goesOn", "()Z"⟩
abbrev cX5_readsJson : ByteArray := prog_7_method_38_code
def yX5_readsJson : MethodName := ⟨RX5, "readsJson", "()V"⟩
abbrev cX5_head : ByteArray := prog_7_method_39_code
def yX5_head : MethodName := ⟨RX5, "head", "(Z)Z"⟩
abbrev cX5_text : ByteArray := prog_7_method_40_code
def yX5_text : MethodName := ⟨RX5, "text", "(J)Z"⟩
abbrev cX5_isKey : ByteArray := prog_7_method_41_code
def yX5_isKey : MethodName := ⟨RX5, "isKey", "()Z"⟩
abbrev cX5_readsCbor : ByteArray := prog_7_method_42_code
def yX5_readsCbor : MethodName := ⟨RX5, "readsCbor", "()V"⟩
abbrev cX5_put : ByteArray := prog_7_method_43_code
def yX5_put : MethodName := ⟨RX5, "put", "(I)V"⟩
abbrev cX5_ends : ByteArray := prog_7_method_44_code
def yX5_ends : MethodName := ⟨RX5, "ends", "()I"⟩
abbrev cX5_puts : ByteArray := prog_7_method_45_code
def yX5_puts : MethodName := ⟨RX5, "puts", "(IJ)V"⟩
abbrev cX5_putsLetters : ByteArray := prog_7_method_46_code
def yX5_putsLetters : MethodName := ⟨RX5, "putsLetters", "(I)V"⟩
abbrev cX5_writesCbor : ByteArray := prog_7_method_47_code
def yX5_writesCbor : MethodName := ⟨RX5, "writesCbor", "()I"⟩
abbrev cX5_putsWord : ByteArray := prog_7_method_48_code
def yX5_putsWord : MethodName := ⟨RX5, "putsWord", "(Ljava/lang/String;)V"⟩
abbrev cX5_putsNumber : ByteArray := prog_7_method_49_code
def yX5_putsNumber : MethodName := ⟨RX5, "putsNumber", "(JZ)V"⟩
abbrev cX5_shown : ByteArray := prog_7_method_50_code
def yX5_shown : MethodName := ⟨RX5, "shown", "(I)I"⟩
abbrev cX5_putsString : ByteArray := prog_7_method_51_code
def yX5_putsString : MethodName := ⟨RX5, "putsString", "(I)V"⟩
abbrev cX5_putsThing : ByteArray := prog_7_method_52_code
def yX5_putsThing : MethodName := ⟨RX5, "putsThing", "(I)V"⟩
abbrev cX5_writesJson : ByteArray := prog_7_method_53_code
def yX5_writesJson : MethodName := ⟨RX5, "writesJson", "()I"⟩
abbrev cX5_toCbor : ByteArray := prog_7_method_54_code
def yX5_toCbor : MethodName := ⟨RX5, "toCbor", "()I"⟩
abbrev cX5_toJson : ByteArray := prog_7_method_55_code
def yX5_toJson : MethodName := ⟨RX5, "toJson", "()I"⟩
def RJ9 : String := "java/lang/Math"
def TJ9 : u_T := fun k => match k with
  | _ => ("", "", "", false)
def tyJ9 : Nat → FieldType := fun k => match k with
  | _ => .int
abbrev wsJ90 : List Cond := u_ws RJ9 TJ9 0
theorem nmJ9 : ∀ a, a < 0 → ∀ b, b < 0 → a ≠ b → (TJ9 a).2.1 ≠ (TJ9 b).2.1 := by decide +kernel
theorem tyJ9_ok : ∀ k, k < 0 → parseFieldDescriptor (TJ9 k).2.2.1 = some (tyJ9 k) := by decide +kernel
abbrev cJ9_max_7cf53 : ByteArray := prog_8_method_65_code
def yJ9_max_7cf53 : MethodName := ⟨RJ9, "max", "(II)I"⟩
abbrev cJ9_min_7cf53 : ByteArray := prog_8_method_69_code
def yJ9_min_7cf53 : MethodName := ⟨RJ9, "min", "(II)I"⟩
def RJ0 : String := "java/lang/String"
def TJ0 : u_T := fun k => match k with
  | _ => ("", "", "", false)
def tyJ0 : Nat → FieldType := fun k => match k with
  | _ => .int
abbrev wsJ00 : List Cond := u_ws RJ0 TJ0 0
theorem nmJ0 : ∀ a, a < 0 → ∀ b, b < 0 → a ≠ b → (TJ0 a).2.1 ≠ (TJ0 b).2.1 := by decide +kernel
theorem tyJ0_ok : ∀ k, k < 0 → parseFieldDescriptor (TJ0 k).2.2.1 = some (tyJ0 k) := by decide +kernel
abbrev cJ0_length_8abf5 : ByteArray := prog_9_method_54_code
def yJ0_length_8abf5 : MethodName := ⟨RJ0, "length", "()I"⟩
abbrev cJ0_charAt_5068e : ByteArray := prog_9_method_56_code
def yJ0_charAt_5068e : MethodName := ⟨RJ0, "charAt", "(I)C"⟩
abbrev cJ0_coder_7d493 : ByteArray := prog_9_method_152_code
def yJ0_coder_7d493 : MethodName := ⟨RJ0, "coder", "()B"⟩
abbrev cJ0_isLatin1_aae02 : ByteArray := prog_9_method_154_code
def yJ0_isLatin1_aae02 : MethodName := ⟨RJ0, "isLatin1", "()Z"⟩
abbrev cJ0_checkIndex_df160 : ByteArray := prog_9_method_155_code
def yJ0_checkIndex_df160 : MethodName := ⟨RJ0, "checkIndex", "(II)V"⟩
def RJ1 : String := "java/lang/StringLatin1"
def TJ1 : u_T := fun k => match k with
  | _ => ("", "", "", false)
def tyJ1 : Nat → FieldType := fun k => match k with
  | _ => .int
abbrev wsJ10 : List Cond := u_ws RJ1 TJ1 0
theorem nmJ1 : ∀ a, a < 0 → ∀ b, b < 0 → a ≠ b → (TJ1 a).2.1 ≠ (TJ1 b).2.1 := by decide +kernel
theorem tyJ1_ok : ∀ k, k < 0 → parseFieldDescriptor (TJ1 k).2.2.1 = some (tyJ1 k) := by decide +kernel
abbrev cJ1_charAt_3b067 : ByteArray := prog_10_method_2_code
def yJ1_charAt_3b067 : MethodName := ⟨RJ1, "charAt", "([BI)C"⟩
def RJ2 : String := "java/lang/StringUTF16"
def TJ2 : u_T := fun k => match k with
  | _ => ("", "", "", false)
def tyJ2 : Nat → FieldType := fun k => match k with
  | _ => .int
abbrev wsJ20 : List Cond := u_ws RJ2 TJ2 0
theorem nmJ2 : ∀ a, a < 0 → ∀ b, b < 0 → a ≠ b → (TJ2 a).2.1 ≠ (TJ2 b).2.1 := by decide +kernel
theorem tyJ2_ok : ∀ k, k < 0 → parseFieldDescriptor (TJ2 k).2.2.1 = some (tyJ2 k) := by decide +kernel
abbrev cJ2_getChar_3b067 : ByteArray := prog_11_method_5_code
def yJ2_getChar_3b067 : MethodName := ⟨RJ2, "getChar", "([BI)C"⟩
abbrev cJ2_length_9d52b : ByteArray := prog_11_method_6_code
def yJ2_length_9d52b : MethodName := ⟨RJ2, "length", "([B)I"⟩
abbrev cJ2_charAt_3b067 : ByteArray := prog_11_method_83_code
def yJ2_charAt_3b067 : MethodName := ⟨RJ2, "charAt", "([BI)C"⟩
abbrev cJ2_checkIndex_2214a : ByteArray := prog_11_method_91_code
def yJ2_checkIndex_2214a : MethodName := ⟨RJ2, "checkIndex", "(I[B)V"⟩
def RJ10 : String := "java/lang/System"
def TJ10 : u_T := fun k => match k with
  | _ => ("", "", "", false)
def tyJ10 : Nat → FieldType := fun k => match k with
  | _ => .int
abbrev wsJ100 : List Cond := u_ws RJ10 TJ10 0
theorem nmJ10 : ∀ a, a < 0 → ∀ b, b < 0 → a ≠ b → (TJ10 a).2.1 ≠ (TJ10 b).2.1 := by decide +kernel
theorem tyJ10_ok : ∀ k, k < 0 → parseFieldDescriptor (TJ10 k).2.2.1 = some (tyJ10 k) := by decide +kernel
def RJ3 : String := "jdk/internal/util/Preconditions"
def TJ3 : u_T := fun k => match k with
  | _ => ("", "", "", false)
def tyJ3 : Nat → FieldType := fun k => match k with
  | _ => .int
abbrev wsJ30 : List Cond := u_ws RJ3 TJ3 0
theorem nmJ3 : ∀ a, a < 0 → ∀ b, b < 0 → a ≠ b → (TJ3 a).2.1 ≠ (TJ3 b).2.1 := by decide +kernel
theorem tyJ3_ok : ∀ k, k < 0 → parseFieldDescriptor (TJ3 k).2.2.1 = some (tyJ3 k) := by decide +kernel
abbrev cJ3_checkIndex_8e157 : ByteArray := prog_13_method_11_code
def yJ3_checkIndex_8e157 : MethodName := ⟨RJ3, "checkIndex", "(IILjava/util/function/BiFunction;)I"⟩
def RL : String := "TextBridgeLaw"
abbrev cL_law : ByteArray := code
def yL_law : MethodName := ⟨RL, "law", "([I)Z"⟩
abbrev vwCl : List vw_C := [(RX0, TX0, 8), (RX1, TX1, 6), (RX3, TX3, 2), (RX4, TX4, 6), (RX5, TX5, 22)]
end
section
theorem dX0_init_0 : decode cX0_init 0 = .ok (.aload_n 0, 1) := by decide +kernel
theorem dX0_init_1 : decode cX0_init 1 = .ok (.aload_n 1, 1) := by decide +kernel
theorem dX0_init_2 : decode cX0_init 2 = .ok (.aload_n 2, 1) := by decide +kernel
theorem dX0_init_3 : decode cX0_init 3 = .ok (.iload_n 3, 1) := by decide +kernel
theorem dX0_init_4 : decode cX0_init 4 = .ok (.invokespecial 3, 3) := by decide +kernel
theorem dX0_init_7 : decode cX0_init 7 = .ok (.aload_n 0, 1) := by decide +kernel
theorem dX0_init_8 : decode cX0_init 8 = .ok (.iconst 0, 1) := by decide +kernel
theorem dX0_init_9 : decode cX0_init 9 = .ok (.putfield 9, 3) := by decide +kernel
theorem dX0_init_12 : decode cX0_init 12 = .ok (.aload_n 0, 1) := by decide +kernel
theorem dX0_init_13 : decode cX0_init 13 = .ok (.lconst 0, 1) := by decide +kernel
theorem dX0_init_14 : decode cX0_init 14 = .ok (.putfield 15, 3) := by decide +kernel
theorem dX0_init_17 : decode cX0_init 17 = .ok (.return_, 1) := by decide +kernel
theorem dX0_readEnd_0 : decode cX0_readEnd 0 = .ok (.aload_n 0, 1) := by decide +kernel
theorem dX0_readEnd_1 : decode cX0_readEnd 1 = .ok (.getfield 19, 3) := by decide +kernel
theorem dX0_readEnd_4 : decode cX0_readEnd 4 = .ok (.aload_n 0, 1) := by decide +kernel
theorem dX0_readEnd_5 : decode cX0_readEnd 5 = .ok (.getfield 22, 3) := by decide +kernel
theorem dX0_readEnd_8 : decode cX0_readEnd 8 = .ok (.invokevirtual 26, 3) := by decide +kernel
theorem dX0_readEnd_11 : decode cX0_readEnd 11 = .ok (.if_icmp .eq 15, 3) := by decide +kernel
theorem dX0_readEnd_14 : decode cX0_readEnd 14 = .ok (.aload_n 0, 1) := by decide +kernel
theorem dX0_readEnd_15 : decode cX0_readEnd 15 = .ok (.iconst 1, 1) := by decide +kernel
theorem dX0_readEnd_16 : decode cX0_readEnd 16 = .ok (.aload_n 0, 1) := by decide +kernel
theorem dX0_readEnd_17 : decode cX0_readEnd 17 = .ok (.getfield 19, 3) := by decide +kernel
theorem dX0_readEnd_20 : decode cX0_readEnd 20 = .ok (.invokevirtual 32, 3) := by decide +kernel
theorem dX0_readEnd_23 : decode cX0_readEnd 23 = .ok (.ifCond .eq 7, 3) := by decide +kernel
theorem dX0_readEnd_26 : decode cX0_readEnd 26 = .ok (.iconst 1, 1) := by decide +kernel
theorem dX0_readEnd_27 : decode cX0_readEnd 27 = .ok (.goto 4, 3) := by decide +kernel
theorem dX0_readEnd_30 : decode cX0_readEnd 30 = .ok (.iconst 0, 1) := by decide +kernel
theorem dX0_readEnd_31 : decode cX0_readEnd 31 = .ok (.ireturn, 1) := by decide +kernel
theorem dX0_readItem_0 : decode cX0_readItem 0 = .ok (.aload_n 0, 1) := by decide +kernel
theorem dX0_readItem_1 : decode cX0_readItem 1 = .ok (.getfield 19, 3) := by decide +kernel
theorem dX0_readItem_4 : decode cX0_readItem 4 = .ok (.istore_n 2, 1) := by decide +kernel
theorem dX0_readItem_5 : decode cX0_readItem 5 = .ok (.aload_n 0, 1) := by decide +kernel
theorem dX0_readItem_6 : decode cX0_readItem 6 = .ok (.iconst 0, 1) := by decide +kernel
theorem dX0_readItem_7 : decode cX0_readItem 7 = .ok (.invokevirtual 36, 3) := by decide +kernel
theorem dX0_readItem_10 : decode cX0_readItem 10 = .ok (.ifCond .ne 5, 3) := by decide +kernel
theorem dX0_readItem_13 : decode cX0_readItem 13 = .ok (.iconst 0, 1) := by decide +kernel
theorem dX0_readItem_14 : decode cX0_readItem 14 = .ok (.ireturn, 1) := by decide +kernel
theorem dX0_readItem_15 : decode cX0_readItem 15 = .ok (.aload_n 0, 1) := by decide +kernel
theorem dX0_readItem_16 : decode cX0_readItem 16 = .ok (.getfield 9, 3) := by decide +kernel
theorem dX0_readItem_19 : decode cX0_readItem 19 = .ok (.tableswitch 87 0 5 #[37, 47, 87, 57, 62, 62], 37) := by decide +kernel
theorem dX0_readItem_56 : decode cX0_readItem 56 = .ok (.aload_n 0, 1) := by decide +kernel
theorem dX0_readItem_57 : decode cX0_readItem 57 = .ok (.aload_n 0, 1) := by decide +kernel
theorem dX0_readItem_58 : decode cX0_readItem 58 = .ok (.getfield 15, 3) := by decide +kernel
theorem dX0_readItem_61 : decode cX0_readItem 61 = .ok (.invokevirtual 40, 3) := by decide +kernel
theorem dX0_readItem_64 : decode cX0_readItem 64 = .ok (.iconst 1, 1) := by decide +kernel
theorem dX0_readItem_65 : decode cX0_readItem 65 = .ok (.ireturn, 1) := by decide +kernel
theorem dX0_readItem_66 : decode cX0_readItem 66 = .ok (.aload_n 0, 1) := by decide +kernel
theorem dX0_readItem_67 : decode cX0_readItem 67 = .ok (.aload_n 0, 1) := by decide +kernel
theorem dX0_readItem_68 : decode cX0_readItem 68 = .ok (.getfield 15, 3) := by decide +kernel
theorem dX0_readItem_71 : decode cX0_readItem 71 = .ok (.invokevirtual 44, 3) := by decide +kernel
theorem dX0_readItem_74 : decode cX0_readItem 74 = .ok (.iconst 1, 1) := by decide +kernel
theorem dX0_readItem_75 : decode cX0_readItem 75 = .ok (.ireturn, 1) := by decide +kernel
theorem dX0_readItem_76 : decode cX0_readItem 76 = .ok (.aload_n 0, 1) := by decide +kernel
theorem dX0_readItem_77 : decode cX0_readItem 77 = .ok (.invokevirtual 47, 3) := by decide +kernel
theorem dX0_readItem_80 : decode cX0_readItem 80 = .ok (.ireturn, 1) := by decide +kernel
theorem dX0_readItem_81 : decode cX0_readItem 81 = .ok (.iload_n 1, 1) := by decide +kernel
theorem dX0_readItem_82 : decode cX0_readItem 82 = .ok (.aload_n 0, 1) := by decide +kernel
theorem dX0_readItem_83 : decode cX0_readItem 83 = .ok (.getfield 51, 3) := by decide +kernel
theorem dX0_readItem_86 : decode cX0_readItem 86 = .ok (.if_icmp .ge 13, 3) := by decide +kernel
theorem dX0_readItem_89 : decode cX0_readItem 89 = .ok (.aload_n 0, 1) := by decide +kernel
theorem dX0_readItem_90 : decode cX0_readItem 90 = .ok (.iload_n 1, 1) := by decide +kernel
theorem dX0_readItem_91 : decode cX0_readItem 91 = .ok (.iconst 1, 1) := by decide +kernel
theorem dX0_readItem_92 : decode cX0_readItem 92 = .ok (.iadd, 1) := by decide +kernel
theorem dX0_readItem_93 : decode cX0_readItem 93 = .ok (.invokevirtual 54, 3) := by decide +kernel
theorem dX0_readItem_96 : decode cX0_readItem 96 = .ok (.goto 9, 3) := by decide +kernel
theorem dX0_readItem_99 : decode cX0_readItem 99 = .ok (.aload_n 0, 1) := by decide +kernel
theorem dX0_readItem_100 : decode cX0_readItem 100 = .ok (.iconst 4, 1) := by decide +kernel
theorem dX0_readItem_101 : decode cX0_readItem 101 = .ok (.iload_n 2, 1) := by decide +kernel
theorem dX0_readItem_102 : decode cX0_readItem 102 = .ok (.invokevirtual 32, 3) := by decide +kernel
theorem dX0_readItem_105 : decode cX0_readItem 105 = .ok (.ireturn, 1) := by decide +kernel
theorem dX0_readItem_106 : decode cX0_readItem 106 = .ok (.aload_n 0, 1) := by decide +kernel
theorem dX0_readItem_107 : decode cX0_readItem 107 = .ok (.getfield 58, 3) := by decide +kernel
theorem dX0_readItem_110 : decode cX0_readItem 110 = .ok (.aload_n 0, 1) := by decide +kernel
theorem dX0_readItem_111 : decode cX0_readItem 111 = .ok (.getfield 15, 3) := by decide +kernel
theorem dX0_readItem_114 : decode cX0_readItem 114 = .ok (.ldc2_w 61, 3) := by decide +kernel
theorem dX0_readItem_117 : decode cX0_readItem 117 = .ok (.lcmp, 1) := by decide +kernel
theorem dX0_readItem_118 : decode cX0_readItem 118 = .ok (.ifCond .ne 8, 3) := by decide +kernel
theorem dX0_readItem_121 : decode cX0_readItem 121 = .ok (.ldc 63, 2) := by decide +kernel
theorem dX0_readItem_123 : decode cX0_readItem 123 = .ok (.goto 21, 3) := by decide +kernel
theorem dX0_readItem_126 : decode cX0_readItem 126 = .ok (.aload_n 0, 1) := by decide +kernel
theorem dX0_readItem_127 : decode cX0_readItem 127 = .ok (.getfield 15, 3) := by decide +kernel
theorem dX0_readItem_130 : decode cX0_readItem 130 = .ok (.ldc2_w 65, 3) := by decide +kernel
theorem dX0_readItem_133 : decode cX0_readItem 133 = .ok (.lcmp, 1) := by decide +kernel
theorem dX0_readItem_134 : decode cX0_readItem 134 = .ok (.ifCond .ne 8, 3) := by decide +kernel
theorem dX0_readItem_137 : decode cX0_readItem 137 = .ok (.ldc 67, 2) := by decide +kernel
theorem dX0_readItem_139 : decode cX0_readItem 139 = .ok (.goto 5, 3) := by decide +kernel
theorem dX0_readItem_142 : decode cX0_readItem 142 = .ok (.ldc 69, 2) := by decide +kernel
theorem dX0_readItem_144 : decode cX0_readItem 144 = .ok (.invokevirtual 71, 3) := by decide +kernel
theorem dX0_readItem_147 : decode cX0_readItem 147 = .ok (.iconst 1, 1) := by decide +kernel
theorem dX0_readItem_148 : decode cX0_readItem 148 = .ok (.ireturn, 1) := by decide +kernel
theorem dX0_readHead_0 : decode cX0_readHead 0 = .ok (.aload_n 0, 1) := by decide +kernel
theorem dX0_readHead_1 : decode cX0_readHead 1 = .ok (.getfield 22, 3) := by decide +kernel
theorem dX0_readHead_4 : decode cX0_readHead 4 = .ok (.aload_n 0, 1) := by decide +kernel
theorem dX0_readHead_5 : decode cX0_readHead 5 = .ok (.getfield 19, 3) := by decide +kernel
theorem dX0_readHead_8 : decode cX0_readHead 8 = .ok (.invokevirtual 75, 3) := by decide +kernel
theorem dX0_readHead_11 : decode cX0_readHead 11 = .ok (.istore_n 2, 1) := by decide +kernel
theorem dX0_readHead_12 : decode cX0_readHead 12 = .ok (.iload_n 2, 1) := by decide +kernel
theorem dX0_readHead_13 : decode cX0_readHead 13 = .ok (.iconst (-1), 1) := by decide +kernel
theorem dX0_readHead_14 : decode cX0_readHead 14 = .ok (.if_icmp .ne 16, 3) := by decide +kernel
theorem dX0_readHead_17 : decode cX0_readHead 17 = .ok (.aload_n 0, 1) := by decide +kernel
theorem dX0_readHead_18 : decode cX0_readHead 18 = .ok (.iconst 1, 1) := by decide +kernel
theorem dX0_readHead_19 : decode cX0_readHead 19 = .ok (.aload_n 0, 1) := by decide +kernel
theorem dX0_readHead_20 : decode cX0_readHead 20 = .ok (.getfield 22, 3) := by decide +kernel
theorem dX0_readHead_23 : decode cX0_readHead 23 = .ok (.invokevirtual 26, 3) := by decide +kernel
theorem dX0_readHead_26 : decode cX0_readHead 26 = .ok (.invokevirtual 32, 3) := by decide +kernel
theorem dX0_readHead_29 : decode cX0_readHead 29 = .ok (.ireturn, 1) := by decide +kernel
theorem dX0_readHead_30 : decode cX0_readHead 30 = .ok (.aload_n 0, 1) := by decide +kernel
theorem dX0_readHead_31 : decode cX0_readHead 31 = .ok (.iload_n 2, 1) := by decide +kernel
theorem dX0_readHead_32 : decode cX0_readHead 32 = .ok (.iconst 5, 1) := by decide +kernel
theorem dX0_readHead_33 : decode cX0_readHead 33 = .ok (.ishr, 1) := by decide +kernel
theorem dX0_readHead_34 : decode cX0_readHead 34 = .ok (.putfield 9, 3) := by decide +kernel
theorem dX0_readHead_37 : decode cX0_readHead 37 = .ok (.iload_n 2, 1) := by decide +kernel
theorem dX0_readHead_38 : decode cX0_readHead 38 = .ok (.bipush 31, 2) := by decide +kernel
theorem dX0_readHead_40 : decode cX0_readHead 40 = .ok (.iand, 1) := by decide +kernel
theorem dX0_readHead_41 : decode cX0_readHead 41 = .ok (.istore_n 3, 1) := by decide +kernel
theorem dX0_readHead_42 : decode cX0_readHead 42 = .ok (.aload_n 0, 1) := by decide +kernel
theorem dX0_readHead_43 : decode cX0_readHead 43 = .ok (.iload_n 3, 1) := by decide +kernel
theorem dX0_readHead_44 : decode cX0_readHead 44 = .ok (.iload_n 1, 1) := by decide +kernel
theorem dX0_readHead_45 : decode cX0_readHead 45 = .ok (.invokevirtual 79, 3) := by decide +kernel
theorem dX0_readHead_48 : decode cX0_readHead 48 = .ok (.istore 4, 2) := by decide +kernel
theorem dX0_readHead_50 : decode cX0_readHead 50 = .ok (.iload 4, 2) := by decide +kernel
theorem dX0_readHead_52 : decode cX0_readHead 52 = .ok (.ifCond .eq 14, 3) := by decide +kernel
theorem dX0_readHead_55 : decode cX0_readHead 55 = .ok (.aload_n 0, 1) := by decide +kernel
theorem dX0_readHead_56 : decode cX0_readHead 56 = .ok (.iload 4, 2) := by decide +kernel
theorem dX0_readHead_58 : decode cX0_readHead 58 = .ok (.aload_n 0, 1) := by decide +kernel
theorem dX0_readHead_59 : decode cX0_readHead 59 = .ok (.getfield 19, 3) := by decide +kernel
theorem dX0_readHead_62 : decode cX0_readHead 62 = .ok (.invokevirtual 32, 3) := by decide +kernel
theorem dX0_readHead_65 : decode cX0_readHead 65 = .ok (.ireturn, 1) := by decide +kernel
theorem dX0_readHead_66 : decode cX0_readHead 66 = .ok (.iload_n 3, 1) := by decide +kernel
theorem dX0_readHead_67 : decode cX0_readHead 67 = .ok (.invokestatic 83, 3) := by decide +kernel
theorem dX0_readHead_70 : decode cX0_readHead 70 = .ok (.istore 5, 2) := by decide +kernel
theorem dX0_readHead_72 : decode cX0_readHead 72 = .ok (.iload 5, 2) := by decide +kernel
theorem dX0_readHead_74 : decode cX0_readHead 74 = .ok (.aload_n 0, 1) := by decide +kernel
theorem dX0_readHead_75 : decode cX0_readHead 75 = .ok (.getfield 22, 3) := by decide +kernel
theorem dX0_readHead_78 : decode cX0_readHead 78 = .ok (.invokevirtual 26, 3) := by decide +kernel
theorem dX0_readHead_81 : decode cX0_readHead 81 = .ok (.aload_n 0, 1) := by decide +kernel
theorem dX0_readHead_82 : decode cX0_readHead 82 = .ok (.getfield 19, 3) := by decide +kernel
theorem dX0_readHead_85 : decode cX0_readHead 85 = .ok (.isub, 1) := by decide +kernel
theorem dX0_readHead_86 : decode cX0_readHead 86 = .ok (.if_icmp .lt 16, 3) := by decide +kernel
theorem dX0_readHead_89 : decode cX0_readHead 89 = .ok (.aload_n 0, 1) := by decide +kernel
theorem dX0_readHead_90 : decode cX0_readHead 90 = .ok (.iconst 1, 1) := by decide +kernel
theorem dX0_readHead_91 : decode cX0_readHead 91 = .ok (.aload_n 0, 1) := by decide +kernel
theorem dX0_readHead_92 : decode cX0_readHead 92 = .ok (.getfield 22, 3) := by decide +kernel
theorem dX0_readHead_95 : decode cX0_readHead 95 = .ok (.invokevirtual 26, 3) := by decide +kernel
theorem dX0_readHead_98 : decode cX0_readHead 98 = .ok (.invokevirtual 32, 3) := by decide +kernel
theorem dX0_readHead_101 : decode cX0_readHead 101 = .ok (.ireturn, 1) := by decide +kernel
theorem dX0_readHead_102 : decode cX0_readHead 102 = .ok (.aload_n 0, 1) := by decide +kernel
theorem dX0_readHead_103 : decode cX0_readHead 103 = .ok (.iload 5, 2) := by decide +kernel
theorem dX0_readHead_105 : decode cX0_readHead 105 = .ok (.ifCond .ne 8, 3) := by decide +kernel
theorem dX0_readHead_108 : decode cX0_readHead 108 = .ok (.iload_n 3, 1) := by decide +kernel
theorem dX0_readHead_109 : decode cX0_readHead 109 = .ok (.i2l, 1) := by decide +kernel
theorem dX0_readHead_110 : decode cX0_readHead 110 = .ok (.goto 9, 3) := by decide +kernel
theorem dX0_readHead_113 : decode cX0_readHead 113 = .ok (.aload_n 0, 1) := by decide +kernel
theorem dX0_readHead_114 : decode cX0_readHead 114 = .ok (.iload 5, 2) := by decide +kernel
theorem dX0_readHead_116 : decode cX0_readHead 116 = .ok (.invokevirtual 86, 3) := by decide +kernel
theorem dX0_readHead_119 : decode cX0_readHead 119 = .ok (.putfield 15, 3) := by decide +kernel
theorem dX0_readHead_122 : decode cX0_readHead 122 = .ok (.iload 5, 2) := by decide +kernel
theorem dX0_readHead_124 : decode cX0_readHead 124 = .ok (.ifCond .le 25, 3) := by decide +kernel
theorem dX0_readHead_127 : decode cX0_readHead 127 = .ok (.aload_n 0, 1) := by decide +kernel
theorem dX0_readHead_128 : decode cX0_readHead 128 = .ok (.getfield 15, 3) := by decide +kernel
theorem dX0_readHead_131 : decode cX0_readHead 131 = .ok (.invokestatic 90, 3) := by decide +kernel
theorem dX0_readHead_134 : decode cX0_readHead 134 = .ok (.iload_n 3, 1) := by decide +kernel
theorem dX0_readHead_135 : decode cX0_readHead 135 = .ok (.if_icmp .eq 14, 3) := by decide +kernel
theorem dX0_readHead_138 : decode cX0_readHead 138 = .ok (.aload_n 0, 1) := by decide +kernel
theorem dX0_readHead_139 : decode cX0_readHead 139 = .ok (.bipush 6, 2) := by decide +kernel
theorem dX0_readHead_141 : decode cX0_readHead 141 = .ok (.aload_n 0, 1) := by decide +kernel
theorem dX0_readHead_142 : decode cX0_readHead 142 = .ok (.getfield 19, 3) := by decide +kernel
theorem dX0_readHead_145 : decode cX0_readHead 145 = .ok (.invokevirtual 32, 3) := by decide +kernel
theorem dX0_readHead_148 : decode cX0_readHead 148 = .ok (.ireturn, 1) := by decide +kernel
theorem dX0_readHead_149 : decode cX0_readHead 149 = .ok (.aload_n 0, 1) := by decide +kernel
theorem dX0_readHead_150 : decode cX0_readHead 150 = .ok (.dup, 1) := by decide +kernel
theorem dX0_readHead_151 : decode cX0_readHead 151 = .ok (.getfield 19, 3) := by decide +kernel
theorem dX0_readHead_154 : decode cX0_readHead 154 = .ok (.iconst 1, 1) := by decide +kernel
theorem dX0_readHead_155 : decode cX0_readHead 155 = .ok (.iload 5, 2) := by decide +kernel
theorem dX0_readHead_157 : decode cX0_readHead 157 = .ok (.iadd, 1) := by decide +kernel
theorem dX0_readHead_158 : decode cX0_readHead 158 = .ok (.iadd, 1) := by decide +kernel
theorem dX0_readHead_159 : decode cX0_readHead 159 = .ok (.putfield 19, 3) := by decide +kernel
theorem dX0_readHead_162 : decode cX0_readHead 162 = .ok (.iconst 1, 1) := by decide +kernel
theorem dX0_readHead_163 : decode cX0_readHead 163 = .ok (.ireturn, 1) := by decide +kernel
theorem dX0_faultOfFirst_0 : decode cX0_faultOfFirst 0 = .ok (.aload_n 0, 1) := by decide +kernel
theorem dX0_faultOfFirst_1 : decode cX0_faultOfFirst 1 = .ok (.getfield 9, 3) := by decide +kernel
theorem dX0_faultOfFirst_4 : decode cX0_faultOfFirst 4 = .ok (.ifCond .eq 20, 3) := by decide +kernel
theorem dX0_faultOfFirst_7 : decode cX0_faultOfFirst 7 = .ok (.aload_n 0, 1) := by decide +kernel
theorem dX0_faultOfFirst_8 : decode cX0_faultOfFirst 8 = .ok (.getfield 9, 3) := by decide +kernel
theorem dX0_faultOfFirst_11 : decode cX0_faultOfFirst 11 = .ok (.iconst 1, 1) := by decide +kernel
theorem dX0_faultOfFirst_12 : decode cX0_faultOfFirst 12 = .ok (.if_icmp .eq 12, 3) := by decide +kernel
theorem dX0_faultOfFirst_15 : decode cX0_faultOfFirst 15 = .ok (.aload_n 0, 1) := by decide +kernel
theorem dX0_faultOfFirst_16 : decode cX0_faultOfFirst 16 = .ok (.getfield 9, 3) := by decide +kernel
theorem dX0_faultOfFirst_19 : decode cX0_faultOfFirst 19 = .ok (.bipush 7, 2) := by decide +kernel
theorem dX0_faultOfFirst_21 : decode cX0_faultOfFirst 21 = .ok (.if_icmp .ne 7, 3) := by decide +kernel
theorem dX0_faultOfFirst_24 : decode cX0_faultOfFirst 24 = .ok (.iconst 1, 1) := by decide +kernel
theorem dX0_faultOfFirst_25 : decode cX0_faultOfFirst 25 = .ok (.goto 4, 3) := by decide +kernel
theorem dX0_faultOfFirst_28 : decode cX0_faultOfFirst 28 = .ok (.iconst 0, 1) := by decide +kernel
theorem dX0_faultOfFirst_29 : decode cX0_faultOfFirst 29 = .ok (.istore_n 3, 1) := by decide +kernel
theorem dX0_faultOfFirst_30 : decode cX0_faultOfFirst 30 = .ok (.iload_n 1, 1) := by decide +kernel
theorem dX0_faultOfFirst_31 : decode cX0_faultOfFirst 31 = .ok (.bipush 27, 2) := by decide +kernel
theorem dX0_faultOfFirst_33 : decode cX0_faultOfFirst 33 = .ok (.if_icmp .le 15, 3) := by decide +kernel
theorem dX0_faultOfFirst_36 : decode cX0_faultOfFirst 36 = .ok (.iload_n 1, 1) := by decide +kernel
theorem dX0_faultOfFirst_37 : decode cX0_faultOfFirst 37 = .ok (.bipush 31, 2) := by decide +kernel
theorem dX0_faultOfFirst_39 : decode cX0_faultOfFirst 39 = .ok (.if_icmp .lt 7, 3) := by decide +kernel
theorem dX0_faultOfFirst_42 : decode cX0_faultOfFirst 42 = .ok (.iload_n 3, 1) := by decide +kernel
theorem dX0_faultOfFirst_43 : decode cX0_faultOfFirst 43 = .ok (.ifCond .eq 5, 3) := by decide +kernel
theorem dX0_faultOfFirst_46 : decode cX0_faultOfFirst 46 = .ok (.iconst 1, 1) := by decide +kernel
theorem dX0_faultOfFirst_47 : decode cX0_faultOfFirst 47 = .ok (.ireturn, 1) := by decide +kernel
theorem dX0_faultOfFirst_48 : decode cX0_faultOfFirst 48 = .ok (.aload_n 0, 1) := by decide +kernel
theorem dX0_faultOfFirst_49 : decode cX0_faultOfFirst 49 = .ok (.getfield 9, 3) := by decide +kernel
theorem dX0_faultOfFirst_52 : decode cX0_faultOfFirst 52 = .ok (.iconst 2, 1) := by decide +kernel
theorem dX0_faultOfFirst_53 : decode cX0_faultOfFirst 53 = .ok (.if_icmp .eq 24, 3) := by decide +kernel
theorem dX0_faultOfFirst_56 : decode cX0_faultOfFirst 56 = .ok (.aload_n 0, 1) := by decide +kernel
theorem dX0_faultOfFirst_57 : decode cX0_faultOfFirst 57 = .ok (.getfield 9, 3) := by decide +kernel
theorem dX0_faultOfFirst_60 : decode cX0_faultOfFirst 60 = .ok (.bipush 6, 2) := by decide +kernel
theorem dX0_faultOfFirst_62 : decode cX0_faultOfFirst 62 = .ok (.if_icmp .eq 15, 3) := by decide +kernel
theorem dX0_faultOfFirst_65 : decode cX0_faultOfFirst 65 = .ok (.iload_n 2, 1) := by decide +kernel
theorem dX0_faultOfFirst_66 : decode cX0_faultOfFirst 66 = .ok (.ifCond .eq 13, 3) := by decide +kernel
theorem dX0_faultOfFirst_69 : decode cX0_faultOfFirst 69 = .ok (.aload_n 0, 1) := by decide +kernel
theorem dX0_faultOfFirst_70 : decode cX0_faultOfFirst 70 = .ok (.getfield 9, 3) := by decide +kernel
theorem dX0_faultOfFirst_73 : decode cX0_faultOfFirst 73 = .ok (.iconst 3, 1) := by decide +kernel
theorem dX0_faultOfFirst_74 : decode cX0_faultOfFirst 74 = .ok (.if_icmp .eq 5, 3) := by decide +kernel
theorem dX0_faultOfFirst_77 : decode cX0_faultOfFirst 77 = .ok (.iconst 2, 1) := by decide +kernel
theorem dX0_faultOfFirst_78 : decode cX0_faultOfFirst 78 = .ok (.ireturn, 1) := by decide +kernel
theorem dX0_faultOfFirst_79 : decode cX0_faultOfFirst 79 = .ok (.aload_n 0, 1) := by decide +kernel
theorem dX0_faultOfFirst_80 : decode cX0_faultOfFirst 80 = .ok (.getfield 9, 3) := by decide +kernel
theorem dX0_faultOfFirst_83 : decode cX0_faultOfFirst 83 = .ok (.bipush 7, 2) := by decide +kernel
theorem dX0_faultOfFirst_85 : decode cX0_faultOfFirst 85 = .ok (.if_icmp .ne 17, 3) := by decide +kernel
theorem dX0_faultOfFirst_88 : decode cX0_faultOfFirst 88 = .ok (.iload_n 1, 1) := by decide +kernel
theorem dX0_faultOfFirst_89 : decode cX0_faultOfFirst 89 = .ok (.bipush 20, 2) := by decide +kernel
theorem dX0_faultOfFirst_91 : decode cX0_faultOfFirst 91 = .ok (.if_icmp .lt 9, 3) := by decide +kernel
theorem dX0_faultOfFirst_94 : decode cX0_faultOfFirst 94 = .ok (.iload_n 1, 1) := by decide +kernel
theorem dX0_faultOfFirst_95 : decode cX0_faultOfFirst 95 = .ok (.bipush 22, 2) := by decide +kernel
theorem dX0_faultOfFirst_97 : decode cX0_faultOfFirst 97 = .ok (.if_icmp .le 5, 3) := by decide +kernel
theorem dX0_faultOfFirst_100 : decode cX0_faultOfFirst 100 = .ok (.iconst 2, 1) := by decide +kernel
theorem dX0_faultOfFirst_101 : decode cX0_faultOfFirst 101 = .ok (.ireturn, 1) := by decide +kernel
theorem dX0_faultOfFirst_102 : decode cX0_faultOfFirst 102 = .ok (.iload_n 1, 1) := by decide +kernel
theorem dX0_faultOfFirst_103 : decode cX0_faultOfFirst 103 = .ok (.bipush 31, 2) := by decide +kernel
theorem dX0_faultOfFirst_105 : decode cX0_faultOfFirst 105 = .ok (.if_icmp .ne 8, 3) := by decide +kernel
theorem dX0_faultOfFirst_108 : decode cX0_faultOfFirst 108 = .ok (.bipush 6, 2) := by decide +kernel
theorem dX0_faultOfFirst_110 : decode cX0_faultOfFirst 110 = .ok (.goto 4, 3) := by decide +kernel
theorem dX0_faultOfFirst_113 : decode cX0_faultOfFirst 113 = .ok (.iconst 0, 1) := by decide +kernel
theorem dX0_faultOfFirst_114 : decode cX0_faultOfFirst 114 = .ok (.ireturn, 1) := by decide +kernel
theorem dX0_numberBehind_0 : decode cX0_numberBehind 0 = .ok (.lconst 0, 1) := by decide +kernel
theorem dX0_numberBehind_1 : decode cX0_numberBehind 1 = .ok (.lstore_n 2, 1) := by decide +kernel
theorem dX0_numberBehind_2 : decode cX0_numberBehind 2 = .ok (.iconst 1, 1) := by decide +kernel
theorem dX0_numberBehind_3 : decode cX0_numberBehind 3 = .ok (.istore 4, 2) := by decide +kernel
theorem dX0_numberBehind_5 : decode cX0_numberBehind 5 = .ok (.iload 4, 2) := by decide +kernel
theorem dX0_numberBehind_7 : decode cX0_numberBehind 7 = .ok (.iload_n 1, 1) := by decide +kernel
theorem dX0_numberBehind_8 : decode cX0_numberBehind 8 = .ok (.if_icmp .gt 30, 3) := by decide +kernel
theorem dX0_numberBehind_11 : decode cX0_numberBehind 11 = .ok (.lload_n 2, 1) := by decide +kernel
theorem dX0_numberBehind_12 : decode cX0_numberBehind 12 = .ok (.bipush 8, 2) := by decide +kernel
theorem dX0_numberBehind_14 : decode cX0_numberBehind 14 = .ok (.lshl, 1) := by decide +kernel
theorem dX0_numberBehind_15 : decode cX0_numberBehind 15 = .ok (.aload_n 0, 1) := by decide +kernel
theorem dX0_numberBehind_16 : decode cX0_numberBehind 16 = .ok (.getfield 22, 3) := by decide +kernel
theorem dX0_numberBehind_19 : decode cX0_numberBehind 19 = .ok (.aload_n 0, 1) := by decide +kernel
theorem dX0_numberBehind_20 : decode cX0_numberBehind 20 = .ok (.getfield 19, 3) := by decide +kernel
theorem dX0_numberBehind_23 : decode cX0_numberBehind 23 = .ok (.iload 4, 2) := by decide +kernel
theorem dX0_numberBehind_25 : decode cX0_numberBehind 25 = .ok (.iadd, 1) := by decide +kernel
theorem dX0_numberBehind_26 : decode cX0_numberBehind 26 = .ok (.invokevirtual 75, 3) := by decide +kernel
theorem dX0_numberBehind_29 : decode cX0_numberBehind 29 = .ok (.i2l, 1) := by decide +kernel
theorem dX0_numberBehind_30 : decode cX0_numberBehind 30 = .ok (.lor, 1) := by decide +kernel
theorem dX0_numberBehind_31 : decode cX0_numberBehind 31 = .ok (.lstore_n 2, 1) := by decide +kernel
theorem dX0_numberBehind_32 : decode cX0_numberBehind 32 = .ok (.iinc 4 1, 3) := by decide +kernel
theorem dX0_numberBehind_35 : decode cX0_numberBehind 35 = .ok (.goto (-30), 3) := by decide +kernel
theorem dX0_numberBehind_38 : decode cX0_numberBehind 38 = .ok (.lload_n 2, 1) := by decide +kernel
theorem dX0_numberBehind_39 : decode cX0_numberBehind 39 = .ok (.lreturn, 1) := by decide +kernel
theorem dX0_readParts_0 : decode cX0_readParts 0 = .ok (.aload_n 0, 1) := by decide +kernel
theorem dX0_readParts_1 : decode cX0_readParts 1 = .ok (.getfield 9, 3) := by decide +kernel
theorem dX0_readParts_4 : decode cX0_readParts 4 = .ok (.iconst 5, 1) := by decide +kernel
theorem dX0_readParts_5 : decode cX0_readParts 5 = .ok (.if_icmp .ne 7, 3) := by decide +kernel
theorem dX0_readParts_8 : decode cX0_readParts 8 = .ok (.iconst 1, 1) := by decide +kernel
theorem dX0_readParts_9 : decode cX0_readParts 9 = .ok (.goto 4, 3) := by decide +kernel
theorem dX0_readParts_12 : decode cX0_readParts 12 = .ok (.iconst 0, 1) := by decide +kernel
theorem dX0_readParts_13 : decode cX0_readParts 13 = .ok (.istore_n 2, 1) := by decide +kernel
theorem dX0_readParts_14 : decode cX0_readParts 14 = .ok (.aload_n 0, 1) := by decide +kernel
theorem dX0_readParts_15 : decode cX0_readParts 15 = .ok (.getfield 15, 3) := by decide +kernel
theorem dX0_readParts_18 : decode cX0_readParts 18 = .ok (.aload_n 0, 1) := by decide +kernel
theorem dX0_readParts_19 : decode cX0_readParts 19 = .ok (.getfield 22, 3) := by decide +kernel
theorem dX0_readParts_22 : decode cX0_readParts 22 = .ok (.invokevirtual 26, 3) := by decide +kernel
theorem dX0_readParts_25 : decode cX0_readParts 25 = .ok (.invokestatic 94, 3) := by decide +kernel
theorem dX0_readParts_28 : decode cX0_readParts 28 = .ok (.ifCond .eq 11, 3) := by decide +kernel
theorem dX0_readParts_31 : decode cX0_readParts 31 = .ok (.aload_n 0, 1) := by decide +kernel
theorem dX0_readParts_32 : decode cX0_readParts 32 = .ok (.getfield 15, 3) := by decide +kernel
theorem dX0_readParts_35 : decode cX0_readParts 35 = .ok (.l2i, 1) := by decide +kernel
theorem dX0_readParts_36 : decode cX0_readParts 36 = .ok (.goto 12, 3) := by decide +kernel
theorem dX0_readParts_39 : decode cX0_readParts 39 = .ok (.aload_n 0, 1) := by decide +kernel
theorem dX0_readParts_40 : decode cX0_readParts 40 = .ok (.getfield 22, 3) := by decide +kernel
theorem dX0_readParts_43 : decode cX0_readParts 43 = .ok (.invokevirtual 26, 3) := by decide +kernel
theorem dX0_readParts_46 : decode cX0_readParts 46 = .ok (.iconst 1, 1) := by decide +kernel
theorem dX0_readParts_47 : decode cX0_readParts 47 = .ok (.iadd, 1) := by decide +kernel
theorem dX0_readParts_48 : decode cX0_readParts 48 = .ok (.istore_n 3, 1) := by decide +kernel
theorem dX0_readParts_49 : decode cX0_readParts 49 = .ok (.aload_n 0, 1) := by decide +kernel
theorem dX0_readParts_50 : decode cX0_readParts 50 = .ok (.getfield 58, 3) := by decide +kernel
theorem dX0_readParts_53 : decode cX0_readParts 53 = .ok (.iload_n 2, 1) := by decide +kernel
theorem dX0_readParts_54 : decode cX0_readParts 54 = .ok (.ifCond .eq 8, 3) := by decide +kernel
theorem dX0_readParts_57 : decode cX0_readParts 57 = .ok (.bipush 123, 2) := by decide +kernel
theorem dX0_readParts_59 : decode cX0_readParts 59 = .ok (.goto 5, 3) := by decide +kernel
theorem dX0_readParts_62 : decode cX0_readParts 62 = .ok (.bipush 91, 2) := by decide +kernel
theorem dX0_readParts_64 : decode cX0_readParts 64 = .ok (.invokevirtual 98, 3) := by decide +kernel
theorem dX0_readParts_67 : decode cX0_readParts 67 = .ok (.iconst 0, 1) := by decide +kernel
theorem dX0_readParts_68 : decode cX0_readParts 68 = .ok (.istore 4, 2) := by decide +kernel
theorem dX0_readParts_70 : decode cX0_readParts 70 = .ok (.iload 4, 2) := by decide +kernel
theorem dX0_readParts_72 : decode cX0_readParts 72 = .ok (.iload_n 3, 1) := by decide +kernel
theorem dX0_readParts_73 : decode cX0_readParts 73 = .ok (.if_icmp .ge 44, 3) := by decide +kernel
theorem dX0_readParts_76 : decode cX0_readParts 76 = .ok (.iload 4, 2) := by decide +kernel
theorem dX0_readParts_78 : decode cX0_readParts 78 = .ok (.ifCond .le 12, 3) := by decide +kernel
theorem dX0_readParts_81 : decode cX0_readParts 81 = .ok (.aload_n 0, 1) := by decide +kernel
theorem dX0_readParts_82 : decode cX0_readParts 82 = .ok (.getfield 58, 3) := by decide +kernel
theorem dX0_readParts_85 : decode cX0_readParts 85 = .ok (.bipush 44, 2) := by decide +kernel
theorem dX0_readParts_87 : decode cX0_readParts 87 = .ok (.invokevirtual 98, 3) := by decide +kernel
theorem dX0_readParts_90 : decode cX0_readParts 90 = .ok (.iload_n 2, 1) := by decide +kernel
theorem dX0_readParts_91 : decode cX0_readParts 91 = .ok (.ifCond .eq 10, 3) := by decide +kernel
theorem dX0_readParts_94 : decode cX0_readParts 94 = .ok (.aload_n 0, 1) := by decide +kernel
theorem dX0_readParts_95 : decode cX0_readParts 95 = .ok (.invokevirtual 102, 3) := by decide +kernel
theorem dX0_readParts_98 : decode cX0_readParts 98 = .ok (.ifCond .eq 11, 3) := by decide +kernel
theorem dX0_readParts_101 : decode cX0_readParts 101 = .ok (.aload_n 0, 1) := by decide +kernel
theorem dX0_readParts_102 : decode cX0_readParts 102 = .ok (.iload_n 1, 1) := by decide +kernel
theorem dX0_readParts_103 : decode cX0_readParts 103 = .ok (.invokevirtual 105, 3) := by decide +kernel
theorem dX0_readParts_106 : decode cX0_readParts 106 = .ok (.ifCond .ne 5, 3) := by decide +kernel
theorem dX0_readParts_109 : decode cX0_readParts 109 = .ok (.iconst 0, 1) := by decide +kernel
theorem dX0_readParts_110 : decode cX0_readParts 110 = .ok (.ireturn, 1) := by decide +kernel
theorem dX0_readParts_111 : decode cX0_readParts 111 = .ok (.iinc 4 1, 3) := by decide +kernel
theorem dX0_readParts_114 : decode cX0_readParts 114 = .ok (.goto (-44), 3) := by decide +kernel
theorem dX0_readParts_117 : decode cX0_readParts 117 = .ok (.aload_n 0, 1) := by decide +kernel
theorem dX0_readParts_118 : decode cX0_readParts 118 = .ok (.getfield 58, 3) := by decide +kernel
theorem dX0_readParts_121 : decode cX0_readParts 121 = .ok (.iload_n 2, 1) := by decide +kernel
theorem dX0_readParts_122 : decode cX0_readParts 122 = .ok (.ifCond .eq 8, 3) := by decide +kernel
theorem dX0_readParts_125 : decode cX0_readParts 125 = .ok (.bipush 125, 2) := by decide +kernel
theorem dX0_readParts_127 : decode cX0_readParts 127 = .ok (.goto 5, 3) := by decide +kernel
theorem dX0_readParts_130 : decode cX0_readParts 130 = .ok (.bipush 93, 2) := by decide +kernel
theorem dX0_readParts_132 : decode cX0_readParts 132 = .ok (.invokevirtual 98, 3) := by decide +kernel
theorem dX0_readParts_135 : decode cX0_readParts 135 = .ok (.iconst 1, 1) := by decide +kernel
theorem dX0_readParts_136 : decode cX0_readParts 136 = .ok (.ireturn, 1) := by decide +kernel
theorem dX0_readKey_0 : decode cX0_readKey 0 = .ok (.aload_n 0, 1) := by decide +kernel
theorem dX0_readKey_1 : decode cX0_readKey 1 = .ok (.iconst 1, 1) := by decide +kernel
theorem dX0_readKey_2 : decode cX0_readKey 2 = .ok (.invokevirtual 36, 3) := by decide +kernel
theorem dX0_readKey_5 : decode cX0_readKey 5 = .ok (.ifCond .eq 10, 3) := by decide +kernel
theorem dX0_readKey_8 : decode cX0_readKey 8 = .ok (.aload_n 0, 1) := by decide +kernel
theorem dX0_readKey_9 : decode cX0_readKey 9 = .ok (.invokevirtual 47, 3) := by decide +kernel
theorem dX0_readKey_12 : decode cX0_readKey 12 = .ok (.ifCond .ne 5, 3) := by decide +kernel
theorem dX0_readKey_15 : decode cX0_readKey 15 = .ok (.iconst 0, 1) := by decide +kernel
theorem dX0_readKey_16 : decode cX0_readKey 16 = .ok (.ireturn, 1) := by decide +kernel
theorem dX0_readKey_17 : decode cX0_readKey 17 = .ok (.aload_n 0, 1) := by decide +kernel
theorem dX0_readKey_18 : decode cX0_readKey 18 = .ok (.getfield 58, 3) := by decide +kernel
theorem dX0_readKey_21 : decode cX0_readKey 21 = .ok (.bipush 58, 2) := by decide +kernel
theorem dX0_readKey_23 : decode cX0_readKey 23 = .ok (.invokevirtual 98, 3) := by decide +kernel
theorem dX0_readKey_26 : decode cX0_readKey 26 = .ok (.iconst 1, 1) := by decide +kernel
theorem dX0_readKey_27 : decode cX0_readKey 27 = .ok (.ireturn, 1) := by decide +kernel
theorem dX0_readText_0 : decode cX0_readText 0 = .ok (.aload_n 0, 1) := by decide +kernel
theorem dX0_readText_1 : decode cX0_readText 1 = .ok (.getfield 15, 3) := by decide +kernel
theorem dX0_readText_4 : decode cX0_readText 4 = .ok (.aload_n 0, 1) := by decide +kernel
theorem dX0_readText_5 : decode cX0_readText 5 = .ok (.getfield 22, 3) := by decide +kernel
theorem dX0_readText_8 : decode cX0_readText 8 = .ok (.invokevirtual 26, 3) := by decide +kernel
theorem dX0_readText_11 : decode cX0_readText 11 = .ok (.aload_n 0, 1) := by decide +kernel
theorem dX0_readText_12 : decode cX0_readText 12 = .ok (.getfield 19, 3) := by decide +kernel
theorem dX0_readText_15 : decode cX0_readText 15 = .ok (.isub, 1) := by decide +kernel
theorem dX0_readText_16 : decode cX0_readText 16 = .ok (.invokestatic 94, 3) := by decide +kernel
theorem dX0_readText_19 : decode cX0_readText 19 = .ok (.ifCond .ne 16, 3) := by decide +kernel
theorem dX0_readText_22 : decode cX0_readText 22 = .ok (.aload_n 0, 1) := by decide +kernel
theorem dX0_readText_23 : decode cX0_readText 23 = .ok (.iconst 1, 1) := by decide +kernel
theorem dX0_readText_24 : decode cX0_readText 24 = .ok (.aload_n 0, 1) := by decide +kernel
theorem dX0_readText_25 : decode cX0_readText 25 = .ok (.getfield 22, 3) := by decide +kernel
theorem dX0_readText_28 : decode cX0_readText 28 = .ok (.invokevirtual 26, 3) := by decide +kernel
theorem dX0_readText_31 : decode cX0_readText 31 = .ok (.invokevirtual 32, 3) := by decide +kernel
theorem dX0_readText_34 : decode cX0_readText 34 = .ok (.ireturn, 1) := by decide +kernel
theorem dX0_readText_35 : decode cX0_readText 35 = .ok (.aload_n 0, 1) := by decide +kernel
theorem dX0_readText_36 : decode cX0_readText 36 = .ok (.getfield 15, 3) := by decide +kernel
theorem dX0_readText_39 : decode cX0_readText 39 = .ok (.l2i, 1) := by decide +kernel
theorem dX0_readText_40 : decode cX0_readText 40 = .ok (.istore_n 1, 1) := by decide +kernel
theorem dX0_readText_41 : decode cX0_readText 41 = .ok (.aload_n 0, 1) := by decide +kernel
theorem dX0_readText_42 : decode cX0_readText 42 = .ok (.getfield 19, 3) := by decide +kernel
theorem dX0_readText_45 : decode cX0_readText 45 = .ok (.iload_n 1, 1) := by decide +kernel
theorem dX0_readText_46 : decode cX0_readText 46 = .ok (.iadd, 1) := by decide +kernel
theorem dX0_readText_47 : decode cX0_readText 47 = .ok (.istore_n 2, 1) := by decide +kernel
theorem dX0_readText_48 : decode cX0_readText 48 = .ok (.aload_n 0, 1) := by decide +kernel
theorem dX0_readText_49 : decode cX0_readText 49 = .ok (.getfield 58, 3) := by decide +kernel
theorem dX0_readText_52 : decode cX0_readText 52 = .ok (.bipush 34, 2) := by decide +kernel
theorem dX0_readText_54 : decode cX0_readText 54 = .ok (.invokevirtual 98, 3) := by decide +kernel
theorem dX0_readText_57 : decode cX0_readText 57 = .ok (.iconst 0, 1) := by decide +kernel
theorem dX0_readText_58 : decode cX0_readText 58 = .ok (.istore_n 3, 1) := by decide +kernel
theorem dX0_readText_59 : decode cX0_readText 59 = .ok (.iload_n 3, 1) := by decide +kernel
theorem dX0_readText_60 : decode cX0_readText 60 = .ok (.iload_n 1, 1) := by decide +kernel
theorem dX0_readText_61 : decode cX0_readText 61 = .ok (.if_icmp .ge 52, 3) := by decide +kernel
theorem dX0_readText_64 : decode cX0_readText 64 = .ok (.aload_n 0, 1) := by decide +kernel
theorem dX0_readText_65 : decode cX0_readText 65 = .ok (.getfield 19, 3) := by decide +kernel
theorem dX0_readText_68 : decode cX0_readText 68 = .ok (.iload_n 2, 1) := by decide +kernel
theorem dX0_readText_69 : decode cX0_readText 69 = .ok (.if_icmp .ge 44, 3) := by decide +kernel
theorem dX0_readText_72 : decode cX0_readText 72 = .ok (.aload_n 0, 1) := by decide +kernel
theorem dX0_readText_73 : decode cX0_readText 73 = .ok (.getfield 22, 3) := by decide +kernel
theorem dX0_readText_76 : decode cX0_readText 76 = .ok (.aload_n 0, 1) := by decide +kernel
theorem dX0_readText_77 : decode cX0_readText 77 = .ok (.getfield 19, 3) := by decide +kernel
theorem dX0_readText_80 : decode cX0_readText 80 = .ok (.iload_n 2, 1) := by decide +kernel
theorem dX0_readText_81 : decode cX0_readText 81 = .ok (.invokestatic 108, 3) := by decide +kernel
theorem dX0_readText_84 : decode cX0_readText 84 = .ok (.istore 4, 2) := by decide +kernel
theorem dX0_readText_86 : decode cX0_readText 86 = .ok (.iload 4, 2) := by decide +kernel
theorem dX0_readText_88 : decode cX0_readText 88 = .ok (.ifCond .ne 13, 3) := by decide +kernel
theorem dX0_readText_91 : decode cX0_readText 91 = .ok (.aload_n 0, 1) := by decide +kernel
theorem dX0_readText_92 : decode cX0_readText 92 = .ok (.iconst 3, 1) := by decide +kernel
theorem dX0_readText_93 : decode cX0_readText 93 = .ok (.aload_n 0, 1) := by decide +kernel
theorem dX0_readText_94 : decode cX0_readText 94 = .ok (.getfield 19, 3) := by decide +kernel
theorem dX0_readText_97 : decode cX0_readText 97 = .ok (.invokevirtual 32, 3) := by decide +kernel
theorem dX0_readText_100 : decode cX0_readText 100 = .ok (.ireturn, 1) := by decide +kernel
theorem dX0_readText_101 : decode cX0_readText 101 = .ok (.aload_n 0, 1) := by decide +kernel
theorem dX0_readText_102 : decode cX0_readText 102 = .ok (.iload 4, 2) := by decide +kernel
theorem dX0_readText_104 : decode cX0_readText 104 = .ok (.invokevirtual 112, 3) := by decide +kernel
theorem dX0_readText_107 : decode cX0_readText 107 = .ok (.iinc 3 1, 3) := by decide +kernel
theorem dX0_readText_110 : decode cX0_readText 110 = .ok (.goto (-51), 3) := by decide +kernel
theorem dX0_readText_113 : decode cX0_readText 113 = .ok (.aload_n 0, 1) := by decide +kernel
theorem dX0_readText_114 : decode cX0_readText 114 = .ok (.getfield 58, 3) := by decide +kernel
theorem dX0_readText_117 : decode cX0_readText 117 = .ok (.bipush 34, 2) := by decide +kernel
theorem dX0_readText_119 : decode cX0_readText 119 = .ok (.invokevirtual 98, 3) := by decide +kernel
theorem dX0_readText_122 : decode cX0_readText 122 = .ok (.iconst 1, 1) := by decide +kernel
theorem dX0_readText_123 : decode cX0_readText 123 = .ok (.ireturn, 1) := by decide +kernel
theorem dX0_isWithin_0 : decode cX0_isWithin 0 = .ok (.lload_n 0, 1) := by decide +kernel
theorem dX0_isWithin_1 : decode cX0_isWithin 1 = .ok (.lconst 0, 1) := by decide +kernel
theorem dX0_isWithin_2 : decode cX0_isWithin 2 = .ok (.lcmp, 1) := by decide +kernel
theorem dX0_isWithin_3 : decode cX0_isWithin 3 = .ok (.ifCond .lt 14, 3) := by decide +kernel
theorem dX0_isWithin_6 : decode cX0_isWithin 6 = .ok (.lload_n 0, 1) := by decide +kernel
theorem dX0_isWithin_7 : decode cX0_isWithin 7 = .ok (.iload_n 2, 1) := by decide +kernel
theorem dX0_isWithin_8 : decode cX0_isWithin 8 = .ok (.i2l, 1) := by decide +kernel
theorem dX0_isWithin_9 : decode cX0_isWithin 9 = .ok (.lcmp, 1) := by decide +kernel
theorem dX0_isWithin_10 : decode cX0_isWithin 10 = .ok (.ifCond .gt 7, 3) := by decide +kernel
theorem dX0_isWithin_13 : decode cX0_isWithin 13 = .ok (.iconst 1, 1) := by decide +kernel
theorem dX0_isWithin_14 : decode cX0_isWithin 14 = .ok (.goto 4, 3) := by decide +kernel
theorem dX0_isWithin_17 : decode cX0_isWithin 17 = .ok (.iconst 0, 1) := by decide +kernel
theorem dX0_isWithin_18 : decode cX0_isWithin 18 = .ok (.ireturn, 1) := by decide +kernel
theorem dX0_putSign_0 : decode cX0_putSign 0 = .ok (.iload_n 1, 1) := by decide +kernel
theorem dX0_putSign_1 : decode cX0_putSign 1 = .ok (.iconst 1, 1) := by decide +kernel
theorem dX0_putSign_2 : decode cX0_putSign 2 = .ok (.if_icmp .ne 21, 3) := by decide +kernel
theorem dX0_putSign_5 : decode cX0_putSign 5 = .ok (.aload_n 0, 1) := by decide +kernel
theorem dX0_putSign_6 : decode cX0_putSign 6 = .ok (.aload_n 0, 1) := by decide +kernel
theorem dX0_putSign_7 : decode cX0_putSign 7 = .ok (.getfield 22, 3) := by decide +kernel
theorem dX0_putSign_10 : decode cX0_putSign 10 = .ok (.aload_n 0, 1) := by decide +kernel
theorem dX0_putSign_11 : decode cX0_putSign 11 = .ok (.getfield 19, 3) := by decide +kernel
theorem dX0_putSign_14 : decode cX0_putSign 14 = .ok (.invokevirtual 75, 3) := by decide +kernel
theorem dX0_putSign_17 : decode cX0_putSign 17 = .ok (.invokevirtual 115, 3) := by decide +kernel
theorem dX0_putSign_20 : decode cX0_putSign 20 = .ok (.goto 36, 3) := by decide +kernel
theorem dX0_putSign_23 : decode cX0_putSign 23 = .ok (.iconst 0, 1) := by decide +kernel
theorem dX0_putSign_24 : decode cX0_putSign 24 = .ok (.istore_n 2, 1) := by decide +kernel
theorem dX0_putSign_25 : decode cX0_putSign 25 = .ok (.iload_n 2, 1) := by decide +kernel
theorem dX0_putSign_26 : decode cX0_putSign 26 = .ok (.iload_n 1, 1) := by decide +kernel
theorem dX0_putSign_27 : decode cX0_putSign 27 = .ok (.if_icmp .ge 29, 3) := by decide +kernel
theorem dX0_putSign_30 : decode cX0_putSign 30 = .ok (.aload_n 0, 1) := by decide +kernel
theorem dX0_putSign_31 : decode cX0_putSign 31 = .ok (.getfield 58, 3) := by decide +kernel
theorem dX0_putSign_34 : decode cX0_putSign 34 = .ok (.aload_n 0, 1) := by decide +kernel
theorem dX0_putSign_35 : decode cX0_putSign 35 = .ok (.getfield 22, 3) := by decide +kernel
theorem dX0_putSign_38 : decode cX0_putSign 38 = .ok (.aload_n 0, 1) := by decide +kernel
theorem dX0_putSign_39 : decode cX0_putSign 39 = .ok (.getfield 19, 3) := by decide +kernel
theorem dX0_putSign_42 : decode cX0_putSign 42 = .ok (.iload_n 2, 1) := by decide +kernel
theorem dX0_putSign_43 : decode cX0_putSign 43 = .ok (.iadd, 1) := by decide +kernel
theorem dX0_putSign_44 : decode cX0_putSign 44 = .ok (.invokevirtual 75, 3) := by decide +kernel
theorem dX0_putSign_47 : decode cX0_putSign 47 = .ok (.invokevirtual 98, 3) := by decide +kernel
theorem dX0_putSign_50 : decode cX0_putSign 50 = .ok (.iinc 2 1, 3) := by decide +kernel
theorem dX0_putSign_53 : decode cX0_putSign 53 = .ok (.goto (-28), 3) := by decide +kernel
theorem dX0_putSign_56 : decode cX0_putSign 56 = .ok (.aload_n 0, 1) := by decide +kernel
theorem dX0_putSign_57 : decode cX0_putSign 57 = .ok (.dup, 1) := by decide +kernel
theorem dX0_putSign_58 : decode cX0_putSign 58 = .ok (.getfield 19, 3) := by decide +kernel
theorem dX0_putSign_61 : decode cX0_putSign 61 = .ok (.iload_n 1, 1) := by decide +kernel
theorem dX0_putSign_62 : decode cX0_putSign 62 = .ok (.iadd, 1) := by decide +kernel
theorem dX0_putSign_63 : decode cX0_putSign 63 = .ok (.putfield 19, 3) := by decide +kernel
theorem dX0_putSign_66 : decode cX0_putSign 66 = .ok (.return_, 1) := by decide +kernel
theorem dX0_putShortSign_0 : decode cX0_putShortSign 0 = .ok (.iload_n 1, 1) := by decide +kernel
theorem dX0_putShortSign_1 : decode cX0_putShortSign 1 = .ok (.invokestatic 118, 3) := by decide +kernel
theorem dX0_putShortSign_4 : decode cX0_putShortSign 4 = .ok (.istore_n 2, 1) := by decide +kernel
theorem dX0_putShortSign_5 : decode cX0_putShortSign 5 = .ok (.iload_n 2, 1) := by decide +kernel
theorem dX0_putShortSign_6 : decode cX0_putShortSign 6 = .ok (.iconst (-1), 1) := by decide +kernel
theorem dX0_putShortSign_7 : decode cX0_putShortSign 7 = .ok (.if_icmp .eq 23, 3) := by decide +kernel
theorem dX0_putShortSign_10 : decode cX0_putShortSign 10 = .ok (.aload_n 0, 1) := by decide +kernel
theorem dX0_putShortSign_11 : decode cX0_putShortSign 11 = .ok (.getfield 58, 3) := by decide +kernel
theorem dX0_putShortSign_14 : decode cX0_putShortSign 14 = .ok (.bipush 92, 2) := by decide +kernel
theorem dX0_putShortSign_16 : decode cX0_putShortSign 16 = .ok (.invokevirtual 98, 3) := by decide +kernel
theorem dX0_putShortSign_19 : decode cX0_putShortSign 19 = .ok (.aload_n 0, 1) := by decide +kernel
theorem dX0_putShortSign_20 : decode cX0_putShortSign 20 = .ok (.getfield 58, 3) := by decide +kernel
theorem dX0_putShortSign_23 : decode cX0_putShortSign 23 = .ok (.iload_n 2, 1) := by decide +kernel
theorem dX0_putShortSign_24 : decode cX0_putShortSign 24 = .ok (.invokevirtual 98, 3) := by decide +kernel
theorem dX0_putShortSign_27 : decode cX0_putShortSign 27 = .ok (.goto 90, 3) := by decide +kernel
theorem dX0_putShortSign_30 : decode cX0_putShortSign 30 = .ok (.iload_n 1, 1) := by decide +kernel
theorem dX0_putShortSign_31 : decode cX0_putShortSign 31 = .ok (.bipush 32, 2) := by decide +kernel
theorem dX0_putShortSign_33 : decode cX0_putShortSign 33 = .ok (.if_icmp .ge 76, 3) := by decide +kernel
theorem dX0_putShortSign_36 : decode cX0_putShortSign 36 = .ok (.aload_n 0, 1) := by decide +kernel
theorem dX0_putShortSign_37 : decode cX0_putShortSign 37 = .ok (.getfield 58, 3) := by decide +kernel
theorem dX0_putShortSign_40 : decode cX0_putShortSign 40 = .ok (.bipush 92, 2) := by decide +kernel
theorem dX0_putShortSign_42 : decode cX0_putShortSign 42 = .ok (.invokevirtual 98, 3) := by decide +kernel
theorem dX0_putShortSign_45 : decode cX0_putShortSign 45 = .ok (.aload_n 0, 1) := by decide +kernel
theorem dX0_putShortSign_46 : decode cX0_putShortSign 46 = .ok (.getfield 58, 3) := by decide +kernel
theorem dX0_putShortSign_49 : decode cX0_putShortSign 49 = .ok (.bipush 117, 2) := by decide +kernel
theorem dX0_putShortSign_51 : decode cX0_putShortSign 51 = .ok (.invokevirtual 98, 3) := by decide +kernel
theorem dX0_putShortSign_54 : decode cX0_putShortSign 54 = .ok (.aload_n 0, 1) := by decide +kernel
theorem dX0_putShortSign_55 : decode cX0_putShortSign 55 = .ok (.getfield 58, 3) := by decide +kernel
theorem dX0_putShortSign_58 : decode cX0_putShortSign 58 = .ok (.bipush 48, 2) := by decide +kernel
theorem dX0_putShortSign_60 : decode cX0_putShortSign 60 = .ok (.invokevirtual 98, 3) := by decide +kernel
theorem dX0_putShortSign_63 : decode cX0_putShortSign 63 = .ok (.aload_n 0, 1) := by decide +kernel
theorem dX0_putShortSign_64 : decode cX0_putShortSign 64 = .ok (.getfield 58, 3) := by decide +kernel
theorem dX0_putShortSign_67 : decode cX0_putShortSign 67 = .ok (.bipush 48, 2) := by decide +kernel
theorem dX0_putShortSign_69 : decode cX0_putShortSign 69 = .ok (.invokevirtual 98, 3) := by decide +kernel
theorem dX0_putShortSign_72 : decode cX0_putShortSign 72 = .ok (.aload_n 0, 1) := by decide +kernel
theorem dX0_putShortSign_73 : decode cX0_putShortSign 73 = .ok (.getfield 58, 3) := by decide +kernel
theorem dX0_putShortSign_76 : decode cX0_putShortSign 76 = .ok (.ldc 121, 2) := by decide +kernel
theorem dX0_putShortSign_78 : decode cX0_putShortSign 78 = .ok (.iload_n 1, 1) := by decide +kernel
theorem dX0_putShortSign_79 : decode cX0_putShortSign 79 = .ok (.iconst 4, 1) := by decide +kernel
theorem dX0_putShortSign_80 : decode cX0_putShortSign 80 = .ok (.ishr, 1) := by decide +kernel
theorem dX0_putShortSign_81 : decode cX0_putShortSign 81 = .ok (.bipush 15, 2) := by decide +kernel
theorem dX0_putShortSign_83 : decode cX0_putShortSign 83 = .ok (.iand, 1) := by decide +kernel
theorem dX0_putShortSign_84 : decode cX0_putShortSign 84 = .ok (.invokevirtual 123, 3) := by decide +kernel
theorem dX0_putShortSign_87 : decode cX0_putShortSign 87 = .ok (.invokevirtual 98, 3) := by decide +kernel
theorem dX0_putShortSign_90 : decode cX0_putShortSign 90 = .ok (.aload_n 0, 1) := by decide +kernel
theorem dX0_putShortSign_91 : decode cX0_putShortSign 91 = .ok (.getfield 58, 3) := by decide +kernel
theorem dX0_putShortSign_94 : decode cX0_putShortSign 94 = .ok (.ldc 121, 2) := by decide +kernel
theorem dX0_putShortSign_96 : decode cX0_putShortSign 96 = .ok (.iload_n 1, 1) := by decide +kernel
theorem dX0_putShortSign_97 : decode cX0_putShortSign 97 = .ok (.bipush 15, 2) := by decide +kernel
theorem dX0_putShortSign_99 : decode cX0_putShortSign 99 = .ok (.iand, 1) := by decide +kernel
theorem dX0_putShortSign_100 : decode cX0_putShortSign 100 = .ok (.invokevirtual 123, 3) := by decide +kernel
theorem dX0_putShortSign_103 : decode cX0_putShortSign 103 = .ok (.invokevirtual 98, 3) := by decide +kernel
theorem dX0_putShortSign_106 : decode cX0_putShortSign 106 = .ok (.goto 11, 3) := by decide +kernel
theorem dX0_putShortSign_109 : decode cX0_putShortSign 109 = .ok (.aload_n 0, 1) := by decide +kernel
theorem dX0_putShortSign_110 : decode cX0_putShortSign 110 = .ok (.getfield 58, 3) := by decide +kernel
theorem dX0_putShortSign_113 : decode cX0_putShortSign 113 = .ok (.iload_n 1, 1) := by decide +kernel
theorem dX0_putShortSign_114 : decode cX0_putShortSign 114 = .ok (.invokevirtual 98, 3) := by decide +kernel
theorem dX0_putShortSign_117 : decode cX0_putShortSign 117 = .ok (.return_, 1) := by decide +kernel
theorem dX0_letterOf_0 : decode cX0_letterOf 0 = .ok (.iload_n 0, 1) := by decide +kernel
theorem dX0_letterOf_1 : decode cX0_letterOf 1 = .ok (.lookupswitch 84 #[(8, 69), (9, 72), (10, 75), (12, 78), (13, 81), (34, 67), (92, 67)], 67) := by decide +kernel
theorem dX0_letterOf_68 : decode cX0_letterOf 68 = .ok (.iload_n 0, 1) := by decide +kernel
theorem dX0_letterOf_69 : decode cX0_letterOf 69 = .ok (.ireturn, 1) := by decide +kernel
theorem dX0_letterOf_70 : decode cX0_letterOf 70 = .ok (.bipush 98, 2) := by decide +kernel
theorem dX0_letterOf_72 : decode cX0_letterOf 72 = .ok (.ireturn, 1) := by decide +kernel
theorem dX0_letterOf_73 : decode cX0_letterOf 73 = .ok (.bipush 116, 2) := by decide +kernel
theorem dX0_letterOf_75 : decode cX0_letterOf 75 = .ok (.ireturn, 1) := by decide +kernel
theorem dX0_letterOf_76 : decode cX0_letterOf 76 = .ok (.bipush 110, 2) := by decide +kernel
theorem dX0_letterOf_78 : decode cX0_letterOf 78 = .ok (.ireturn, 1) := by decide +kernel
theorem dX0_letterOf_79 : decode cX0_letterOf 79 = .ok (.bipush 102, 2) := by decide +kernel
theorem dX0_letterOf_81 : decode cX0_letterOf 81 = .ok (.ireturn, 1) := by decide +kernel
theorem dX0_letterOf_82 : decode cX0_letterOf 82 = .ok (.bipush 114, 2) := by decide +kernel
theorem dX0_letterOf_84 : decode cX0_letterOf 84 = .ok (.ireturn, 1) := by decide +kernel
theorem dX0_letterOf_85 : decode cX0_letterOf 85 = .ok (.iconst (-1), 1) := by decide +kernel
theorem dX0_letterOf_86 : decode cX0_letterOf 86 = .ok (.ireturn, 1) := by decide +kernel
theorem dX0_putDecimal_0 : decode cX0_putDecimal 0 = .ok (.lload_n 1, 1) := by decide +kernel
theorem dX0_putDecimal_1 : decode cX0_putDecimal 1 = .ok (.invokestatic 129, 3) := by decide +kernel
theorem dX0_putDecimal_4 : decode cX0_putDecimal 4 = .ok (.lstore_n 3, 1) := by decide +kernel
theorem dX0_putDecimal_5 : decode cX0_putDecimal 5 = .ok (.aload_n 0, 1) := by decide +kernel
theorem dX0_putDecimal_6 : decode cX0_putDecimal 6 = .ok (.lload_n 3, 1) := by decide +kernel
theorem dX0_putDecimal_7 : decode cX0_putDecimal 7 = .ok (.lload_n 1, 1) := by decide +kernel
theorem dX0_putDecimal_8 : decode cX0_putDecimal 8 = .ok (.lload_n 3, 1) := by decide +kernel
theorem dX0_putDecimal_9 : decode cX0_putDecimal 9 = .ok (.ldc2_w 133, 3) := by decide +kernel
theorem dX0_putDecimal_12 : decode cX0_putDecimal 12 = .ok (.lmul, 1) := by decide +kernel
theorem dX0_putDecimal_13 : decode cX0_putDecimal 13 = .ok (.lsub, 1) := by decide +kernel
theorem dX0_putDecimal_14 : decode cX0_putDecimal 14 = .ok (.l2i, 1) := by decide +kernel
theorem dX0_putDecimal_15 : decode cX0_putDecimal 15 = .ok (.invokevirtual 135, 3) := by decide +kernel
theorem dX0_putDecimal_18 : decode cX0_putDecimal 18 = .ok (.return_, 1) := by decide +kernel
theorem dX0_putNegative_0 : decode cX0_putNegative 0 = .ok (.lload_n 1, 1) := by decide +kernel
theorem dX0_putNegative_1 : decode cX0_putNegative 1 = .ok (.invokestatic 129, 3) := by decide +kernel
theorem dX0_putNegative_4 : decode cX0_putNegative 4 = .ok (.lstore_n 3, 1) := by decide +kernel
theorem dX0_putNegative_5 : decode cX0_putNegative 5 = .ok (.lload_n 1, 1) := by decide +kernel
theorem dX0_putNegative_6 : decode cX0_putNegative 6 = .ok (.lload_n 3, 1) := by decide +kernel
theorem dX0_putNegative_7 : decode cX0_putNegative 7 = .ok (.ldc2_w 133, 3) := by decide +kernel
theorem dX0_putNegative_10 : decode cX0_putNegative 10 = .ok (.lmul, 1) := by decide +kernel
theorem dX0_putNegative_11 : decode cX0_putNegative 11 = .ok (.lsub, 1) := by decide +kernel
theorem dX0_putNegative_12 : decode cX0_putNegative 12 = .ok (.l2i, 1) := by decide +kernel
theorem dX0_putNegative_13 : decode cX0_putNegative 13 = .ok (.istore 5, 2) := by decide +kernel
theorem dX0_putNegative_15 : decode cX0_putNegative 15 = .ok (.aload_n 0, 1) := by decide +kernel
theorem dX0_putNegative_16 : decode cX0_putNegative 16 = .ok (.getfield 58, 3) := by decide +kernel
theorem dX0_putNegative_19 : decode cX0_putNegative 19 = .ok (.bipush 45, 2) := by decide +kernel
theorem dX0_putNegative_21 : decode cX0_putNegative 21 = .ok (.invokevirtual 98, 3) := by decide +kernel
theorem dX0_putNegative_24 : decode cX0_putNegative 24 = .ok (.iload 5, 2) := by decide +kernel
theorem dX0_putNegative_26 : decode cX0_putNegative 26 = .ok (.bipush 9, 2) := by decide +kernel
theorem dX0_putNegative_28 : decode cX0_putNegative 28 = .ok (.if_icmp .ne 14, 3) := by decide +kernel
theorem dX0_putNegative_31 : decode cX0_putNegative 31 = .ok (.aload_n 0, 1) := by decide +kernel
theorem dX0_putNegative_32 : decode cX0_putNegative 32 = .ok (.lload_n 3, 1) := by decide +kernel
theorem dX0_putNegative_33 : decode cX0_putNegative 33 = .ok (.lconst 1, 1) := by decide +kernel
theorem dX0_putNegative_34 : decode cX0_putNegative 34 = .ok (.ladd, 1) := by decide +kernel
theorem dX0_putNegative_35 : decode cX0_putNegative 35 = .ok (.iconst 0, 1) := by decide +kernel
theorem dX0_putNegative_36 : decode cX0_putNegative 36 = .ok (.invokevirtual 135, 3) := by decide +kernel
theorem dX0_putNegative_39 : decode cX0_putNegative 39 = .ok (.goto 12, 3) := by decide +kernel
theorem dX0_putNegative_42 : decode cX0_putNegative 42 = .ok (.aload_n 0, 1) := by decide +kernel
theorem dX0_putNegative_43 : decode cX0_putNegative 43 = .ok (.lload_n 3, 1) := by decide +kernel
theorem dX0_putNegative_44 : decode cX0_putNegative 44 = .ok (.iload 5, 2) := by decide +kernel
theorem dX0_putNegative_46 : decode cX0_putNegative 46 = .ok (.iconst 1, 1) := by decide +kernel
theorem dX0_putNegative_47 : decode cX0_putNegative 47 = .ok (.iadd, 1) := by decide +kernel
theorem dX0_putNegative_48 : decode cX0_putNegative 48 = .ok (.invokevirtual 135, 3) := by decide +kernel
theorem dX0_putNegative_51 : decode cX0_putNegative 51 = .ok (.return_, 1) := by decide +kernel
theorem dX0_tenthOf_0 : decode cX0_tenthOf 0 = .ok (.lload_n 0, 1) := by decide +kernel
theorem dX0_tenthOf_1 : decode cX0_tenthOf 1 = .ok (.iconst 1, 1) := by decide +kernel
theorem dX0_tenthOf_2 : decode cX0_tenthOf 2 = .ok (.lushr, 1) := by decide +kernel
theorem dX0_tenthOf_3 : decode cX0_tenthOf 3 = .ok (.ldc2_w 139, 3) := by decide +kernel
theorem dX0_tenthOf_6 : decode cX0_tenthOf 6 = .ok (.ldiv, 1) := by decide +kernel
theorem dX0_tenthOf_7 : decode cX0_tenthOf 7 = .ok (.lreturn, 1) := by decide +kernel
theorem dX0_putDigits_0 : decode cX0_putDigits 0 = .ok (.lconst 1, 1) := by decide +kernel
theorem dX0_putDigits_1 : decode cX0_putDigits 1 = .ok (.lstore 4, 2) := by decide +kernel
theorem dX0_putDigits_3 : decode cX0_putDigits 3 = .ok (.iconst 1, 1) := by decide +kernel
theorem dX0_putDigits_4 : decode cX0_putDigits 4 = .ok (.istore 6, 2) := by decide +kernel
theorem dX0_putDigits_6 : decode cX0_putDigits 6 = .ok (.iload 6, 2) := by decide +kernel
theorem dX0_putDigits_8 : decode cX0_putDigits 8 = .ok (.bipush 19, 2) := by decide +kernel
theorem dX0_putDigits_10 : decode cX0_putDigits 10 = .ok (.if_icmp .ge 28, 3) := by decide +kernel
theorem dX0_putDigits_13 : decode cX0_putDigits 13 = .ok (.lload 4, 2) := by decide +kernel
theorem dX0_putDigits_15 : decode cX0_putDigits 15 = .ok (.lload_n 1, 1) := by decide +kernel
theorem dX0_putDigits_16 : decode cX0_putDigits 16 = .ok (.ldc2_w 133, 3) := by decide +kernel
theorem dX0_putDigits_19 : decode cX0_putDigits 19 = .ok (.ldiv, 1) := by decide +kernel
theorem dX0_putDigits_20 : decode cX0_putDigits 20 = .ok (.lcmp, 1) := by decide +kernel
theorem dX0_putDigits_21 : decode cX0_putDigits 21 = .ok (.ifCond .gt 17, 3) := by decide +kernel
theorem dX0_putDigits_24 : decode cX0_putDigits 24 = .ok (.lload 4, 2) := by decide +kernel
theorem dX0_putDigits_26 : decode cX0_putDigits 26 = .ok (.ldc2_w 133, 3) := by decide +kernel
theorem dX0_putDigits_29 : decode cX0_putDigits 29 = .ok (.lmul, 1) := by decide +kernel
theorem dX0_putDigits_30 : decode cX0_putDigits 30 = .ok (.lstore 4, 2) := by decide +kernel
theorem dX0_putDigits_32 : decode cX0_putDigits 32 = .ok (.iinc 6 1, 3) := by decide +kernel
theorem dX0_putDigits_35 : decode cX0_putDigits 35 = .ok (.goto (-29), 3) := by decide +kernel
theorem dX0_putDigits_38 : decode cX0_putDigits 38 = .ok (.lload_n 1, 1) := by decide +kernel
theorem dX0_putDigits_39 : decode cX0_putDigits 39 = .ok (.lstore 6, 2) := by decide +kernel
theorem dX0_putDigits_41 : decode cX0_putDigits 41 = .ok (.iconst 0, 1) := by decide +kernel
theorem dX0_putDigits_42 : decode cX0_putDigits 42 = .ok (.istore 8, 2) := by decide +kernel
theorem dX0_putDigits_44 : decode cX0_putDigits 44 = .ok (.iload 8, 2) := by decide +kernel
theorem dX0_putDigits_46 : decode cX0_putDigits 46 = .ok (.bipush 19, 2) := by decide +kernel
theorem dX0_putDigits_48 : decode cX0_putDigits 48 = .ok (.if_icmp .ge 53, 3) := by decide +kernel
theorem dX0_putDigits_51 : decode cX0_putDigits 51 = .ok (.lload 4, 2) := by decide +kernel
theorem dX0_putDigits_53 : decode cX0_putDigits 53 = .ok (.lconst 0, 1) := by decide +kernel
theorem dX0_putDigits_54 : decode cX0_putDigits 54 = .ok (.lcmp, 1) := by decide +kernel
theorem dX0_putDigits_55 : decode cX0_putDigits 55 = .ok (.ifCond .le 46, 3) := by decide +kernel
theorem dX0_putDigits_58 : decode cX0_putDigits 58 = .ok (.lload_n 1, 1) := by decide +kernel
theorem dX0_putDigits_59 : decode cX0_putDigits 59 = .ok (.lconst 0, 1) := by decide +kernel
theorem dX0_putDigits_60 : decode cX0_putDigits 60 = .ok (.lcmp, 1) := by decide +kernel
theorem dX0_putDigits_61 : decode cX0_putDigits 61 = .ok (.ifCond .le 40, 3) := by decide +kernel
theorem dX0_putDigits_64 : decode cX0_putDigits 64 = .ok (.aload_n 0, 1) := by decide +kernel
theorem dX0_putDigits_65 : decode cX0_putDigits 65 = .ok (.getfield 58, 3) := by decide +kernel
theorem dX0_putDigits_68 : decode cX0_putDigits 68 = .ok (.bipush 48, 2) := by decide +kernel
theorem dX0_putDigits_70 : decode cX0_putDigits 70 = .ok (.lload 6, 2) := by decide +kernel
theorem dX0_putDigits_72 : decode cX0_putDigits 72 = .ok (.lload 4, 2) := by decide +kernel
theorem dX0_putDigits_74 : decode cX0_putDigits 74 = .ok (.ldiv, 1) := by decide +kernel
theorem dX0_putDigits_75 : decode cX0_putDigits 75 = .ok (.l2i, 1) := by decide +kernel
theorem dX0_putDigits_76 : decode cX0_putDigits 76 = .ok (.iadd, 1) := by decide +kernel
theorem dX0_putDigits_77 : decode cX0_putDigits 77 = .ok (.invokevirtual 98, 3) := by decide +kernel
theorem dX0_putDigits_80 : decode cX0_putDigits 80 = .ok (.lload 6, 2) := by decide +kernel
theorem dX0_putDigits_82 : decode cX0_putDigits 82 = .ok (.lload 4, 2) := by decide +kernel
theorem dX0_putDigits_84 : decode cX0_putDigits 84 = .ok (.lrem, 1) := by decide +kernel
theorem dX0_putDigits_85 : decode cX0_putDigits 85 = .ok (.lstore 6, 2) := by decide +kernel
theorem dX0_putDigits_87 : decode cX0_putDigits 87 = .ok (.lload 4, 2) := by decide +kernel
theorem dX0_putDigits_89 : decode cX0_putDigits 89 = .ok (.ldc2_w 133, 3) := by decide +kernel
theorem dX0_putDigits_92 : decode cX0_putDigits 92 = .ok (.ldiv, 1) := by decide +kernel
theorem dX0_putDigits_93 : decode cX0_putDigits 93 = .ok (.lstore 4, 2) := by decide +kernel
theorem dX0_putDigits_95 : decode cX0_putDigits 95 = .ok (.iinc 8 1, 3) := by decide +kernel
theorem dX0_putDigits_98 : decode cX0_putDigits 98 = .ok (.goto (-54), 3) := by decide +kernel
theorem dX0_putDigits_101 : decode cX0_putDigits 101 = .ok (.aload_n 0, 1) := by decide +kernel
theorem dX0_putDigits_102 : decode cX0_putDigits 102 = .ok (.getfield 58, 3) := by decide +kernel
theorem dX0_putDigits_105 : decode cX0_putDigits 105 = .ok (.bipush 48, 2) := by decide +kernel
theorem dX0_putDigits_107 : decode cX0_putDigits 107 = .ok (.iload_n 3, 1) := by decide +kernel
theorem dX0_putDigits_108 : decode cX0_putDigits 108 = .ok (.iadd, 1) := by decide +kernel
theorem dX0_putDigits_109 : decode cX0_putDigits 109 = .ok (.invokevirtual 98, 3) := by decide +kernel
theorem dX0_putDigits_112 : decode cX0_putDigits 112 = .ok (.return_, 1) := by decide +kernel
theorem dJ9_max_7cf53_0 : decode cJ9_max_7cf53 0 = .ok (.iload_n 0, 1) := by decide +kernel
theorem dJ9_max_7cf53_1 : decode cJ9_max_7cf53 1 = .ok (.iload_n 1, 1) := by decide +kernel
theorem dJ9_max_7cf53_2 : decode cJ9_max_7cf53 2 = .ok (.if_icmp .lt 7, 3) := by decide +kernel
theorem dJ9_max_7cf53_5 : decode cJ9_max_7cf53 5 = .ok (.iload_n 0, 1) := by decide +kernel
theorem dJ9_max_7cf53_6 : decode cJ9_max_7cf53 6 = .ok (.goto 4, 3) := by decide +kernel
theorem dJ9_max_7cf53_9 : decode cJ9_max_7cf53 9 = .ok (.iload_n 1, 1) := by decide +kernel
theorem dJ9_max_7cf53_10 : decode cJ9_max_7cf53 10 = .ok (.ireturn, 1) := by decide +kernel
theorem dJ9_min_7cf53_0 : decode cJ9_min_7cf53 0 = .ok (.iload_n 0, 1) := by decide +kernel
theorem dJ9_min_7cf53_1 : decode cJ9_min_7cf53 1 = .ok (.iload_n 1, 1) := by decide +kernel
theorem dJ9_min_7cf53_2 : decode cJ9_min_7cf53 2 = .ok (.if_icmp .gt 7, 3) := by decide +kernel
theorem dJ9_min_7cf53_5 : decode cJ9_min_7cf53 5 = .ok (.iload_n 0, 1) := by decide +kernel
theorem dJ9_min_7cf53_6 : decode cJ9_min_7cf53 6 = .ok (.goto 4, 3) := by decide +kernel
theorem dJ9_min_7cf53_9 : decode cJ9_min_7cf53 9 = .ok (.iload_n 1, 1) := by decide +kernel
theorem dJ9_min_7cf53_10 : decode cJ9_min_7cf53 10 = .ok (.ireturn, 1) := by decide +kernel
theorem dJ0_length_8abf5_0 : decode cJ0_length_8abf5 0 = .ok (.aload_n 0, 1) := by decide +kernel
theorem dJ0_length_8abf5_1 : decode cJ0_length_8abf5 1 = .ok (.getfield 9, 3) := by decide +kernel
theorem dJ0_length_8abf5_4 : decode cJ0_length_8abf5 4 = .ok (.arraylength, 1) := by decide +kernel
theorem dJ0_length_8abf5_5 : decode cJ0_length_8abf5 5 = .ok (.aload_n 0, 1) := by decide +kernel
theorem dJ0_length_8abf5_6 : decode cJ0_length_8abf5 6 = .ok (.invokevirtual 335, 3) := by decide +kernel
theorem dJ0_length_8abf5_9 : decode cJ0_length_8abf5 9 = .ok (.ishr, 1) := by decide +kernel
theorem dJ0_length_8abf5_10 : decode cJ0_length_8abf5 10 = .ok (.ireturn, 1) := by decide +kernel
theorem dJ0_charAt_5068e_0 : decode cJ0_charAt_5068e 0 = .ok (.aload_n 0, 1) := by decide +kernel
theorem dJ0_charAt_5068e_1 : decode cJ0_charAt_5068e 1 = .ok (.invokevirtual 492, 3) := by decide +kernel
theorem dJ0_charAt_5068e_4 : decode cJ0_charAt_5068e 4 = .ok (.ifCond .eq 12, 3) := by decide +kernel
theorem dJ0_charAt_5068e_7 : decode cJ0_charAt_5068e 7 = .ok (.aload_n 0, 1) := by decide +kernel
theorem dJ0_charAt_5068e_8 : decode cJ0_charAt_5068e 8 = .ok (.getfield 9, 3) := by decide +kernel
theorem dJ0_charAt_5068e_11 : decode cJ0_charAt_5068e 11 = .ok (.iload_n 1, 1) := by decide +kernel
theorem dJ0_charAt_5068e_12 : decode cJ0_charAt_5068e 12 = .ok (.invokestatic 495, 3) := by decide +kernel
theorem dJ0_charAt_5068e_15 : decode cJ0_charAt_5068e 15 = .ok (.ireturn, 1) := by decide +kernel
theorem dJ0_charAt_5068e_16 : decode cJ0_charAt_5068e 16 = .ok (.aload_n 0, 1) := by decide +kernel
theorem dJ0_charAt_5068e_17 : decode cJ0_charAt_5068e 17 = .ok (.getfield 9, 3) := by decide +kernel
theorem dJ0_charAt_5068e_20 : decode cJ0_charAt_5068e 20 = .ok (.iload_n 1, 1) := by decide +kernel
theorem dJ0_charAt_5068e_21 : decode cJ0_charAt_5068e 21 = .ok (.invokestatic 498, 3) := by decide +kernel
theorem dJ0_charAt_5068e_24 : decode cJ0_charAt_5068e 24 = .ok (.ireturn, 1) := by decide +kernel
theorem dJ0_coder_7d493_0 : decode cJ0_coder_7d493 0 = .ok (.getstatic 38, 3) := by decide +kernel
theorem dJ0_coder_7d493_3 : decode cJ0_coder_7d493 3 = .ok (.ifCond .eq 10, 3) := by decide +kernel
theorem dJ0_coder_7d493_6 : decode cJ0_coder_7d493 6 = .ok (.aload_n 0, 1) := by decide +kernel
theorem dJ0_coder_7d493_7 : decode cJ0_coder_7d493 7 = .ok (.getfield 15, 3) := by decide +kernel
theorem dJ0_coder_7d493_10 : decode cJ0_coder_7d493 10 = .ok (.goto 4, 3) := by decide +kernel
theorem dJ0_coder_7d493_13 : decode cJ0_coder_7d493 13 = .ok (.iconst 1, 1) := by decide +kernel
theorem dJ0_coder_7d493_14 : decode cJ0_coder_7d493 14 = .ok (.ireturn, 1) := by decide +kernel
theorem dJ0_isLatin1_aae02_0 : decode cJ0_isLatin1_aae02 0 = .ok (.getstatic 38, 3) := by decide +kernel
theorem dJ0_isLatin1_aae02_3 : decode cJ0_isLatin1_aae02 3 = .ok (.ifCond .eq 14, 3) := by decide +kernel
theorem dJ0_isLatin1_aae02_6 : decode cJ0_isLatin1_aae02 6 = .ok (.aload_n 0, 1) := by decide +kernel
theorem dJ0_isLatin1_aae02_7 : decode cJ0_isLatin1_aae02 7 = .ok (.getfield 15, 3) := by decide +kernel
theorem dJ0_isLatin1_aae02_10 : decode cJ0_isLatin1_aae02 10 = .ok (.ifCond .ne 7, 3) := by decide +kernel
theorem dJ0_isLatin1_aae02_13 : decode cJ0_isLatin1_aae02 13 = .ok (.iconst 1, 1) := by decide +kernel
theorem dJ0_isLatin1_aae02_14 : decode cJ0_isLatin1_aae02 14 = .ok (.goto 4, 3) := by decide +kernel
theorem dJ0_isLatin1_aae02_17 : decode cJ0_isLatin1_aae02 17 = .ok (.iconst 0, 1) := by decide +kernel
theorem dJ0_isLatin1_aae02_18 : decode cJ0_isLatin1_aae02 18 = .ok (.ireturn, 1) := by decide +kernel
theorem dJ0_checkIndex_df160_0 : decode cJ0_checkIndex_df160 0 = .ok (.iload_n 0, 1) := by decide +kernel
theorem dJ0_checkIndex_df160_1 : decode cJ0_checkIndex_df160 1 = .ok (.iload_n 1, 1) := by decide +kernel
theorem dJ0_checkIndex_df160_2 : decode cJ0_checkIndex_df160 2 = .ok (.getstatic 1053, 3) := by decide +kernel
theorem dJ0_checkIndex_df160_5 : decode cJ0_checkIndex_df160 5 = .ok (.invokestatic 1059, 3) := by decide +kernel
theorem dJ0_checkIndex_df160_8 : decode cJ0_checkIndex_df160 8 = .ok (.pop, 1) := by decide +kernel
theorem dJ0_checkIndex_df160_9 : decode cJ0_checkIndex_df160 9 = .ok (.return_, 1) := by decide +kernel
theorem dJ1_charAt_3b067_0 : decode cJ1_charAt_3b067 0 = .ok (.iload_n 1, 1) := by decide +kernel
theorem dJ1_charAt_3b067_1 : decode cJ1_charAt_3b067 1 = .ok (.aload_n 0, 1) := by decide +kernel
theorem dJ1_charAt_3b067_2 : decode cJ1_charAt_3b067 2 = .ok (.arraylength, 1) := by decide +kernel
theorem dJ1_charAt_3b067_3 : decode cJ1_charAt_3b067 3 = .ok (.invokestatic 9, 3) := by decide +kernel
theorem dJ1_charAt_3b067_6 : decode cJ1_charAt_3b067 6 = .ok (.aload_n 0, 1) := by decide +kernel
theorem dJ1_charAt_3b067_7 : decode cJ1_charAt_3b067 7 = .ok (.iload_n 1, 1) := by decide +kernel
theorem dJ1_charAt_3b067_8 : decode cJ1_charAt_3b067 8 = .ok (.baload, 1) := by decide +kernel
theorem dJ1_charAt_3b067_9 : decode cJ1_charAt_3b067 9 = .ok (.sipush 255, 3) := by decide +kernel
theorem dJ1_charAt_3b067_12 : decode cJ1_charAt_3b067 12 = .ok (.iand, 1) := by decide +kernel
theorem dJ1_charAt_3b067_13 : decode cJ1_charAt_3b067 13 = .ok (.i2c, 1) := by decide +kernel
theorem dJ1_charAt_3b067_14 : decode cJ1_charAt_3b067 14 = .ok (.ireturn, 1) := by decide +kernel
theorem dJ2_getChar_3b067_0 : decode cJ2_getChar_3b067 0 = .ok (.getstatic 44, 3) := by decide +kernel
theorem dJ2_getChar_3b067_3 : decode cJ2_getChar_3b067 3 = .ok (.ifCond .ne 25, 3) := by decide +kernel
theorem dJ2_getChar_3b067_6 : decode cJ2_getChar_3b067 6 = .ok (.iload_n 1, 1) := by decide +kernel
theorem dJ2_getChar_3b067_7 : decode cJ2_getChar_3b067 7 = .ok (.ifCond .lt 11, 3) := by decide +kernel
theorem dJ2_getChar_3b067_10 : decode cJ2_getChar_3b067 10 = .ok (.iload_n 1, 1) := by decide +kernel
theorem dJ2_getChar_3b067_11 : decode cJ2_getChar_3b067 11 = .ok (.aload_n 0, 1) := by decide +kernel
theorem dJ2_getChar_3b067_12 : decode cJ2_getChar_3b067 12 = .ok (.invokestatic 48, 3) := by decide +kernel
theorem dJ2_getChar_3b067_15 : decode cJ2_getChar_3b067 15 = .ok (.if_icmp .lt 13, 3) := by decide +kernel
theorem dJ2_getChar_3b067_18 : decode cJ2_getChar_3b067 18 = .ok (.new 52, 3) := by decide +kernel
theorem dJ2_getChar_3b067_21 : decode cJ2_getChar_3b067 21 = .ok (.dup, 1) := by decide +kernel
theorem dJ2_getChar_3b067_22 : decode cJ2_getChar_3b067 22 = .ok (.ldc 54, 2) := by decide +kernel
theorem dJ2_getChar_3b067_24 : decode cJ2_getChar_3b067 24 = .ok (.invokespecial 56, 3) := by decide +kernel
theorem dJ2_getChar_3b067_27 : decode cJ2_getChar_3b067 27 = .ok (.athrow, 1) := by decide +kernel
theorem dJ2_getChar_3b067_28 : decode cJ2_getChar_3b067 28 = .ok (.iload_n 1, 1) := by decide +kernel
theorem dJ2_getChar_3b067_29 : decode cJ2_getChar_3b067 29 = .ok (.iconst 1, 1) := by decide +kernel
theorem dJ2_getChar_3b067_30 : decode cJ2_getChar_3b067 30 = .ok (.ishl, 1) := by decide +kernel
theorem dJ2_getChar_3b067_31 : decode cJ2_getChar_3b067 31 = .ok (.istore_n 1, 1) := by decide +kernel
theorem dJ2_getChar_3b067_32 : decode cJ2_getChar_3b067 32 = .ok (.aload_n 0, 1) := by decide +kernel
theorem dJ2_getChar_3b067_33 : decode cJ2_getChar_3b067 33 = .ok (.iload_n 1, 1) := by decide +kernel
theorem dJ2_getChar_3b067_34 : decode cJ2_getChar_3b067 34 = .ok (.iinc 1 1, 3) := by decide +kernel
theorem dJ2_getChar_3b067_37 : decode cJ2_getChar_3b067 37 = .ok (.baload, 1) := by decide +kernel
theorem dJ2_getChar_3b067_38 : decode cJ2_getChar_3b067 38 = .ok (.sipush 255, 3) := by decide +kernel
theorem dJ2_getChar_3b067_41 : decode cJ2_getChar_3b067 41 = .ok (.iand, 1) := by decide +kernel
theorem dJ2_getChar_3b067_42 : decode cJ2_getChar_3b067 42 = .ok (.getstatic 59, 3) := by decide +kernel
theorem dJ2_getChar_3b067_45 : decode cJ2_getChar_3b067 45 = .ok (.ishl, 1) := by decide +kernel
theorem dJ2_getChar_3b067_46 : decode cJ2_getChar_3b067 46 = .ok (.aload_n 0, 1) := by decide +kernel
theorem dJ2_getChar_3b067_47 : decode cJ2_getChar_3b067 47 = .ok (.iload_n 1, 1) := by decide +kernel
theorem dJ2_getChar_3b067_48 : decode cJ2_getChar_3b067 48 = .ok (.baload, 1) := by decide +kernel
theorem dJ2_getChar_3b067_49 : decode cJ2_getChar_3b067 49 = .ok (.sipush 255, 3) := by decide +kernel
theorem dJ2_getChar_3b067_52 : decode cJ2_getChar_3b067 52 = .ok (.iand, 1) := by decide +kernel
theorem dJ2_getChar_3b067_53 : decode cJ2_getChar_3b067 53 = .ok (.getstatic 63, 3) := by decide +kernel
theorem dJ2_getChar_3b067_56 : decode cJ2_getChar_3b067 56 = .ok (.ishl, 1) := by decide +kernel
theorem dJ2_getChar_3b067_57 : decode cJ2_getChar_3b067 57 = .ok (.ior, 1) := by decide +kernel
theorem dJ2_getChar_3b067_58 : decode cJ2_getChar_3b067 58 = .ok (.i2c, 1) := by decide +kernel
theorem dJ2_getChar_3b067_59 : decode cJ2_getChar_3b067 59 = .ok (.ireturn, 1) := by decide +kernel
theorem dJ2_length_9d52b_0 : decode cJ2_length_9d52b 0 = .ok (.aload_n 0, 1) := by decide +kernel
theorem dJ2_length_9d52b_1 : decode cJ2_length_9d52b 1 = .ok (.arraylength, 1) := by decide +kernel
theorem dJ2_length_9d52b_2 : decode cJ2_length_9d52b 2 = .ok (.iconst 1, 1) := by decide +kernel
theorem dJ2_length_9d52b_3 : decode cJ2_length_9d52b 3 = .ok (.ishr, 1) := by decide +kernel
theorem dJ2_length_9d52b_4 : decode cJ2_length_9d52b 4 = .ok (.ireturn, 1) := by decide +kernel
theorem dJ2_charAt_3b067_0 : decode cJ2_charAt_3b067 0 = .ok (.iload_n 1, 1) := by decide +kernel
theorem dJ2_charAt_3b067_1 : decode cJ2_charAt_3b067 1 = .ok (.aload_n 0, 1) := by decide +kernel
theorem dJ2_charAt_3b067_2 : decode cJ2_charAt_3b067 2 = .ok (.invokestatic 67, 3) := by decide +kernel
theorem dJ2_charAt_3b067_5 : decode cJ2_charAt_3b067 5 = .ok (.aload_n 0, 1) := by decide +kernel
theorem dJ2_charAt_3b067_6 : decode cJ2_charAt_3b067 6 = .ok (.iload_n 1, 1) := by decide +kernel
theorem dJ2_charAt_3b067_7 : decode cJ2_charAt_3b067 7 = .ok (.invokestatic 71, 3) := by decide +kernel
theorem dJ2_charAt_3b067_10 : decode cJ2_charAt_3b067 10 = .ok (.ireturn, 1) := by decide +kernel
theorem dJ2_checkIndex_2214a_0 : decode cJ2_checkIndex_2214a 0 = .ok (.iload_n 0, 1) := by decide +kernel
theorem dJ2_checkIndex_2214a_1 : decode cJ2_checkIndex_2214a 1 = .ok (.aload_n 1, 1) := by decide +kernel
theorem dJ2_checkIndex_2214a_2 : decode cJ2_checkIndex_2214a 2 = .ok (.invokestatic 48, 3) := by decide +kernel
theorem dJ2_checkIndex_2214a_5 : decode cJ2_checkIndex_2214a 5 = .ok (.invokestatic 414, 3) := by decide +kernel
theorem dJ2_checkIndex_2214a_8 : decode cJ2_checkIndex_2214a 8 = .ok (.return_, 1) := by decide +kernel
theorem dJ3_checkIndex_8e157_0 : decode cJ3_checkIndex_8e157 0 = .ok (.iload_n 0, 1) := by decide +kernel
theorem dJ3_checkIndex_8e157_1 : decode cJ3_checkIndex_8e157 1 = .ok (.ifCond .lt 8, 3) := by decide +kernel
theorem dJ3_checkIndex_8e157_4 : decode cJ3_checkIndex_8e157 4 = .ok (.iload_n 0, 1) := by decide +kernel
theorem dJ3_checkIndex_8e157_5 : decode cJ3_checkIndex_8e157 5 = .ok (.iload_n 1, 1) := by decide +kernel
theorem dJ3_checkIndex_8e157_6 : decode cJ3_checkIndex_8e157 6 = .ok (.if_icmp .lt 10, 3) := by decide +kernel
theorem dJ3_checkIndex_8e157_9 : decode cJ3_checkIndex_8e157 9 = .ok (.aload_n 2, 1) := by decide +kernel
theorem dJ3_checkIndex_8e157_10 : decode cJ3_checkIndex_8e157 10 = .ok (.iload_n 0, 1) := by decide +kernel
theorem dJ3_checkIndex_8e157_11 : decode cJ3_checkIndex_8e157 11 = .ok (.iload_n 1, 1) := by decide +kernel
theorem dJ3_checkIndex_8e157_12 : decode cJ3_checkIndex_8e157 12 = .ok (.invokestatic 95, 3) := by decide +kernel
theorem dJ3_checkIndex_8e157_15 : decode cJ3_checkIndex_8e157 15 = .ok (.athrow, 1) := by decide +kernel
theorem dJ3_checkIndex_8e157_16 : decode cJ3_checkIndex_8e157 16 = .ok (.iload_n 0, 1) := by decide +kernel
theorem dJ3_checkIndex_8e157_17 : decode cJ3_checkIndex_8e157 17 = .ok (.ireturn, 1) := by decide +kernel
end
section
theorem dX1_init_0 : decode cX1_init 0 = .ok (.aload_n 0, 1) := by decide +kernel
theorem dX1_init_1 : decode cX1_init 1 = .ok (.aload_n 1, 1) := by decide +kernel
theorem dX1_init_2 : decode cX1_init 2 = .ok (.aload_n 2, 1) := by decide +kernel
theorem dX1_init_3 : decode cX1_init 3 = .ok (.iload_n 3, 1) := by decide +kernel
theorem dX1_init_4 : decode cX1_init 4 = .ok (.invokespecial 3, 3) := by decide +kernel
theorem dX1_init_7 : decode cX1_init 7 = .ok (.return_, 1) := by decide +kernel
theorem dX1_readEnd_0 : decode cX1_readEnd 0 = .ok (.aload_n 0, 1) := by decide +kernel
theorem dX1_readEnd_1 : decode cX1_readEnd 1 = .ok (.invokevirtual 9, 3) := by decide +kernel
theorem dX1_readEnd_4 : decode cX1_readEnd 4 = .ok (.aload_n 0, 1) := by decide +kernel
theorem dX1_readEnd_5 : decode cX1_readEnd 5 = .ok (.getfield 15, 3) := by decide +kernel
theorem dX1_readEnd_8 : decode cX1_readEnd 8 = .ok (.aload_n 0, 1) := by decide +kernel
theorem dX1_readEnd_9 : decode cX1_readEnd 9 = .ok (.getfield 19, 3) := by decide +kernel
theorem dX1_readEnd_12 : decode cX1_readEnd 12 = .ok (.invokevirtual 23, 3) := by decide +kernel
theorem dX1_readEnd_15 : decode cX1_readEnd 15 = .ok (.if_icmp .eq 15, 3) := by decide +kernel
theorem dX1_readEnd_18 : decode cX1_readEnd 18 = .ok (.aload_n 0, 1) := by decide +kernel
theorem dX1_readEnd_19 : decode cX1_readEnd 19 = .ok (.iconst 1, 1) := by decide +kernel
theorem dX1_readEnd_20 : decode cX1_readEnd 20 = .ok (.aload_n 0, 1) := by decide +kernel
theorem dX1_readEnd_21 : decode cX1_readEnd 21 = .ok (.getfield 15, 3) := by decide +kernel
theorem dX1_readEnd_24 : decode cX1_readEnd 24 = .ok (.invokevirtual 29, 3) := by decide +kernel
theorem dX1_readEnd_27 : decode cX1_readEnd 27 = .ok (.ifCond .eq 7, 3) := by decide +kernel
theorem dX1_readEnd_30 : decode cX1_readEnd 30 = .ok (.iconst 1, 1) := by decide +kernel
theorem dX1_readEnd_31 : decode cX1_readEnd 31 = .ok (.goto 4, 3) := by decide +kernel
theorem dX1_readEnd_34 : decode cX1_readEnd 34 = .ok (.iconst 0, 1) := by decide +kernel
theorem dX1_readEnd_35 : decode cX1_readEnd 35 = .ok (.ireturn, 1) := by decide +kernel
theorem dX1_readValue_0 : decode cX1_readValue 0 = .ok (.aload_n 0, 1) := by decide +kernel
theorem dX1_readValue_1 : decode cX1_readValue 1 = .ok (.invokevirtual 9, 3) := by decide +kernel
theorem dX1_readValue_4 : decode cX1_readValue 4 = .ok (.aload_n 0, 1) := by decide +kernel
theorem dX1_readValue_5 : decode cX1_readValue 5 = .ok (.getfield 19, 3) := by decide +kernel
theorem dX1_readValue_8 : decode cX1_readValue 8 = .ok (.aload_n 0, 1) := by decide +kernel
theorem dX1_readValue_9 : decode cX1_readValue 9 = .ok (.getfield 15, 3) := by decide +kernel
theorem dX1_readValue_12 : decode cX1_readValue 12 = .ok (.invokevirtual 33, 3) := by decide +kernel
theorem dX1_readValue_15 : decode cX1_readValue 15 = .ok (.istore_n 2, 1) := by decide +kernel
theorem dX1_readValue_16 : decode cX1_readValue 16 = .ok (.iload_n 2, 1) := by decide +kernel
theorem dX1_readValue_17 : decode cX1_readValue 17 = .ok (.lookupswitch 109 #[(34, 59), (91, 64), (102, 82), (110, 100), (116, 91), (123, 73)], 59) := by decide +kernel
theorem dX1_readValue_76 : decode cX1_readValue 76 = .ok (.aload_n 0, 1) := by decide +kernel
theorem dX1_readValue_77 : decode cX1_readValue 77 = .ok (.invokevirtual 37, 3) := by decide +kernel
theorem dX1_readValue_80 : decode cX1_readValue 80 = .ok (.ireturn, 1) := by decide +kernel
theorem dX1_readValue_81 : decode cX1_readValue 81 = .ok (.aload_n 0, 1) := by decide +kernel
theorem dX1_readValue_82 : decode cX1_readValue 82 = .ok (.iconst 4, 1) := by decide +kernel
theorem dX1_readValue_83 : decode cX1_readValue 83 = .ok (.bipush 93, 2) := by decide +kernel
theorem dX1_readValue_85 : decode cX1_readValue 85 = .ok (.iload_n 1, 1) := by decide +kernel
theorem dX1_readValue_86 : decode cX1_readValue 86 = .ok (.invokevirtual 41, 3) := by decide +kernel
theorem dX1_readValue_89 : decode cX1_readValue 89 = .ok (.ireturn, 1) := by decide +kernel
theorem dX1_readValue_90 : decode cX1_readValue 90 = .ok (.aload_n 0, 1) := by decide +kernel
theorem dX1_readValue_91 : decode cX1_readValue 91 = .ok (.iconst 5, 1) := by decide +kernel
theorem dX1_readValue_92 : decode cX1_readValue 92 = .ok (.bipush 125, 2) := by decide +kernel
theorem dX1_readValue_94 : decode cX1_readValue 94 = .ok (.iload_n 1, 1) := by decide +kernel
theorem dX1_readValue_95 : decode cX1_readValue 95 = .ok (.invokevirtual 41, 3) := by decide +kernel
theorem dX1_readValue_98 : decode cX1_readValue 98 = .ok (.ireturn, 1) := by decide +kernel
theorem dX1_readValue_99 : decode cX1_readValue 99 = .ok (.aload_n 0, 1) := by decide +kernel
theorem dX1_readValue_100 : decode cX1_readValue 100 = .ok (.ldc 45, 2) := by decide +kernel
theorem dX1_readValue_102 : decode cX1_readValue 102 = .ok (.bipush 20, 2) := by decide +kernel
theorem dX1_readValue_104 : decode cX1_readValue 104 = .ok (.invokevirtual 47, 3) := by decide +kernel
theorem dX1_readValue_107 : decode cX1_readValue 107 = .ok (.ireturn, 1) := by decide +kernel
theorem dX1_readValue_108 : decode cX1_readValue 108 = .ok (.aload_n 0, 1) := by decide +kernel
theorem dX1_readValue_109 : decode cX1_readValue 109 = .ok (.ldc 51, 2) := by decide +kernel
theorem dX1_readValue_111 : decode cX1_readValue 111 = .ok (.bipush 21, 2) := by decide +kernel
theorem dX1_readValue_113 : decode cX1_readValue 113 = .ok (.invokevirtual 47, 3) := by decide +kernel
theorem dX1_readValue_116 : decode cX1_readValue 116 = .ok (.ireturn, 1) := by decide +kernel
theorem dX1_readValue_117 : decode cX1_readValue 117 = .ok (.aload_n 0, 1) := by decide +kernel
theorem dX1_readValue_118 : decode cX1_readValue 118 = .ok (.ldc 53, 2) := by decide +kernel
theorem dX1_readValue_120 : decode cX1_readValue 120 = .ok (.bipush 22, 2) := by decide +kernel
theorem dX1_readValue_122 : decode cX1_readValue 122 = .ok (.invokevirtual 47, 3) := by decide +kernel
theorem dX1_readValue_125 : decode cX1_readValue 125 = .ok (.ireturn, 1) := by decide +kernel
theorem dX1_readValue_126 : decode cX1_readValue 126 = .ok (.iload_n 2, 1) := by decide +kernel
theorem dX1_readValue_127 : decode cX1_readValue 127 = .ok (.bipush 45, 2) := by decide +kernel
theorem dX1_readValue_129 : decode cX1_readValue 129 = .ok (.if_icmp .eq 10, 3) := by decide +kernel
theorem dX1_readValue_132 : decode cX1_readValue 132 = .ok (.iload_n 2, 1) := by decide +kernel
theorem dX1_readValue_133 : decode cX1_readValue 133 = .ok (.invokestatic 55, 3) := by decide +kernel
theorem dX1_readValue_136 : decode cX1_readValue 136 = .ok (.ifCond .eq 10, 3) := by decide +kernel
theorem dX1_readValue_139 : decode cX1_readValue 139 = .ok (.aload_n 0, 1) := by decide +kernel
theorem dX1_readValue_140 : decode cX1_readValue 140 = .ok (.invokevirtual 59, 3) := by decide +kernel
theorem dX1_readValue_143 : decode cX1_readValue 143 = .ok (.goto 12, 3) := by decide +kernel
theorem dX1_readValue_146 : decode cX1_readValue 146 = .ok (.aload_n 0, 1) := by decide +kernel
theorem dX1_readValue_147 : decode cX1_readValue 147 = .ok (.iconst 1, 1) := by decide +kernel
theorem dX1_readValue_148 : decode cX1_readValue 148 = .ok (.aload_n 0, 1) := by decide +kernel
theorem dX1_readValue_149 : decode cX1_readValue 149 = .ok (.getfield 15, 3) := by decide +kernel
theorem dX1_readValue_152 : decode cX1_readValue 152 = .ok (.invokevirtual 29, 3) := by decide +kernel
theorem dX1_readValue_155 : decode cX1_readValue 155 = .ok (.ireturn, 1) := by decide +kernel
theorem dX1_skipBlanks_0 : decode cX1_skipBlanks 0 = .ok (.aload_n 0, 1) := by decide +kernel
theorem dX1_skipBlanks_1 : decode cX1_skipBlanks 1 = .ok (.getfield 15, 3) := by decide +kernel
theorem dX1_skipBlanks_4 : decode cX1_skipBlanks 4 = .ok (.istore_n 1, 1) := by decide +kernel
theorem dX1_skipBlanks_5 : decode cX1_skipBlanks 5 = .ok (.iload_n 1, 1) := by decide +kernel
theorem dX1_skipBlanks_6 : decode cX1_skipBlanks 6 = .ok (.aload_n 0, 1) := by decide +kernel
theorem dX1_skipBlanks_7 : decode cX1_skipBlanks 7 = .ok (.getfield 19, 3) := by decide +kernel
theorem dX1_skipBlanks_10 : decode cX1_skipBlanks 10 = .ok (.invokevirtual 23, 3) := by decide +kernel
theorem dX1_skipBlanks_13 : decode cX1_skipBlanks 13 = .ok (.if_icmp .ge 30, 3) := by decide +kernel
theorem dX1_skipBlanks_16 : decode cX1_skipBlanks 16 = .ok (.aload_n 0, 1) := by decide +kernel
theorem dX1_skipBlanks_17 : decode cX1_skipBlanks 17 = .ok (.getfield 19, 3) := by decide +kernel
theorem dX1_skipBlanks_20 : decode cX1_skipBlanks 20 = .ok (.iload_n 1, 1) := by decide +kernel
theorem dX1_skipBlanks_21 : decode cX1_skipBlanks 21 = .ok (.invokevirtual 33, 3) := by decide +kernel
theorem dX1_skipBlanks_24 : decode cX1_skipBlanks 24 = .ok (.invokestatic 62, 3) := by decide +kernel
theorem dX1_skipBlanks_27 : decode cX1_skipBlanks 27 = .ok (.ifCond .eq 16, 3) := by decide +kernel
theorem dX1_skipBlanks_30 : decode cX1_skipBlanks 30 = .ok (.aload_n 0, 1) := by decide +kernel
theorem dX1_skipBlanks_31 : decode cX1_skipBlanks 31 = .ok (.iload_n 1, 1) := by decide +kernel
theorem dX1_skipBlanks_32 : decode cX1_skipBlanks 32 = .ok (.iconst 1, 1) := by decide +kernel
theorem dX1_skipBlanks_33 : decode cX1_skipBlanks 33 = .ok (.iadd, 1) := by decide +kernel
theorem dX1_skipBlanks_34 : decode cX1_skipBlanks 34 = .ok (.putfield 15, 3) := by decide +kernel
theorem dX1_skipBlanks_37 : decode cX1_skipBlanks 37 = .ok (.iinc 1 1, 3) := by decide +kernel
theorem dX1_skipBlanks_40 : decode cX1_skipBlanks 40 = .ok (.goto (-35), 3) := by decide +kernel
theorem dX1_skipBlanks_43 : decode cX1_skipBlanks 43 = .ok (.return_, 1) := by decide +kernel
theorem dX1_readWord_0 : decode cX1_readWord 0 = .ok (.iconst 0, 1) := by decide +kernel
theorem dX1_readWord_1 : decode cX1_readWord 1 = .ok (.istore_n 3, 1) := by decide +kernel
theorem dX1_readWord_2 : decode cX1_readWord 2 = .ok (.iload_n 3, 1) := by decide +kernel
theorem dX1_readWord_3 : decode cX1_readWord 3 = .ok (.aload_n 1, 1) := by decide +kernel
theorem dX1_readWord_4 : decode cX1_readWord 4 = .ok (.invokevirtual 65, 3) := by decide +kernel
theorem dX1_readWord_7 : decode cX1_readWord 7 = .ok (.if_icmp .ge 48, 3) := by decide +kernel
theorem dX1_readWord_10 : decode cX1_readWord 10 = .ok (.aload_n 0, 1) := by decide +kernel
theorem dX1_readWord_11 : decode cX1_readWord 11 = .ok (.getfield 19, 3) := by decide +kernel
theorem dX1_readWord_14 : decode cX1_readWord 14 = .ok (.aload_n 0, 1) := by decide +kernel
theorem dX1_readWord_15 : decode cX1_readWord 15 = .ok (.getfield 15, 3) := by decide +kernel
theorem dX1_readWord_18 : decode cX1_readWord 18 = .ok (.invokevirtual 33, 3) := by decide +kernel
theorem dX1_readWord_21 : decode cX1_readWord 21 = .ok (.aload_n 1, 1) := by decide +kernel
theorem dX1_readWord_22 : decode cX1_readWord 22 = .ok (.iload_n 3, 1) := by decide +kernel
theorem dX1_readWord_23 : decode cX1_readWord 23 = .ok (.invokevirtual 70, 3) := by decide +kernel
theorem dX1_readWord_26 : decode cX1_readWord 26 = .ok (.if_icmp .eq 13, 3) := by decide +kernel
theorem dX1_readWord_29 : decode cX1_readWord 29 = .ok (.aload_n 0, 1) := by decide +kernel
theorem dX1_readWord_30 : decode cX1_readWord 30 = .ok (.iconst 1, 1) := by decide +kernel
theorem dX1_readWord_31 : decode cX1_readWord 31 = .ok (.aload_n 0, 1) := by decide +kernel
theorem dX1_readWord_32 : decode cX1_readWord 32 = .ok (.getfield 15, 3) := by decide +kernel
theorem dX1_readWord_35 : decode cX1_readWord 35 = .ok (.invokevirtual 29, 3) := by decide +kernel
theorem dX1_readWord_38 : decode cX1_readWord 38 = .ok (.ireturn, 1) := by decide +kernel
theorem dX1_readWord_39 : decode cX1_readWord 39 = .ok (.aload_n 0, 1) := by decide +kernel
theorem dX1_readWord_40 : decode cX1_readWord 40 = .ok (.dup, 1) := by decide +kernel
theorem dX1_readWord_41 : decode cX1_readWord 41 = .ok (.getfield 15, 3) := by decide +kernel
theorem dX1_readWord_44 : decode cX1_readWord 44 = .ok (.iconst 1, 1) := by decide +kernel
theorem dX1_readWord_45 : decode cX1_readWord 45 = .ok (.iadd, 1) := by decide +kernel
theorem dX1_readWord_46 : decode cX1_readWord 46 = .ok (.putfield 15, 3) := by decide +kernel
theorem dX1_readWord_49 : decode cX1_readWord 49 = .ok (.iinc 3 1, 3) := by decide +kernel
theorem dX1_readWord_52 : decode cX1_readWord 52 = .ok (.goto (-50), 3) := by decide +kernel
theorem dX1_readWord_55 : decode cX1_readWord 55 = .ok (.aload_n 0, 1) := by decide +kernel
theorem dX1_readWord_56 : decode cX1_readWord 56 = .ok (.getfield 74, 3) := by decide +kernel
theorem dX1_readWord_59 : decode cX1_readWord 59 = .ok (.bipush 7, 2) := by decide +kernel
theorem dX1_readWord_61 : decode cX1_readWord 61 = .ok (.iload_n 2, 1) := by decide +kernel
theorem dX1_readWord_62 : decode cX1_readWord 62 = .ok (.i2l, 1) := by decide +kernel
theorem dX1_readWord_63 : decode cX1_readWord 63 = .ok (.invokevirtual 77, 3) := by decide +kernel
theorem dX1_readWord_66 : decode cX1_readWord 66 = .ok (.iconst 1, 1) := by decide +kernel
theorem dX1_readWord_67 : decode cX1_readWord 67 = .ok (.ireturn, 1) := by decide +kernel
theorem dX1_readParts_0 : decode cX1_readParts 0 = .ok (.iload_n 3, 1) := by decide +kernel
theorem dX1_readParts_1 : decode cX1_readParts 1 = .ok (.aload_n 0, 1) := by decide +kernel
theorem dX1_readParts_2 : decode cX1_readParts 2 = .ok (.getfield 81, 3) := by decide +kernel
theorem dX1_readParts_5 : decode cX1_readParts 5 = .ok (.if_icmp .lt 13, 3) := by decide +kernel
theorem dX1_readParts_8 : decode cX1_readParts 8 = .ok (.aload_n 0, 1) := by decide +kernel
theorem dX1_readParts_9 : decode cX1_readParts 9 = .ok (.iconst 4, 1) := by decide +kernel
theorem dX1_readParts_10 : decode cX1_readParts 10 = .ok (.aload_n 0, 1) := by decide +kernel
theorem dX1_readParts_11 : decode cX1_readParts 11 = .ok (.getfield 15, 3) := by decide +kernel
theorem dX1_readParts_14 : decode cX1_readParts 14 = .ok (.invokevirtual 29, 3) := by decide +kernel
theorem dX1_readParts_17 : decode cX1_readParts 17 = .ok (.ireturn, 1) := by decide +kernel
theorem dX1_readParts_18 : decode cX1_readParts 18 = .ok (.aload_n 0, 1) := by decide +kernel
theorem dX1_readParts_19 : decode cX1_readParts 19 = .ok (.getfield 74, 3) := by decide +kernel
theorem dX1_readParts_22 : decode cX1_readParts 22 = .ok (.invokevirtual 84, 3) := by decide +kernel
theorem dX1_readParts_25 : decode cX1_readParts 25 = .ok (.istore 4, 2) := by decide +kernel
theorem dX1_readParts_27 : decode cX1_readParts 27 = .ok (.aload_n 0, 1) := by decide +kernel
theorem dX1_readParts_28 : decode cX1_readParts 28 = .ok (.dup, 1) := by decide +kernel
theorem dX1_readParts_29 : decode cX1_readParts 29 = .ok (.getfield 15, 3) := by decide +kernel
theorem dX1_readParts_32 : decode cX1_readParts 32 = .ok (.iconst 1, 1) := by decide +kernel
theorem dX1_readParts_33 : decode cX1_readParts 33 = .ok (.iadd, 1) := by decide +kernel
theorem dX1_readParts_34 : decode cX1_readParts 34 = .ok (.putfield 15, 3) := by decide +kernel
theorem dX1_readParts_37 : decode cX1_readParts 37 = .ok (.aload_n 0, 1) := by decide +kernel
theorem dX1_readParts_38 : decode cX1_readParts 38 = .ok (.invokevirtual 9, 3) := by decide +kernel
theorem dX1_readParts_41 : decode cX1_readParts 41 = .ok (.aload_n 0, 1) := by decide +kernel
theorem dX1_readParts_42 : decode cX1_readParts 42 = .ok (.getfield 19, 3) := by decide +kernel
theorem dX1_readParts_45 : decode cX1_readParts 45 = .ok (.aload_n 0, 1) := by decide +kernel
theorem dX1_readParts_46 : decode cX1_readParts 46 = .ok (.getfield 15, 3) := by decide +kernel
theorem dX1_readParts_49 : decode cX1_readParts 49 = .ok (.invokevirtual 33, 3) := by decide +kernel
theorem dX1_readParts_52 : decode cX1_readParts 52 = .ok (.iload_n 2, 1) := by decide +kernel
theorem dX1_readParts_53 : decode cX1_readParts 53 = .ok (.if_icmp .ne 12, 3) := by decide +kernel
theorem dX1_readParts_56 : decode cX1_readParts 56 = .ok (.aload_n 0, 1) := by decide +kernel
theorem dX1_readParts_57 : decode cX1_readParts 57 = .ok (.iload 4, 2) := by decide +kernel
theorem dX1_readParts_59 : decode cX1_readParts 59 = .ok (.iload_n 1, 1) := by decide +kernel
theorem dX1_readParts_60 : decode cX1_readParts 60 = .ok (.iconst 0, 1) := by decide +kernel
theorem dX1_readParts_61 : decode cX1_readParts 61 = .ok (.invokevirtual 87, 3) := by decide +kernel
theorem dX1_readParts_64 : decode cX1_readParts 64 = .ok (.ireturn, 1) := by decide +kernel
theorem dX1_readParts_65 : decode cX1_readParts 65 = .ok (.iconst 1, 1) := by decide +kernel
theorem dX1_readParts_66 : decode cX1_readParts 66 = .ok (.istore 5, 2) := by decide +kernel
theorem dX1_readParts_68 : decode cX1_readParts 68 = .ok (.iload 5, 2) := by decide +kernel
theorem dX1_readParts_70 : decode cX1_readParts 70 = .ok (.aload_n 0, 1) := by decide +kernel
theorem dX1_readParts_71 : decode cX1_readParts 71 = .ok (.getfield 19, 3) := by decide +kernel
theorem dX1_readParts_74 : decode cX1_readParts 74 = .ok (.invokevirtual 23, 3) := by decide +kernel
theorem dX1_readParts_77 : decode cX1_readParts 77 = .ok (.if_icmp .gt 93, 3) := by decide +kernel
theorem dX1_readParts_80 : decode cX1_readParts 80 = .ok (.iload_n 1, 1) := by decide +kernel
theorem dX1_readParts_81 : decode cX1_readParts 81 = .ok (.iconst 5, 1) := by decide +kernel
theorem dX1_readParts_82 : decode cX1_readParts 82 = .ok (.if_icmp .ne 10, 3) := by decide +kernel
theorem dX1_readParts_85 : decode cX1_readParts 85 = .ok (.aload_n 0, 1) := by decide +kernel
theorem dX1_readParts_86 : decode cX1_readParts 86 = .ok (.invokevirtual 90, 3) := by decide +kernel
theorem dX1_readParts_89 : decode cX1_readParts 89 = .ok (.ifCond .eq 13, 3) := by decide +kernel
theorem dX1_readParts_92 : decode cX1_readParts 92 = .ok (.aload_n 0, 1) := by decide +kernel
theorem dX1_readParts_93 : decode cX1_readParts 93 = .ok (.iload_n 3, 1) := by decide +kernel
theorem dX1_readParts_94 : decode cX1_readParts 94 = .ok (.iconst 1, 1) := by decide +kernel
theorem dX1_readParts_95 : decode cX1_readParts 95 = .ok (.iadd, 1) := by decide +kernel
theorem dX1_readParts_96 : decode cX1_readParts 96 = .ok (.invokevirtual 93, 3) := by decide +kernel
theorem dX1_readParts_99 : decode cX1_readParts 99 = .ok (.ifCond .ne 5, 3) := by decide +kernel
theorem dX1_readParts_102 : decode cX1_readParts 102 = .ok (.iconst 0, 1) := by decide +kernel
theorem dX1_readParts_103 : decode cX1_readParts 103 = .ok (.ireturn, 1) := by decide +kernel
theorem dX1_readParts_104 : decode cX1_readParts 104 = .ok (.aload_n 0, 1) := by decide +kernel
theorem dX1_readParts_105 : decode cX1_readParts 105 = .ok (.invokevirtual 9, 3) := by decide +kernel
theorem dX1_readParts_108 : decode cX1_readParts 108 = .ok (.aload_n 0, 1) := by decide +kernel
theorem dX1_readParts_109 : decode cX1_readParts 109 = .ok (.getfield 19, 3) := by decide +kernel
theorem dX1_readParts_112 : decode cX1_readParts 112 = .ok (.aload_n 0, 1) := by decide +kernel
theorem dX1_readParts_113 : decode cX1_readParts 113 = .ok (.getfield 15, 3) := by decide +kernel
theorem dX1_readParts_116 : decode cX1_readParts 116 = .ok (.invokevirtual 33, 3) := by decide +kernel
theorem dX1_readParts_119 : decode cX1_readParts 119 = .ok (.istore 6, 2) := by decide +kernel
theorem dX1_readParts_121 : decode cX1_readParts 121 = .ok (.iload 6, 2) := by decide +kernel
theorem dX1_readParts_123 : decode cX1_readParts 123 = .ok (.iload_n 2, 1) := by decide +kernel
theorem dX1_readParts_124 : decode cX1_readParts 124 = .ok (.if_icmp .ne 13, 3) := by decide +kernel
theorem dX1_readParts_127 : decode cX1_readParts 127 = .ok (.aload_n 0, 1) := by decide +kernel
theorem dX1_readParts_128 : decode cX1_readParts 128 = .ok (.iload 4, 2) := by decide +kernel
theorem dX1_readParts_130 : decode cX1_readParts 130 = .ok (.iload_n 1, 1) := by decide +kernel
theorem dX1_readParts_131 : decode cX1_readParts 131 = .ok (.iload 5, 2) := by decide +kernel
theorem dX1_readParts_133 : decode cX1_readParts 133 = .ok (.invokevirtual 87, 3) := by decide +kernel
theorem dX1_readParts_136 : decode cX1_readParts 136 = .ok (.ireturn, 1) := by decide +kernel
theorem dX1_readParts_137 : decode cX1_readParts 137 = .ok (.iload 6, 2) := by decide +kernel
theorem dX1_readParts_139 : decode cX1_readParts 139 = .ok (.bipush 44, 2) := by decide +kernel
theorem dX1_readParts_141 : decode cX1_readParts 141 = .ok (.if_icmp .eq 13, 3) := by decide +kernel
theorem dX1_readParts_144 : decode cX1_readParts 144 = .ok (.aload_n 0, 1) := by decide +kernel
theorem dX1_readParts_145 : decode cX1_readParts 145 = .ok (.iconst 1, 1) := by decide +kernel
theorem dX1_readParts_146 : decode cX1_readParts 146 = .ok (.aload_n 0, 1) := by decide +kernel
theorem dX1_readParts_147 : decode cX1_readParts 147 = .ok (.getfield 15, 3) := by decide +kernel
theorem dX1_readParts_150 : decode cX1_readParts 150 = .ok (.invokevirtual 29, 3) := by decide +kernel
theorem dX1_readParts_153 : decode cX1_readParts 153 = .ok (.ireturn, 1) := by decide +kernel
theorem dX1_readParts_154 : decode cX1_readParts 154 = .ok (.aload_n 0, 1) := by decide +kernel
theorem dX1_readParts_155 : decode cX1_readParts 155 = .ok (.dup, 1) := by decide +kernel
theorem dX1_readParts_156 : decode cX1_readParts 156 = .ok (.getfield 15, 3) := by decide +kernel
theorem dX1_readParts_159 : decode cX1_readParts 159 = .ok (.iconst 1, 1) := by decide +kernel
theorem dX1_readParts_160 : decode cX1_readParts 160 = .ok (.iadd, 1) := by decide +kernel
theorem dX1_readParts_161 : decode cX1_readParts 161 = .ok (.putfield 15, 3) := by decide +kernel
theorem dX1_readParts_164 : decode cX1_readParts 164 = .ok (.iinc 5 1, 3) := by decide +kernel
theorem dX1_readParts_167 : decode cX1_readParts 167 = .ok (.goto (-99), 3) := by decide +kernel
theorem dX1_readParts_170 : decode cX1_readParts 170 = .ok (.aload_n 0, 1) := by decide +kernel
theorem dX1_readParts_171 : decode cX1_readParts 171 = .ok (.iconst 1, 1) := by decide +kernel
theorem dX1_readParts_172 : decode cX1_readParts 172 = .ok (.aload_n 0, 1) := by decide +kernel
theorem dX1_readParts_173 : decode cX1_readParts 173 = .ok (.getfield 15, 3) := by decide +kernel
theorem dX1_readParts_176 : decode cX1_readParts 176 = .ok (.invokevirtual 29, 3) := by decide +kernel
theorem dX1_readParts_179 : decode cX1_readParts 179 = .ok (.ireturn, 1) := by decide +kernel
theorem dX1_closeParts_0 : decode cX1_closeParts 0 = .ok (.aload_n 0, 1) := by decide +kernel
theorem dX1_closeParts_1 : decode cX1_closeParts 1 = .ok (.dup, 1) := by decide +kernel
theorem dX1_closeParts_2 : decode cX1_closeParts 2 = .ok (.getfield 15, 3) := by decide +kernel
theorem dX1_closeParts_5 : decode cX1_closeParts 5 = .ok (.iconst 1, 1) := by decide +kernel
theorem dX1_closeParts_6 : decode cX1_closeParts 6 = .ok (.iadd, 1) := by decide +kernel
theorem dX1_closeParts_7 : decode cX1_closeParts 7 = .ok (.putfield 15, 3) := by decide +kernel
theorem dX1_closeParts_10 : decode cX1_closeParts 10 = .ok (.aload_n 0, 1) := by decide +kernel
theorem dX1_closeParts_11 : decode cX1_closeParts 11 = .ok (.getfield 74, 3) := by decide +kernel
theorem dX1_closeParts_14 : decode cX1_closeParts 14 = .ok (.iload_n 1, 1) := by decide +kernel
theorem dX1_closeParts_15 : decode cX1_closeParts 15 = .ok (.iload_n 2, 1) := by decide +kernel
theorem dX1_closeParts_16 : decode cX1_closeParts 16 = .ok (.iload_n 3, 1) := by decide +kernel
theorem dX1_closeParts_17 : decode cX1_closeParts 17 = .ok (.i2l, 1) := by decide +kernel
theorem dX1_closeParts_18 : decode cX1_closeParts 18 = .ok (.invokevirtual 96, 3) := by decide +kernel
theorem dX1_closeParts_21 : decode cX1_closeParts 21 = .ok (.iconst 1, 1) := by decide +kernel
theorem dX1_closeParts_22 : decode cX1_closeParts 22 = .ok (.ireturn, 1) := by decide +kernel
theorem dX1_readKey_0 : decode cX1_readKey 0 = .ok (.aload_n 0, 1) := by decide +kernel
theorem dX1_readKey_1 : decode cX1_readKey 1 = .ok (.invokevirtual 9, 3) := by decide +kernel
theorem dX1_readKey_4 : decode cX1_readKey 4 = .ok (.aload_n 0, 1) := by decide +kernel
theorem dX1_readKey_5 : decode cX1_readKey 5 = .ok (.getfield 19, 3) := by decide +kernel
theorem dX1_readKey_8 : decode cX1_readKey 8 = .ok (.aload_n 0, 1) := by decide +kernel
theorem dX1_readKey_9 : decode cX1_readKey 9 = .ok (.getfield 15, 3) := by decide +kernel
theorem dX1_readKey_12 : decode cX1_readKey 12 = .ok (.invokevirtual 33, 3) := by decide +kernel
theorem dX1_readKey_15 : decode cX1_readKey 15 = .ok (.bipush 34, 2) := by decide +kernel
theorem dX1_readKey_17 : decode cX1_readKey 17 = .ok (.if_icmp .eq 13, 3) := by decide +kernel
theorem dX1_readKey_20 : decode cX1_readKey 20 = .ok (.aload_n 0, 1) := by decide +kernel
theorem dX1_readKey_21 : decode cX1_readKey 21 = .ok (.iconst 1, 1) := by decide +kernel
theorem dX1_readKey_22 : decode cX1_readKey 22 = .ok (.aload_n 0, 1) := by decide +kernel
theorem dX1_readKey_23 : decode cX1_readKey 23 = .ok (.getfield 15, 3) := by decide +kernel
theorem dX1_readKey_26 : decode cX1_readKey 26 = .ok (.invokevirtual 29, 3) := by decide +kernel
theorem dX1_readKey_29 : decode cX1_readKey 29 = .ok (.ireturn, 1) := by decide +kernel
theorem dX1_readKey_30 : decode cX1_readKey 30 = .ok (.aload_n 0, 1) := by decide +kernel
theorem dX1_readKey_31 : decode cX1_readKey 31 = .ok (.invokevirtual 37, 3) := by decide +kernel
theorem dX1_readKey_34 : decode cX1_readKey 34 = .ok (.ifCond .ne 5, 3) := by decide +kernel
theorem dX1_readKey_37 : decode cX1_readKey 37 = .ok (.iconst 0, 1) := by decide +kernel
theorem dX1_readKey_38 : decode cX1_readKey 38 = .ok (.ireturn, 1) := by decide +kernel
theorem dX1_readKey_39 : decode cX1_readKey 39 = .ok (.aload_n 0, 1) := by decide +kernel
theorem dX1_readKey_40 : decode cX1_readKey 40 = .ok (.invokevirtual 9, 3) := by decide +kernel
theorem dX1_readKey_43 : decode cX1_readKey 43 = .ok (.aload_n 0, 1) := by decide +kernel
theorem dX1_readKey_44 : decode cX1_readKey 44 = .ok (.getfield 19, 3) := by decide +kernel
theorem dX1_readKey_47 : decode cX1_readKey 47 = .ok (.aload_n 0, 1) := by decide +kernel
theorem dX1_readKey_48 : decode cX1_readKey 48 = .ok (.getfield 15, 3) := by decide +kernel
theorem dX1_readKey_51 : decode cX1_readKey 51 = .ok (.invokevirtual 33, 3) := by decide +kernel
theorem dX1_readKey_54 : decode cX1_readKey 54 = .ok (.bipush 58, 2) := by decide +kernel
theorem dX1_readKey_56 : decode cX1_readKey 56 = .ok (.if_icmp .eq 13, 3) := by decide +kernel
theorem dX1_readKey_59 : decode cX1_readKey 59 = .ok (.aload_n 0, 1) := by decide +kernel
theorem dX1_readKey_60 : decode cX1_readKey 60 = .ok (.iconst 1, 1) := by decide +kernel
theorem dX1_readKey_61 : decode cX1_readKey 61 = .ok (.aload_n 0, 1) := by decide +kernel
theorem dX1_readKey_62 : decode cX1_readKey 62 = .ok (.getfield 15, 3) := by decide +kernel
theorem dX1_readKey_65 : decode cX1_readKey 65 = .ok (.invokevirtual 29, 3) := by decide +kernel
theorem dX1_readKey_68 : decode cX1_readKey 68 = .ok (.ireturn, 1) := by decide +kernel
theorem dX1_readKey_69 : decode cX1_readKey 69 = .ok (.aload_n 0, 1) := by decide +kernel
theorem dX1_readKey_70 : decode cX1_readKey 70 = .ok (.dup, 1) := by decide +kernel
theorem dX1_readKey_71 : decode cX1_readKey 71 = .ok (.getfield 15, 3) := by decide +kernel
theorem dX1_readKey_74 : decode cX1_readKey 74 = .ok (.iconst 1, 1) := by decide +kernel
theorem dX1_readKey_75 : decode cX1_readKey 75 = .ok (.iadd, 1) := by decide +kernel
theorem dX1_readKey_76 : decode cX1_readKey 76 = .ok (.putfield 15, 3) := by decide +kernel
theorem dX1_readKey_79 : decode cX1_readKey 79 = .ok (.iconst 1, 1) := by decide +kernel
theorem dX1_readKey_80 : decode cX1_readKey 80 = .ok (.ireturn, 1) := by decide +kernel
theorem dX1_readString_0 : decode cX1_readString 0 = .ok (.aload_n 0, 1) := by decide +kernel
theorem dX1_readString_1 : decode cX1_readString 1 = .ok (.getfield 74, 3) := by decide +kernel
theorem dX1_readString_4 : decode cX1_readString 4 = .ok (.invokevirtual 84, 3) := by decide +kernel
theorem dX1_readString_7 : decode cX1_readString 7 = .ok (.istore_n 1, 1) := by decide +kernel
theorem dX1_readString_8 : decode cX1_readString 8 = .ok (.aload_n 0, 1) := by decide +kernel
theorem dX1_readString_9 : decode cX1_readString 9 = .ok (.getfield 74, 3) := by decide +kernel
theorem dX1_readString_12 : decode cX1_readString 12 = .ok (.invokevirtual 23, 3) := by decide +kernel
theorem dX1_readString_15 : decode cX1_readString 15 = .ok (.istore_n 2, 1) := by decide +kernel
theorem dX1_readString_16 : decode cX1_readString 16 = .ok (.aload_n 0, 1) := by decide +kernel
theorem dX1_readString_17 : decode cX1_readString 17 = .ok (.dup, 1) := by decide +kernel
theorem dX1_readString_18 : decode cX1_readString 18 = .ok (.getfield 15, 3) := by decide +kernel
theorem dX1_readString_21 : decode cX1_readString 21 = .ok (.iconst 1, 1) := by decide +kernel
theorem dX1_readString_22 : decode cX1_readString 22 = .ok (.iadd, 1) := by decide +kernel
theorem dX1_readString_23 : decode cX1_readString 23 = .ok (.putfield 15, 3) := by decide +kernel
theorem dX1_readString_26 : decode cX1_readString 26 = .ok (.iconst 0, 1) := by decide +kernel
theorem dX1_readString_27 : decode cX1_readString 27 = .ok (.istore_n 3, 1) := by decide +kernel
theorem dX1_readString_28 : decode cX1_readString 28 = .ok (.iload_n 3, 1) := by decide +kernel
theorem dX1_readString_29 : decode cX1_readString 29 = .ok (.aload_n 0, 1) := by decide +kernel
theorem dX1_readString_30 : decode cX1_readString 30 = .ok (.getfield 19, 3) := by decide +kernel
theorem dX1_readString_33 : decode cX1_readString 33 = .ok (.invokevirtual 23, 3) := by decide +kernel
theorem dX1_readString_36 : decode cX1_readString 36 = .ok (.if_icmp .gt 135, 3) := by decide +kernel
theorem dX1_readString_39 : decode cX1_readString 39 = .ok (.aload_n 0, 1) := by decide +kernel
theorem dX1_readString_40 : decode cX1_readString 40 = .ok (.getfield 19, 3) := by decide +kernel
theorem dX1_readString_43 : decode cX1_readString 43 = .ok (.aload_n 0, 1) := by decide +kernel
theorem dX1_readString_44 : decode cX1_readString 44 = .ok (.getfield 15, 3) := by decide +kernel
theorem dX1_readString_47 : decode cX1_readString 47 = .ok (.invokevirtual 33, 3) := by decide +kernel
theorem dX1_readString_50 : decode cX1_readString 50 = .ok (.istore 4, 2) := by decide +kernel
theorem dX1_readString_52 : decode cX1_readString 52 = .ok (.iload 4, 2) := by decide +kernel
theorem dX1_readString_54 : decode cX1_readString 54 = .ok (.bipush 34, 2) := by decide +kernel
theorem dX1_readString_56 : decode cX1_readString 56 = .ok (.if_icmp .ne 34, 3) := by decide +kernel
theorem dX1_readString_59 : decode cX1_readString 59 = .ok (.aload_n 0, 1) := by decide +kernel
theorem dX1_readString_60 : decode cX1_readString 60 = .ok (.dup, 1) := by decide +kernel
theorem dX1_readString_61 : decode cX1_readString 61 = .ok (.getfield 15, 3) := by decide +kernel
theorem dX1_readString_64 : decode cX1_readString 64 = .ok (.iconst 1, 1) := by decide +kernel
theorem dX1_readString_65 : decode cX1_readString 65 = .ok (.iadd, 1) := by decide +kernel
theorem dX1_readString_66 : decode cX1_readString 66 = .ok (.putfield 15, 3) := by decide +kernel
theorem dX1_readString_69 : decode cX1_readString 69 = .ok (.aload_n 0, 1) := by decide +kernel
theorem dX1_readString_70 : decode cX1_readString 70 = .ok (.getfield 74, 3) := by decide +kernel
theorem dX1_readString_73 : decode cX1_readString 73 = .ok (.iload_n 1, 1) := by decide +kernel
theorem dX1_readString_74 : decode cX1_readString 74 = .ok (.iconst 3, 1) := by decide +kernel
theorem dX1_readString_75 : decode cX1_readString 75 = .ok (.aload_n 0, 1) := by decide +kernel
theorem dX1_readString_76 : decode cX1_readString 76 = .ok (.getfield 74, 3) := by decide +kernel
theorem dX1_readString_79 : decode cX1_readString 79 = .ok (.invokevirtual 23, 3) := by decide +kernel
theorem dX1_readString_82 : decode cX1_readString 82 = .ok (.iload_n 2, 1) := by decide +kernel
theorem dX1_readString_83 : decode cX1_readString 83 = .ok (.isub, 1) := by decide +kernel
theorem dX1_readString_84 : decode cX1_readString 84 = .ok (.i2l, 1) := by decide +kernel
theorem dX1_readString_85 : decode cX1_readString 85 = .ok (.invokevirtual 96, 3) := by decide +kernel
theorem dX1_readString_88 : decode cX1_readString 88 = .ok (.iconst 1, 1) := by decide +kernel
theorem dX1_readString_89 : decode cX1_readString 89 = .ok (.ireturn, 1) := by decide +kernel
theorem dX1_readString_90 : decode cX1_readString 90 = .ok (.iload 4, 2) := by decide +kernel
theorem dX1_readString_92 : decode cX1_readString 92 = .ok (.bipush 92, 2) := by decide +kernel
theorem dX1_readString_94 : decode cX1_readString 94 = .ok (.if_icmp .ne 25, 3) := by decide +kernel
theorem dX1_readString_97 : decode cX1_readString 97 = .ok (.aload_n 0, 1) := by decide +kernel
theorem dX1_readString_98 : decode cX1_readString 98 = .ok (.getfield 19, 3) := by decide +kernel
theorem dX1_readString_101 : decode cX1_readString 101 = .ok (.aload_n 0, 1) := by decide +kernel
theorem dX1_readString_102 : decode cX1_readString 102 = .ok (.getfield 15, 3) := by decide +kernel
theorem dX1_readString_105 : decode cX1_readString 105 = .ok (.iconst 1, 1) := by decide +kernel
theorem dX1_readString_106 : decode cX1_readString 106 = .ok (.iadd, 1) := by decide +kernel
theorem dX1_readString_107 : decode cX1_readString 107 = .ok (.invokevirtual 33, 3) := by decide +kernel
theorem dX1_readString_110 : decode cX1_readString 110 = .ok (.bipush 117, 2) := by decide +kernel
theorem dX1_readString_112 : decode cX1_readString 112 = .ok (.if_icmp .ne 7, 3) := by decide +kernel
theorem dX1_readString_115 : decode cX1_readString 115 = .ok (.iconst 1, 1) := by decide +kernel
theorem dX1_readString_116 : decode cX1_readString 116 = .ok (.goto 4, 3) := by decide +kernel
theorem dX1_readString_119 : decode cX1_readString 119 = .ok (.iconst 0, 1) := by decide +kernel
theorem dX1_readString_120 : decode cX1_readString 120 = .ok (.istore 5, 2) := by decide +kernel
theorem dX1_readString_122 : decode cX1_readString 122 = .ok (.iload 5, 2) := by decide +kernel
theorem dX1_readString_124 : decode cX1_readString 124 = .ok (.ifCond .eq 13, 3) := by decide +kernel
theorem dX1_readString_127 : decode cX1_readString 127 = .ok (.aload_n 0, 1) := by decide +kernel
theorem dX1_readString_128 : decode cX1_readString 128 = .ok (.invokevirtual 100, 3) := by decide +kernel
theorem dX1_readString_131 : decode cX1_readString 131 = .ok (.ifCond .eq 32, 3) := by decide +kernel
theorem dX1_readString_134 : decode cX1_readString 134 = .ok (.goto 31, 3) := by decide +kernel
theorem dX1_readString_137 : decode cX1_readString 137 = .ok (.iload 4, 2) := by decide +kernel
theorem dX1_readString_139 : decode cX1_readString 139 = .ok (.bipush 92, 2) := by decide +kernel
theorem dX1_readString_141 : decode cX1_readString 141 = .ok (.if_icmp .ne 13, 3) := by decide +kernel
theorem dX1_readString_144 : decode cX1_readString 144 = .ok (.aload_n 0, 1) := by decide +kernel
theorem dX1_readString_145 : decode cX1_readString 145 = .ok (.invokevirtual 103, 3) := by decide +kernel
theorem dX1_readString_148 : decode cX1_readString 148 = .ok (.ifCond .eq 15, 3) := by decide +kernel
theorem dX1_readString_151 : decode cX1_readString 151 = .ok (.goto 14, 3) := by decide +kernel
theorem dX1_readString_154 : decode cX1_readString 154 = .ok (.aload_n 0, 1) := by decide +kernel
theorem dX1_readString_155 : decode cX1_readString 155 = .ok (.iload 4, 2) := by decide +kernel
theorem dX1_readString_157 : decode cX1_readString 157 = .ok (.invokevirtual 106, 3) := by decide +kernel
theorem dX1_readString_160 : decode cX1_readString 160 = .ok (.ifCond .ne 5, 3) := by decide +kernel
theorem dX1_readString_163 : decode cX1_readString 163 = .ok (.iconst 0, 1) := by decide +kernel
theorem dX1_readString_164 : decode cX1_readString 164 = .ok (.ireturn, 1) := by decide +kernel
theorem dX1_readString_165 : decode cX1_readString 165 = .ok (.iinc 3 1, 3) := by decide +kernel
theorem dX1_readString_168 : decode cX1_readString 168 = .ok (.goto (-140), 3) := by decide +kernel
theorem dX1_readString_171 : decode cX1_readString 171 = .ok (.aload_n 0, 1) := by decide +kernel
theorem dX1_readString_172 : decode cX1_readString 172 = .ok (.iconst 1, 1) := by decide +kernel
theorem dX1_readString_173 : decode cX1_readString 173 = .ok (.aload_n 0, 1) := by decide +kernel
theorem dX1_readString_174 : decode cX1_readString 174 = .ok (.getfield 15, 3) := by decide +kernel
theorem dX1_readString_177 : decode cX1_readString 177 = .ok (.invokevirtual 29, 3) := by decide +kernel
theorem dX1_readString_180 : decode cX1_readString 180 = .ok (.ireturn, 1) := by decide +kernel
theorem dX1_readPlainSign_0 : decode cX1_readPlainSign 0 = .ok (.iload_n 1, 1) := by decide +kernel
theorem dX1_readPlainSign_1 : decode cX1_readPlainSign 1 = .ok (.bipush 32, 2) := by decide +kernel
theorem dX1_readPlainSign_3 : decode cX1_readPlainSign 3 = .ok (.if_icmp .ge 13, 3) := by decide +kernel
theorem dX1_readPlainSign_6 : decode cX1_readPlainSign 6 = .ok (.aload_n 0, 1) := by decide +kernel
theorem dX1_readPlainSign_7 : decode cX1_readPlainSign 7 = .ok (.iconst 1, 1) := by decide +kernel
theorem dX1_readPlainSign_8 : decode cX1_readPlainSign 8 = .ok (.aload_n 0, 1) := by decide +kernel
theorem dX1_readPlainSign_9 : decode cX1_readPlainSign 9 = .ok (.getfield 15, 3) := by decide +kernel
theorem dX1_readPlainSign_12 : decode cX1_readPlainSign 12 = .ok (.invokevirtual 29, 3) := by decide +kernel
theorem dX1_readPlainSign_15 : decode cX1_readPlainSign 15 = .ok (.ireturn, 1) := by decide +kernel
theorem dX1_readPlainSign_16 : decode cX1_readPlainSign 16 = .ok (.aload_n 0, 1) := by decide +kernel
theorem dX1_readPlainSign_17 : decode cX1_readPlainSign 17 = .ok (.getfield 19, 3) := by decide +kernel
theorem dX1_readPlainSign_20 : decode cX1_readPlainSign 20 = .ok (.aload_n 0, 1) := by decide +kernel
theorem dX1_readPlainSign_21 : decode cX1_readPlainSign 21 = .ok (.getfield 15, 3) := by decide +kernel
theorem dX1_readPlainSign_24 : decode cX1_readPlainSign 24 = .ok (.aload_n 0, 1) := by decide +kernel
theorem dX1_readPlainSign_25 : decode cX1_readPlainSign 25 = .ok (.getfield 19, 3) := by decide +kernel
theorem dX1_readPlainSign_28 : decode cX1_readPlainSign 28 = .ok (.invokevirtual 23, 3) := by decide +kernel
theorem dX1_readPlainSign_31 : decode cX1_readPlainSign 31 = .ok (.invokestatic 109, 3) := by decide +kernel
theorem dX1_readPlainSign_34 : decode cX1_readPlainSign 34 = .ok (.istore_n 2, 1) := by decide +kernel
theorem dX1_readPlainSign_35 : decode cX1_readPlainSign 35 = .ok (.iload_n 2, 1) := by decide +kernel
theorem dX1_readPlainSign_36 : decode cX1_readPlainSign 36 = .ok (.ifCond .ne 13, 3) := by decide +kernel
theorem dX1_readPlainSign_39 : decode cX1_readPlainSign 39 = .ok (.aload_n 0, 1) := by decide +kernel
theorem dX1_readPlainSign_40 : decode cX1_readPlainSign 40 = .ok (.iconst 2, 1) := by decide +kernel
theorem dX1_readPlainSign_41 : decode cX1_readPlainSign 41 = .ok (.aload_n 0, 1) := by decide +kernel
theorem dX1_readPlainSign_42 : decode cX1_readPlainSign 42 = .ok (.getfield 15, 3) := by decide +kernel
theorem dX1_readPlainSign_45 : decode cX1_readPlainSign 45 = .ok (.invokevirtual 29, 3) := by decide +kernel
theorem dX1_readPlainSign_48 : decode cX1_readPlainSign 48 = .ok (.ireturn, 1) := by decide +kernel
theorem dX1_readPlainSign_49 : decode cX1_readPlainSign 49 = .ok (.iconst 0, 1) := by decide +kernel
theorem dX1_readPlainSign_50 : decode cX1_readPlainSign 50 = .ok (.istore_n 3, 1) := by decide +kernel
theorem dX1_readPlainSign_51 : decode cX1_readPlainSign 51 = .ok (.iload_n 3, 1) := by decide +kernel
theorem dX1_readPlainSign_52 : decode cX1_readPlainSign 52 = .ok (.iload_n 2, 1) := by decide +kernel
theorem dX1_readPlainSign_53 : decode cX1_readPlainSign 53 = .ok (.if_icmp .ge 29, 3) := by decide +kernel
theorem dX1_readPlainSign_56 : decode cX1_readPlainSign 56 = .ok (.aload_n 0, 1) := by decide +kernel
theorem dX1_readPlainSign_57 : decode cX1_readPlainSign 57 = .ok (.getfield 74, 3) := by decide +kernel
theorem dX1_readPlainSign_60 : decode cX1_readPlainSign 60 = .ok (.aload_n 0, 1) := by decide +kernel
theorem dX1_readPlainSign_61 : decode cX1_readPlainSign 61 = .ok (.getfield 19, 3) := by decide +kernel
theorem dX1_readPlainSign_64 : decode cX1_readPlainSign 64 = .ok (.aload_n 0, 1) := by decide +kernel
theorem dX1_readPlainSign_65 : decode cX1_readPlainSign 65 = .ok (.getfield 15, 3) := by decide +kernel
theorem dX1_readPlainSign_68 : decode cX1_readPlainSign 68 = .ok (.iload_n 3, 1) := by decide +kernel
theorem dX1_readPlainSign_69 : decode cX1_readPlainSign 69 = .ok (.iadd, 1) := by decide +kernel
theorem dX1_readPlainSign_70 : decode cX1_readPlainSign 70 = .ok (.invokevirtual 33, 3) := by decide +kernel
theorem dX1_readPlainSign_73 : decode cX1_readPlainSign 73 = .ok (.invokevirtual 113, 3) := by decide +kernel
theorem dX1_readPlainSign_76 : decode cX1_readPlainSign 76 = .ok (.iinc 3 1, 3) := by decide +kernel
theorem dX1_readPlainSign_79 : decode cX1_readPlainSign 79 = .ok (.goto (-28), 3) := by decide +kernel
theorem dX1_readPlainSign_82 : decode cX1_readPlainSign 82 = .ok (.aload_n 0, 1) := by decide +kernel
theorem dX1_readPlainSign_83 : decode cX1_readPlainSign 83 = .ok (.dup, 1) := by decide +kernel
theorem dX1_readPlainSign_84 : decode cX1_readPlainSign 84 = .ok (.getfield 15, 3) := by decide +kernel
theorem dX1_readPlainSign_87 : decode cX1_readPlainSign 87 = .ok (.iload_n 2, 1) := by decide +kernel
theorem dX1_readPlainSign_88 : decode cX1_readPlainSign 88 = .ok (.iadd, 1) := by decide +kernel
theorem dX1_readPlainSign_89 : decode cX1_readPlainSign 89 = .ok (.putfield 15, 3) := by decide +kernel
theorem dX1_readPlainSign_92 : decode cX1_readPlainSign 92 = .ok (.iconst 1, 1) := by decide +kernel
theorem dX1_readPlainSign_93 : decode cX1_readPlainSign 93 = .ok (.ireturn, 1) := by decide +kernel
theorem dX1_readLetter_0 : decode cX1_readLetter 0 = .ok (.aload_n 0, 1) := by decide +kernel
theorem dX1_readLetter_1 : decode cX1_readLetter 1 = .ok (.getfield 19, 3) := by decide +kernel
theorem dX1_readLetter_4 : decode cX1_readLetter 4 = .ok (.aload_n 0, 1) := by decide +kernel
theorem dX1_readLetter_5 : decode cX1_readLetter 5 = .ok (.getfield 15, 3) := by decide +kernel
theorem dX1_readLetter_8 : decode cX1_readLetter 8 = .ok (.iconst 1, 1) := by decide +kernel
theorem dX1_readLetter_9 : decode cX1_readLetter 9 = .ok (.iadd, 1) := by decide +kernel
theorem dX1_readLetter_10 : decode cX1_readLetter 10 = .ok (.invokevirtual 33, 3) := by decide +kernel
theorem dX1_readLetter_13 : decode cX1_readLetter 13 = .ok (.invokestatic 117, 3) := by decide +kernel
theorem dX1_readLetter_16 : decode cX1_readLetter 16 = .ok (.istore_n 1, 1) := by decide +kernel
theorem dX1_readLetter_17 : decode cX1_readLetter 17 = .ok (.iload_n 1, 1) := by decide +kernel
theorem dX1_readLetter_18 : decode cX1_readLetter 18 = .ok (.iconst (-1), 1) := by decide +kernel
theorem dX1_readLetter_19 : decode cX1_readLetter 19 = .ok (.if_icmp .ne 15, 3) := by decide +kernel
theorem dX1_readLetter_22 : decode cX1_readLetter 22 = .ok (.aload_n 0, 1) := by decide +kernel
theorem dX1_readLetter_23 : decode cX1_readLetter 23 = .ok (.iconst 1, 1) := by decide +kernel
theorem dX1_readLetter_24 : decode cX1_readLetter 24 = .ok (.aload_n 0, 1) := by decide +kernel
theorem dX1_readLetter_25 : decode cX1_readLetter 25 = .ok (.getfield 15, 3) := by decide +kernel
theorem dX1_readLetter_28 : decode cX1_readLetter 28 = .ok (.iconst 1, 1) := by decide +kernel
theorem dX1_readLetter_29 : decode cX1_readLetter 29 = .ok (.iadd, 1) := by decide +kernel
theorem dX1_readLetter_30 : decode cX1_readLetter 30 = .ok (.invokevirtual 29, 3) := by decide +kernel
theorem dX1_readLetter_33 : decode cX1_readLetter 33 = .ok (.ireturn, 1) := by decide +kernel
theorem dX1_readLetter_34 : decode cX1_readLetter 34 = .ok (.aload_n 0, 1) := by decide +kernel
theorem dX1_readLetter_35 : decode cX1_readLetter 35 = .ok (.getfield 74, 3) := by decide +kernel
theorem dX1_readLetter_38 : decode cX1_readLetter 38 = .ok (.iload_n 1, 1) := by decide +kernel
theorem dX1_readLetter_39 : decode cX1_readLetter 39 = .ok (.invokevirtual 113, 3) := by decide +kernel
theorem dX1_readLetter_42 : decode cX1_readLetter 42 = .ok (.aload_n 0, 1) := by decide +kernel
theorem dX1_readLetter_43 : decode cX1_readLetter 43 = .ok (.dup, 1) := by decide +kernel
theorem dX1_readLetter_44 : decode cX1_readLetter 44 = .ok (.getfield 15, 3) := by decide +kernel
theorem dX1_readLetter_47 : decode cX1_readLetter 47 = .ok (.iconst 2, 1) := by decide +kernel
theorem dX1_readLetter_48 : decode cX1_readLetter 48 = .ok (.iadd, 1) := by decide +kernel
theorem dX1_readLetter_49 : decode cX1_readLetter 49 = .ok (.putfield 15, 3) := by decide +kernel
theorem dX1_readLetter_52 : decode cX1_readLetter 52 = .ok (.iconst 1, 1) := by decide +kernel
theorem dX1_readLetter_53 : decode cX1_readLetter 53 = .ok (.ireturn, 1) := by decide +kernel
theorem dX1_signOf_0 : decode cX1_signOf 0 = .ok (.iload_n 0, 1) := by decide +kernel
theorem dX1_signOf_1 : decode cX1_signOf 1 = .ok (.lookupswitch 92 #[(34, 75), (47, 75), (92, 75), (98, 77), (102, 80), (110, 83), (114, 86), (116, 89)], 75) := by decide +kernel
theorem dX1_signOf_76 : decode cX1_signOf 76 = .ok (.iload_n 0, 1) := by decide +kernel
theorem dX1_signOf_77 : decode cX1_signOf 77 = .ok (.ireturn, 1) := by decide +kernel
theorem dX1_signOf_78 : decode cX1_signOf 78 = .ok (.bipush 8, 2) := by decide +kernel
theorem dX1_signOf_80 : decode cX1_signOf 80 = .ok (.ireturn, 1) := by decide +kernel
theorem dX1_signOf_81 : decode cX1_signOf 81 = .ok (.bipush 12, 2) := by decide +kernel
theorem dX1_signOf_83 : decode cX1_signOf 83 = .ok (.ireturn, 1) := by decide +kernel
theorem dX1_signOf_84 : decode cX1_signOf 84 = .ok (.bipush 10, 2) := by decide +kernel
theorem dX1_signOf_86 : decode cX1_signOf 86 = .ok (.ireturn, 1) := by decide +kernel
theorem dX1_signOf_87 : decode cX1_signOf 87 = .ok (.bipush 13, 2) := by decide +kernel
theorem dX1_signOf_89 : decode cX1_signOf 89 = .ok (.ireturn, 1) := by decide +kernel
theorem dX1_signOf_90 : decode cX1_signOf 90 = .ok (.bipush 9, 2) := by decide +kernel
theorem dX1_signOf_92 : decode cX1_signOf 92 = .ok (.ireturn, 1) := by decide +kernel
theorem dX1_signOf_93 : decode cX1_signOf 93 = .ok (.iconst (-1), 1) := by decide +kernel
theorem dX1_signOf_94 : decode cX1_signOf 94 = .ok (.ireturn, 1) := by decide +kernel
theorem dX1_readNumberedSign_0 : decode cX1_readNumberedSign 0 = .ok (.aload_n 0, 1) := by decide +kernel
theorem dX1_readNumberedSign_1 : decode cX1_readNumberedSign 1 = .ok (.getfield 15, 3) := by decide +kernel
theorem dX1_readNumberedSign_4 : decode cX1_readNumberedSign 4 = .ok (.iconst 2, 1) := by decide +kernel
theorem dX1_readNumberedSign_5 : decode cX1_readNumberedSign 5 = .ok (.iadd, 1) := by decide +kernel
theorem dX1_readNumberedSign_6 : decode cX1_readNumberedSign 6 = .ok (.istore_n 1, 1) := by decide +kernel
theorem dX1_readNumberedSign_7 : decode cX1_readNumberedSign 7 = .ok (.iload_n 1, 1) := by decide +kernel
theorem dX1_readNumberedSign_8 : decode cX1_readNumberedSign 8 = .ok (.aload_n 0, 1) := by decide +kernel
theorem dX1_readNumberedSign_9 : decode cX1_readNumberedSign 9 = .ok (.getfield 15, 3) := by decide +kernel
theorem dX1_readNumberedSign_12 : decode cX1_readNumberedSign 12 = .ok (.bipush 6, 2) := by decide +kernel
theorem dX1_readNumberedSign_14 : decode cX1_readNumberedSign 14 = .ok (.iadd, 1) := by decide +kernel
theorem dX1_readNumberedSign_15 : decode cX1_readNumberedSign 15 = .ok (.if_icmp .ge 31, 3) := by decide +kernel
theorem dX1_readNumberedSign_18 : decode cX1_readNumberedSign 18 = .ok (.aload_n 0, 1) := by decide +kernel
theorem dX1_readNumberedSign_19 : decode cX1_readNumberedSign 19 = .ok (.getfield 19, 3) := by decide +kernel
theorem dX1_readNumberedSign_22 : decode cX1_readNumberedSign 22 = .ok (.iload_n 1, 1) := by decide +kernel
theorem dX1_readNumberedSign_23 : decode cX1_readNumberedSign 23 = .ok (.invokevirtual 33, 3) := by decide +kernel
theorem dX1_readNumberedSign_26 : decode cX1_readNumberedSign 26 = .ok (.invokestatic 120, 3) := by decide +kernel
theorem dX1_readNumberedSign_29 : decode cX1_readNumberedSign 29 = .ok (.iconst (-1), 1) := by decide +kernel
theorem dX1_readNumberedSign_30 : decode cX1_readNumberedSign 30 = .ok (.if_icmp .ne 10, 3) := by decide +kernel
theorem dX1_readNumberedSign_33 : decode cX1_readNumberedSign 33 = .ok (.aload_n 0, 1) := by decide +kernel
theorem dX1_readNumberedSign_34 : decode cX1_readNumberedSign 34 = .ok (.iconst 1, 1) := by decide +kernel
theorem dX1_readNumberedSign_35 : decode cX1_readNumberedSign 35 = .ok (.iload_n 1, 1) := by decide +kernel
theorem dX1_readNumberedSign_36 : decode cX1_readNumberedSign 36 = .ok (.invokevirtual 29, 3) := by decide +kernel
theorem dX1_readNumberedSign_39 : decode cX1_readNumberedSign 39 = .ok (.ireturn, 1) := by decide +kernel
theorem dX1_readNumberedSign_40 : decode cX1_readNumberedSign 40 = .ok (.iinc 1 1, 3) := by decide +kernel
theorem dX1_readNumberedSign_43 : decode cX1_readNumberedSign 43 = .ok (.goto (-36), 3) := by decide +kernel
theorem dX1_readNumberedSign_46 : decode cX1_readNumberedSign 46 = .ok (.aload_n 0, 1) := by decide +kernel
theorem dX1_readNumberedSign_47 : decode cX1_readNumberedSign 47 = .ok (.aload_n 0, 1) := by decide +kernel
theorem dX1_readNumberedSign_48 : decode cX1_readNumberedSign 48 = .ok (.getfield 15, 3) := by decide +kernel
theorem dX1_readNumberedSign_51 : decode cX1_readNumberedSign 51 = .ok (.invokevirtual 123, 3) := by decide +kernel
theorem dX1_readNumberedSign_54 : decode cX1_readNumberedSign 54 = .ok (.istore_n 1, 1) := by decide +kernel
theorem dX1_readNumberedSign_55 : decode cX1_readNumberedSign 55 = .ok (.iload_n 1, 1) := by decide +kernel
theorem dX1_readNumberedSign_56 : decode cX1_readNumberedSign 56 = .ok (.invokestatic 126, 3) := by decide +kernel
theorem dX1_readNumberedSign_59 : decode cX1_readNumberedSign 59 = .ok (.ifCond .eq 13, 3) := by decide +kernel
theorem dX1_readNumberedSign_62 : decode cX1_readNumberedSign 62 = .ok (.aload_n 0, 1) := by decide +kernel
theorem dX1_readNumberedSign_63 : decode cX1_readNumberedSign 63 = .ok (.iconst 2, 1) := by decide +kernel
theorem dX1_readNumberedSign_64 : decode cX1_readNumberedSign 64 = .ok (.aload_n 0, 1) := by decide +kernel
theorem dX1_readNumberedSign_65 : decode cX1_readNumberedSign 65 = .ok (.getfield 15, 3) := by decide +kernel
theorem dX1_readNumberedSign_68 : decode cX1_readNumberedSign 68 = .ok (.invokevirtual 29, 3) := by decide +kernel
theorem dX1_readNumberedSign_71 : decode cX1_readNumberedSign 71 = .ok (.ireturn, 1) := by decide +kernel
theorem dX1_readNumberedSign_72 : decode cX1_readNumberedSign 72 = .ok (.iload_n 1, 1) := by decide +kernel
theorem dX1_readNumberedSign_73 : decode cX1_readNumberedSign 73 = .ok (.invokestatic 129, 3) := by decide +kernel
theorem dX1_readNumberedSign_76 : decode cX1_readNumberedSign 76 = .ok (.ifCond .ne 21, 3) := by decide +kernel
theorem dX1_readNumberedSign_79 : decode cX1_readNumberedSign 79 = .ok (.aload_n 0, 1) := by decide +kernel
theorem dX1_readNumberedSign_80 : decode cX1_readNumberedSign 80 = .ok (.iload_n 1, 1) := by decide +kernel
theorem dX1_readNumberedSign_81 : decode cX1_readNumberedSign 81 = .ok (.invokevirtual 132, 3) := by decide +kernel
theorem dX1_readNumberedSign_84 : decode cX1_readNumberedSign 84 = .ok (.aload_n 0, 1) := by decide +kernel
theorem dX1_readNumberedSign_85 : decode cX1_readNumberedSign 85 = .ok (.dup, 1) := by decide +kernel
theorem dX1_readNumberedSign_86 : decode cX1_readNumberedSign 86 = .ok (.getfield 15, 3) := by decide +kernel
theorem dX1_readNumberedSign_89 : decode cX1_readNumberedSign 89 = .ok (.bipush 6, 2) := by decide +kernel
theorem dX1_readNumberedSign_91 : decode cX1_readNumberedSign 91 = .ok (.iadd, 1) := by decide +kernel
theorem dX1_readNumberedSign_92 : decode cX1_readNumberedSign 92 = .ok (.putfield 15, 3) := by decide +kernel
theorem dX1_readNumberedSign_95 : decode cX1_readNumberedSign 95 = .ok (.iconst 1, 1) := by decide +kernel
theorem dX1_readNumberedSign_96 : decode cX1_readNumberedSign 96 = .ok (.ireturn, 1) := by decide +kernel
theorem dX1_readNumberedSign_97 : decode cX1_readNumberedSign 97 = .ok (.aload_n 0, 1) := by decide +kernel
theorem dX1_readNumberedSign_98 : decode cX1_readNumberedSign 98 = .ok (.aload_n 0, 1) := by decide +kernel
theorem dX1_readNumberedSign_99 : decode cX1_readNumberedSign 99 = .ok (.getfield 15, 3) := by decide +kernel
theorem dX1_readNumberedSign_102 : decode cX1_readNumberedSign 102 = .ok (.bipush 6, 2) := by decide +kernel
theorem dX1_readNumberedSign_104 : decode cX1_readNumberedSign 104 = .ok (.iadd, 1) := by decide +kernel
theorem dX1_readNumberedSign_105 : decode cX1_readNumberedSign 105 = .ok (.invokevirtual 123, 3) := by decide +kernel
theorem dX1_readNumberedSign_108 : decode cX1_readNumberedSign 108 = .ok (.istore_n 2, 1) := by decide +kernel
theorem dX1_readNumberedSign_109 : decode cX1_readNumberedSign 109 = .ok (.iload_n 2, 1) := by decide +kernel
theorem dX1_readNumberedSign_110 : decode cX1_readNumberedSign 110 = .ok (.invokestatic 126, 3) := by decide +kernel
theorem dX1_readNumberedSign_113 : decode cX1_readNumberedSign 113 = .ok (.ifCond .ne 13, 3) := by decide +kernel
theorem dX1_readNumberedSign_116 : decode cX1_readNumberedSign 116 = .ok (.aload_n 0, 1) := by decide +kernel
theorem dX1_readNumberedSign_117 : decode cX1_readNumberedSign 117 = .ok (.iconst 2, 1) := by decide +kernel
theorem dX1_readNumberedSign_118 : decode cX1_readNumberedSign 118 = .ok (.aload_n 0, 1) := by decide +kernel
theorem dX1_readNumberedSign_119 : decode cX1_readNumberedSign 119 = .ok (.getfield 15, 3) := by decide +kernel
theorem dX1_readNumberedSign_122 : decode cX1_readNumberedSign 122 = .ok (.invokevirtual 29, 3) := by decide +kernel
theorem dX1_readNumberedSign_125 : decode cX1_readNumberedSign 125 = .ok (.ireturn, 1) := by decide +kernel
theorem dX1_readNumberedSign_126 : decode cX1_readNumberedSign 126 = .ok (.aload_n 0, 1) := by decide +kernel
theorem dX1_readNumberedSign_127 : decode cX1_readNumberedSign 127 = .ok (.ldc 135, 2) := by decide +kernel
theorem dX1_readNumberedSign_129 : decode cX1_readNumberedSign 129 = .ok (.iload_n 1, 1) := by decide +kernel
theorem dX1_readNumberedSign_130 : decode cX1_readNumberedSign 130 = .ok (.ldc 136, 2) := by decide +kernel
theorem dX1_readNumberedSign_132 : decode cX1_readNumberedSign 132 = .ok (.isub, 1) := by decide +kernel
theorem dX1_readNumberedSign_133 : decode cX1_readNumberedSign 133 = .ok (.bipush 10, 2) := by decide +kernel
theorem dX1_readNumberedSign_135 : decode cX1_readNumberedSign 135 = .ok (.ishl, 1) := by decide +kernel
theorem dX1_readNumberedSign_136 : decode cX1_readNumberedSign 136 = .ok (.iadd, 1) := by decide +kernel
theorem dX1_readNumberedSign_137 : decode cX1_readNumberedSign 137 = .ok (.iload_n 2, 1) := by decide +kernel
theorem dX1_readNumberedSign_138 : decode cX1_readNumberedSign 138 = .ok (.ldc 137, 2) := by decide +kernel
theorem dX1_readNumberedSign_140 : decode cX1_readNumberedSign 140 = .ok (.isub, 1) := by decide +kernel
theorem dX1_readNumberedSign_141 : decode cX1_readNumberedSign 141 = .ok (.iadd, 1) := by decide +kernel
theorem dX1_readNumberedSign_142 : decode cX1_readNumberedSign 142 = .ok (.invokevirtual 132, 3) := by decide +kernel
theorem dX1_readNumberedSign_145 : decode cX1_readNumberedSign 145 = .ok (.aload_n 0, 1) := by decide +kernel
theorem dX1_readNumberedSign_146 : decode cX1_readNumberedSign 146 = .ok (.dup, 1) := by decide +kernel
theorem dX1_readNumberedSign_147 : decode cX1_readNumberedSign 147 = .ok (.getfield 15, 3) := by decide +kernel
theorem dX1_readNumberedSign_150 : decode cX1_readNumberedSign 150 = .ok (.bipush 12, 2) := by decide +kernel
theorem dX1_readNumberedSign_152 : decode cX1_readNumberedSign 152 = .ok (.iadd, 1) := by decide +kernel
theorem dX1_readNumberedSign_153 : decode cX1_readNumberedSign 153 = .ok (.putfield 15, 3) := by decide +kernel
theorem dX1_readNumberedSign_156 : decode cX1_readNumberedSign 156 = .ok (.iconst 1, 1) := by decide +kernel
theorem dX1_readNumberedSign_157 : decode cX1_readNumberedSign 157 = .ok (.ireturn, 1) := by decide +kernel
theorem dX1_codeOfEscape_0 : decode cX1_codeOfEscape 0 = .ok (.aload_n 0, 1) := by decide +kernel
theorem dX1_codeOfEscape_1 : decode cX1_codeOfEscape 1 = .ok (.getfield 19, 3) := by decide +kernel
theorem dX1_codeOfEscape_4 : decode cX1_codeOfEscape 4 = .ok (.iload_n 1, 1) := by decide +kernel
theorem dX1_codeOfEscape_5 : decode cX1_codeOfEscape 5 = .ok (.invokevirtual 33, 3) := by decide +kernel
theorem dX1_codeOfEscape_8 : decode cX1_codeOfEscape 8 = .ok (.bipush 92, 2) := by decide +kernel
theorem dX1_codeOfEscape_10 : decode cX1_codeOfEscape 10 = .ok (.if_icmp .ne 18, 3) := by decide +kernel
theorem dX1_codeOfEscape_13 : decode cX1_codeOfEscape 13 = .ok (.aload_n 0, 1) := by decide +kernel
theorem dX1_codeOfEscape_14 : decode cX1_codeOfEscape 14 = .ok (.getfield 19, 3) := by decide +kernel
theorem dX1_codeOfEscape_17 : decode cX1_codeOfEscape 17 = .ok (.iload_n 1, 1) := by decide +kernel
theorem dX1_codeOfEscape_18 : decode cX1_codeOfEscape 18 = .ok (.iconst 1, 1) := by decide +kernel
theorem dX1_codeOfEscape_19 : decode cX1_codeOfEscape 19 = .ok (.iadd, 1) := by decide +kernel
theorem dX1_codeOfEscape_20 : decode cX1_codeOfEscape 20 = .ok (.invokevirtual 33, 3) := by decide +kernel
theorem dX1_codeOfEscape_23 : decode cX1_codeOfEscape 23 = .ok (.bipush 117, 2) := by decide +kernel
theorem dX1_codeOfEscape_25 : decode cX1_codeOfEscape 25 = .ok (.if_icmp .eq 5, 3) := by decide +kernel
theorem dX1_codeOfEscape_28 : decode cX1_codeOfEscape 28 = .ok (.iconst (-1), 1) := by decide +kernel
theorem dX1_codeOfEscape_29 : decode cX1_codeOfEscape 29 = .ok (.ireturn, 1) := by decide +kernel
theorem dX1_codeOfEscape_30 : decode cX1_codeOfEscape 30 = .ok (.iconst 0, 1) := by decide +kernel
theorem dX1_codeOfEscape_31 : decode cX1_codeOfEscape 31 = .ok (.istore_n 2, 1) := by decide +kernel
theorem dX1_codeOfEscape_32 : decode cX1_codeOfEscape 32 = .ok (.iload_n 1, 1) := by decide +kernel
theorem dX1_codeOfEscape_33 : decode cX1_codeOfEscape 33 = .ok (.iconst 2, 1) := by decide +kernel
theorem dX1_codeOfEscape_34 : decode cX1_codeOfEscape 34 = .ok (.iadd, 1) := by decide +kernel
theorem dX1_codeOfEscape_35 : decode cX1_codeOfEscape 35 = .ok (.istore_n 3, 1) := by decide +kernel
theorem dX1_codeOfEscape_36 : decode cX1_codeOfEscape 36 = .ok (.iload_n 3, 1) := by decide +kernel
theorem dX1_codeOfEscape_37 : decode cX1_codeOfEscape 37 = .ok (.iload_n 1, 1) := by decide +kernel
theorem dX1_codeOfEscape_38 : decode cX1_codeOfEscape 38 = .ok (.bipush 6, 2) := by decide +kernel
theorem dX1_codeOfEscape_40 : decode cX1_codeOfEscape 40 = .ok (.iadd, 1) := by decide +kernel
theorem dX1_codeOfEscape_41 : decode cX1_codeOfEscape 41 = .ok (.if_icmp .ge 38, 3) := by decide +kernel
theorem dX1_codeOfEscape_44 : decode cX1_codeOfEscape 44 = .ok (.aload_n 0, 1) := by decide +kernel
theorem dX1_codeOfEscape_45 : decode cX1_codeOfEscape 45 = .ok (.getfield 19, 3) := by decide +kernel
theorem dX1_codeOfEscape_48 : decode cX1_codeOfEscape 48 = .ok (.iload_n 3, 1) := by decide +kernel
theorem dX1_codeOfEscape_49 : decode cX1_codeOfEscape 49 = .ok (.invokevirtual 33, 3) := by decide +kernel
theorem dX1_codeOfEscape_52 : decode cX1_codeOfEscape 52 = .ok (.invokestatic 120, 3) := by decide +kernel
theorem dX1_codeOfEscape_55 : decode cX1_codeOfEscape 55 = .ok (.istore 4, 2) := by decide +kernel
theorem dX1_codeOfEscape_57 : decode cX1_codeOfEscape 57 = .ok (.iload 4, 2) := by decide +kernel
theorem dX1_codeOfEscape_59 : decode cX1_codeOfEscape 59 = .ok (.iconst (-1), 1) := by decide +kernel
theorem dX1_codeOfEscape_60 : decode cX1_codeOfEscape 60 = .ok (.if_icmp .ne 5, 3) := by decide +kernel
theorem dX1_codeOfEscape_63 : decode cX1_codeOfEscape 63 = .ok (.iconst (-1), 1) := by decide +kernel
theorem dX1_codeOfEscape_64 : decode cX1_codeOfEscape 64 = .ok (.ireturn, 1) := by decide +kernel
theorem dX1_codeOfEscape_65 : decode cX1_codeOfEscape 65 = .ok (.iload_n 2, 1) := by decide +kernel
theorem dX1_codeOfEscape_66 : decode cX1_codeOfEscape 66 = .ok (.bipush 16, 2) := by decide +kernel
theorem dX1_codeOfEscape_68 : decode cX1_codeOfEscape 68 = .ok (.imul, 1) := by decide +kernel
theorem dX1_codeOfEscape_69 : decode cX1_codeOfEscape 69 = .ok (.iload 4, 2) := by decide +kernel
theorem dX1_codeOfEscape_71 : decode cX1_codeOfEscape 71 = .ok (.iadd, 1) := by decide +kernel
theorem dX1_codeOfEscape_72 : decode cX1_codeOfEscape 72 = .ok (.istore_n 2, 1) := by decide +kernel
theorem dX1_codeOfEscape_73 : decode cX1_codeOfEscape 73 = .ok (.iinc 3 1, 3) := by decide +kernel
theorem dX1_codeOfEscape_76 : decode cX1_codeOfEscape 76 = .ok (.goto (-40), 3) := by decide +kernel
theorem dX1_codeOfEscape_79 : decode cX1_codeOfEscape 79 = .ok (.iload_n 2, 1) := by decide +kernel
theorem dX1_codeOfEscape_80 : decode cX1_codeOfEscape 80 = .ok (.ireturn, 1) := by decide +kernel
theorem dX1_putSign_0 : decode cX1_putSign 0 = .ok (.iload_n 1, 1) := by decide +kernel
theorem dX1_putSign_1 : decode cX1_putSign 1 = .ok (.sipush 128, 3) := by decide +kernel
theorem dX1_putSign_4 : decode cX1_putSign 4 = .ok (.if_icmp .ge 12, 3) := by decide +kernel
theorem dX1_putSign_7 : decode cX1_putSign 7 = .ok (.aload_n 0, 1) := by decide +kernel
theorem dX1_putSign_8 : decode cX1_putSign 8 = .ok (.getfield 74, 3) := by decide +kernel
theorem dX1_putSign_11 : decode cX1_putSign 11 = .ok (.iload_n 1, 1) := by decide +kernel
theorem dX1_putSign_12 : decode cX1_putSign 12 = .ok (.invokevirtual 113, 3) := by decide +kernel
theorem dX1_putSign_15 : decode cX1_putSign 15 = .ok (.return_, 1) := by decide +kernel
theorem dX1_putSign_16 : decode cX1_putSign 16 = .ok (.iload_n 1, 1) := by decide +kernel
theorem dX1_putSign_17 : decode cX1_putSign 17 = .ok (.sipush 2048, 3) := by decide +kernel
theorem dX1_putSign_20 : decode cX1_putSign 20 = .ok (.if_icmp .ge 7, 3) := by decide +kernel
theorem dX1_putSign_23 : decode cX1_putSign 23 = .ok (.iconst 1, 1) := by decide +kernel
theorem dX1_putSign_24 : decode cX1_putSign 24 = .ok (.goto 14, 3) := by decide +kernel
theorem dX1_putSign_27 : decode cX1_putSign 27 = .ok (.iload_n 1, 1) := by decide +kernel
theorem dX1_putSign_28 : decode cX1_putSign 28 = .ok (.ldc 135, 2) := by decide +kernel
theorem dX1_putSign_30 : decode cX1_putSign 30 = .ok (.if_icmp .ge 7, 3) := by decide +kernel
theorem dX1_putSign_33 : decode cX1_putSign 33 = .ok (.iconst 2, 1) := by decide +kernel
theorem dX1_putSign_34 : decode cX1_putSign 34 = .ok (.goto 4, 3) := by decide +kernel
theorem dX1_putSign_37 : decode cX1_putSign 37 = .ok (.iconst 3, 1) := by decide +kernel
theorem dX1_putSign_38 : decode cX1_putSign 38 = .ok (.istore_n 2, 1) := by decide +kernel
theorem dX1_putSign_39 : decode cX1_putSign 39 = .ok (.aload_n 0, 1) := by decide +kernel
theorem dX1_putSign_40 : decode cX1_putSign 40 = .ok (.getfield 74, 3) := by decide +kernel
theorem dX1_putSign_43 : decode cX1_putSign 43 = .ok (.ldc 138, 2) := by decide +kernel
theorem dX1_putSign_45 : decode cX1_putSign 45 = .ok (.iload_n 2, 1) := by decide +kernel
theorem dX1_putSign_46 : decode cX1_putSign 46 = .ok (.iconst 1, 1) := by decide +kernel
theorem dX1_putSign_47 : decode cX1_putSign 47 = .ok (.iadd, 1) := by decide +kernel
theorem dX1_putSign_48 : decode cX1_putSign 48 = .ok (.ishr, 1) := by decide +kernel
theorem dX1_putSign_49 : decode cX1_putSign 49 = .ok (.iload_n 1, 1) := by decide +kernel
theorem dX1_putSign_50 : decode cX1_putSign 50 = .ok (.bipush 6, 2) := by decide +kernel
theorem dX1_putSign_52 : decode cX1_putSign 52 = .ok (.iload_n 2, 1) := by decide +kernel
theorem dX1_putSign_53 : decode cX1_putSign 53 = .ok (.imul, 1) := by decide +kernel
theorem dX1_putSign_54 : decode cX1_putSign 54 = .ok (.ishr, 1) := by decide +kernel
theorem dX1_putSign_55 : decode cX1_putSign 55 = .ok (.ior, 1) := by decide +kernel
theorem dX1_putSign_56 : decode cX1_putSign 56 = .ok (.invokevirtual 113, 3) := by decide +kernel
theorem dX1_putSign_59 : decode cX1_putSign 59 = .ok (.iload_n 2, 1) := by decide +kernel
theorem dX1_putSign_60 : decode cX1_putSign 60 = .ok (.iconst 1, 1) := by decide +kernel
theorem dX1_putSign_61 : decode cX1_putSign 61 = .ok (.isub, 1) := by decide +kernel
theorem dX1_putSign_62 : decode cX1_putSign 62 = .ok (.istore_n 3, 1) := by decide +kernel
theorem dX1_putSign_63 : decode cX1_putSign 63 = .ok (.iload_n 3, 1) := by decide +kernel
theorem dX1_putSign_64 : decode cX1_putSign 64 = .ok (.ifCond .lt 29, 3) := by decide +kernel
theorem dX1_putSign_67 : decode cX1_putSign 67 = .ok (.aload_n 0, 1) := by decide +kernel
theorem dX1_putSign_68 : decode cX1_putSign 68 = .ok (.getfield 74, 3) := by decide +kernel
theorem dX1_putSign_71 : decode cX1_putSign 71 = .ok (.sipush 128, 3) := by decide +kernel
theorem dX1_putSign_74 : decode cX1_putSign 74 = .ok (.iload_n 1, 1) := by decide +kernel
theorem dX1_putSign_75 : decode cX1_putSign 75 = .ok (.bipush 6, 2) := by decide +kernel
theorem dX1_putSign_77 : decode cX1_putSign 77 = .ok (.iload_n 3, 1) := by decide +kernel
theorem dX1_putSign_78 : decode cX1_putSign 78 = .ok (.imul, 1) := by decide +kernel
theorem dX1_putSign_79 : decode cX1_putSign 79 = .ok (.ishr, 1) := by decide +kernel
theorem dX1_putSign_80 : decode cX1_putSign 80 = .ok (.bipush 63, 2) := by decide +kernel
theorem dX1_putSign_82 : decode cX1_putSign 82 = .ok (.iand, 1) := by decide +kernel
theorem dX1_putSign_83 : decode cX1_putSign 83 = .ok (.ior, 1) := by decide +kernel
theorem dX1_putSign_84 : decode cX1_putSign 84 = .ok (.invokevirtual 113, 3) := by decide +kernel
theorem dX1_putSign_87 : decode cX1_putSign 87 = .ok (.iinc 3 (-1), 3) := by decide +kernel
theorem dX1_putSign_90 : decode cX1_putSign 90 = .ok (.goto (-27), 3) := by decide +kernel
theorem dX1_putSign_93 : decode cX1_putSign 93 = .ok (.return_, 1) := by decide +kernel
theorem dX1_readNumber_0 : decode cX1_readNumber 0 = .ok (.aload_n 0, 1) := by decide +kernel
theorem dX1_readNumber_1 : decode cX1_readNumber 1 = .ok (.getfield 15, 3) := by decide +kernel
theorem dX1_readNumber_4 : decode cX1_readNumber 4 = .ok (.istore_n 1, 1) := by decide +kernel
theorem dX1_readNumber_5 : decode cX1_readNumber 5 = .ok (.aload_n 0, 1) := by decide +kernel
theorem dX1_readNumber_6 : decode cX1_readNumber 6 = .ok (.getfield 19, 3) := by decide +kernel
theorem dX1_readNumber_9 : decode cX1_readNumber 9 = .ok (.aload_n 0, 1) := by decide +kernel
theorem dX1_readNumber_10 : decode cX1_readNumber 10 = .ok (.getfield 15, 3) := by decide +kernel
theorem dX1_readNumber_13 : decode cX1_readNumber 13 = .ok (.invokevirtual 33, 3) := by decide +kernel
theorem dX1_readNumber_16 : decode cX1_readNumber 16 = .ok (.bipush 45, 2) := by decide +kernel
theorem dX1_readNumber_18 : decode cX1_readNumber 18 = .ok (.if_icmp .ne 13, 3) := by decide +kernel
theorem dX1_readNumber_21 : decode cX1_readNumber 21 = .ok (.aload_n 0, 1) := by decide +kernel
theorem dX1_readNumber_22 : decode cX1_readNumber 22 = .ok (.dup, 1) := by decide +kernel
theorem dX1_readNumber_23 : decode cX1_readNumber 23 = .ok (.getfield 15, 3) := by decide +kernel
theorem dX1_readNumber_26 : decode cX1_readNumber 26 = .ok (.iconst 1, 1) := by decide +kernel
theorem dX1_readNumber_27 : decode cX1_readNumber 27 = .ok (.iadd, 1) := by decide +kernel
theorem dX1_readNumber_28 : decode cX1_readNumber 28 = .ok (.putfield 15, 3) := by decide +kernel
theorem dX1_readNumber_31 : decode cX1_readNumber 31 = .ok (.aload_n 0, 1) := by decide +kernel
theorem dX1_readNumber_32 : decode cX1_readNumber 32 = .ok (.getfield 15, 3) := by decide +kernel
theorem dX1_readNumber_35 : decode cX1_readNumber 35 = .ok (.istore_n 2, 1) := by decide +kernel
theorem dX1_readNumber_36 : decode cX1_readNumber 36 = .ok (.aload_n 0, 1) := by decide +kernel
theorem dX1_readNumber_37 : decode cX1_readNumber 37 = .ok (.getfield 19, 3) := by decide +kernel
theorem dX1_readNumber_40 : decode cX1_readNumber 40 = .ok (.aload_n 0, 1) := by decide +kernel
theorem dX1_readNumber_41 : decode cX1_readNumber 41 = .ok (.getfield 15, 3) := by decide +kernel
theorem dX1_readNumber_44 : decode cX1_readNumber 44 = .ok (.invokevirtual 33, 3) := by decide +kernel
theorem dX1_readNumber_47 : decode cX1_readNumber 47 = .ok (.bipush 48, 2) := by decide +kernel
theorem dX1_readNumber_49 : decode cX1_readNumber 49 = .ok (.if_icmp .ne 16, 3) := by decide +kernel
theorem dX1_readNumber_52 : decode cX1_readNumber 52 = .ok (.aload_n 0, 1) := by decide +kernel
theorem dX1_readNumber_53 : decode cX1_readNumber 53 = .ok (.dup, 1) := by decide +kernel
theorem dX1_readNumber_54 : decode cX1_readNumber 54 = .ok (.getfield 15, 3) := by decide +kernel
theorem dX1_readNumber_57 : decode cX1_readNumber 57 = .ok (.iconst 1, 1) := by decide +kernel
theorem dX1_readNumber_58 : decode cX1_readNumber 58 = .ok (.iadd, 1) := by decide +kernel
theorem dX1_readNumber_59 : decode cX1_readNumber 59 = .ok (.putfield 15, 3) := by decide +kernel
theorem dX1_readNumber_62 : decode cX1_readNumber 62 = .ok (.goto 12, 3) := by decide +kernel
theorem dX1_readNumber_65 : decode cX1_readNumber 65 = .ok (.aload_n 0, 1) := by decide +kernel
theorem dX1_readNumber_66 : decode cX1_readNumber 66 = .ok (.invokevirtual 139, 3) := by decide +kernel
theorem dX1_readNumber_69 : decode cX1_readNumber 69 = .ok (.ifCond .ne 5, 3) := by decide +kernel
theorem dX1_readNumber_72 : decode cX1_readNumber 72 = .ok (.iconst 0, 1) := by decide +kernel
theorem dX1_readNumber_73 : decode cX1_readNumber 73 = .ok (.ireturn, 1) := by decide +kernel
theorem dX1_readNumber_74 : decode cX1_readNumber 74 = .ok (.aload_n 0, 1) := by decide +kernel
theorem dX1_readNumber_75 : decode cX1_readNumber 75 = .ok (.getfield 15, 3) := by decide +kernel
theorem dX1_readNumber_78 : decode cX1_readNumber 78 = .ok (.istore_n 3, 1) := by decide +kernel
theorem dX1_readNumber_79 : decode cX1_readNumber 79 = .ok (.aload_n 0, 1) := by decide +kernel
theorem dX1_readNumber_80 : decode cX1_readNumber 80 = .ok (.invokevirtual 142, 3) := by decide +kernel
theorem dX1_readNumber_83 : decode cX1_readNumber 83 = .ok (.ifCond .eq 10, 3) := by decide +kernel
theorem dX1_readNumber_86 : decode cX1_readNumber 86 = .ok (.aload_n 0, 1) := by decide +kernel
theorem dX1_readNumber_87 : decode cX1_readNumber 87 = .ok (.invokevirtual 145, 3) := by decide +kernel
theorem dX1_readNumber_90 : decode cX1_readNumber 90 = .ok (.ifCond .ne 5, 3) := by decide +kernel
theorem dX1_readNumber_93 : decode cX1_readNumber 93 = .ok (.iconst 0, 1) := by decide +kernel
theorem dX1_readNumber_94 : decode cX1_readNumber 94 = .ok (.ireturn, 1) := by decide +kernel
theorem dX1_readNumber_95 : decode cX1_readNumber 95 = .ok (.aload_n 0, 1) := by decide +kernel
theorem dX1_readNumber_96 : decode cX1_readNumber 96 = .ok (.getfield 15, 3) := by decide +kernel
theorem dX1_readNumber_99 : decode cX1_readNumber 99 = .ok (.iload_n 3, 1) := by decide +kernel
theorem dX1_readNumber_100 : decode cX1_readNumber 100 = .ok (.if_icmp .ne 7, 3) := by decide +kernel
theorem dX1_readNumber_103 : decode cX1_readNumber 103 = .ok (.iconst 1, 1) := by decide +kernel
theorem dX1_readNumber_104 : decode cX1_readNumber 104 = .ok (.goto 4, 3) := by decide +kernel
theorem dX1_readNumber_107 : decode cX1_readNumber 107 = .ok (.iconst 0, 1) := by decide +kernel
theorem dX1_readNumber_108 : decode cX1_readNumber 108 = .ok (.istore 4, 2) := by decide +kernel
theorem dX1_readNumber_110 : decode cX1_readNumber 110 = .ok (.iload 4, 2) := by decide +kernel
theorem dX1_readNumber_112 : decode cX1_readNumber 112 = .ok (.ifCond .eq 22, 3) := by decide +kernel
theorem dX1_readNumber_115 : decode cX1_readNumber 115 = .ok (.aload_n 0, 1) := by decide +kernel
theorem dX1_readNumber_116 : decode cX1_readNumber 116 = .ok (.iload_n 2, 1) := by decide +kernel
theorem dX1_readNumber_117 : decode cX1_readNumber 117 = .ok (.iload_n 3, 1) := by decide +kernel
theorem dX1_readNumber_118 : decode cX1_readNumber 118 = .ok (.iload_n 2, 1) := by decide +kernel
theorem dX1_readNumber_119 : decode cX1_readNumber 119 = .ok (.iload_n 1, 1) := by decide +kernel
theorem dX1_readNumber_120 : decode cX1_readNumber 120 = .ok (.if_icmp .le 7, 3) := by decide +kernel
theorem dX1_readNumber_123 : decode cX1_readNumber 123 = .ok (.iconst 1, 1) := by decide +kernel
theorem dX1_readNumber_124 : decode cX1_readNumber 124 = .ok (.goto 4, 3) := by decide +kernel
theorem dX1_readNumber_127 : decode cX1_readNumber 127 = .ok (.iconst 0, 1) := by decide +kernel
theorem dX1_readNumber_128 : decode cX1_readNumber 128 = .ok (.invokevirtual 148, 3) := by decide +kernel
theorem dX1_readNumber_131 : decode cX1_readNumber 131 = .ok (.ifCond .ne 12, 3) := by decide +kernel
theorem dX1_readNumber_134 : decode cX1_readNumber 134 = .ok (.aload_n 0, 1) := by decide +kernel
theorem dX1_readNumber_135 : decode cX1_readNumber 135 = .ok (.iconst 3, 1) := by decide +kernel
theorem dX1_readNumber_136 : decode cX1_readNumber 136 = .ok (.iload_n 1, 1) := by decide +kernel
theorem dX1_readNumber_137 : decode cX1_readNumber 137 = .ok (.invokevirtual 29, 3) := by decide +kernel
theorem dX1_readNumber_140 : decode cX1_readNumber 140 = .ok (.ifCond .eq 7, 3) := by decide +kernel
theorem dX1_readNumber_143 : decode cX1_readNumber 143 = .ok (.iconst 1, 1) := by decide +kernel
theorem dX1_readNumber_144 : decode cX1_readNumber 144 = .ok (.goto 4, 3) := by decide +kernel
theorem dX1_readNumber_147 : decode cX1_readNumber 147 = .ok (.iconst 0, 1) := by decide +kernel
theorem dX1_readNumber_148 : decode cX1_readNumber 148 = .ok (.ireturn, 1) := by decide +kernel
theorem dX1_readDigits_0 : decode cX1_readDigits 0 = .ok (.aload_n 0, 1) := by decide +kernel
theorem dX1_readDigits_1 : decode cX1_readDigits 1 = .ok (.getfield 15, 3) := by decide +kernel
theorem dX1_readDigits_4 : decode cX1_readDigits 4 = .ok (.istore_n 1, 1) := by decide +kernel
theorem dX1_readDigits_5 : decode cX1_readDigits 5 = .ok (.iload_n 1, 1) := by decide +kernel
theorem dX1_readDigits_6 : decode cX1_readDigits 6 = .ok (.istore_n 2, 1) := by decide +kernel
theorem dX1_readDigits_7 : decode cX1_readDigits 7 = .ok (.iload_n 2, 1) := by decide +kernel
theorem dX1_readDigits_8 : decode cX1_readDigits 8 = .ok (.aload_n 0, 1) := by decide +kernel
theorem dX1_readDigits_9 : decode cX1_readDigits 9 = .ok (.getfield 19, 3) := by decide +kernel
theorem dX1_readDigits_12 : decode cX1_readDigits 12 = .ok (.invokevirtual 23, 3) := by decide +kernel
theorem dX1_readDigits_15 : decode cX1_readDigits 15 = .ok (.if_icmp .ge 30, 3) := by decide +kernel
theorem dX1_readDigits_18 : decode cX1_readDigits 18 = .ok (.aload_n 0, 1) := by decide +kernel
theorem dX1_readDigits_19 : decode cX1_readDigits 19 = .ok (.getfield 19, 3) := by decide +kernel
theorem dX1_readDigits_22 : decode cX1_readDigits 22 = .ok (.iload_n 2, 1) := by decide +kernel
theorem dX1_readDigits_23 : decode cX1_readDigits 23 = .ok (.invokevirtual 33, 3) := by decide +kernel
theorem dX1_readDigits_26 : decode cX1_readDigits 26 = .ok (.invokestatic 55, 3) := by decide +kernel
theorem dX1_readDigits_29 : decode cX1_readDigits 29 = .ok (.ifCond .eq 16, 3) := by decide +kernel
theorem dX1_readDigits_32 : decode cX1_readDigits 32 = .ok (.aload_n 0, 1) := by decide +kernel
theorem dX1_readDigits_33 : decode cX1_readDigits 33 = .ok (.iload_n 2, 1) := by decide +kernel
theorem dX1_readDigits_34 : decode cX1_readDigits 34 = .ok (.iconst 1, 1) := by decide +kernel
theorem dX1_readDigits_35 : decode cX1_readDigits 35 = .ok (.iadd, 1) := by decide +kernel
theorem dX1_readDigits_36 : decode cX1_readDigits 36 = .ok (.putfield 15, 3) := by decide +kernel
theorem dX1_readDigits_39 : decode cX1_readDigits 39 = .ok (.iinc 2 1, 3) := by decide +kernel
theorem dX1_readDigits_42 : decode cX1_readDigits 42 = .ok (.goto (-35), 3) := by decide +kernel
theorem dX1_readDigits_45 : decode cX1_readDigits 45 = .ok (.aload_n 0, 1) := by decide +kernel
theorem dX1_readDigits_46 : decode cX1_readDigits 46 = .ok (.getfield 15, 3) := by decide +kernel
theorem dX1_readDigits_49 : decode cX1_readDigits 49 = .ok (.iload_n 1, 1) := by decide +kernel
theorem dX1_readDigits_50 : decode cX1_readDigits 50 = .ok (.if_icmp .gt 15, 3) := by decide +kernel
theorem dX1_readDigits_53 : decode cX1_readDigits 53 = .ok (.aload_n 0, 1) := by decide +kernel
theorem dX1_readDigits_54 : decode cX1_readDigits 54 = .ok (.iconst 1, 1) := by decide +kernel
theorem dX1_readDigits_55 : decode cX1_readDigits 55 = .ok (.aload_n 0, 1) := by decide +kernel
theorem dX1_readDigits_56 : decode cX1_readDigits 56 = .ok (.getfield 15, 3) := by decide +kernel
theorem dX1_readDigits_59 : decode cX1_readDigits 59 = .ok (.invokevirtual 29, 3) := by decide +kernel
theorem dX1_readDigits_62 : decode cX1_readDigits 62 = .ok (.ifCond .eq 7, 3) := by decide +kernel
theorem dX1_readDigits_65 : decode cX1_readDigits 65 = .ok (.iconst 1, 1) := by decide +kernel
theorem dX1_readDigits_66 : decode cX1_readDigits 66 = .ok (.goto 4, 3) := by decide +kernel
theorem dX1_readDigits_69 : decode cX1_readDigits 69 = .ok (.iconst 0, 1) := by decide +kernel
theorem dX1_readDigits_70 : decode cX1_readDigits 70 = .ok (.ireturn, 1) := by decide +kernel
theorem dX1_readFraction_0 : decode cX1_readFraction 0 = .ok (.aload_n 0, 1) := by decide +kernel
theorem dX1_readFraction_1 : decode cX1_readFraction 1 = .ok (.getfield 19, 3) := by decide +kernel
theorem dX1_readFraction_4 : decode cX1_readFraction 4 = .ok (.aload_n 0, 1) := by decide +kernel
theorem dX1_readFraction_5 : decode cX1_readFraction 5 = .ok (.getfield 15, 3) := by decide +kernel
theorem dX1_readFraction_8 : decode cX1_readFraction 8 = .ok (.invokevirtual 33, 3) := by decide +kernel
theorem dX1_readFraction_11 : decode cX1_readFraction 11 = .ok (.bipush 46, 2) := by decide +kernel
theorem dX1_readFraction_13 : decode cX1_readFraction 13 = .ok (.if_icmp .eq 5, 3) := by decide +kernel
theorem dX1_readFraction_16 : decode cX1_readFraction 16 = .ok (.iconst 1, 1) := by decide +kernel
theorem dX1_readFraction_17 : decode cX1_readFraction 17 = .ok (.ireturn, 1) := by decide +kernel
theorem dX1_readFraction_18 : decode cX1_readFraction 18 = .ok (.aload_n 0, 1) := by decide +kernel
theorem dX1_readFraction_19 : decode cX1_readFraction 19 = .ok (.dup, 1) := by decide +kernel
theorem dX1_readFraction_20 : decode cX1_readFraction 20 = .ok (.getfield 15, 3) := by decide +kernel
theorem dX1_readFraction_23 : decode cX1_readFraction 23 = .ok (.iconst 1, 1) := by decide +kernel
theorem dX1_readFraction_24 : decode cX1_readFraction 24 = .ok (.iadd, 1) := by decide +kernel
theorem dX1_readFraction_25 : decode cX1_readFraction 25 = .ok (.putfield 15, 3) := by decide +kernel
theorem dX1_readFraction_28 : decode cX1_readFraction 28 = .ok (.aload_n 0, 1) := by decide +kernel
theorem dX1_readFraction_29 : decode cX1_readFraction 29 = .ok (.invokevirtual 139, 3) := by decide +kernel
theorem dX1_readFraction_32 : decode cX1_readFraction 32 = .ok (.ireturn, 1) := by decide +kernel
theorem dX1_readExponent_0 : decode cX1_readExponent 0 = .ok (.aload_n 0, 1) := by decide +kernel
theorem dX1_readExponent_1 : decode cX1_readExponent 1 = .ok (.getfield 19, 3) := by decide +kernel
theorem dX1_readExponent_4 : decode cX1_readExponent 4 = .ok (.aload_n 0, 1) := by decide +kernel
theorem dX1_readExponent_5 : decode cX1_readExponent 5 = .ok (.getfield 15, 3) := by decide +kernel
theorem dX1_readExponent_8 : decode cX1_readExponent 8 = .ok (.invokevirtual 33, 3) := by decide +kernel
theorem dX1_readExponent_11 : decode cX1_readExponent 11 = .ok (.bipush 101, 2) := by decide +kernel
theorem dX1_readExponent_13 : decode cX1_readExponent 13 = .ok (.if_icmp .eq 21, 3) := by decide +kernel
theorem dX1_readExponent_16 : decode cX1_readExponent 16 = .ok (.aload_n 0, 1) := by decide +kernel
theorem dX1_readExponent_17 : decode cX1_readExponent 17 = .ok (.getfield 19, 3) := by decide +kernel
theorem dX1_readExponent_20 : decode cX1_readExponent 20 = .ok (.aload_n 0, 1) := by decide +kernel
theorem dX1_readExponent_21 : decode cX1_readExponent 21 = .ok (.getfield 15, 3) := by decide +kernel
theorem dX1_readExponent_24 : decode cX1_readExponent 24 = .ok (.invokevirtual 33, 3) := by decide +kernel
theorem dX1_readExponent_27 : decode cX1_readExponent 27 = .ok (.bipush 69, 2) := by decide +kernel
theorem dX1_readExponent_29 : decode cX1_readExponent 29 = .ok (.if_icmp .eq 5, 3) := by decide +kernel
theorem dX1_readExponent_32 : decode cX1_readExponent 32 = .ok (.iconst 1, 1) := by decide +kernel
theorem dX1_readExponent_33 : decode cX1_readExponent 33 = .ok (.ireturn, 1) := by decide +kernel
theorem dX1_readExponent_34 : decode cX1_readExponent 34 = .ok (.aload_n 0, 1) := by decide +kernel
theorem dX1_readExponent_35 : decode cX1_readExponent 35 = .ok (.dup, 1) := by decide +kernel
theorem dX1_readExponent_36 : decode cX1_readExponent 36 = .ok (.getfield 15, 3) := by decide +kernel
theorem dX1_readExponent_39 : decode cX1_readExponent 39 = .ok (.iconst 1, 1) := by decide +kernel
theorem dX1_readExponent_40 : decode cX1_readExponent 40 = .ok (.iadd, 1) := by decide +kernel
theorem dX1_readExponent_41 : decode cX1_readExponent 41 = .ok (.putfield 15, 3) := by decide +kernel
theorem dX1_readExponent_44 : decode cX1_readExponent 44 = .ok (.aload_n 0, 1) := by decide +kernel
theorem dX1_readExponent_45 : decode cX1_readExponent 45 = .ok (.getfield 19, 3) := by decide +kernel
theorem dX1_readExponent_48 : decode cX1_readExponent 48 = .ok (.aload_n 0, 1) := by decide +kernel
theorem dX1_readExponent_49 : decode cX1_readExponent 49 = .ok (.getfield 15, 3) := by decide +kernel
theorem dX1_readExponent_52 : decode cX1_readExponent 52 = .ok (.invokevirtual 33, 3) := by decide +kernel
theorem dX1_readExponent_55 : decode cX1_readExponent 55 = .ok (.bipush 43, 2) := by decide +kernel
theorem dX1_readExponent_57 : decode cX1_readExponent 57 = .ok (.if_icmp .eq 19, 3) := by decide +kernel
theorem dX1_readExponent_60 : decode cX1_readExponent 60 = .ok (.aload_n 0, 1) := by decide +kernel
theorem dX1_readExponent_61 : decode cX1_readExponent 61 = .ok (.getfield 19, 3) := by decide +kernel
theorem dX1_readExponent_64 : decode cX1_readExponent 64 = .ok (.aload_n 0, 1) := by decide +kernel
theorem dX1_readExponent_65 : decode cX1_readExponent 65 = .ok (.getfield 15, 3) := by decide +kernel
theorem dX1_readExponent_68 : decode cX1_readExponent 68 = .ok (.invokevirtual 33, 3) := by decide +kernel
theorem dX1_readExponent_71 : decode cX1_readExponent 71 = .ok (.bipush 45, 2) := by decide +kernel
theorem dX1_readExponent_73 : decode cX1_readExponent 73 = .ok (.if_icmp .ne 13, 3) := by decide +kernel
theorem dX1_readExponent_76 : decode cX1_readExponent 76 = .ok (.aload_n 0, 1) := by decide +kernel
theorem dX1_readExponent_77 : decode cX1_readExponent 77 = .ok (.dup, 1) := by decide +kernel
theorem dX1_readExponent_78 : decode cX1_readExponent 78 = .ok (.getfield 15, 3) := by decide +kernel
theorem dX1_readExponent_81 : decode cX1_readExponent 81 = .ok (.iconst 1, 1) := by decide +kernel
theorem dX1_readExponent_82 : decode cX1_readExponent 82 = .ok (.iadd, 1) := by decide +kernel
theorem dX1_readExponent_83 : decode cX1_readExponent 83 = .ok (.putfield 15, 3) := by decide +kernel
theorem dX1_readExponent_86 : decode cX1_readExponent 86 = .ok (.aload_n 0, 1) := by decide +kernel
theorem dX1_readExponent_87 : decode cX1_readExponent 87 = .ok (.invokevirtual 139, 3) := by decide +kernel
theorem dX1_readExponent_90 : decode cX1_readExponent 90 = .ok (.ireturn, 1) := by decide +kernel
theorem dX1_putWhole_0 : decode cX1_putWhole 0 = .ok (.lconst 0, 1) := by decide +kernel
theorem dX1_putWhole_1 : decode cX1_putWhole 1 = .ok (.lstore 4, 2) := by decide +kernel
theorem dX1_putWhole_3 : decode cX1_putWhole 3 = .ok (.iload_n 1, 1) := by decide +kernel
theorem dX1_putWhole_4 : decode cX1_putWhole 4 = .ok (.istore 6, 2) := by decide +kernel
theorem dX1_putWhole_6 : decode cX1_putWhole 6 = .ok (.iload 6, 2) := by decide +kernel
theorem dX1_putWhole_8 : decode cX1_putWhole 8 = .ok (.iload_n 2, 1) := by decide +kernel
theorem dX1_putWhole_9 : decode cX1_putWhole 9 = .ok (.if_icmp .ge 52, 3) := by decide +kernel
theorem dX1_putWhole_12 : decode cX1_putWhole 12 = .ok (.aload_n 0, 1) := by decide +kernel
theorem dX1_putWhole_13 : decode cX1_putWhole 13 = .ok (.getfield 19, 3) := by decide +kernel
theorem dX1_putWhole_16 : decode cX1_putWhole 16 = .ok (.iload 6, 2) := by decide +kernel
theorem dX1_putWhole_18 : decode cX1_putWhole 18 = .ok (.invokevirtual 33, 3) := by decide +kernel
theorem dX1_putWhole_21 : decode cX1_putWhole 21 = .ok (.bipush 48, 2) := by decide +kernel
theorem dX1_putWhole_23 : decode cX1_putWhole 23 = .ok (.isub, 1) := by decide +kernel
theorem dX1_putWhole_24 : decode cX1_putWhole 24 = .ok (.istore 7, 2) := by decide +kernel
theorem dX1_putWhole_26 : decode cX1_putWhole 26 = .ok (.lload 4, 2) := by decide +kernel
theorem dX1_putWhole_28 : decode cX1_putWhole 28 = .ok (.iload 6, 2) := by decide +kernel
theorem dX1_putWhole_30 : decode cX1_putWhole 30 = .ok (.iload_n 1, 1) := by decide +kernel
theorem dX1_putWhole_31 : decode cX1_putWhole 31 = .ok (.isub, 1) := by decide +kernel
theorem dX1_putWhole_32 : decode cX1_putWhole 32 = .ok (.iload 7, 2) := by decide +kernel
theorem dX1_putWhole_34 : decode cX1_putWhole 34 = .ok (.iload_n 3, 1) := by decide +kernel
theorem dX1_putWhole_35 : decode cX1_putWhole 35 = .ok (.invokestatic 152, 3) := by decide +kernel
theorem dX1_putWhole_38 : decode cX1_putWhole 38 = .ok (.ifCond .eq 5, 3) := by decide +kernel
theorem dX1_putWhole_41 : decode cX1_putWhole 41 = .ok (.iconst 0, 1) := by decide +kernel
theorem dX1_putWhole_42 : decode cX1_putWhole 42 = .ok (.ireturn, 1) := by decide +kernel
theorem dX1_putWhole_43 : decode cX1_putWhole 43 = .ok (.lload 4, 2) := by decide +kernel
theorem dX1_putWhole_45 : decode cX1_putWhole 45 = .ok (.ldc2_w 156, 3) := by decide +kernel
theorem dX1_putWhole_48 : decode cX1_putWhole 48 = .ok (.lmul, 1) := by decide +kernel
theorem dX1_putWhole_49 : decode cX1_putWhole 49 = .ok (.iload 7, 2) := by decide +kernel
theorem dX1_putWhole_51 : decode cX1_putWhole 51 = .ok (.i2l, 1) := by decide +kernel
theorem dX1_putWhole_52 : decode cX1_putWhole 52 = .ok (.ladd, 1) := by decide +kernel
theorem dX1_putWhole_53 : decode cX1_putWhole 53 = .ok (.lstore 4, 2) := by decide +kernel
theorem dX1_putWhole_55 : decode cX1_putWhole 55 = .ok (.iinc 6 1, 3) := by decide +kernel
theorem dX1_putWhole_58 : decode cX1_putWhole 58 = .ok (.goto (-52), 3) := by decide +kernel
theorem dX1_putWhole_61 : decode cX1_putWhole 61 = .ok (.iload_n 3, 1) := by decide +kernel
theorem dX1_putWhole_62 : decode cX1_putWhole 62 = .ok (.ifCond .eq 31, 3) := by decide +kernel
theorem dX1_putWhole_65 : decode cX1_putWhole 65 = .ok (.aload_n 0, 1) := by decide +kernel
theorem dX1_putWhole_66 : decode cX1_putWhole 66 = .ok (.getfield 19, 3) := by decide +kernel
theorem dX1_putWhole_69 : decode cX1_putWhole 69 = .ok (.iload_n 1, 1) := by decide +kernel
theorem dX1_putWhole_70 : decode cX1_putWhole 70 = .ok (.invokevirtual 33, 3) := by decide +kernel
theorem dX1_putWhole_73 : decode cX1_putWhole 73 = .ok (.bipush 48, 2) := by decide +kernel
theorem dX1_putWhole_75 : decode cX1_putWhole 75 = .ok (.if_icmp .eq 18, 3) := by decide +kernel
theorem dX1_putWhole_78 : decode cX1_putWhole 78 = .ok (.aload_n 0, 1) := by decide +kernel
theorem dX1_putWhole_79 : decode cX1_putWhole 79 = .ok (.getfield 74, 3) := by decide +kernel
theorem dX1_putWhole_82 : decode cX1_putWhole 82 = .ok (.iconst 1, 1) := by decide +kernel
theorem dX1_putWhole_83 : decode cX1_putWhole 83 = .ok (.lload 4, 2) := by decide +kernel
theorem dX1_putWhole_85 : decode cX1_putWhole 85 = .ok (.lconst 1, 1) := by decide +kernel
theorem dX1_putWhole_86 : decode cX1_putWhole 86 = .ok (.lsub, 1) := by decide +kernel
theorem dX1_putWhole_87 : decode cX1_putWhole 87 = .ok (.invokevirtual 77, 3) := by decide +kernel
theorem dX1_putWhole_90 : decode cX1_putWhole 90 = .ok (.goto 13, 3) := by decide +kernel
theorem dX1_putWhole_93 : decode cX1_putWhole 93 = .ok (.aload_n 0, 1) := by decide +kernel
theorem dX1_putWhole_94 : decode cX1_putWhole 94 = .ok (.getfield 74, 3) := by decide +kernel
theorem dX1_putWhole_97 : decode cX1_putWhole 97 = .ok (.iconst 0, 1) := by decide +kernel
theorem dX1_putWhole_98 : decode cX1_putWhole 98 = .ok (.lload 4, 2) := by decide +kernel
theorem dX1_putWhole_100 : decode cX1_putWhole 100 = .ok (.invokevirtual 77, 3) := by decide +kernel
theorem dX1_putWhole_103 : decode cX1_putWhole 103 = .ok (.iconst 1, 1) := by decide +kernel
theorem dX1_putWhole_104 : decode cX1_putWhole 104 = .ok (.ireturn, 1) := by decide +kernel
theorem dX1_isBeyond_0 : decode cX1_isBeyond 0 = .ok (.iload_n 2, 1) := by decide +kernel
theorem dX1_isBeyond_1 : decode cX1_isBeyond 1 = .ok (.bipush 19, 2) := by decide +kernel
theorem dX1_isBeyond_3 : decode cX1_isBeyond 3 = .ok (.if_icmp .ge 5, 3) := by decide +kernel
theorem dX1_isBeyond_6 : decode cX1_isBeyond 6 = .ok (.iconst 0, 1) := by decide +kernel
theorem dX1_isBeyond_7 : decode cX1_isBeyond 7 = .ok (.ireturn, 1) := by decide +kernel
theorem dX1_isBeyond_8 : decode cX1_isBeyond 8 = .ok (.iload_n 2, 1) := by decide +kernel
theorem dX1_isBeyond_9 : decode cX1_isBeyond 9 = .ok (.bipush 20, 2) := by decide +kernel
theorem dX1_isBeyond_11 : decode cX1_isBeyond 11 = .ok (.if_icmp .ge 17, 3) := by decide +kernel
theorem dX1_isBeyond_14 : decode cX1_isBeyond 14 = .ok (.lload_n 0, 1) := by decide +kernel
theorem dX1_isBeyond_15 : decode cX1_isBeyond 15 = .ok (.lconst 0, 1) := by decide +kernel
theorem dX1_isBeyond_16 : decode cX1_isBeyond 16 = .ok (.lcmp, 1) := by decide +kernel
theorem dX1_isBeyond_17 : decode cX1_isBeyond 17 = .ok (.ifCond .lt 11, 3) := by decide +kernel
theorem dX1_isBeyond_20 : decode cX1_isBeyond 20 = .ok (.lload_n 0, 1) := by decide +kernel
theorem dX1_isBeyond_21 : decode cX1_isBeyond 21 = .ok (.ldc2_w 158, 3) := by decide +kernel
theorem dX1_isBeyond_24 : decode cX1_isBeyond 24 = .ok (.lcmp, 1) := by decide +kernel
theorem dX1_isBeyond_25 : decode cX1_isBeyond 25 = .ok (.ifCond .le 5, 3) := by decide +kernel
theorem dX1_isBeyond_28 : decode cX1_isBeyond 28 = .ok (.iconst 1, 1) := by decide +kernel
theorem dX1_isBeyond_29 : decode cX1_isBeyond 29 = .ok (.ireturn, 1) := by decide +kernel
theorem dX1_isBeyond_30 : decode cX1_isBeyond 30 = .ok (.lload_n 0, 1) := by decide +kernel
theorem dX1_isBeyond_31 : decode cX1_isBeyond 31 = .ok (.ldc2_w 158, 3) := by decide +kernel
theorem dX1_isBeyond_34 : decode cX1_isBeyond 34 = .ok (.lcmp, 1) := by decide +kernel
theorem dX1_isBeyond_35 : decode cX1_isBeyond 35 = .ok (.ifCond .ne 22, 3) := by decide +kernel
theorem dX1_isBeyond_38 : decode cX1_isBeyond 38 = .ok (.iload_n 3, 1) := by decide +kernel
theorem dX1_isBeyond_39 : decode cX1_isBeyond 39 = .ok (.iload 4, 2) := by decide +kernel
theorem dX1_isBeyond_41 : decode cX1_isBeyond 41 = .ok (.ifCond .eq 8, 3) := by decide +kernel
theorem dX1_isBeyond_44 : decode cX1_isBeyond 44 = .ok (.bipush 6, 2) := by decide +kernel
theorem dX1_isBeyond_46 : decode cX1_isBeyond 46 = .ok (.goto 4, 3) := by decide +kernel
theorem dX1_isBeyond_49 : decode cX1_isBeyond 49 = .ok (.iconst 5, 1) := by decide +kernel
theorem dX1_isBeyond_50 : decode cX1_isBeyond 50 = .ok (.if_icmp .le 7, 3) := by decide +kernel
theorem dX1_isBeyond_53 : decode cX1_isBeyond 53 = .ok (.iconst 1, 1) := by decide +kernel
theorem dX1_isBeyond_54 : decode cX1_isBeyond 54 = .ok (.goto 4, 3) := by decide +kernel
theorem dX1_isBeyond_57 : decode cX1_isBeyond 57 = .ok (.iconst 0, 1) := by decide +kernel
theorem dX1_isBeyond_58 : decode cX1_isBeyond 58 = .ok (.ireturn, 1) := by decide +kernel
theorem dX1_isBlank_0 : decode cX1_isBlank 0 = .ok (.iload_n 0, 1) := by decide +kernel
theorem dX1_isBlank_1 : decode cX1_isBlank 1 = .ok (.bipush 9, 2) := by decide +kernel
theorem dX1_isBlank_3 : decode cX1_isBlank 3 = .ok (.if_icmp .eq 21, 3) := by decide +kernel
theorem dX1_isBlank_6 : decode cX1_isBlank 6 = .ok (.iload_n 0, 1) := by decide +kernel
theorem dX1_isBlank_7 : decode cX1_isBlank 7 = .ok (.bipush 10, 2) := by decide +kernel
theorem dX1_isBlank_9 : decode cX1_isBlank 9 = .ok (.if_icmp .eq 15, 3) := by decide +kernel
theorem dX1_isBlank_12 : decode cX1_isBlank 12 = .ok (.iload_n 0, 1) := by decide +kernel
theorem dX1_isBlank_13 : decode cX1_isBlank 13 = .ok (.bipush 13, 2) := by decide +kernel
theorem dX1_isBlank_15 : decode cX1_isBlank 15 = .ok (.if_icmp .eq 9, 3) := by decide +kernel
theorem dX1_isBlank_18 : decode cX1_isBlank 18 = .ok (.iload_n 0, 1) := by decide +kernel
theorem dX1_isBlank_19 : decode cX1_isBlank 19 = .ok (.bipush 32, 2) := by decide +kernel
theorem dX1_isBlank_21 : decode cX1_isBlank 21 = .ok (.if_icmp .ne 7, 3) := by decide +kernel
theorem dX1_isBlank_24 : decode cX1_isBlank 24 = .ok (.iconst 1, 1) := by decide +kernel
theorem dX1_isBlank_25 : decode cX1_isBlank 25 = .ok (.goto 4, 3) := by decide +kernel
theorem dX1_isBlank_28 : decode cX1_isBlank 28 = .ok (.iconst 0, 1) := by decide +kernel
theorem dX1_isBlank_29 : decode cX1_isBlank 29 = .ok (.ireturn, 1) := by decide +kernel
theorem dX1_isDigit_0 : decode cX1_isDigit 0 = .ok (.iload_n 0, 1) := by decide +kernel
theorem dX1_isDigit_1 : decode cX1_isDigit 1 = .ok (.bipush 48, 2) := by decide +kernel
theorem dX1_isDigit_3 : decode cX1_isDigit 3 = .ok (.if_icmp .lt 13, 3) := by decide +kernel
theorem dX1_isDigit_6 : decode cX1_isDigit 6 = .ok (.iload_n 0, 1) := by decide +kernel
theorem dX1_isDigit_7 : decode cX1_isDigit 7 = .ok (.bipush 57, 2) := by decide +kernel
theorem dX1_isDigit_9 : decode cX1_isDigit 9 = .ok (.if_icmp .gt 7, 3) := by decide +kernel
theorem dX1_isDigit_12 : decode cX1_isDigit 12 = .ok (.iconst 1, 1) := by decide +kernel
theorem dX1_isDigit_13 : decode cX1_isDigit 13 = .ok (.goto 4, 3) := by decide +kernel
theorem dX1_isDigit_16 : decode cX1_isDigit 16 = .ok (.iconst 0, 1) := by decide +kernel
theorem dX1_isDigit_17 : decode cX1_isDigit 17 = .ok (.ireturn, 1) := by decide +kernel
theorem dX1_hexValue_0 : decode cX1_hexValue 0 = .ok (.iload_n 0, 1) := by decide +kernel
theorem dX1_hexValue_1 : decode cX1_hexValue 1 = .ok (.bipush 48, 2) := by decide +kernel
theorem dX1_hexValue_3 : decode cX1_hexValue 3 = .ok (.if_icmp .lt 14, 3) := by decide +kernel
theorem dX1_hexValue_6 : decode cX1_hexValue 6 = .ok (.iload_n 0, 1) := by decide +kernel
theorem dX1_hexValue_7 : decode cX1_hexValue 7 = .ok (.bipush 57, 2) := by decide +kernel
theorem dX1_hexValue_9 : decode cX1_hexValue 9 = .ok (.if_icmp .gt 8, 3) := by decide +kernel
theorem dX1_hexValue_12 : decode cX1_hexValue 12 = .ok (.iload_n 0, 1) := by decide +kernel
theorem dX1_hexValue_13 : decode cX1_hexValue 13 = .ok (.bipush 48, 2) := by decide +kernel
theorem dX1_hexValue_15 : decode cX1_hexValue 15 = .ok (.isub, 1) := by decide +kernel
theorem dX1_hexValue_16 : decode cX1_hexValue 16 = .ok (.ireturn, 1) := by decide +kernel
theorem dX1_hexValue_17 : decode cX1_hexValue 17 = .ok (.iload_n 0, 1) := by decide +kernel
theorem dX1_hexValue_18 : decode cX1_hexValue 18 = .ok (.bipush 97, 2) := by decide +kernel
theorem dX1_hexValue_20 : decode cX1_hexValue 20 = .ok (.if_icmp .lt 17, 3) := by decide +kernel
theorem dX1_hexValue_23 : decode cX1_hexValue 23 = .ok (.iload_n 0, 1) := by decide +kernel
theorem dX1_hexValue_24 : decode cX1_hexValue 24 = .ok (.bipush 102, 2) := by decide +kernel
theorem dX1_hexValue_26 : decode cX1_hexValue 26 = .ok (.if_icmp .gt 11, 3) := by decide +kernel
theorem dX1_hexValue_29 : decode cX1_hexValue 29 = .ok (.iload_n 0, 1) := by decide +kernel
theorem dX1_hexValue_30 : decode cX1_hexValue 30 = .ok (.bipush 97, 2) := by decide +kernel
theorem dX1_hexValue_32 : decode cX1_hexValue 32 = .ok (.isub, 1) := by decide +kernel
theorem dX1_hexValue_33 : decode cX1_hexValue 33 = .ok (.bipush 10, 2) := by decide +kernel
theorem dX1_hexValue_35 : decode cX1_hexValue 35 = .ok (.iadd, 1) := by decide +kernel
theorem dX1_hexValue_36 : decode cX1_hexValue 36 = .ok (.ireturn, 1) := by decide +kernel
theorem dX1_hexValue_37 : decode cX1_hexValue 37 = .ok (.iload_n 0, 1) := by decide +kernel
theorem dX1_hexValue_38 : decode cX1_hexValue 38 = .ok (.bipush 65, 2) := by decide +kernel
theorem dX1_hexValue_40 : decode cX1_hexValue 40 = .ok (.if_icmp .lt 19, 3) := by decide +kernel
theorem dX1_hexValue_43 : decode cX1_hexValue 43 = .ok (.iload_n 0, 1) := by decide +kernel
theorem dX1_hexValue_44 : decode cX1_hexValue 44 = .ok (.bipush 70, 2) := by decide +kernel
theorem dX1_hexValue_46 : decode cX1_hexValue 46 = .ok (.if_icmp .gt 13, 3) := by decide +kernel
theorem dX1_hexValue_49 : decode cX1_hexValue 49 = .ok (.iload_n 0, 1) := by decide +kernel
theorem dX1_hexValue_50 : decode cX1_hexValue 50 = .ok (.bipush 65, 2) := by decide +kernel
theorem dX1_hexValue_52 : decode cX1_hexValue 52 = .ok (.isub, 1) := by decide +kernel
theorem dX1_hexValue_53 : decode cX1_hexValue 53 = .ok (.bipush 10, 2) := by decide +kernel
theorem dX1_hexValue_55 : decode cX1_hexValue 55 = .ok (.iadd, 1) := by decide +kernel
theorem dX1_hexValue_56 : decode cX1_hexValue 56 = .ok (.goto 4, 3) := by decide +kernel
theorem dX1_hexValue_59 : decode cX1_hexValue 59 = .ok (.iconst (-1), 1) := by decide +kernel
theorem dX1_hexValue_60 : decode cX1_hexValue 60 = .ok (.ireturn, 1) := by decide +kernel
theorem dX1_isFirstHalf_0 : decode cX1_isFirstHalf 0 = .ok (.iload_n 0, 1) := by decide +kernel
theorem dX1_isFirstHalf_1 : decode cX1_isFirstHalf 1 = .ok (.ldc 136, 2) := by decide +kernel
theorem dX1_isFirstHalf_3 : decode cX1_isFirstHalf 3 = .ok (.if_icmp .lt 13, 3) := by decide +kernel
theorem dX1_isFirstHalf_6 : decode cX1_isFirstHalf 6 = .ok (.iload_n 0, 1) := by decide +kernel
theorem dX1_isFirstHalf_7 : decode cX1_isFirstHalf 7 = .ok (.ldc 160, 2) := by decide +kernel
theorem dX1_isFirstHalf_9 : decode cX1_isFirstHalf 9 = .ok (.if_icmp .gt 7, 3) := by decide +kernel
theorem dX1_isFirstHalf_12 : decode cX1_isFirstHalf 12 = .ok (.iconst 1, 1) := by decide +kernel
theorem dX1_isFirstHalf_13 : decode cX1_isFirstHalf 13 = .ok (.goto 4, 3) := by decide +kernel
theorem dX1_isFirstHalf_16 : decode cX1_isFirstHalf 16 = .ok (.iconst 0, 1) := by decide +kernel
theorem dX1_isFirstHalf_17 : decode cX1_isFirstHalf 17 = .ok (.ireturn, 1) := by decide +kernel
theorem dX1_isSecondHalf_0 : decode cX1_isSecondHalf 0 = .ok (.iload_n 0, 1) := by decide +kernel
theorem dX1_isSecondHalf_1 : decode cX1_isSecondHalf 1 = .ok (.ldc 137, 2) := by decide +kernel
theorem dX1_isSecondHalf_3 : decode cX1_isSecondHalf 3 = .ok (.if_icmp .lt 13, 3) := by decide +kernel
theorem dX1_isSecondHalf_6 : decode cX1_isSecondHalf 6 = .ok (.iload_n 0, 1) := by decide +kernel
theorem dX1_isSecondHalf_7 : decode cX1_isSecondHalf 7 = .ok (.ldc 161, 2) := by decide +kernel
theorem dX1_isSecondHalf_9 : decode cX1_isSecondHalf 9 = .ok (.if_icmp .gt 7, 3) := by decide +kernel
theorem dX1_isSecondHalf_12 : decode cX1_isSecondHalf 12 = .ok (.iconst 1, 1) := by decide +kernel
theorem dX1_isSecondHalf_13 : decode cX1_isSecondHalf 13 = .ok (.goto 4, 3) := by decide +kernel
theorem dX1_isSecondHalf_16 : decode cX1_isSecondHalf 16 = .ok (.iconst 0, 1) := by decide +kernel
theorem dX1_isSecondHalf_17 : decode cX1_isSecondHalf 17 = .ok (.ireturn, 1) := by decide +kernel
end
section
theorem dX2_init_0 : decode cX2_init 0 = .ok (.aload_n 0, 1) := by decide +kernel
theorem dX2_init_1 : decode cX2_init 1 = .ok (.invokespecial 3, 3) := by decide +kernel
theorem dX2_init_4 : decode cX2_init 4 = .ok (.aload_n 0, 1) := by decide +kernel
theorem dX2_init_5 : decode cX2_init 5 = .ok (.aload_n 1, 1) := by decide +kernel
theorem dX2_init_6 : decode cX2_init 6 = .ok (.putfield 9, 3) := by decide +kernel
theorem dX2_init_9 : decode cX2_init 9 = .ok (.aload_n 0, 1) := by decide +kernel
theorem dX2_init_10 : decode cX2_init 10 = .ok (.aload_n 2, 1) := by decide +kernel
theorem dX2_init_11 : decode cX2_init 11 = .ok (.putfield 15, 3) := by decide +kernel
theorem dX2_init_14 : decode cX2_init 14 = .ok (.aload_n 0, 1) := by decide +kernel
theorem dX2_init_15 : decode cX2_init 15 = .ok (.iload_n 3, 1) := by decide +kernel
theorem dX2_init_16 : decode cX2_init 16 = .ok (.putfield 18, 3) := by decide +kernel
theorem dX2_init_19 : decode cX2_init 19 = .ok (.aload_n 0, 1) := by decide +kernel
theorem dX2_init_20 : decode cX2_init 20 = .ok (.iconst 0, 1) := by decide +kernel
theorem dX2_init_21 : decode cX2_init 21 = .ok (.putfield 22, 3) := by decide +kernel
theorem dX2_init_24 : decode cX2_init 24 = .ok (.aload_n 0, 1) := by decide +kernel
theorem dX2_init_25 : decode cX2_init 25 = .ok (.iconst 0, 1) := by decide +kernel
theorem dX2_init_26 : decode cX2_init 26 = .ok (.putfield 25, 3) := by decide +kernel
theorem dX2_init_29 : decode cX2_init 29 = .ok (.aload_n 0, 1) := by decide +kernel
theorem dX2_init_30 : decode cX2_init 30 = .ok (.iconst (-1), 1) := by decide +kernel
theorem dX2_init_31 : decode cX2_init 31 = .ok (.putfield 28, 3) := by decide +kernel
theorem dX2_init_34 : decode cX2_init 34 = .ok (.return_, 1) := by decide +kernel
theorem dX2_refuse_0 : decode cX2_refuse 0 = .ok (.aload_n 0, 1) := by decide +kernel
theorem dX2_refuse_1 : decode cX2_refuse 1 = .ok (.iload_n 1, 1) := by decide +kernel
theorem dX2_refuse_2 : decode cX2_refuse 2 = .ok (.putfield 25, 3) := by decide +kernel
theorem dX2_refuse_5 : decode cX2_refuse 5 = .ok (.aload_n 0, 1) := by decide +kernel
theorem dX2_refuse_6 : decode cX2_refuse 6 = .ok (.iload_n 2, 1) := by decide +kernel
theorem dX2_refuse_7 : decode cX2_refuse 7 = .ok (.putfield 28, 3) := by decide +kernel
theorem dX2_refuse_10 : decode cX2_refuse 10 = .ok (.iconst 0, 1) := by decide +kernel
theorem dX2_refuse_11 : decode cX2_refuse 11 = .ok (.ireturn, 1) := by decide +kernel
theorem dX2_faultKind_0 : decode cX2_faultKind 0 = .ok (.aload_n 0, 1) := by decide +kernel
theorem dX2_faultKind_1 : decode cX2_faultKind 1 = .ok (.getfield 25, 3) := by decide +kernel
theorem dX2_faultKind_4 : decode cX2_faultKind 4 = .ok (.ireturn, 1) := by decide +kernel
theorem dX2_faultPlace_0 : decode cX2_faultPlace 0 = .ok (.aload_n 0, 1) := by decide +kernel
theorem dX2_faultPlace_1 : decode cX2_faultPlace 1 = .ok (.getfield 28, 3) := by decide +kernel
theorem dX2_faultPlace_4 : decode cX2_faultPlace 4 = .ok (.ireturn, 1) := by decide +kernel
theorem dX3_init_0 : decode cX3_init 0 = .ok (.aload_n 0, 1) := by decide +kernel
theorem dX3_init_1 : decode cX3_init 1 = .ok (.invokespecial 3, 3) := by decide +kernel
theorem dX3_init_4 : decode cX3_init 4 = .ok (.aload_n 0, 1) := by decide +kernel
theorem dX3_init_5 : decode cX3_init 5 = .ok (.iload_n 1, 1) := by decide +kernel
theorem dX3_init_6 : decode cX3_init 6 = .ok (.iconst 0, 1) := by decide +kernel
theorem dX3_init_7 : decode cX3_init 7 = .ok (.invokestatic 9, 3) := by decide +kernel
theorem dX3_init_10 : decode cX3_init 10 = .ok (.newarray .byte, 2) := by decide +kernel
theorem dX3_init_12 : decode cX3_init 12 = .ok (.putfield 15, 3) := by decide +kernel
theorem dX3_init_15 : decode cX3_init 15 = .ok (.aload_n 0, 1) := by decide +kernel
theorem dX3_init_16 : decode cX3_init 16 = .ok (.iconst 0, 1) := by decide +kernel
theorem dX3_init_17 : decode cX3_init 17 = .ok (.putfield 21, 3) := by decide +kernel
theorem dX3_init_20 : decode cX3_init 20 = .ok (.return_, 1) := by decide +kernel
theorem dX3_size_0 : decode cX3_size 0 = .ok (.aload_n 0, 1) := by decide +kernel
theorem dX3_size_1 : decode cX3_size 1 = .ok (.getfield 21, 3) := by decide +kernel
theorem dX3_size_4 : decode cX3_size 4 = .ok (.ireturn, 1) := by decide +kernel
theorem dX3_at_0 : decode cX3_at 0 = .ok (.iload_n 1, 1) := by decide +kernel
theorem dX3_at_1 : decode cX3_at 1 = .ok (.ifCond .lt 20, 3) := by decide +kernel
theorem dX3_at_4 : decode cX3_at 4 = .ok (.iload_n 1, 1) := by decide +kernel
theorem dX3_at_5 : decode cX3_at 5 = .ok (.aload_n 0, 1) := by decide +kernel
theorem dX3_at_6 : decode cX3_at 6 = .ok (.getfield 21, 3) := by decide +kernel
theorem dX3_at_9 : decode cX3_at 9 = .ok (.if_icmp .ge 12, 3) := by decide +kernel
theorem dX3_at_12 : decode cX3_at 12 = .ok (.iload_n 1, 1) := by decide +kernel
theorem dX3_at_13 : decode cX3_at 13 = .ok (.aload_n 0, 1) := by decide +kernel
theorem dX3_at_14 : decode cX3_at 14 = .ok (.getfield 15, 3) := by decide +kernel
theorem dX3_at_17 : decode cX3_at 17 = .ok (.arraylength, 1) := by decide +kernel
theorem dX3_at_18 : decode cX3_at 18 = .ok (.if_icmp .lt 5, 3) := by decide +kernel
theorem dX3_at_21 : decode cX3_at 21 = .ok (.iconst (-1), 1) := by decide +kernel
theorem dX3_at_22 : decode cX3_at 22 = .ok (.ireturn, 1) := by decide +kernel
theorem dX3_at_23 : decode cX3_at 23 = .ok (.aload_n 0, 1) := by decide +kernel
theorem dX3_at_24 : decode cX3_at 24 = .ok (.getfield 15, 3) := by decide +kernel
theorem dX3_at_27 : decode cX3_at 27 = .ok (.iload_n 1, 1) := by decide +kernel
theorem dX3_at_28 : decode cX3_at 28 = .ok (.baload, 1) := by decide +kernel
theorem dX3_at_29 : decode cX3_at 29 = .ok (.sipush 255, 3) := by decide +kernel
theorem dX3_at_32 : decode cX3_at 32 = .ok (.iand, 1) := by decide +kernel
theorem dX3_at_33 : decode cX3_at 33 = .ok (.ireturn, 1) := by decide +kernel
theorem dX3_put_0 : decode cX3_put 0 = .ok (.aload_n 0, 1) := by decide +kernel
theorem dX3_put_1 : decode cX3_put 1 = .ok (.getfield 21, 3) := by decide +kernel
theorem dX3_put_4 : decode cX3_put 4 = .ok (.ifCond .lt 26, 3) := by decide +kernel
theorem dX3_put_7 : decode cX3_put 7 = .ok (.aload_n 0, 1) := by decide +kernel
theorem dX3_put_8 : decode cX3_put 8 = .ok (.getfield 21, 3) := by decide +kernel
theorem dX3_put_11 : decode cX3_put 11 = .ok (.aload_n 0, 1) := by decide +kernel
theorem dX3_put_12 : decode cX3_put 12 = .ok (.getfield 15, 3) := by decide +kernel
theorem dX3_put_15 : decode cX3_put 15 = .ok (.arraylength, 1) := by decide +kernel
theorem dX3_put_16 : decode cX3_put 16 = .ok (.if_icmp .ge 14, 3) := by decide +kernel
theorem dX3_put_19 : decode cX3_put 19 = .ok (.aload_n 0, 1) := by decide +kernel
theorem dX3_put_20 : decode cX3_put 20 = .ok (.getfield 15, 3) := by decide +kernel
theorem dX3_put_23 : decode cX3_put 23 = .ok (.aload_n 0, 1) := by decide +kernel
theorem dX3_put_24 : decode cX3_put 24 = .ok (.getfield 21, 3) := by decide +kernel
theorem dX3_put_27 : decode cX3_put 27 = .ok (.iload_n 1, 1) := by decide +kernel
theorem dX3_put_28 : decode cX3_put 28 = .ok (.i2b, 1) := by decide +kernel
theorem dX3_put_29 : decode cX3_put 29 = .ok (.bastore, 1) := by decide +kernel
theorem dX3_put_30 : decode cX3_put 30 = .ok (.aload_n 0, 1) := by decide +kernel
theorem dX3_put_31 : decode cX3_put 31 = .ok (.dup, 1) := by decide +kernel
theorem dX3_put_32 : decode cX3_put 32 = .ok (.getfield 21, 3) := by decide +kernel
theorem dX3_put_35 : decode cX3_put 35 = .ok (.iconst 1, 1) := by decide +kernel
theorem dX3_put_36 : decode cX3_put 36 = .ok (.iadd, 1) := by decide +kernel
theorem dX3_put_37 : decode cX3_put 37 = .ok (.putfield 21, 3) := by decide +kernel
theorem dX3_put_40 : decode cX3_put 40 = .ok (.return_, 1) := by decide +kernel
theorem dX3_putFour_0 : decode cX3_putFour 0 = .ok (.aload_n 0, 1) := by decide +kernel
theorem dX3_putFour_1 : decode cX3_putFour 1 = .ok (.iload_n 1, 1) := by decide +kernel
theorem dX3_putFour_2 : decode cX3_putFour 2 = .ok (.bipush 24, 2) := by decide +kernel
theorem dX3_putFour_4 : decode cX3_putFour 4 = .ok (.iushr, 1) := by decide +kernel
theorem dX3_putFour_5 : decode cX3_putFour 5 = .ok (.invokevirtual 25, 3) := by decide +kernel
theorem dX3_putFour_8 : decode cX3_putFour 8 = .ok (.aload_n 0, 1) := by decide +kernel
theorem dX3_putFour_9 : decode cX3_putFour 9 = .ok (.iload_n 1, 1) := by decide +kernel
theorem dX3_putFour_10 : decode cX3_putFour 10 = .ok (.bipush 16, 2) := by decide +kernel
theorem dX3_putFour_12 : decode cX3_putFour 12 = .ok (.iushr, 1) := by decide +kernel
theorem dX3_putFour_13 : decode cX3_putFour 13 = .ok (.invokevirtual 25, 3) := by decide +kernel
theorem dX3_putFour_16 : decode cX3_putFour 16 = .ok (.aload_n 0, 1) := by decide +kernel
theorem dX3_putFour_17 : decode cX3_putFour 17 = .ok (.iload_n 1, 1) := by decide +kernel
theorem dX3_putFour_18 : decode cX3_putFour 18 = .ok (.bipush 8, 2) := by decide +kernel
theorem dX3_putFour_20 : decode cX3_putFour 20 = .ok (.iushr, 1) := by decide +kernel
theorem dX3_putFour_21 : decode cX3_putFour 21 = .ok (.invokevirtual 25, 3) := by decide +kernel
theorem dX3_putFour_24 : decode cX3_putFour 24 = .ok (.aload_n 0, 1) := by decide +kernel
theorem dX3_putFour_25 : decode cX3_putFour 25 = .ok (.iload_n 1, 1) := by decide +kernel
theorem dX3_putFour_26 : decode cX3_putFour 26 = .ok (.invokevirtual 25, 3) := by decide +kernel
theorem dX3_putFour_29 : decode cX3_putFour 29 = .ok (.return_, 1) := by decide +kernel
theorem dX3_putWord_0 : decode cX3_putWord 0 = .ok (.iconst 0, 1) := by decide +kernel
theorem dX3_putWord_1 : decode cX3_putWord 1 = .ok (.istore_n 2, 1) := by decide +kernel
theorem dX3_putWord_2 : decode cX3_putWord 2 = .ok (.iload_n 2, 1) := by decide +kernel
theorem dX3_putWord_3 : decode cX3_putWord 3 = .ok (.aload_n 1, 1) := by decide +kernel
theorem dX3_putWord_4 : decode cX3_putWord 4 = .ok (.invokevirtual 29, 3) := by decide +kernel
theorem dX3_putWord_7 : decode cX3_putWord 7 = .ok (.if_icmp .ge 18, 3) := by decide +kernel
theorem dX3_putWord_10 : decode cX3_putWord 10 = .ok (.aload_n 0, 1) := by decide +kernel
theorem dX3_putWord_11 : decode cX3_putWord 11 = .ok (.aload_n 1, 1) := by decide +kernel
theorem dX3_putWord_12 : decode cX3_putWord 12 = .ok (.iload_n 2, 1) := by decide +kernel
theorem dX3_putWord_13 : decode cX3_putWord 13 = .ok (.invokevirtual 35, 3) := by decide +kernel
theorem dX3_putWord_16 : decode cX3_putWord 16 = .ok (.invokevirtual 25, 3) := by decide +kernel
theorem dX3_putWord_19 : decode cX3_putWord 19 = .ok (.iinc 2 1, 3) := by decide +kernel
theorem dX3_putWord_22 : decode cX3_putWord 22 = .ok (.goto (-20), 3) := by decide +kernel
theorem dX3_putWord_25 : decode cX3_putWord 25 = .ok (.return_, 1) := by decide +kernel
theorem dX3_cutTo_0 : decode cX3_cutTo 0 = .ok (.iload_n 1, 1) := by decide +kernel
theorem dX3_cutTo_1 : decode cX3_cutTo 1 = .ok (.ifCond .lt 16, 3) := by decide +kernel
theorem dX3_cutTo_4 : decode cX3_cutTo 4 = .ok (.iload_n 1, 1) := by decide +kernel
theorem dX3_cutTo_5 : decode cX3_cutTo 5 = .ok (.aload_n 0, 1) := by decide +kernel
theorem dX3_cutTo_6 : decode cX3_cutTo 6 = .ok (.getfield 21, 3) := by decide +kernel
theorem dX3_cutTo_9 : decode cX3_cutTo 9 = .ok (.if_icmp .gt 8, 3) := by decide +kernel
theorem dX3_cutTo_12 : decode cX3_cutTo 12 = .ok (.aload_n 0, 1) := by decide +kernel
theorem dX3_cutTo_13 : decode cX3_cutTo 13 = .ok (.iload_n 1, 1) := by decide +kernel
theorem dX3_cutTo_14 : decode cX3_cutTo 14 = .ok (.putfield 21, 3) := by decide +kernel
theorem dX3_cutTo_17 : decode cX3_cutTo 17 = .ok (.return_, 1) := by decide +kernel
theorem dX3_copyFrom_0 : decode cX3_copyFrom 0 = .ok (.aload_n 1, 1) := by decide +kernel
theorem dX3_copyFrom_1 : decode cX3_copyFrom 1 = .ok (.getfield 21, 3) := by decide +kernel
theorem dX3_copyFrom_4 : decode cX3_copyFrom 4 = .ok (.aload_n 1, 1) := by decide +kernel
theorem dX3_copyFrom_5 : decode cX3_copyFrom 5 = .ok (.getfield 15, 3) := by decide +kernel
theorem dX3_copyFrom_8 : decode cX3_copyFrom 8 = .ok (.arraylength, 1) := by decide +kernel
theorem dX3_copyFrom_9 : decode cX3_copyFrom 9 = .ok (.aload_n 0, 1) := by decide +kernel
theorem dX3_copyFrom_10 : decode cX3_copyFrom 10 = .ok (.getfield 15, 3) := by decide +kernel
theorem dX3_copyFrom_13 : decode cX3_copyFrom 13 = .ok (.arraylength, 1) := by decide +kernel
theorem dX3_copyFrom_14 : decode cX3_copyFrom 14 = .ok (.invokestatic 39, 3) := by decide +kernel
theorem dX3_copyFrom_17 : decode cX3_copyFrom 17 = .ok (.invokestatic 39, 3) := by decide +kernel
theorem dX3_copyFrom_20 : decode cX3_copyFrom 20 = .ok (.istore_n 2, 1) := by decide +kernel
theorem dX3_copyFrom_21 : decode cX3_copyFrom 21 = .ok (.aload_n 1, 1) := by decide +kernel
theorem dX3_copyFrom_22 : decode cX3_copyFrom 22 = .ok (.getfield 15, 3) := by decide +kernel
theorem dX3_copyFrom_25 : decode cX3_copyFrom 25 = .ok (.iconst 0, 1) := by decide +kernel
theorem dX3_copyFrom_26 : decode cX3_copyFrom 26 = .ok (.aload_n 0, 1) := by decide +kernel
theorem dX3_copyFrom_27 : decode cX3_copyFrom 27 = .ok (.getfield 15, 3) := by decide +kernel
theorem dX3_copyFrom_30 : decode cX3_copyFrom 30 = .ok (.iconst 0, 1) := by decide +kernel
theorem dX3_copyFrom_31 : decode cX3_copyFrom 31 = .ok (.iload_n 2, 1) := by decide +kernel
theorem dX3_copyFrom_32 : decode cX3_copyFrom 32 = .ok (.invokestatic 42, 3) := by decide +kernel
theorem dX3_copyFrom_35 : decode cX3_copyFrom 35 = .ok (.aload_n 0, 1) := by decide +kernel
theorem dX3_copyFrom_36 : decode cX3_copyFrom 36 = .ok (.iload_n 2, 1) := by decide +kernel
theorem dX3_copyFrom_37 : decode cX3_copyFrom 37 = .ok (.putfield 21, 3) := by decide +kernel
theorem dX3_copyFrom_40 : decode cX3_copyFrom 40 = .ok (.return_, 1) := by decide +kernel
theorem dX3_openHead_0 : decode cX3_openHead 0 = .ok (.aload_n 0, 1) := by decide +kernel
theorem dX3_openHead_1 : decode cX3_openHead 1 = .ok (.iconst 0, 1) := by decide +kernel
theorem dX3_openHead_2 : decode cX3_openHead 2 = .ok (.invokevirtual 25, 3) := by decide +kernel
theorem dX3_openHead_5 : decode cX3_openHead 5 = .ok (.aload_n 0, 1) := by decide +kernel
theorem dX3_openHead_6 : decode cX3_openHead 6 = .ok (.getfield 21, 3) := by decide +kernel
theorem dX3_openHead_9 : decode cX3_openHead 9 = .ok (.iconst 1, 1) := by decide +kernel
theorem dX3_openHead_10 : decode cX3_openHead 10 = .ok (.isub, 1) := by decide +kernel
theorem dX3_openHead_11 : decode cX3_openHead 11 = .ok (.ireturn, 1) := by decide +kernel
theorem dX3_closeHead_0 : decode cX3_closeHead 0 = .ok (.lload_n 3, 1) := by decide +kernel
theorem dX3_closeHead_1 : decode cX3_closeHead 1 = .ok (.invokestatic 48, 3) := by decide +kernel
theorem dX3_closeHead_4 : decode cX3_closeHead 4 = .ok (.istore 5, 2) := by decide +kernel
theorem dX3_closeHead_6 : decode cX3_closeHead 6 = .ok (.iload 5, 2) := by decide +kernel
theorem dX3_closeHead_8 : decode cX3_closeHead 8 = .ok (.invokestatic 52, 3) := by decide +kernel
theorem dX3_closeHead_11 : decode cX3_closeHead 11 = .ok (.istore 6, 2) := by decide +kernel
theorem dX3_closeHead_13 : decode cX3_closeHead 13 = .ok (.aload_n 0, 1) := by decide +kernel
theorem dX3_closeHead_14 : decode cX3_closeHead 14 = .ok (.iload_n 1, 1) := by decide +kernel
theorem dX3_closeHead_15 : decode cX3_closeHead 15 = .ok (.iconst 1, 1) := by decide +kernel
theorem dX3_closeHead_16 : decode cX3_closeHead 16 = .ok (.iadd, 1) := by decide +kernel
theorem dX3_closeHead_17 : decode cX3_closeHead 17 = .ok (.iload 6, 2) := by decide +kernel
theorem dX3_closeHead_19 : decode cX3_closeHead 19 = .ok (.invokevirtual 56, 3) := by decide +kernel
theorem dX3_closeHead_22 : decode cX3_closeHead 22 = .ok (.aload_n 0, 1) := by decide +kernel
theorem dX3_closeHead_23 : decode cX3_closeHead 23 = .ok (.iload_n 1, 1) := by decide +kernel
theorem dX3_closeHead_24 : decode cX3_closeHead 24 = .ok (.iload_n 2, 1) := by decide +kernel
theorem dX3_closeHead_25 : decode cX3_closeHead 25 = .ok (.iconst 5, 1) := by decide +kernel
theorem dX3_closeHead_26 : decode cX3_closeHead 26 = .ok (.ishl, 1) := by decide +kernel
theorem dX3_closeHead_27 : decode cX3_closeHead 27 = .ok (.iload 5, 2) := by decide +kernel
theorem dX3_closeHead_29 : decode cX3_closeHead 29 = .ok (.ior, 1) := by decide +kernel
theorem dX3_closeHead_30 : decode cX3_closeHead 30 = .ok (.invokevirtual 60, 3) := by decide +kernel
theorem dX3_closeHead_33 : decode cX3_closeHead 33 = .ok (.iconst 0, 1) := by decide +kernel
theorem dX3_closeHead_34 : decode cX3_closeHead 34 = .ok (.istore 7, 2) := by decide +kernel
theorem dX3_closeHead_36 : decode cX3_closeHead 36 = .ok (.iload 7, 2) := by decide +kernel
theorem dX3_closeHead_38 : decode cX3_closeHead 38 = .ok (.iload 6, 2) := by decide +kernel
theorem dX3_closeHead_40 : decode cX3_closeHead 40 = .ok (.if_icmp .ge 32, 3) := by decide +kernel
theorem dX3_closeHead_43 : decode cX3_closeHead 43 = .ok (.aload_n 0, 1) := by decide +kernel
theorem dX3_closeHead_44 : decode cX3_closeHead 44 = .ok (.iload_n 1, 1) := by decide +kernel
theorem dX3_closeHead_45 : decode cX3_closeHead 45 = .ok (.iconst 1, 1) := by decide +kernel
theorem dX3_closeHead_46 : decode cX3_closeHead 46 = .ok (.iadd, 1) := by decide +kernel
theorem dX3_closeHead_47 : decode cX3_closeHead 47 = .ok (.iload 7, 2) := by decide +kernel
theorem dX3_closeHead_49 : decode cX3_closeHead 49 = .ok (.iadd, 1) := by decide +kernel
theorem dX3_closeHead_50 : decode cX3_closeHead 50 = .ok (.lload_n 3, 1) := by decide +kernel
theorem dX3_closeHead_51 : decode cX3_closeHead 51 = .ok (.bipush 8, 2) := by decide +kernel
theorem dX3_closeHead_53 : decode cX3_closeHead 53 = .ok (.iload 6, 2) := by decide +kernel
theorem dX3_closeHead_55 : decode cX3_closeHead 55 = .ok (.iconst 1, 1) := by decide +kernel
theorem dX3_closeHead_56 : decode cX3_closeHead 56 = .ok (.isub, 1) := by decide +kernel
theorem dX3_closeHead_57 : decode cX3_closeHead 57 = .ok (.iload 7, 2) := by decide +kernel
theorem dX3_closeHead_59 : decode cX3_closeHead 59 = .ok (.isub, 1) := by decide +kernel
theorem dX3_closeHead_60 : decode cX3_closeHead 60 = .ok (.imul, 1) := by decide +kernel
theorem dX3_closeHead_61 : decode cX3_closeHead 61 = .ok (.lushr, 1) := by decide +kernel
theorem dX3_closeHead_62 : decode cX3_closeHead 62 = .ok (.l2i, 1) := by decide +kernel
theorem dX3_closeHead_63 : decode cX3_closeHead 63 = .ok (.invokevirtual 60, 3) := by decide +kernel
theorem dX3_closeHead_66 : decode cX3_closeHead 66 = .ok (.iinc 7 1, 3) := by decide +kernel
theorem dX3_closeHead_69 : decode cX3_closeHead 69 = .ok (.goto (-33), 3) := by decide +kernel
theorem dX3_closeHead_72 : decode cX3_closeHead 72 = .ok (.return_, 1) := by decide +kernel
theorem dX3_putHead_0 : decode cX3_putHead 0 = .ok (.aload_n 0, 1) := by decide +kernel
theorem dX3_putHead_1 : decode cX3_putHead 1 = .ok (.aload_n 0, 1) := by decide +kernel
theorem dX3_putHead_2 : decode cX3_putHead 2 = .ok (.invokevirtual 63, 3) := by decide +kernel
theorem dX3_putHead_5 : decode cX3_putHead 5 = .ok (.iload_n 1, 1) := by decide +kernel
theorem dX3_putHead_6 : decode cX3_putHead 6 = .ok (.lload_n 2, 1) := by decide +kernel
theorem dX3_putHead_7 : decode cX3_putHead 7 = .ok (.invokevirtual 66, 3) := by decide +kernel
theorem dX3_putHead_10 : decode cX3_putHead 10 = .ok (.return_, 1) := by decide +kernel
theorem dX3_makeGap_0 : decode cX3_makeGap 0 = .ok (.aload_n 0, 1) := by decide +kernel
theorem dX3_makeGap_1 : decode cX3_makeGap 1 = .ok (.getfield 21, 3) := by decide +kernel
theorem dX3_makeGap_4 : decode cX3_makeGap 4 = .ok (.aload_n 0, 1) := by decide +kernel
theorem dX3_makeGap_5 : decode cX3_makeGap 5 = .ok (.getfield 15, 3) := by decide +kernel
theorem dX3_makeGap_8 : decode cX3_makeGap 8 = .ok (.arraylength, 1) := by decide +kernel
theorem dX3_makeGap_9 : decode cX3_makeGap 9 = .ok (.iload_n 2, 1) := by decide +kernel
theorem dX3_makeGap_10 : decode cX3_makeGap 10 = .ok (.isub, 1) := by decide +kernel
theorem dX3_makeGap_11 : decode cX3_makeGap 11 = .ok (.invokestatic 39, 3) := by decide +kernel
theorem dX3_makeGap_14 : decode cX3_makeGap 14 = .ok (.iload_n 1, 1) := by decide +kernel
theorem dX3_makeGap_15 : decode cX3_makeGap 15 = .ok (.isub, 1) := by decide +kernel
theorem dX3_makeGap_16 : decode cX3_makeGap 16 = .ok (.istore_n 3, 1) := by decide +kernel
theorem dX3_makeGap_17 : decode cX3_makeGap 17 = .ok (.iload_n 1, 1) := by decide +kernel
theorem dX3_makeGap_18 : decode cX3_makeGap 18 = .ok (.ifCond .lt 27, 3) := by decide +kernel
theorem dX3_makeGap_21 : decode cX3_makeGap 21 = .ok (.iload_n 2, 1) := by decide +kernel
theorem dX3_makeGap_22 : decode cX3_makeGap 22 = .ok (.ifCond .le 23, 3) := by decide +kernel
theorem dX3_makeGap_25 : decode cX3_makeGap 25 = .ok (.iload_n 3, 1) := by decide +kernel
theorem dX3_makeGap_26 : decode cX3_makeGap 26 = .ok (.ifCond .le 19, 3) := by decide +kernel
theorem dX3_makeGap_29 : decode cX3_makeGap 29 = .ok (.aload_n 0, 1) := by decide +kernel
theorem dX3_makeGap_30 : decode cX3_makeGap 30 = .ok (.getfield 15, 3) := by decide +kernel
theorem dX3_makeGap_33 : decode cX3_makeGap 33 = .ok (.iload_n 1, 1) := by decide +kernel
theorem dX3_makeGap_34 : decode cX3_makeGap 34 = .ok (.aload_n 0, 1) := by decide +kernel
theorem dX3_makeGap_35 : decode cX3_makeGap 35 = .ok (.getfield 15, 3) := by decide +kernel
theorem dX3_makeGap_38 : decode cX3_makeGap 38 = .ok (.iload_n 1, 1) := by decide +kernel
theorem dX3_makeGap_39 : decode cX3_makeGap 39 = .ok (.iload_n 2, 1) := by decide +kernel
theorem dX3_makeGap_40 : decode cX3_makeGap 40 = .ok (.iadd, 1) := by decide +kernel
theorem dX3_makeGap_41 : decode cX3_makeGap 41 = .ok (.iload_n 3, 1) := by decide +kernel
theorem dX3_makeGap_42 : decode cX3_makeGap 42 = .ok (.invokestatic 42, 3) := by decide +kernel
theorem dX3_makeGap_45 : decode cX3_makeGap 45 = .ok (.aload_n 0, 1) := by decide +kernel
theorem dX3_makeGap_46 : decode cX3_makeGap 46 = .ok (.dup, 1) := by decide +kernel
theorem dX3_makeGap_47 : decode cX3_makeGap 47 = .ok (.getfield 21, 3) := by decide +kernel
theorem dX3_makeGap_50 : decode cX3_makeGap 50 = .ok (.iload_n 2, 1) := by decide +kernel
theorem dX3_makeGap_51 : decode cX3_makeGap 51 = .ok (.iadd, 1) := by decide +kernel
theorem dX3_makeGap_52 : decode cX3_makeGap 52 = .ok (.putfield 21, 3) := by decide +kernel
theorem dX3_makeGap_55 : decode cX3_makeGap 55 = .ok (.return_, 1) := by decide +kernel
theorem dX3_set_0 : decode cX3_set 0 = .ok (.iload_n 1, 1) := by decide +kernel
theorem dX3_set_1 : decode cX3_set 1 = .ok (.ifCond .lt 28, 3) := by decide +kernel
theorem dX3_set_4 : decode cX3_set 4 = .ok (.iload_n 1, 1) := by decide +kernel
theorem dX3_set_5 : decode cX3_set 5 = .ok (.aload_n 0, 1) := by decide +kernel
theorem dX3_set_6 : decode cX3_set 6 = .ok (.getfield 21, 3) := by decide +kernel
theorem dX3_set_9 : decode cX3_set 9 = .ok (.if_icmp .ge 20, 3) := by decide +kernel
theorem dX3_set_12 : decode cX3_set 12 = .ok (.iload_n 1, 1) := by decide +kernel
theorem dX3_set_13 : decode cX3_set 13 = .ok (.aload_n 0, 1) := by decide +kernel
theorem dX3_set_14 : decode cX3_set 14 = .ok (.getfield 15, 3) := by decide +kernel
theorem dX3_set_17 : decode cX3_set 17 = .ok (.arraylength, 1) := by decide +kernel
theorem dX3_set_18 : decode cX3_set 18 = .ok (.if_icmp .ge 11, 3) := by decide +kernel
theorem dX3_set_21 : decode cX3_set 21 = .ok (.aload_n 0, 1) := by decide +kernel
theorem dX3_set_22 : decode cX3_set 22 = .ok (.getfield 15, 3) := by decide +kernel
theorem dX3_set_25 : decode cX3_set 25 = .ok (.iload_n 1, 1) := by decide +kernel
theorem dX3_set_26 : decode cX3_set 26 = .ok (.iload_n 2, 1) := by decide +kernel
theorem dX3_set_27 : decode cX3_set 27 = .ok (.i2b, 1) := by decide +kernel
theorem dX3_set_28 : decode cX3_set 28 = .ok (.bastore, 1) := by decide +kernel
theorem dX3_set_29 : decode cX3_set 29 = .ok (.return_, 1) := by decide +kernel
theorem dX4_init_0 : decode cX4_init 0 = .ok (.aload_n 0, 1) := by decide +kernel
theorem dX4_init_1 : decode cX4_init 1 = .ok (.invokespecial 1, 3) := by decide +kernel
theorem dX4_init_4 : decode cX4_init 4 = .ok (.aload_n 0, 1) := by decide +kernel
theorem dX4_init_5 : decode cX4_init 5 = .ok (.new 7, 3) := by decide +kernel
theorem dX4_init_8 : decode cX4_init 8 = .ok (.dup, 1) := by decide +kernel
theorem dX4_init_9 : decode cX4_init 9 = .ok (.sipush 4000, 3) := by decide +kernel
theorem dX4_init_12 : decode cX4_init 12 = .ok (.invokespecial 11, 3) := by decide +kernel
theorem dX4_init_15 : decode cX4_init 15 = .ok (.putfield 14, 3) := by decide +kernel
theorem dX4_init_18 : decode cX4_init 18 = .ok (.aload_n 0, 1) := by decide +kernel
theorem dX4_init_19 : decode cX4_init 19 = .ok (.new 7, 3) := by decide +kernel
theorem dX4_init_22 : decode cX4_init 22 = .ok (.dup, 1) := by decide +kernel
theorem dX4_init_23 : decode cX4_init 23 = .ok (.sipush 6000, 3) := by decide +kernel
theorem dX4_init_26 : decode cX4_init 26 = .ok (.invokespecial 11, 3) := by decide +kernel
theorem dX4_init_29 : decode cX4_init 29 = .ok (.putfield 18, 3) := by decide +kernel
theorem dX4_init_32 : decode cX4_init 32 = .ok (.aload_n 0, 1) := by decide +kernel
theorem dX4_init_33 : decode cX4_init 33 = .ok (.new 7, 3) := by decide +kernel
theorem dX4_init_36 : decode cX4_init 36 = .ok (.dup, 1) := by decide +kernel
theorem dX4_init_37 : decode cX4_init 37 = .ok (.sipush 6000, 3) := by decide +kernel
theorem dX4_init_40 : decode cX4_init 40 = .ok (.invokespecial 11, 3) := by decide +kernel
theorem dX4_init_43 : decode cX4_init 43 = .ok (.putfield 21, 3) := by decide +kernel
theorem dX4_init_46 : decode cX4_init 46 = .ok (.aload_n 0, 1) := by decide +kernel
theorem dX4_init_47 : decode cX4_init 47 = .ok (.bipush 20, 2) := by decide +kernel
theorem dX4_init_49 : decode cX4_init 49 = .ok (.putfield 24, 3) := by decide +kernel
theorem dX4_init_52 : decode cX4_init 52 = .ok (.aload_n 0, 1) := by decide +kernel
theorem dX4_init_53 : decode cX4_init 53 = .ok (.sipush 4000, 3) := by decide +kernel
theorem dX4_init_56 : decode cX4_init 56 = .ok (.putfield 28, 3) := by decide +kernel
theorem dX4_init_59 : decode cX4_init 59 = .ok (.aload_n 0, 1) := by decide +kernel
theorem dX4_init_60 : decode cX4_init 60 = .ok (.iconst (-1), 1) := by decide +kernel
theorem dX4_init_61 : decode cX4_init 61 = .ok (.putfield 31, 3) := by decide +kernel
theorem dX4_init_64 : decode cX4_init 64 = .ok (.return_, 1) := by decide +kernel
theorem dX4_feed_0 : decode cX4_feed 0 = .ok (.aload_n 0, 1) := by decide +kernel
theorem dX4_feed_1 : decode cX4_feed 1 = .ok (.getfield 14, 3) := by decide +kernel
theorem dX4_feed_4 : decode cX4_feed 4 = .ok (.invokevirtual 34, 3) := by decide +kernel
theorem dX4_feed_7 : decode cX4_feed 7 = .ok (.bipush 20, 2) := by decide +kernel
theorem dX4_feed_9 : decode cX4_feed 9 = .ok (.iadd, 1) := by decide +kernel
theorem dX4_feed_10 : decode cX4_feed 10 = .ok (.sipush 4000, 3) := by decide +kernel
theorem dX4_feed_13 : decode cX4_feed 13 = .ok (.if_icmp .le 5, 3) := by decide +kernel
theorem dX4_feed_16 : decode cX4_feed 16 = .ok (.iconst (-1), 1) := by decide +kernel
theorem dX4_feed_17 : decode cX4_feed 17 = .ok (.ireturn, 1) := by decide +kernel
theorem dX4_feed_18 : decode cX4_feed 18 = .ok (.aload_n 0, 1) := by decide +kernel
theorem dX4_feed_19 : decode cX4_feed 19 = .ok (.getfield 14, 3) := by decide +kernel
theorem dX4_feed_22 : decode cX4_feed 22 = .ok (.iload_n 1, 1) := by decide +kernel
theorem dX4_feed_23 : decode cX4_feed 23 = .ok (.invokevirtual 38, 3) := by decide +kernel
theorem dX4_feed_26 : decode cX4_feed 26 = .ok (.aload_n 0, 1) := by decide +kernel
theorem dX4_feed_27 : decode cX4_feed 27 = .ok (.getfield 14, 3) := by decide +kernel
theorem dX4_feed_30 : decode cX4_feed 30 = .ok (.iload_n 2, 1) := by decide +kernel
theorem dX4_feed_31 : decode cX4_feed 31 = .ok (.invokevirtual 38, 3) := by decide +kernel
theorem dX4_feed_34 : decode cX4_feed 34 = .ok (.aload_n 0, 1) := by decide +kernel
theorem dX4_feed_35 : decode cX4_feed 35 = .ok (.getfield 14, 3) := by decide +kernel
theorem dX4_feed_38 : decode cX4_feed 38 = .ok (.iload_n 3, 1) := by decide +kernel
theorem dX4_feed_39 : decode cX4_feed 39 = .ok (.invokevirtual 38, 3) := by decide +kernel
theorem dX4_feed_42 : decode cX4_feed 42 = .ok (.aload_n 0, 1) := by decide +kernel
theorem dX4_feed_43 : decode cX4_feed 43 = .ok (.getfield 14, 3) := by decide +kernel
theorem dX4_feed_46 : decode cX4_feed 46 = .ok (.iload 4, 2) := by decide +kernel
theorem dX4_feed_48 : decode cX4_feed 48 = .ok (.invokevirtual 38, 3) := by decide +kernel
theorem dX4_feed_51 : decode cX4_feed 51 = .ok (.aload_n 0, 1) := by decide +kernel
theorem dX4_feed_52 : decode cX4_feed 52 = .ok (.getfield 14, 3) := by decide +kernel
theorem dX4_feed_55 : decode cX4_feed 55 = .ok (.iload 5, 2) := by decide +kernel
theorem dX4_feed_57 : decode cX4_feed 57 = .ok (.invokevirtual 38, 3) := by decide +kernel
theorem dX4_feed_60 : decode cX4_feed 60 = .ok (.aload_n 0, 1) := by decide +kernel
theorem dX4_feed_61 : decode cX4_feed 61 = .ok (.getfield 14, 3) := by decide +kernel
theorem dX4_feed_64 : decode cX4_feed 64 = .ok (.invokevirtual 34, 3) := by decide +kernel
theorem dX4_feed_67 : decode cX4_feed 67 = .ok (.ireturn, 1) := by decide +kernel
theorem dX4_end_0 : decode cX4_end 0 = .ok (.iload_n 1, 1) := by decide +kernel
theorem dX4_end_1 : decode cX4_end 1 = .ok (.ifCond .lt 14, 3) := by decide +kernel
theorem dX4_end_4 : decode cX4_end 4 = .ok (.iload_n 1, 1) := by decide +kernel
theorem dX4_end_5 : decode cX4_end 5 = .ok (.aload_n 0, 1) := by decide +kernel
theorem dX4_end_6 : decode cX4_end 6 = .ok (.getfield 14, 3) := by decide +kernel
theorem dX4_end_9 : decode cX4_end 9 = .ok (.invokevirtual 34, 3) := by decide +kernel
theorem dX4_end_12 : decode cX4_end 12 = .ok (.if_icmp .le 5, 3) := by decide +kernel
theorem dX4_end_15 : decode cX4_end 15 = .ok (.iconst (-1), 1) := by decide +kernel
theorem dX4_end_16 : decode cX4_end 16 = .ok (.ireturn, 1) := by decide +kernel
theorem dX4_end_17 : decode cX4_end 17 = .ok (.aload_n 0, 1) := by decide +kernel
theorem dX4_end_18 : decode cX4_end 18 = .ok (.getfield 14, 3) := by decide +kernel
theorem dX4_end_21 : decode cX4_end 21 = .ok (.iload_n 1, 1) := by decide +kernel
theorem dX4_end_22 : decode cX4_end 22 = .ok (.invokevirtual 41, 3) := by decide +kernel
theorem dX4_end_25 : decode cX4_end 25 = .ok (.iload_n 1, 1) := by decide +kernel
theorem dX4_end_26 : decode cX4_end 26 = .ok (.ireturn, 1) := by decide +kernel
theorem dX4_bounds_0 : decode cX4_bounds 0 = .ok (.iload_n 1, 1) := by decide +kernel
theorem dX4_bounds_1 : decode cX4_bounds 1 = .ok (.ifCond .lt 20, 3) := by decide +kernel
theorem dX4_bounds_4 : decode cX4_bounds 4 = .ok (.iload_n 1, 1) := by decide +kernel
theorem dX4_bounds_5 : decode cX4_bounds 5 = .ok (.bipush 40, 2) := by decide +kernel
theorem dX4_bounds_7 : decode cX4_bounds 7 = .ok (.if_icmp .gt 14, 3) := by decide +kernel
theorem dX4_bounds_10 : decode cX4_bounds 10 = .ok (.iload_n 2, 1) := by decide +kernel
theorem dX4_bounds_11 : decode cX4_bounds 11 = .ok (.ifCond .lt 10, 3) := by decide +kernel
theorem dX4_bounds_14 : decode cX4_bounds 14 = .ok (.iload_n 2, 1) := by decide +kernel
theorem dX4_bounds_15 : decode cX4_bounds 15 = .ok (.sipush 6000, 3) := by decide +kernel
theorem dX4_bounds_18 : decode cX4_bounds 18 = .ok (.if_icmp .le 5, 3) := by decide +kernel
theorem dX4_bounds_21 : decode cX4_bounds 21 = .ok (.iconst 0, 1) := by decide +kernel
theorem dX4_bounds_22 : decode cX4_bounds 22 = .ok (.ireturn, 1) := by decide +kernel
theorem dX4_bounds_23 : decode cX4_bounds 23 = .ok (.aload_n 0, 1) := by decide +kernel
theorem dX4_bounds_24 : decode cX4_bounds 24 = .ok (.iload_n 1, 1) := by decide +kernel
theorem dX4_bounds_25 : decode cX4_bounds 25 = .ok (.putfield 24, 3) := by decide +kernel
theorem dX4_bounds_28 : decode cX4_bounds 28 = .ok (.aload_n 0, 1) := by decide +kernel
theorem dX4_bounds_29 : decode cX4_bounds 29 = .ok (.iload_n 2, 1) := by decide +kernel
theorem dX4_bounds_30 : decode cX4_bounds 30 = .ok (.putfield 28, 3) := by decide +kernel
theorem dX4_bounds_33 : decode cX4_bounds 33 = .ok (.iconst 1, 1) := by decide +kernel
theorem dX4_bounds_34 : decode cX4_bounds 34 = .ok (.ireturn, 1) := by decide +kernel
theorem dX4_toCbor_0 : decode cX4_toCbor 0 = .ok (.aload_n 0, 1) := by decide +kernel
theorem dX4_toCbor_1 : decode cX4_toCbor 1 = .ok (.getfield 21, 3) := by decide +kernel
theorem dX4_toCbor_4 : decode cX4_toCbor 4 = .ok (.iconst 0, 1) := by decide +kernel
theorem dX4_toCbor_5 : decode cX4_toCbor 5 = .ok (.invokevirtual 41, 3) := by decide +kernel
theorem dX4_toCbor_8 : decode cX4_toCbor 8 = .ok (.new 44, 3) := by decide +kernel
theorem dX4_toCbor_11 : decode cX4_toCbor 11 = .ok (.dup, 1) := by decide +kernel
theorem dX4_toCbor_12 : decode cX4_toCbor 12 = .ok (.aload_n 0, 1) := by decide +kernel
theorem dX4_toCbor_13 : decode cX4_toCbor 13 = .ok (.getfield 14, 3) := by decide +kernel
theorem dX4_toCbor_16 : decode cX4_toCbor 16 = .ok (.aload_n 0, 1) := by decide +kernel
theorem dX4_toCbor_17 : decode cX4_toCbor 17 = .ok (.getfield 21, 3) := by decide +kernel
theorem dX4_toCbor_20 : decode cX4_toCbor 20 = .ok (.aload_n 0, 1) := by decide +kernel
theorem dX4_toCbor_21 : decode cX4_toCbor 21 = .ok (.getfield 24, 3) := by decide +kernel
theorem dX4_toCbor_24 : decode cX4_toCbor 24 = .ok (.invokespecial 46, 3) := by decide +kernel
theorem dX4_toCbor_27 : decode cX4_toCbor 27 = .ok (.astore_n 1, 1) := by decide +kernel
theorem dX4_toCbor_28 : decode cX4_toCbor 28 = .ok (.aload_n 0, 1) := by decide +kernel
theorem dX4_toCbor_29 : decode cX4_toCbor 29 = .ok (.aload_n 1, 1) := by decide +kernel
theorem dX4_toCbor_30 : decode cX4_toCbor 30 = .ok (.aload_n 1, 1) := by decide +kernel
theorem dX4_toCbor_31 : decode cX4_toCbor 31 = .ok (.iconst 0, 1) := by decide +kernel
theorem dX4_toCbor_32 : decode cX4_toCbor 32 = .ok (.invokevirtual 49, 3) := by decide +kernel
theorem dX4_toCbor_35 : decode cX4_toCbor 35 = .ok (.ifCond .eq 14, 3) := by decide +kernel
theorem dX4_toCbor_38 : decode cX4_toCbor 38 = .ok (.aload_n 1, 1) := by decide +kernel
theorem dX4_toCbor_39 : decode cX4_toCbor 39 = .ok (.invokevirtual 53, 3) := by decide +kernel
theorem dX4_toCbor_42 : decode cX4_toCbor 42 = .ok (.ifCond .eq 7, 3) := by decide +kernel
theorem dX4_toCbor_45 : decode cX4_toCbor 45 = .ok (.iconst 1, 1) := by decide +kernel
theorem dX4_toCbor_46 : decode cX4_toCbor 46 = .ok (.goto 4, 3) := by decide +kernel
theorem dX4_toCbor_49 : decode cX4_toCbor 49 = .ok (.iconst 0, 1) := by decide +kernel
theorem dX4_toCbor_50 : decode cX4_toCbor 50 = .ok (.invokevirtual 57, 3) := by decide +kernel
theorem dX4_toCbor_53 : decode cX4_toCbor 53 = .ok (.ireturn, 1) := by decide +kernel
theorem dX4_toJson_0 : decode cX4_toJson 0 = .ok (.aload_n 0, 1) := by decide +kernel
theorem dX4_toJson_1 : decode cX4_toJson 1 = .ok (.getfield 21, 3) := by decide +kernel
theorem dX4_toJson_4 : decode cX4_toJson 4 = .ok (.iconst 0, 1) := by decide +kernel
theorem dX4_toJson_5 : decode cX4_toJson 5 = .ok (.invokevirtual 41, 3) := by decide +kernel
theorem dX4_toJson_8 : decode cX4_toJson 8 = .ok (.new 61, 3) := by decide +kernel
theorem dX4_toJson_11 : decode cX4_toJson 11 = .ok (.dup, 1) := by decide +kernel
theorem dX4_toJson_12 : decode cX4_toJson 12 = .ok (.aload_n 0, 1) := by decide +kernel
theorem dX4_toJson_13 : decode cX4_toJson 13 = .ok (.getfield 14, 3) := by decide +kernel
theorem dX4_toJson_16 : decode cX4_toJson 16 = .ok (.aload_n 0, 1) := by decide +kernel
theorem dX4_toJson_17 : decode cX4_toJson 17 = .ok (.getfield 21, 3) := by decide +kernel
theorem dX4_toJson_20 : decode cX4_toJson 20 = .ok (.aload_n 0, 1) := by decide +kernel
theorem dX4_toJson_21 : decode cX4_toJson 21 = .ok (.getfield 24, 3) := by decide +kernel
theorem dX4_toJson_24 : decode cX4_toJson 24 = .ok (.invokespecial 63, 3) := by decide +kernel
theorem dX4_toJson_27 : decode cX4_toJson 27 = .ok (.astore_n 1, 1) := by decide +kernel
theorem dX4_toJson_28 : decode cX4_toJson 28 = .ok (.aload_n 0, 1) := by decide +kernel
theorem dX4_toJson_29 : decode cX4_toJson 29 = .ok (.aload_n 1, 1) := by decide +kernel
theorem dX4_toJson_30 : decode cX4_toJson 30 = .ok (.aload_n 1, 1) := by decide +kernel
theorem dX4_toJson_31 : decode cX4_toJson 31 = .ok (.iconst 0, 1) := by decide +kernel
theorem dX4_toJson_32 : decode cX4_toJson 32 = .ok (.invokevirtual 64, 3) := by decide +kernel
theorem dX4_toJson_35 : decode cX4_toJson 35 = .ok (.ifCond .eq 14, 3) := by decide +kernel
theorem dX4_toJson_38 : decode cX4_toJson 38 = .ok (.aload_n 1, 1) := by decide +kernel
theorem dX4_toJson_39 : decode cX4_toJson 39 = .ok (.invokevirtual 67, 3) := by decide +kernel
theorem dX4_toJson_42 : decode cX4_toJson 42 = .ok (.ifCond .eq 7, 3) := by decide +kernel
theorem dX4_toJson_45 : decode cX4_toJson 45 = .ok (.iconst 1, 1) := by decide +kernel
theorem dX4_toJson_46 : decode cX4_toJson 46 = .ok (.goto 4, 3) := by decide +kernel
theorem dX4_toJson_49 : decode cX4_toJson 49 = .ok (.iconst 0, 1) := by decide +kernel
theorem dX4_toJson_50 : decode cX4_toJson 50 = .ok (.invokevirtual 57, 3) := by decide +kernel
theorem dX4_toJson_53 : decode cX4_toJson 53 = .ok (.ireturn, 1) := by decide +kernel
theorem dX4_errorAt_0 : decode cX4_errorAt 0 = .ok (.aload_n 0, 1) := by decide +kernel
theorem dX4_errorAt_1 : decode cX4_errorAt 1 = .ok (.getfield 31, 3) := by decide +kernel
theorem dX4_errorAt_4 : decode cX4_errorAt 4 = .ok (.ireturn, 1) := by decide +kernel
theorem dX4_out_0 : decode cX4_out 0 = .ok (.aload_n 0, 1) := by decide +kernel
theorem dX4_out_1 : decode cX4_out 1 = .ok (.getfield 18, 3) := by decide +kernel
theorem dX4_out_4 : decode cX4_out 4 = .ok (.iload_n 1, 1) := by decide +kernel
theorem dX4_out_5 : decode cX4_out 5 = .ok (.invokevirtual 68, 3) := by decide +kernel
theorem dX4_out_8 : decode cX4_out 8 = .ok (.ireturn, 1) := by decide +kernel
theorem dX4_outSize_0 : decode cX4_outSize 0 = .ok (.aload_n 0, 1) := by decide +kernel
theorem dX4_outSize_1 : decode cX4_outSize 1 = .ok (.getfield 18, 3) := by decide +kernel
theorem dX4_outSize_4 : decode cX4_outSize 4 = .ok (.invokevirtual 34, 3) := by decide +kernel
theorem dX4_outSize_7 : decode cX4_outSize 7 = .ok (.ireturn, 1) := by decide +kernel
theorem dX4_take_0 : decode cX4_take 0 = .ok (.aload_n 0, 1) := by decide +kernel
theorem dX4_take_1 : decode cX4_take 1 = .ok (.getfield 18, 3) := by decide +kernel
theorem dX4_take_4 : decode cX4_take 4 = .ok (.invokevirtual 34, 3) := by decide +kernel
theorem dX4_take_7 : decode cX4_take 7 = .ok (.sipush 4000, 3) := by decide +kernel
theorem dX4_take_10 : decode cX4_take 10 = .ok (.if_icmp .le 5, 3) := by decide +kernel
theorem dX4_take_13 : decode cX4_take 13 = .ok (.iconst (-1), 1) := by decide +kernel
theorem dX4_take_14 : decode cX4_take 14 = .ok (.ireturn, 1) := by decide +kernel
theorem dX4_take_15 : decode cX4_take 15 = .ok (.aload_n 0, 1) := by decide +kernel
theorem dX4_take_16 : decode cX4_take 16 = .ok (.getfield 14, 3) := by decide +kernel
theorem dX4_take_19 : decode cX4_take 19 = .ok (.aload_n 0, 1) := by decide +kernel
theorem dX4_take_20 : decode cX4_take 20 = .ok (.getfield 18, 3) := by decide +kernel
theorem dX4_take_23 : decode cX4_take 23 = .ok (.invokevirtual 72, 3) := by decide +kernel
theorem dX4_take_26 : decode cX4_take 26 = .ok (.aload_n 0, 1) := by decide +kernel
theorem dX4_take_27 : decode cX4_take 27 = .ok (.getfield 14, 3) := by decide +kernel
theorem dX4_take_30 : decode cX4_take 30 = .ok (.invokevirtual 34, 3) := by decide +kernel
theorem dX4_take_33 : decode cX4_take 33 = .ok (.ireturn, 1) := by decide +kernel
theorem dX4_answerOf_0 : decode cX4_answerOf 0 = .ok (.iload_n 2, 1) := by decide +kernel
theorem dX4_answerOf_1 : decode cX4_answerOf 1 = .ok (.ifCond .eq 30, 3) := by decide +kernel
theorem dX4_answerOf_4 : decode cX4_answerOf 4 = .ok (.aload_n 0, 1) := by decide +kernel
theorem dX4_answerOf_5 : decode cX4_answerOf 5 = .ok (.getfield 21, 3) := by decide +kernel
theorem dX4_answerOf_8 : decode cX4_answerOf 8 = .ok (.invokevirtual 34, 3) := by decide +kernel
theorem dX4_answerOf_11 : decode cX4_answerOf 11 = .ok (.aload_n 0, 1) := by decide +kernel
theorem dX4_answerOf_12 : decode cX4_answerOf 12 = .ok (.getfield 28, 3) := by decide +kernel
theorem dX4_answerOf_15 : decode cX4_answerOf 15 = .ok (.if_icmp .le 16, 3) := by decide +kernel
theorem dX4_answerOf_18 : decode cX4_answerOf 18 = .ok (.aload_n 1, 1) := by decide +kernel
theorem dX4_answerOf_19 : decode cX4_answerOf 19 = .ok (.iconst 5, 1) := by decide +kernel
theorem dX4_answerOf_20 : decode cX4_answerOf 20 = .ok (.aload_n 0, 1) := by decide +kernel
theorem dX4_answerOf_21 : decode cX4_answerOf 21 = .ok (.getfield 14, 3) := by decide +kernel
theorem dX4_answerOf_24 : decode cX4_answerOf 24 = .ok (.invokevirtual 34, 3) := by decide +kernel
theorem dX4_answerOf_27 : decode cX4_answerOf 27 = .ok (.invokevirtual 76, 3) := by decide +kernel
theorem dX4_answerOf_30 : decode cX4_answerOf 30 = .ok (.pop, 1) := by decide +kernel
theorem dX4_answerOf_31 : decode cX4_answerOf 31 = .ok (.aload_n 0, 1) := by decide +kernel
theorem dX4_answerOf_32 : decode cX4_answerOf 32 = .ok (.aload_n 1, 1) := by decide +kernel
theorem dX4_answerOf_33 : decode cX4_answerOf 33 = .ok (.invokevirtual 82, 3) := by decide +kernel
theorem dX4_answerOf_36 : decode cX4_answerOf 36 = .ok (.putfield 31, 3) := by decide +kernel
theorem dX4_answerOf_39 : decode cX4_answerOf 39 = .ok (.aload_n 1, 1) := by decide +kernel
theorem dX4_answerOf_40 : decode cX4_answerOf 40 = .ok (.invokevirtual 84, 3) := by decide +kernel
theorem dX4_answerOf_43 : decode cX4_answerOf 43 = .ok (.ifCond .eq 9, 3) := by decide +kernel
theorem dX4_answerOf_46 : decode cX4_answerOf 46 = .ok (.aload_n 1, 1) := by decide +kernel
theorem dX4_answerOf_47 : decode cX4_answerOf 47 = .ok (.invokevirtual 84, 3) := by decide +kernel
theorem dX4_answerOf_50 : decode cX4_answerOf 50 = .ok (.ineg, 1) := by decide +kernel
theorem dX4_answerOf_51 : decode cX4_answerOf 51 = .ok (.ireturn, 1) := by decide +kernel
theorem dX4_answerOf_52 : decode cX4_answerOf 52 = .ok (.aload_n 0, 1) := by decide +kernel
theorem dX4_answerOf_53 : decode cX4_answerOf 53 = .ok (.invokevirtual 87, 3) := by decide +kernel
theorem dX4_answerOf_56 : decode cX4_answerOf 56 = .ok (.aload_n 0, 1) := by decide +kernel
theorem dX4_answerOf_57 : decode cX4_answerOf 57 = .ok (.getfield 18, 3) := by decide +kernel
theorem dX4_answerOf_60 : decode cX4_answerOf 60 = .ok (.invokevirtual 34, 3) := by decide +kernel
theorem dX4_answerOf_63 : decode cX4_answerOf 63 = .ok (.ireturn, 1) := by decide +kernel
theorem dX4_exchangeRows_0 : decode cX4_exchangeRows 0 = .ok (.aload_n 0, 1) := by decide +kernel
theorem dX4_exchangeRows_1 : decode cX4_exchangeRows 1 = .ok (.getfield 18, 3) := by decide +kernel
theorem dX4_exchangeRows_4 : decode cX4_exchangeRows 4 = .ok (.astore_n 1, 1) := by decide +kernel
theorem dX4_exchangeRows_5 : decode cX4_exchangeRows 5 = .ok (.aload_n 0, 1) := by decide +kernel
theorem dX4_exchangeRows_6 : decode cX4_exchangeRows 6 = .ok (.aload_n 0, 1) := by decide +kernel
theorem dX4_exchangeRows_7 : decode cX4_exchangeRows 7 = .ok (.getfield 21, 3) := by decide +kernel
theorem dX4_exchangeRows_10 : decode cX4_exchangeRows 10 = .ok (.putfield 18, 3) := by decide +kernel
theorem dX4_exchangeRows_13 : decode cX4_exchangeRows 13 = .ok (.aload_n 0, 1) := by decide +kernel
theorem dX4_exchangeRows_14 : decode cX4_exchangeRows 14 = .ok (.aload_n 1, 1) := by decide +kernel
theorem dX4_exchangeRows_15 : decode cX4_exchangeRows 15 = .ok (.putfield 21, 3) := by decide +kernel
theorem dX4_exchangeRows_18 : decode cX4_exchangeRows 18 = .ok (.return_, 1) := by decide +kernel
theorem dX4_shortestInfo_0 : decode cX4_shortestInfo 0 = .ok (.lload_n 0, 1) := by decide +kernel
theorem dX4_shortestInfo_1 : decode cX4_shortestInfo 1 = .ok (.lconst 0, 1) := by decide +kernel
theorem dX4_shortestInfo_2 : decode cX4_shortestInfo 2 = .ok (.lcmp, 1) := by decide +kernel
theorem dX4_shortestInfo_3 : decode cX4_shortestInfo 3 = .ok (.ifCond .lt 11, 3) := by decide +kernel
theorem dX4_shortestInfo_6 : decode cX4_shortestInfo 6 = .ok (.lload_n 0, 1) := by decide +kernel
theorem dX4_shortestInfo_7 : decode cX4_shortestInfo 7 = .ok (.ldc2_w 90, 3) := by decide +kernel
theorem dX4_shortestInfo_10 : decode cX4_shortestInfo 10 = .ok (.lcmp, 1) := by decide +kernel
theorem dX4_shortestInfo_11 : decode cX4_shortestInfo 11 = .ok (.ifCond .le 6, 3) := by decide +kernel
theorem dX4_shortestInfo_14 : decode cX4_shortestInfo 14 = .ok (.bipush 27, 2) := by decide +kernel
theorem dX4_shortestInfo_16 : decode cX4_shortestInfo 16 = .ok (.ireturn, 1) := by decide +kernel
theorem dX4_shortestInfo_17 : decode cX4_shortestInfo 17 = .ok (.lload_n 0, 1) := by decide +kernel
theorem dX4_shortestInfo_18 : decode cX4_shortestInfo 18 = .ok (.ldc2_w 92, 3) := by decide +kernel
theorem dX4_shortestInfo_21 : decode cX4_shortestInfo 21 = .ok (.lcmp, 1) := by decide +kernel
theorem dX4_shortestInfo_22 : decode cX4_shortestInfo 22 = .ok (.ifCond .ge 6, 3) := by decide +kernel
theorem dX4_shortestInfo_25 : decode cX4_shortestInfo 25 = .ok (.lload_n 0, 1) := by decide +kernel
theorem dX4_shortestInfo_26 : decode cX4_shortestInfo 26 = .ok (.l2i, 1) := by decide +kernel
theorem dX4_shortestInfo_27 : decode cX4_shortestInfo 27 = .ok (.ireturn, 1) := by decide +kernel
theorem dX4_shortestInfo_28 : decode cX4_shortestInfo 28 = .ok (.lload_n 0, 1) := by decide +kernel
theorem dX4_shortestInfo_29 : decode cX4_shortestInfo 29 = .ok (.ldc2_w 94, 3) := by decide +kernel
theorem dX4_shortestInfo_32 : decode cX4_shortestInfo 32 = .ok (.lcmp, 1) := by decide +kernel
theorem dX4_shortestInfo_33 : decode cX4_shortestInfo 33 = .ok (.ifCond .ge 6, 3) := by decide +kernel
theorem dX4_shortestInfo_36 : decode cX4_shortestInfo 36 = .ok (.bipush 24, 2) := by decide +kernel
theorem dX4_shortestInfo_38 : decode cX4_shortestInfo 38 = .ok (.ireturn, 1) := by decide +kernel
theorem dX4_shortestInfo_39 : decode cX4_shortestInfo 39 = .ok (.lload_n 0, 1) := by decide +kernel
theorem dX4_shortestInfo_40 : decode cX4_shortestInfo 40 = .ok (.ldc2_w 96, 3) := by decide +kernel
theorem dX4_shortestInfo_43 : decode cX4_shortestInfo 43 = .ok (.lcmp, 1) := by decide +kernel
theorem dX4_shortestInfo_44 : decode cX4_shortestInfo 44 = .ok (.ifCond .ge 8, 3) := by decide +kernel
theorem dX4_shortestInfo_47 : decode cX4_shortestInfo 47 = .ok (.bipush 25, 2) := by decide +kernel
theorem dX4_shortestInfo_49 : decode cX4_shortestInfo 49 = .ok (.goto 5, 3) := by decide +kernel
theorem dX4_shortestInfo_52 : decode cX4_shortestInfo 52 = .ok (.bipush 26, 2) := by decide +kernel
theorem dX4_shortestInfo_54 : decode cX4_shortestInfo 54 = .ok (.ireturn, 1) := by decide +kernel
theorem dX4_bytesBehind_0 : decode cX4_bytesBehind 0 = .ok (.iload_n 0, 1) := by decide +kernel
theorem dX4_bytesBehind_1 : decode cX4_bytesBehind 1 = .ok (.bipush 24, 2) := by decide +kernel
theorem dX4_bytesBehind_3 : decode cX4_bytesBehind 3 = .ok (.if_icmp .lt 9, 3) := by decide +kernel
theorem dX4_bytesBehind_6 : decode cX4_bytesBehind 6 = .ok (.iload_n 0, 1) := by decide +kernel
theorem dX4_bytesBehind_7 : decode cX4_bytesBehind 7 = .ok (.bipush 27, 2) := by decide +kernel
theorem dX4_bytesBehind_9 : decode cX4_bytesBehind 9 = .ok (.if_icmp .le 7, 3) := by decide +kernel
theorem dX4_bytesBehind_12 : decode cX4_bytesBehind 12 = .ok (.iconst 0, 1) := by decide +kernel
theorem dX4_bytesBehind_13 : decode cX4_bytesBehind 13 = .ok (.goto 9, 3) := by decide +kernel
theorem dX4_bytesBehind_16 : decode cX4_bytesBehind 16 = .ok (.iconst 1, 1) := by decide +kernel
theorem dX4_bytesBehind_17 : decode cX4_bytesBehind 17 = .ok (.iload_n 0, 1) := by decide +kernel
theorem dX4_bytesBehind_18 : decode cX4_bytesBehind 18 = .ok (.bipush 24, 2) := by decide +kernel
theorem dX4_bytesBehind_20 : decode cX4_bytesBehind 20 = .ok (.isub, 1) := by decide +kernel
theorem dX4_bytesBehind_21 : decode cX4_bytesBehind 21 = .ok (.ishl, 1) := by decide +kernel
theorem dX4_bytesBehind_22 : decode cX4_bytesBehind 22 = .ok (.ireturn, 1) := by decide +kernel
theorem dX4_signLength_0 : decode cX4_signLength 0 = .ok (.aload_n 0, 1) := by decide +kernel
theorem dX4_signLength_1 : decode cX4_signLength 1 = .ok (.iload_n 1, 1) := by decide +kernel
theorem dX4_signLength_2 : decode cX4_signLength 2 = .ok (.invokevirtual 68, 3) := by decide +kernel
theorem dX4_signLength_5 : decode cX4_signLength 5 = .ok (.istore_n 3, 1) := by decide +kernel
theorem dX4_signLength_6 : decode cX4_signLength 6 = .ok (.iload_n 3, 1) := by decide +kernel
theorem dX4_signLength_7 : decode cX4_signLength 7 = .ok (.invokestatic 98, 3) := by decide +kernel
theorem dX4_signLength_10 : decode cX4_signLength 10 = .ok (.istore 4, 2) := by decide +kernel
theorem dX4_signLength_12 : decode cX4_signLength 12 = .ok (.iload 4, 2) := by decide +kernel
theorem dX4_signLength_14 : decode cX4_signLength 14 = .ok (.iconst 2, 1) := by decide +kernel
theorem dX4_signLength_15 : decode cX4_signLength 15 = .ok (.if_icmp .ge 6, 3) := by decide +kernel
theorem dX4_signLength_18 : decode cX4_signLength 18 = .ok (.iload 4, 2) := by decide +kernel
theorem dX4_signLength_20 : decode cX4_signLength 20 = .ok (.ireturn, 1) := by decide +kernel
theorem dX4_signLength_21 : decode cX4_signLength 21 = .ok (.iload 4, 2) := by decide +kernel
theorem dX4_signLength_23 : decode cX4_signLength 23 = .ok (.iload_n 2, 1) := by decide +kernel
theorem dX4_signLength_24 : decode cX4_signLength 24 = .ok (.iload_n 1, 1) := by decide +kernel
theorem dX4_signLength_25 : decode cX4_signLength 25 = .ok (.isub, 1) := by decide +kernel
theorem dX4_signLength_26 : decode cX4_signLength 26 = .ok (.if_icmp .le 5, 3) := by decide +kernel
theorem dX4_signLength_29 : decode cX4_signLength 29 = .ok (.iconst 0, 1) := by decide +kernel
theorem dX4_signLength_30 : decode cX4_signLength 30 = .ok (.ireturn, 1) := by decide +kernel
theorem dX4_signLength_31 : decode cX4_signLength 31 = .ok (.iload_n 3, 1) := by decide +kernel
theorem dX4_signLength_32 : decode cX4_signLength 32 = .ok (.sipush 255, 3) := by decide +kernel
theorem dX4_signLength_35 : decode cX4_signLength 35 = .ok (.iload 4, 2) := by decide +kernel
theorem dX4_signLength_37 : decode cX4_signLength 37 = .ok (.iconst 1, 1) := by decide +kernel
theorem dX4_signLength_38 : decode cX4_signLength 38 = .ok (.iadd, 1) := by decide +kernel
theorem dX4_signLength_39 : decode cX4_signLength 39 = .ok (.ishr, 1) := by decide +kernel
theorem dX4_signLength_40 : decode cX4_signLength 40 = .ok (.iand, 1) := by decide +kernel
theorem dX4_signLength_41 : decode cX4_signLength 41 = .ok (.istore 5, 2) := by decide +kernel
theorem dX4_signLength_43 : decode cX4_signLength 43 = .ok (.iconst 1, 1) := by decide +kernel
theorem dX4_signLength_44 : decode cX4_signLength 44 = .ok (.istore 6, 2) := by decide +kernel
theorem dX4_signLength_46 : decode cX4_signLength 46 = .ok (.iload 6, 2) := by decide +kernel
theorem dX4_signLength_48 : decode cX4_signLength 48 = .ok (.iload 4, 2) := by decide +kernel
theorem dX4_signLength_50 : decode cX4_signLength 50 = .ok (.if_icmp .ge 50, 3) := by decide +kernel
theorem dX4_signLength_53 : decode cX4_signLength 53 = .ok (.aload_n 0, 1) := by decide +kernel
theorem dX4_signLength_54 : decode cX4_signLength 54 = .ok (.iload_n 1, 1) := by decide +kernel
theorem dX4_signLength_55 : decode cX4_signLength 55 = .ok (.iload 6, 2) := by decide +kernel
theorem dX4_signLength_57 : decode cX4_signLength 57 = .ok (.iadd, 1) := by decide +kernel
theorem dX4_signLength_58 : decode cX4_signLength 58 = .ok (.invokevirtual 68, 3) := by decide +kernel
theorem dX4_signLength_61 : decode cX4_signLength 61 = .ok (.istore 7, 2) := by decide +kernel
theorem dX4_signLength_63 : decode cX4_signLength 63 = .ok (.iload 7, 2) := by decide +kernel
theorem dX4_signLength_65 : decode cX4_signLength 65 = .ok (.sipush 128, 3) := by decide +kernel
theorem dX4_signLength_68 : decode cX4_signLength 68 = .ok (.if_icmp .lt 11, 3) := by decide +kernel
theorem dX4_signLength_71 : decode cX4_signLength 71 = .ok (.iload 7, 2) := by decide +kernel
theorem dX4_signLength_73 : decode cX4_signLength 73 = .ok (.sipush 191, 3) := by decide +kernel
theorem dX4_signLength_76 : decode cX4_signLength 76 = .ok (.if_icmp .le 5, 3) := by decide +kernel
theorem dX4_signLength_79 : decode cX4_signLength 79 = .ok (.iconst 0, 1) := by decide +kernel
theorem dX4_signLength_80 : decode cX4_signLength 80 = .ok (.ireturn, 1) := by decide +kernel
theorem dX4_signLength_81 : decode cX4_signLength 81 = .ok (.iload 5, 2) := by decide +kernel
theorem dX4_signLength_83 : decode cX4_signLength 83 = .ok (.bipush 6, 2) := by decide +kernel
theorem dX4_signLength_85 : decode cX4_signLength 85 = .ok (.ishl, 1) := by decide +kernel
theorem dX4_signLength_86 : decode cX4_signLength 86 = .ok (.iload 7, 2) := by decide +kernel
theorem dX4_signLength_88 : decode cX4_signLength 88 = .ok (.bipush 63, 2) := by decide +kernel
theorem dX4_signLength_90 : decode cX4_signLength 90 = .ok (.iand, 1) := by decide +kernel
theorem dX4_signLength_91 : decode cX4_signLength 91 = .ok (.ior, 1) := by decide +kernel
theorem dX4_signLength_92 : decode cX4_signLength 92 = .ok (.istore 5, 2) := by decide +kernel
theorem dX4_signLength_94 : decode cX4_signLength 94 = .ok (.iinc 6 1, 3) := by decide +kernel
theorem dX4_signLength_97 : decode cX4_signLength 97 = .ok (.goto (-51), 3) := by decide +kernel
theorem dX4_signLength_100 : decode cX4_signLength 100 = .ok (.iload 5, 2) := by decide +kernel
theorem dX4_signLength_102 : decode cX4_signLength 102 = .ok (.iload 4, 2) := by decide +kernel
theorem dX4_signLength_104 : decode cX4_signLength 104 = .ok (.invokestatic 101, 3) := by decide +kernel
theorem dX4_signLength_107 : decode cX4_signLength 107 = .ok (.ifCond .eq 8, 3) := by decide +kernel
theorem dX4_signLength_110 : decode cX4_signLength 110 = .ok (.iload 4, 2) := by decide +kernel
theorem dX4_signLength_112 : decode cX4_signLength 112 = .ok (.goto 4, 3) := by decide +kernel
theorem dX4_signLength_115 : decode cX4_signLength 115 = .ok (.iconst 0, 1) := by decide +kernel
theorem dX4_signLength_116 : decode cX4_signLength 116 = .ok (.ireturn, 1) := by decide +kernel
theorem dX4_lengthByFirst_0 : decode cX4_lengthByFirst 0 = .ok (.iload_n 0, 1) := by decide +kernel
theorem dX4_lengthByFirst_1 : decode cX4_lengthByFirst 1 = .ok (.ifCond .lt 10, 3) := by decide +kernel
theorem dX4_lengthByFirst_4 : decode cX4_lengthByFirst 4 = .ok (.iload_n 0, 1) := by decide +kernel
theorem dX4_lengthByFirst_5 : decode cX4_lengthByFirst 5 = .ok (.sipush 244, 3) := by decide +kernel
theorem dX4_lengthByFirst_8 : decode cX4_lengthByFirst 8 = .ok (.if_icmp .le 5, 3) := by decide +kernel
theorem dX4_lengthByFirst_11 : decode cX4_lengthByFirst 11 = .ok (.iconst 0, 1) := by decide +kernel
theorem dX4_lengthByFirst_12 : decode cX4_lengthByFirst 12 = .ok (.ireturn, 1) := by decide +kernel
theorem dX4_lengthByFirst_13 : decode cX4_lengthByFirst 13 = .ok (.iload_n 0, 1) := by decide +kernel
theorem dX4_lengthByFirst_14 : decode cX4_lengthByFirst 14 = .ok (.sipush 128, 3) := by decide +kernel
theorem dX4_lengthByFirst_17 : decode cX4_lengthByFirst 17 = .ok (.if_icmp .ge 5, 3) := by decide +kernel
theorem dX4_lengthByFirst_20 : decode cX4_lengthByFirst 20 = .ok (.iconst 1, 1) := by decide +kernel
theorem dX4_lengthByFirst_21 : decode cX4_lengthByFirst 21 = .ok (.ireturn, 1) := by decide +kernel
theorem dX4_lengthByFirst_22 : decode cX4_lengthByFirst 22 = .ok (.iload_n 0, 1) := by decide +kernel
theorem dX4_lengthByFirst_23 : decode cX4_lengthByFirst 23 = .ok (.sipush 194, 3) := by decide +kernel
theorem dX4_lengthByFirst_26 : decode cX4_lengthByFirst 26 = .ok (.if_icmp .ge 5, 3) := by decide +kernel
theorem dX4_lengthByFirst_29 : decode cX4_lengthByFirst 29 = .ok (.iconst 0, 1) := by decide +kernel
theorem dX4_lengthByFirst_30 : decode cX4_lengthByFirst 30 = .ok (.ireturn, 1) := by decide +kernel
theorem dX4_lengthByFirst_31 : decode cX4_lengthByFirst 31 = .ok (.iload_n 0, 1) := by decide +kernel
theorem dX4_lengthByFirst_32 : decode cX4_lengthByFirst 32 = .ok (.sipush 224, 3) := by decide +kernel
theorem dX4_lengthByFirst_35 : decode cX4_lengthByFirst 35 = .ok (.if_icmp .ge 5, 3) := by decide +kernel
theorem dX4_lengthByFirst_38 : decode cX4_lengthByFirst 38 = .ok (.iconst 2, 1) := by decide +kernel
theorem dX4_lengthByFirst_39 : decode cX4_lengthByFirst 39 = .ok (.ireturn, 1) := by decide +kernel
theorem dX4_lengthByFirst_40 : decode cX4_lengthByFirst 40 = .ok (.iload_n 0, 1) := by decide +kernel
theorem dX4_lengthByFirst_41 : decode cX4_lengthByFirst 41 = .ok (.sipush 240, 3) := by decide +kernel
theorem dX4_lengthByFirst_44 : decode cX4_lengthByFirst 44 = .ok (.if_icmp .ge 7, 3) := by decide +kernel
theorem dX4_lengthByFirst_47 : decode cX4_lengthByFirst 47 = .ok (.iconst 3, 1) := by decide +kernel
theorem dX4_lengthByFirst_48 : decode cX4_lengthByFirst 48 = .ok (.goto 4, 3) := by decide +kernel
theorem dX4_lengthByFirst_51 : decode cX4_lengthByFirst 51 = .ok (.iconst 4, 1) := by decide +kernel
theorem dX4_lengthByFirst_52 : decode cX4_lengthByFirst 52 = .ok (.ireturn, 1) := by decide +kernel
theorem dX4_isSignOf_0 : decode cX4_isSignOf 0 = .ok (.iload_n 1, 1) := by decide +kernel
theorem dX4_isSignOf_1 : decode cX4_isSignOf 1 = .ok (.iconst 3, 1) := by decide +kernel
theorem dX4_isSignOf_2 : decode cX4_isSignOf 2 = .ok (.if_icmp .ne 28, 3) := by decide +kernel
theorem dX4_isSignOf_5 : decode cX4_isSignOf 5 = .ok (.iload_n 0, 1) := by decide +kernel
theorem dX4_isSignOf_6 : decode cX4_isSignOf 6 = .ok (.sipush 2048, 3) := by decide +kernel
theorem dX4_isSignOf_9 : decode cX4_isSignOf 9 = .ok (.if_icmp .lt 19, 3) := by decide +kernel
theorem dX4_isSignOf_12 : decode cX4_isSignOf 12 = .ok (.iload_n 0, 1) := by decide +kernel
theorem dX4_isSignOf_13 : decode cX4_isSignOf 13 = .ok (.ldc 104, 2) := by decide +kernel
theorem dX4_isSignOf_15 : decode cX4_isSignOf 15 = .ok (.if_icmp .lt 9, 3) := by decide +kernel
theorem dX4_isSignOf_18 : decode cX4_isSignOf 18 = .ok (.iload_n 0, 1) := by decide +kernel
theorem dX4_isSignOf_19 : decode cX4_isSignOf 19 = .ok (.ldc 105, 2) := by decide +kernel
theorem dX4_isSignOf_21 : decode cX4_isSignOf 21 = .ok (.if_icmp .le 7, 3) := by decide +kernel
theorem dX4_isSignOf_24 : decode cX4_isSignOf 24 = .ok (.iconst 1, 1) := by decide +kernel
theorem dX4_isSignOf_25 : decode cX4_isSignOf 25 = .ok (.goto 4, 3) := by decide +kernel
theorem dX4_isSignOf_28 : decode cX4_isSignOf 28 = .ok (.iconst 0, 1) := by decide +kernel
theorem dX4_isSignOf_29 : decode cX4_isSignOf 29 = .ok (.ireturn, 1) := by decide +kernel
theorem dX4_isSignOf_30 : decode cX4_isSignOf 30 = .ok (.iload_n 1, 1) := by decide +kernel
theorem dX4_isSignOf_31 : decode cX4_isSignOf 31 = .ok (.iconst 4, 1) := by decide +kernel
theorem dX4_isSignOf_32 : decode cX4_isSignOf 32 = .ok (.if_icmp .ne 21, 3) := by decide +kernel
theorem dX4_isSignOf_35 : decode cX4_isSignOf 35 = .ok (.iload_n 0, 1) := by decide +kernel
theorem dX4_isSignOf_36 : decode cX4_isSignOf 36 = .ok (.ldc 106, 2) := by decide +kernel
theorem dX4_isSignOf_38 : decode cX4_isSignOf 38 = .ok (.if_icmp .lt 13, 3) := by decide +kernel
theorem dX4_isSignOf_41 : decode cX4_isSignOf 41 = .ok (.iload_n 0, 1) := by decide +kernel
theorem dX4_isSignOf_42 : decode cX4_isSignOf 42 = .ok (.ldc 107, 2) := by decide +kernel
theorem dX4_isSignOf_44 : decode cX4_isSignOf 44 = .ok (.if_icmp .gt 7, 3) := by decide +kernel
theorem dX4_isSignOf_47 : decode cX4_isSignOf 47 = .ok (.iconst 1, 1) := by decide +kernel
theorem dX4_isSignOf_48 : decode cX4_isSignOf 48 = .ok (.goto 4, 3) := by decide +kernel
theorem dX4_isSignOf_51 : decode cX4_isSignOf 51 = .ok (.iconst 0, 1) := by decide +kernel
theorem dX4_isSignOf_52 : decode cX4_isSignOf 52 = .ok (.ireturn, 1) := by decide +kernel
theorem dX4_isSignOf_53 : decode cX4_isSignOf 53 = .ok (.iconst 1, 1) := by decide +kernel
theorem dX4_isSignOf_54 : decode cX4_isSignOf 54 = .ok (.ireturn, 1) := by decide +kernel
theorem dL_law_0 : decode cL_law 0 = .ok (.new 7, 3) := by decide +kernel
theorem dL_law_3 : decode cL_law 3 = .ok (.dup, 1) := by decide +kernel
theorem dL_law_4 : decode cL_law 4 = .ok (.invokespecial 9, 3) := by decide +kernel
theorem dL_law_7 : decode cL_law 7 = .ok (.astore_n 1, 1) := by decide +kernel
theorem dL_law_8 : decode cL_law 8 = .ok (.new 10, 3) := by decide +kernel
theorem dL_law_11 : decode cL_law 11 = .ok (.dup, 1) := by decide +kernel
theorem dL_law_12 : decode cL_law 12 = .ok (.invokespecial 12, 3) := by decide +kernel
theorem dL_law_15 : decode cL_law 15 = .ok (.astore_n 2, 1) := by decide +kernel
theorem dL_law_16 : decode cL_law 16 = .ok (.iconst 0, 1) := by decide +kernel
theorem dL_law_17 : decode cL_law 17 = .ok (.istore_n 3, 1) := by decide +kernel
theorem dL_law_18 : decode cL_law 18 = .ok (.iload_n 3, 1) := by decide +kernel
theorem dL_law_19 : decode cL_law 19 = .ok (.aload_n 0, 1) := by decide +kernel
theorem dL_law_20 : decode cL_law 20 = .ok (.arraylength, 1) := by decide +kernel
theorem dL_law_21 : decode cL_law 21 = .ok (.bipush 6, 2) := by decide +kernel
theorem dL_law_23 : decode cL_law 23 = .ok (.isub, 1) := by decide +kernel
theorem dL_law_24 : decode cL_law 24 = .ok (.if_icmp .gt 273, 3) := by decide +kernel
theorem dL_law_27 : decode cL_law 27 = .ok (.aload_n 0, 1) := by decide +kernel
theorem dL_law_28 : decode cL_law 28 = .ok (.iload_n 3, 1) := by decide +kernel
theorem dL_law_29 : decode cL_law 29 = .ok (.iaload, 1) := by decide +kernel
theorem dL_law_30 : decode cL_law 30 = .ok (.bipush 15, 2) := by decide +kernel
theorem dL_law_32 : decode cL_law 32 = .ok (.iand, 1) := by decide +kernel
theorem dL_law_33 : decode cL_law 33 = .ok (.tableswitch 258 0 8 #[51, 114, 137, 170, 183, 196, 209, 232, 245], 51) := by decide +kernel
theorem dL_law_84 : decode cL_law 84 = .ok (.aload_n 1, 1) := by decide +kernel
theorem dL_law_85 : decode cL_law 85 = .ok (.aload_n 0, 1) := by decide +kernel
theorem dL_law_86 : decode cL_law 86 = .ok (.iload_n 3, 1) := by decide +kernel
theorem dL_law_87 : decode cL_law 87 = .ok (.iconst 1, 1) := by decide +kernel
theorem dL_law_88 : decode cL_law 88 = .ok (.iadd, 1) := by decide +kernel
theorem dL_law_89 : decode cL_law 89 = .ok (.iaload, 1) := by decide +kernel
theorem dL_law_90 : decode cL_law 90 = .ok (.aload_n 0, 1) := by decide +kernel
theorem dL_law_91 : decode cL_law 91 = .ok (.iload_n 3, 1) := by decide +kernel
theorem dL_law_92 : decode cL_law 92 = .ok (.iconst 2, 1) := by decide +kernel
theorem dL_law_93 : decode cL_law 93 = .ok (.iadd, 1) := by decide +kernel
theorem dL_law_94 : decode cL_law 94 = .ok (.iaload, 1) := by decide +kernel
theorem dL_law_95 : decode cL_law 95 = .ok (.aload_n 0, 1) := by decide +kernel
theorem dL_law_96 : decode cL_law 96 = .ok (.iload_n 3, 1) := by decide +kernel
theorem dL_law_97 : decode cL_law 97 = .ok (.iconst 3, 1) := by decide +kernel
theorem dL_law_98 : decode cL_law 98 = .ok (.iadd, 1) := by decide +kernel
theorem dL_law_99 : decode cL_law 99 = .ok (.iaload, 1) := by decide +kernel
theorem dL_law_100 : decode cL_law 100 = .ok (.aload_n 0, 1) := by decide +kernel
theorem dL_law_101 : decode cL_law 101 = .ok (.iload_n 3, 1) := by decide +kernel
theorem dL_law_102 : decode cL_law 102 = .ok (.iconst 4, 1) := by decide +kernel
theorem dL_law_103 : decode cL_law 103 = .ok (.iadd, 1) := by decide +kernel
theorem dL_law_104 : decode cL_law 104 = .ok (.iaload, 1) := by decide +kernel
theorem dL_law_105 : decode cL_law 105 = .ok (.aload_n 0, 1) := by decide +kernel
theorem dL_law_106 : decode cL_law 106 = .ok (.iload_n 3, 1) := by decide +kernel
theorem dL_law_107 : decode cL_law 107 = .ok (.iconst 5, 1) := by decide +kernel
theorem dL_law_108 : decode cL_law 108 = .ok (.iadd, 1) := by decide +kernel
theorem dL_law_109 : decode cL_law 109 = .ok (.iaload, 1) := by decide +kernel
theorem dL_law_110 : decode cL_law 110 = .ok (.invokevirtual 13, 3) := by decide +kernel
theorem dL_law_113 : decode cL_law 113 = .ok (.aload_n 2, 1) := by decide +kernel
theorem dL_law_114 : decode cL_law 114 = .ok (.aload_n 0, 1) := by decide +kernel
theorem dL_law_115 : decode cL_law 115 = .ok (.iload_n 3, 1) := by decide +kernel
theorem dL_law_116 : decode cL_law 116 = .ok (.iconst 1, 1) := by decide +kernel
theorem dL_law_117 : decode cL_law 117 = .ok (.iadd, 1) := by decide +kernel
theorem dL_law_118 : decode cL_law 118 = .ok (.iaload, 1) := by decide +kernel
theorem dL_law_119 : decode cL_law 119 = .ok (.aload_n 0, 1) := by decide +kernel
theorem dL_law_120 : decode cL_law 120 = .ok (.iload_n 3, 1) := by decide +kernel
theorem dL_law_121 : decode cL_law 121 = .ok (.iconst 2, 1) := by decide +kernel
theorem dL_law_122 : decode cL_law 122 = .ok (.iadd, 1) := by decide +kernel
theorem dL_law_123 : decode cL_law 123 = .ok (.iaload, 1) := by decide +kernel
theorem dL_law_124 : decode cL_law 124 = .ok (.aload_n 0, 1) := by decide +kernel
theorem dL_law_125 : decode cL_law 125 = .ok (.iload_n 3, 1) := by decide +kernel
theorem dL_law_126 : decode cL_law 126 = .ok (.iconst 3, 1) := by decide +kernel
theorem dL_law_127 : decode cL_law 127 = .ok (.iadd, 1) := by decide +kernel
theorem dL_law_128 : decode cL_law 128 = .ok (.iaload, 1) := by decide +kernel
theorem dL_law_129 : decode cL_law 129 = .ok (.aload_n 0, 1) := by decide +kernel
theorem dL_law_130 : decode cL_law 130 = .ok (.iload_n 3, 1) := by decide +kernel
theorem dL_law_131 : decode cL_law 131 = .ok (.iconst 4, 1) := by decide +kernel
theorem dL_law_132 : decode cL_law 132 = .ok (.iadd, 1) := by decide +kernel
theorem dL_law_133 : decode cL_law 133 = .ok (.iaload, 1) := by decide +kernel
theorem dL_law_134 : decode cL_law 134 = .ok (.aload_n 0, 1) := by decide +kernel
theorem dL_law_135 : decode cL_law 135 = .ok (.iload_n 3, 1) := by decide +kernel
theorem dL_law_136 : decode cL_law 136 = .ok (.iconst 5, 1) := by decide +kernel
theorem dL_law_137 : decode cL_law 137 = .ok (.iadd, 1) := by decide +kernel
theorem dL_law_138 : decode cL_law 138 = .ok (.iaload, 1) := by decide +kernel
theorem dL_law_139 : decode cL_law 139 = .ok (.invokevirtual 17, 3) := by decide +kernel
theorem dL_law_142 : decode cL_law 142 = .ok (.if_icmp .eq 149, 3) := by decide +kernel
theorem dL_law_145 : decode cL_law 145 = .ok (.iconst 0, 1) := by decide +kernel
theorem dL_law_146 : decode cL_law 146 = .ok (.ireturn, 1) := by decide +kernel
theorem dL_law_147 : decode cL_law 147 = .ok (.aload_n 1, 1) := by decide +kernel
theorem dL_law_148 : decode cL_law 148 = .ok (.aload_n 0, 1) := by decide +kernel
theorem dL_law_149 : decode cL_law 149 = .ok (.iload_n 3, 1) := by decide +kernel
theorem dL_law_150 : decode cL_law 150 = .ok (.iconst 1, 1) := by decide +kernel
theorem dL_law_151 : decode cL_law 151 = .ok (.iadd, 1) := by decide +kernel
theorem dL_law_152 : decode cL_law 152 = .ok (.iaload, 1) := by decide +kernel
theorem dL_law_153 : decode cL_law 153 = .ok (.invokevirtual 18, 3) := by decide +kernel
theorem dL_law_156 : decode cL_law 156 = .ok (.aload_n 2, 1) := by decide +kernel
theorem dL_law_157 : decode cL_law 157 = .ok (.aload_n 0, 1) := by decide +kernel
theorem dL_law_158 : decode cL_law 158 = .ok (.iload_n 3, 1) := by decide +kernel
theorem dL_law_159 : decode cL_law 159 = .ok (.iconst 1, 1) := by decide +kernel
theorem dL_law_160 : decode cL_law 160 = .ok (.iadd, 1) := by decide +kernel
theorem dL_law_161 : decode cL_law 161 = .ok (.iaload, 1) := by decide +kernel
theorem dL_law_162 : decode cL_law 162 = .ok (.invokevirtual 22, 3) := by decide +kernel
theorem dL_law_165 : decode cL_law 165 = .ok (.if_icmp .eq 126, 3) := by decide +kernel
theorem dL_law_168 : decode cL_law 168 = .ok (.iconst 0, 1) := by decide +kernel
theorem dL_law_169 : decode cL_law 169 = .ok (.ireturn, 1) := by decide +kernel
theorem dL_law_170 : decode cL_law 170 = .ok (.aload_n 1, 1) := by decide +kernel
theorem dL_law_171 : decode cL_law 171 = .ok (.aload_n 0, 1) := by decide +kernel
theorem dL_law_172 : decode cL_law 172 = .ok (.iload_n 3, 1) := by decide +kernel
theorem dL_law_173 : decode cL_law 173 = .ok (.iconst 1, 1) := by decide +kernel
theorem dL_law_174 : decode cL_law 174 = .ok (.iadd, 1) := by decide +kernel
theorem dL_law_175 : decode cL_law 175 = .ok (.iaload, 1) := by decide +kernel
theorem dL_law_176 : decode cL_law 176 = .ok (.aload_n 0, 1) := by decide +kernel
theorem dL_law_177 : decode cL_law 177 = .ok (.iload_n 3, 1) := by decide +kernel
theorem dL_law_178 : decode cL_law 178 = .ok (.iconst 2, 1) := by decide +kernel
theorem dL_law_179 : decode cL_law 179 = .ok (.iadd, 1) := by decide +kernel
theorem dL_law_180 : decode cL_law 180 = .ok (.iaload, 1) := by decide +kernel
theorem dL_law_181 : decode cL_law 181 = .ok (.invokevirtual 23, 3) := by decide +kernel
theorem dL_law_184 : decode cL_law 184 = .ok (.aload_n 2, 1) := by decide +kernel
theorem dL_law_185 : decode cL_law 185 = .ok (.aload_n 0, 1) := by decide +kernel
theorem dL_law_186 : decode cL_law 186 = .ok (.iload_n 3, 1) := by decide +kernel
theorem dL_law_187 : decode cL_law 187 = .ok (.iconst 1, 1) := by decide +kernel
theorem dL_law_188 : decode cL_law 188 = .ok (.iadd, 1) := by decide +kernel
theorem dL_law_189 : decode cL_law 189 = .ok (.iaload, 1) := by decide +kernel
theorem dL_law_190 : decode cL_law 190 = .ok (.aload_n 0, 1) := by decide +kernel
theorem dL_law_191 : decode cL_law 191 = .ok (.iload_n 3, 1) := by decide +kernel
theorem dL_law_192 : decode cL_law 192 = .ok (.iconst 2, 1) := by decide +kernel
theorem dL_law_193 : decode cL_law 193 = .ok (.iadd, 1) := by decide +kernel
theorem dL_law_194 : decode cL_law 194 = .ok (.iaload, 1) := by decide +kernel
theorem dL_law_195 : decode cL_law 195 = .ok (.invokevirtual 27, 3) := by decide +kernel
theorem dL_law_198 : decode cL_law 198 = .ok (.if_icmp .eq 93, 3) := by decide +kernel
theorem dL_law_201 : decode cL_law 201 = .ok (.iconst 0, 1) := by decide +kernel
theorem dL_law_202 : decode cL_law 202 = .ok (.ireturn, 1) := by decide +kernel
theorem dL_law_203 : decode cL_law 203 = .ok (.aload_n 1, 1) := by decide +kernel
theorem dL_law_204 : decode cL_law 204 = .ok (.invokevirtual 28, 3) := by decide +kernel
theorem dL_law_207 : decode cL_law 207 = .ok (.aload_n 2, 1) := by decide +kernel
theorem dL_law_208 : decode cL_law 208 = .ok (.invokevirtual 32, 3) := by decide +kernel
theorem dL_law_211 : decode cL_law 211 = .ok (.if_icmp .eq 80, 3) := by decide +kernel
theorem dL_law_214 : decode cL_law 214 = .ok (.iconst 0, 1) := by decide +kernel
theorem dL_law_215 : decode cL_law 215 = .ok (.ireturn, 1) := by decide +kernel
theorem dL_law_216 : decode cL_law 216 = .ok (.aload_n 1, 1) := by decide +kernel
theorem dL_law_217 : decode cL_law 217 = .ok (.invokevirtual 33, 3) := by decide +kernel
theorem dL_law_220 : decode cL_law 220 = .ok (.aload_n 2, 1) := by decide +kernel
theorem dL_law_221 : decode cL_law 221 = .ok (.invokevirtual 36, 3) := by decide +kernel
theorem dL_law_224 : decode cL_law 224 = .ok (.if_icmp .eq 67, 3) := by decide +kernel
theorem dL_law_227 : decode cL_law 227 = .ok (.iconst 0, 1) := by decide +kernel
theorem dL_law_228 : decode cL_law 228 = .ok (.ireturn, 1) := by decide +kernel
theorem dL_law_229 : decode cL_law 229 = .ok (.aload_n 1, 1) := by decide +kernel
theorem dL_law_230 : decode cL_law 230 = .ok (.invokevirtual 37, 3) := by decide +kernel
theorem dL_law_233 : decode cL_law 233 = .ok (.aload_n 2, 1) := by decide +kernel
theorem dL_law_234 : decode cL_law 234 = .ok (.invokevirtual 40, 3) := by decide +kernel
theorem dL_law_237 : decode cL_law 237 = .ok (.if_icmp .eq 54, 3) := by decide +kernel
theorem dL_law_240 : decode cL_law 240 = .ok (.iconst 0, 1) := by decide +kernel
theorem dL_law_241 : decode cL_law 241 = .ok (.ireturn, 1) := by decide +kernel
theorem dL_law_242 : decode cL_law 242 = .ok (.aload_n 1, 1) := by decide +kernel
theorem dL_law_243 : decode cL_law 243 = .ok (.aload_n 0, 1) := by decide +kernel
theorem dL_law_244 : decode cL_law 244 = .ok (.iload_n 3, 1) := by decide +kernel
theorem dL_law_245 : decode cL_law 245 = .ok (.iconst 1, 1) := by decide +kernel
theorem dL_law_246 : decode cL_law 246 = .ok (.iadd, 1) := by decide +kernel
theorem dL_law_247 : decode cL_law 247 = .ok (.iaload, 1) := by decide +kernel
theorem dL_law_248 : decode cL_law 248 = .ok (.invokevirtual 41, 3) := by decide +kernel
theorem dL_law_251 : decode cL_law 251 = .ok (.aload_n 2, 1) := by decide +kernel
theorem dL_law_252 : decode cL_law 252 = .ok (.aload_n 0, 1) := by decide +kernel
theorem dL_law_253 : decode cL_law 253 = .ok (.iload_n 3, 1) := by decide +kernel
theorem dL_law_254 : decode cL_law 254 = .ok (.iconst 1, 1) := by decide +kernel
theorem dL_law_255 : decode cL_law 255 = .ok (.iadd, 1) := by decide +kernel
theorem dL_law_256 : decode cL_law 256 = .ok (.iaload, 1) := by decide +kernel
theorem dL_law_257 : decode cL_law 257 = .ok (.invokevirtual 44, 3) := by decide +kernel
theorem dL_law_260 : decode cL_law 260 = .ok (.if_icmp .eq 31, 3) := by decide +kernel
theorem dL_law_263 : decode cL_law 263 = .ok (.iconst 0, 1) := by decide +kernel
theorem dL_law_264 : decode cL_law 264 = .ok (.ireturn, 1) := by decide +kernel
theorem dL_law_265 : decode cL_law 265 = .ok (.aload_n 1, 1) := by decide +kernel
theorem dL_law_266 : decode cL_law 266 = .ok (.invokevirtual 45, 3) := by decide +kernel
theorem dL_law_269 : decode cL_law 269 = .ok (.aload_n 2, 1) := by decide +kernel
theorem dL_law_270 : decode cL_law 270 = .ok (.invokevirtual 48, 3) := by decide +kernel
theorem dL_law_273 : decode cL_law 273 = .ok (.if_icmp .eq 18, 3) := by decide +kernel
theorem dL_law_276 : decode cL_law 276 = .ok (.iconst 0, 1) := by decide +kernel
theorem dL_law_277 : decode cL_law 277 = .ok (.ireturn, 1) := by decide +kernel
theorem dL_law_278 : decode cL_law 278 = .ok (.aload_n 1, 1) := by decide +kernel
theorem dL_law_279 : decode cL_law 279 = .ok (.invokevirtual 49, 3) := by decide +kernel
theorem dL_law_282 : decode cL_law 282 = .ok (.aload_n 2, 1) := by decide +kernel
theorem dL_law_283 : decode cL_law 283 = .ok (.invokevirtual 52, 3) := by decide +kernel
theorem dL_law_286 : decode cL_law 286 = .ok (.if_icmp .eq 5, 3) := by decide +kernel
theorem dL_law_289 : decode cL_law 289 = .ok (.iconst 0, 1) := by decide +kernel
theorem dL_law_290 : decode cL_law 290 = .ok (.ireturn, 1) := by decide +kernel
theorem dL_law_291 : decode cL_law 291 = .ok (.iinc 3 6, 3) := by decide +kernel
theorem dL_law_294 : decode cL_law 294 = .ok (.goto (-276), 3) := by decide +kernel
theorem dL_law_297 : decode cL_law 297 = .ok (.iconst 1, 1) := by decide +kernel
theorem dL_law_298 : decode cL_law 298 = .ok (.ireturn, 1) := by decide +kernel
end
section
theorem dX5_init_0 : decode cX5_init 0 = .ok (.aload_n 0, 1) := by decide +kernel
theorem dX5_init_1 : decode cX5_init 1 = .ok (.invokespecial 1, 3) := by decide +kernel
theorem dX5_init_4 : decode cX5_init 4 = .ok (.aload_n 0, 1) := by decide +kernel
theorem dX5_init_5 : decode cX5_init 5 = .ok (.sipush 4000, 3) := by decide +kernel
theorem dX5_init_8 : decode cX5_init 8 = .ok (.newarray .int, 2) := by decide +kernel
theorem dX5_init_10 : decode cX5_init 10 = .ok (.putfield 7, 3) := by decide +kernel
theorem dX5_init_13 : decode cX5_init 13 = .ok (.aload_n 0, 1) := by decide +kernel
theorem dX5_init_14 : decode cX5_init 14 = .ok (.bipush 20, 2) := by decide +kernel
theorem dX5_init_16 : decode cX5_init 16 = .ok (.putfield 13, 3) := by decide +kernel
theorem dX5_init_19 : decode cX5_init 19 = .ok (.aload_n 0, 1) := by decide +kernel
theorem dX5_init_20 : decode cX5_init 20 = .ok (.sipush 4000, 3) := by decide +kernel
theorem dX5_init_23 : decode cX5_init 23 = .ok (.putfield 17, 3) := by decide +kernel
theorem dX5_init_26 : decode cX5_init 26 = .ok (.aload_n 0, 1) := by decide +kernel
theorem dX5_init_27 : decode cX5_init 27 = .ok (.sipush 6000, 3) := by decide +kernel
theorem dX5_init_30 : decode cX5_init 30 = .ok (.newarray .byte, 2) := by decide +kernel
theorem dX5_init_32 : decode cX5_init 32 = .ok (.putfield 20, 3) := by decide +kernel
theorem dX5_init_35 : decode cX5_init 35 = .ok (.aload_n 0, 1) := by decide +kernel
theorem dX5_init_36 : decode cX5_init 36 = .ok (.iconst (-1), 1) := by decide +kernel
theorem dX5_init_37 : decode cX5_init 37 = .ok (.putfield 24, 3) := by decide +kernel
theorem dX5_init_40 : decode cX5_init 40 = .ok (.aload_n 0, 1) := by decide +kernel
theorem dX5_init_41 : decode cX5_init 41 = .ok (.sipush 4200, 3) := by decide +kernel
theorem dX5_init_44 : decode cX5_init 44 = .ok (.newarray .int, 2) := by decide +kernel
theorem dX5_init_46 : decode cX5_init 46 = .ok (.putfield 27, 3) := by decide +kernel
theorem dX5_init_49 : decode cX5_init 49 = .ok (.aload_n 0, 1) := by decide +kernel
theorem dX5_init_50 : decode cX5_init 50 = .ok (.sipush 4200, 3) := by decide +kernel
theorem dX5_init_53 : decode cX5_init 53 = .ok (.newarray .long, 2) := by decide +kernel
theorem dX5_init_55 : decode cX5_init 55 = .ok (.putfield 30, 3) := by decide +kernel
theorem dX5_init_58 : decode cX5_init 58 = .ok (.aload_n 0, 1) := by decide +kernel
theorem dX5_init_59 : decode cX5_init 59 = .ok (.sipush 4200, 3) := by decide +kernel
theorem dX5_init_62 : decode cX5_init 62 = .ok (.newarray .int, 2) := by decide +kernel
theorem dX5_init_64 : decode cX5_init 64 = .ok (.putfield 34, 3) := by decide +kernel
theorem dX5_init_67 : decode cX5_init 67 = .ok (.aload_n 0, 1) := by decide +kernel
theorem dX5_init_68 : decode cX5_init 68 = .ok (.sipush 8200, 3) := by decide +kernel
theorem dX5_init_71 : decode cX5_init 71 = .ok (.newarray .byte, 2) := by decide +kernel
theorem dX5_init_73 : decode cX5_init 73 = .ok (.putfield 37, 3) := by decide +kernel
theorem dX5_init_76 : decode cX5_init 76 = .ok (.aload_n 0, 1) := by decide +kernel
theorem dX5_init_77 : decode cX5_init 77 = .ok (.bipush 64, 2) := by decide +kernel
theorem dX5_init_79 : decode cX5_init 79 = .ok (.newarray .int, 2) := by decide +kernel
theorem dX5_init_81 : decode cX5_init 81 = .ok (.putfield 40, 3) := by decide +kernel
theorem dX5_init_84 : decode cX5_init 84 = .ok (.aload_n 0, 1) := by decide +kernel
theorem dX5_init_85 : decode cX5_init 85 = .ok (.bipush 64, 2) := by decide +kernel
theorem dX5_init_87 : decode cX5_init 87 = .ok (.newarray .long, 2) := by decide +kernel
theorem dX5_init_89 : decode cX5_init 89 = .ok (.putfield 43, 3) := by decide +kernel
theorem dX5_init_92 : decode cX5_init 92 = .ok (.aload_n 0, 1) := by decide +kernel
theorem dX5_init_93 : decode cX5_init 93 = .ok (.sipush 6000, 3) := by decide +kernel
theorem dX5_init_96 : decode cX5_init 96 = .ok (.newarray .byte, 2) := by decide +kernel
theorem dX5_init_98 : decode cX5_init 98 = .ok (.putfield 46, 3) := by decide +kernel
theorem dX5_init_101 : decode cX5_init 101 = .ok (.aload_n 0, 1) := by decide +kernel
theorem dX5_init_102 : decode cX5_init 102 = .ok (.bipush 24, 2) := by decide +kernel
theorem dX5_init_104 : decode cX5_init 104 = .ok (.newarray .int, 2) := by decide +kernel
theorem dX5_init_106 : decode cX5_init 106 = .ok (.putfield 49, 3) := by decide +kernel
theorem dX5_init_109 : decode cX5_init 109 = .ok (.return_, 1) := by decide +kernel
theorem dX5_feed_0 : decode cX5_feed 0 = .ok (.aload_n 0, 1) := by decide +kernel
theorem dX5_feed_1 : decode cX5_feed 1 = .ok (.iconst 0, 1) := by decide +kernel
theorem dX5_feed_2 : decode cX5_feed 2 = .ok (.putfield 52, 3) := by decide +kernel
theorem dX5_feed_5 : decode cX5_feed 5 = .ok (.aload_n 0, 1) := by decide +kernel
theorem dX5_feed_6 : decode cX5_feed 6 = .ok (.getfield 55, 3) := by decide +kernel
theorem dX5_feed_9 : decode cX5_feed 9 = .ok (.sipush 3980, 3) := by decide +kernel
theorem dX5_feed_12 : decode cX5_feed 12 = .ok (.if_icmp .le 5, 3) := by decide +kernel
theorem dX5_feed_15 : decode cX5_feed 15 = .ok (.iconst (-1), 1) := by decide +kernel
theorem dX5_feed_16 : decode cX5_feed 16 = .ok (.ireturn, 1) := by decide +kernel
theorem dX5_feed_17 : decode cX5_feed 17 = .ok (.iconst 0, 1) := by decide +kernel
theorem dX5_feed_18 : decode cX5_feed 18 = .ok (.istore 6, 2) := by decide +kernel
theorem dX5_feed_20 : decode cX5_feed 20 = .ok (.iload 6, 2) := by decide +kernel
theorem dX5_feed_22 : decode cX5_feed 22 = .ok (.bipush 20, 2) := by decide +kernel
theorem dX5_feed_24 : decode cX5_feed 24 = .ok (.if_icmp .ge 86, 3) := by decide +kernel
theorem dX5_feed_27 : decode cX5_feed 27 = .ok (.iload 6, 2) := by decide +kernel
theorem dX5_feed_29 : decode cX5_feed 29 = .ok (.iconst 4, 1) := by decide +kernel
theorem dX5_feed_30 : decode cX5_feed 30 = .ok (.if_icmp .ge 7, 3) := by decide +kernel
theorem dX5_feed_33 : decode cX5_feed 33 = .ok (.iload_n 1, 1) := by decide +kernel
theorem dX5_feed_34 : decode cX5_feed 34 = .ok (.goto 39, 3) := by decide +kernel
theorem dX5_feed_37 : decode cX5_feed 37 = .ok (.iload 6, 2) := by decide +kernel
theorem dX5_feed_39 : decode cX5_feed 39 = .ok (.bipush 8, 2) := by decide +kernel
theorem dX5_feed_41 : decode cX5_feed 41 = .ok (.if_icmp .ge 7, 3) := by decide +kernel
theorem dX5_feed_44 : decode cX5_feed 44 = .ok (.iload_n 2, 1) := by decide +kernel
theorem dX5_feed_45 : decode cX5_feed 45 = .ok (.goto 28, 3) := by decide +kernel
theorem dX5_feed_48 : decode cX5_feed 48 = .ok (.iload 6, 2) := by decide +kernel
theorem dX5_feed_50 : decode cX5_feed 50 = .ok (.bipush 12, 2) := by decide +kernel
theorem dX5_feed_52 : decode cX5_feed 52 = .ok (.if_icmp .ge 7, 3) := by decide +kernel
theorem dX5_feed_55 : decode cX5_feed 55 = .ok (.iload_n 3, 1) := by decide +kernel
theorem dX5_feed_56 : decode cX5_feed 56 = .ok (.goto 17, 3) := by decide +kernel
theorem dX5_feed_59 : decode cX5_feed 59 = .ok (.iload 6, 2) := by decide +kernel
theorem dX5_feed_61 : decode cX5_feed 61 = .ok (.bipush 16, 2) := by decide +kernel
theorem dX5_feed_63 : decode cX5_feed 63 = .ok (.if_icmp .ge 8, 3) := by decide +kernel
theorem dX5_feed_66 : decode cX5_feed 66 = .ok (.iload 4, 2) := by decide +kernel
theorem dX5_feed_68 : decode cX5_feed 68 = .ok (.goto 5, 3) := by decide +kernel
theorem dX5_feed_71 : decode cX5_feed 71 = .ok (.iload 5, 2) := by decide +kernel
theorem dX5_feed_73 : decode cX5_feed 73 = .ok (.istore 7, 2) := by decide +kernel
theorem dX5_feed_75 : decode cX5_feed 75 = .ok (.aload_n 0, 1) := by decide +kernel
theorem dX5_feed_76 : decode cX5_feed 76 = .ok (.getfield 7, 3) := by decide +kernel
theorem dX5_feed_79 : decode cX5_feed 79 = .ok (.aload_n 0, 1) := by decide +kernel
theorem dX5_feed_80 : decode cX5_feed 80 = .ok (.getfield 55, 3) := by decide +kernel
theorem dX5_feed_83 : decode cX5_feed 83 = .ok (.iload 6, 2) := by decide +kernel
theorem dX5_feed_85 : decode cX5_feed 85 = .ok (.iadd, 1) := by decide +kernel
theorem dX5_feed_86 : decode cX5_feed 86 = .ok (.iload 7, 2) := by decide +kernel
theorem dX5_feed_88 : decode cX5_feed 88 = .ok (.bipush 24, 2) := by decide +kernel
theorem dX5_feed_90 : decode cX5_feed 90 = .ok (.bipush 8, 2) := by decide +kernel
theorem dX5_feed_92 : decode cX5_feed 92 = .ok (.iload 6, 2) := by decide +kernel
theorem dX5_feed_94 : decode cX5_feed 94 = .ok (.iconst 4, 1) := by decide +kernel
theorem dX5_feed_95 : decode cX5_feed 95 = .ok (.irem, 1) := by decide +kernel
theorem dX5_feed_96 : decode cX5_feed 96 = .ok (.imul, 1) := by decide +kernel
theorem dX5_feed_97 : decode cX5_feed 97 = .ok (.isub, 1) := by decide +kernel
theorem dX5_feed_98 : decode cX5_feed 98 = .ok (.ishr, 1) := by decide +kernel
theorem dX5_feed_99 : decode cX5_feed 99 = .ok (.sipush 255, 3) := by decide +kernel
theorem dX5_feed_102 : decode cX5_feed 102 = .ok (.iand, 1) := by decide +kernel
theorem dX5_feed_103 : decode cX5_feed 103 = .ok (.iastore, 1) := by decide +kernel
theorem dX5_feed_104 : decode cX5_feed 104 = .ok (.iinc 6 1, 3) := by decide +kernel
theorem dX5_feed_107 : decode cX5_feed 107 = .ok (.goto (-87), 3) := by decide +kernel
theorem dX5_feed_110 : decode cX5_feed 110 = .ok (.aload_n 0, 1) := by decide +kernel
theorem dX5_feed_111 : decode cX5_feed 111 = .ok (.dup, 1) := by decide +kernel
theorem dX5_feed_112 : decode cX5_feed 112 = .ok (.getfield 55, 3) := by decide +kernel
theorem dX5_feed_115 : decode cX5_feed 115 = .ok (.bipush 20, 2) := by decide +kernel
theorem dX5_feed_117 : decode cX5_feed 117 = .ok (.iadd, 1) := by decide +kernel
theorem dX5_feed_118 : decode cX5_feed 118 = .ok (.putfield 55, 3) := by decide +kernel
theorem dX5_feed_121 : decode cX5_feed 121 = .ok (.aload_n 0, 1) := by decide +kernel
theorem dX5_feed_122 : decode cX5_feed 122 = .ok (.getfield 55, 3) := by decide +kernel
theorem dX5_feed_125 : decode cX5_feed 125 = .ok (.ireturn, 1) := by decide +kernel
theorem dX5_end_0 : decode cX5_end 0 = .ok (.aload_n 0, 1) := by decide +kernel
theorem dX5_end_1 : decode cX5_end 1 = .ok (.iconst 0, 1) := by decide +kernel
theorem dX5_end_2 : decode cX5_end 2 = .ok (.putfield 52, 3) := by decide +kernel
theorem dX5_end_5 : decode cX5_end 5 = .ok (.iload_n 1, 1) := by decide +kernel
theorem dX5_end_6 : decode cX5_end 6 = .ok (.ifCond .lt 11, 3) := by decide +kernel
theorem dX5_end_9 : decode cX5_end 9 = .ok (.iload_n 1, 1) := by decide +kernel
theorem dX5_end_10 : decode cX5_end 10 = .ok (.aload_n 0, 1) := by decide +kernel
theorem dX5_end_11 : decode cX5_end 11 = .ok (.getfield 55, 3) := by decide +kernel
theorem dX5_end_14 : decode cX5_end 14 = .ok (.if_icmp .le 5, 3) := by decide +kernel
theorem dX5_end_17 : decode cX5_end 17 = .ok (.iconst (-1), 1) := by decide +kernel
theorem dX5_end_18 : decode cX5_end 18 = .ok (.ireturn, 1) := by decide +kernel
theorem dX5_end_19 : decode cX5_end 19 = .ok (.aload_n 0, 1) := by decide +kernel
theorem dX5_end_20 : decode cX5_end 20 = .ok (.iload_n 1, 1) := by decide +kernel
theorem dX5_end_21 : decode cX5_end 21 = .ok (.putfield 55, 3) := by decide +kernel
theorem dX5_end_24 : decode cX5_end 24 = .ok (.iload_n 1, 1) := by decide +kernel
theorem dX5_end_25 : decode cX5_end 25 = .ok (.ireturn, 1) := by decide +kernel
theorem dX5_bounds_0 : decode cX5_bounds 0 = .ok (.aload_n 0, 1) := by decide +kernel
theorem dX5_bounds_1 : decode cX5_bounds 1 = .ok (.iconst 0, 1) := by decide +kernel
theorem dX5_bounds_2 : decode cX5_bounds 2 = .ok (.putfield 52, 3) := by decide +kernel
theorem dX5_bounds_5 : decode cX5_bounds 5 = .ok (.iload_n 1, 1) := by decide +kernel
theorem dX5_bounds_6 : decode cX5_bounds 6 = .ok (.ifCond .lt 20, 3) := by decide +kernel
theorem dX5_bounds_9 : decode cX5_bounds 9 = .ok (.iload_n 1, 1) := by decide +kernel
theorem dX5_bounds_10 : decode cX5_bounds 10 = .ok (.bipush 40, 2) := by decide +kernel
theorem dX5_bounds_12 : decode cX5_bounds 12 = .ok (.if_icmp .gt 14, 3) := by decide +kernel
theorem dX5_bounds_15 : decode cX5_bounds 15 = .ok (.iload_n 2, 1) := by decide +kernel
theorem dX5_bounds_16 : decode cX5_bounds 16 = .ok (.ifCond .lt 10, 3) := by decide +kernel
theorem dX5_bounds_19 : decode cX5_bounds 19 = .ok (.iload_n 2, 1) := by decide +kernel
theorem dX5_bounds_20 : decode cX5_bounds 20 = .ok (.sipush 6000, 3) := by decide +kernel
theorem dX5_bounds_23 : decode cX5_bounds 23 = .ok (.if_icmp .le 5, 3) := by decide +kernel
theorem dX5_bounds_26 : decode cX5_bounds 26 = .ok (.iconst 0, 1) := by decide +kernel
theorem dX5_bounds_27 : decode cX5_bounds 27 = .ok (.ireturn, 1) := by decide +kernel
theorem dX5_bounds_28 : decode cX5_bounds 28 = .ok (.aload_n 0, 1) := by decide +kernel
theorem dX5_bounds_29 : decode cX5_bounds 29 = .ok (.iload_n 1, 1) := by decide +kernel
theorem dX5_bounds_30 : decode cX5_bounds 30 = .ok (.putfield 13, 3) := by decide +kernel
theorem dX5_bounds_33 : decode cX5_bounds 33 = .ok (.aload_n 0, 1) := by decide +kernel
theorem dX5_bounds_34 : decode cX5_bounds 34 = .ok (.iload_n 2, 1) := by decide +kernel
theorem dX5_bounds_35 : decode cX5_bounds 35 = .ok (.putfield 17, 3) := by decide +kernel
theorem dX5_bounds_38 : decode cX5_bounds 38 = .ok (.iconst 1, 1) := by decide +kernel
theorem dX5_bounds_39 : decode cX5_bounds 39 = .ok (.ireturn, 1) := by decide +kernel
theorem dX5_errorAt_0 : decode cX5_errorAt 0 = .ok (.aload_n 0, 1) := by decide +kernel
theorem dX5_errorAt_1 : decode cX5_errorAt 1 = .ok (.iconst 0, 1) := by decide +kernel
theorem dX5_errorAt_2 : decode cX5_errorAt 2 = .ok (.putfield 52, 3) := by decide +kernel
theorem dX5_errorAt_5 : decode cX5_errorAt 5 = .ok (.aload_n 0, 1) := by decide +kernel
theorem dX5_errorAt_6 : decode cX5_errorAt 6 = .ok (.getfield 24, 3) := by decide +kernel
theorem dX5_errorAt_9 : decode cX5_errorAt 9 = .ok (.ireturn, 1) := by decide +kernel
theorem dX5_out_0 : decode cX5_out 0 = .ok (.aload_n 0, 1) := by decide +kernel
theorem dX5_out_1 : decode cX5_out 1 = .ok (.iconst 0, 1) := by decide +kernel
theorem dX5_out_2 : decode cX5_out 2 = .ok (.putfield 52, 3) := by decide +kernel
theorem dX5_out_5 : decode cX5_out 5 = .ok (.iload_n 1, 1) := by decide +kernel
theorem dX5_out_6 : decode cX5_out 6 = .ok (.ifCond .lt 11, 3) := by decide +kernel
theorem dX5_out_9 : decode cX5_out 9 = .ok (.iload_n 1, 1) := by decide +kernel
theorem dX5_out_10 : decode cX5_out 10 = .ok (.aload_n 0, 1) := by decide +kernel
theorem dX5_out_11 : decode cX5_out 11 = .ok (.getfield 58, 3) := by decide +kernel
theorem dX5_out_14 : decode cX5_out 14 = .ok (.if_icmp .lt 7, 3) := by decide +kernel
theorem dX5_out_17 : decode cX5_out 17 = .ok (.iconst (-1), 1) := by decide +kernel
theorem dX5_out_18 : decode cX5_out 18 = .ok (.goto 13, 3) := by decide +kernel
theorem dX5_out_21 : decode cX5_out 21 = .ok (.aload_n 0, 1) := by decide +kernel
theorem dX5_out_22 : decode cX5_out 22 = .ok (.getfield 20, 3) := by decide +kernel
theorem dX5_out_25 : decode cX5_out 25 = .ok (.iload_n 1, 1) := by decide +kernel
theorem dX5_out_26 : decode cX5_out 26 = .ok (.baload, 1) := by decide +kernel
theorem dX5_out_27 : decode cX5_out 27 = .ok (.sipush 255, 3) := by decide +kernel
theorem dX5_out_30 : decode cX5_out 30 = .ok (.iand, 1) := by decide +kernel
theorem dX5_out_31 : decode cX5_out 31 = .ok (.ireturn, 1) := by decide +kernel
theorem dX5_outSize_0 : decode cX5_outSize 0 = .ok (.aload_n 0, 1) := by decide +kernel
theorem dX5_outSize_1 : decode cX5_outSize 1 = .ok (.iconst 0, 1) := by decide +kernel
theorem dX5_outSize_2 : decode cX5_outSize 2 = .ok (.putfield 52, 3) := by decide +kernel
theorem dX5_outSize_5 : decode cX5_outSize 5 = .ok (.aload_n 0, 1) := by decide +kernel
theorem dX5_outSize_6 : decode cX5_outSize 6 = .ok (.getfield 58, 3) := by decide +kernel
theorem dX5_outSize_9 : decode cX5_outSize 9 = .ok (.ireturn, 1) := by decide +kernel
theorem dX5_take_0 : decode cX5_take 0 = .ok (.aload_n 0, 1) := by decide +kernel
theorem dX5_take_1 : decode cX5_take 1 = .ok (.iconst 0, 1) := by decide +kernel
theorem dX5_take_2 : decode cX5_take 2 = .ok (.putfield 52, 3) := by decide +kernel
theorem dX5_take_5 : decode cX5_take 5 = .ok (.aload_n 0, 1) := by decide +kernel
theorem dX5_take_6 : decode cX5_take 6 = .ok (.getfield 58, 3) := by decide +kernel
theorem dX5_take_9 : decode cX5_take 9 = .ok (.sipush 4000, 3) := by decide +kernel
theorem dX5_take_12 : decode cX5_take 12 = .ok (.if_icmp .le 5, 3) := by decide +kernel
theorem dX5_take_15 : decode cX5_take 15 = .ok (.iconst (-1), 1) := by decide +kernel
theorem dX5_take_16 : decode cX5_take 16 = .ok (.ireturn, 1) := by decide +kernel
theorem dX5_take_17 : decode cX5_take 17 = .ok (.iconst 0, 1) := by decide +kernel
theorem dX5_take_18 : decode cX5_take 18 = .ok (.istore_n 1, 1) := by decide +kernel
theorem dX5_take_19 : decode cX5_take 19 = .ok (.iload_n 1, 1) := by decide +kernel
theorem dX5_take_20 : decode cX5_take 20 = .ok (.aload_n 0, 1) := by decide +kernel
theorem dX5_take_21 : decode cX5_take 21 = .ok (.getfield 58, 3) := by decide +kernel
theorem dX5_take_24 : decode cX5_take 24 = .ok (.if_icmp .ge 25, 3) := by decide +kernel
theorem dX5_take_27 : decode cX5_take 27 = .ok (.aload_n 0, 1) := by decide +kernel
theorem dX5_take_28 : decode cX5_take 28 = .ok (.getfield 7, 3) := by decide +kernel
theorem dX5_take_31 : decode cX5_take 31 = .ok (.iload_n 1, 1) := by decide +kernel
theorem dX5_take_32 : decode cX5_take 32 = .ok (.aload_n 0, 1) := by decide +kernel
theorem dX5_take_33 : decode cX5_take 33 = .ok (.getfield 20, 3) := by decide +kernel
theorem dX5_take_36 : decode cX5_take 36 = .ok (.iload_n 1, 1) := by decide +kernel
theorem dX5_take_37 : decode cX5_take 37 = .ok (.baload, 1) := by decide +kernel
theorem dX5_take_38 : decode cX5_take 38 = .ok (.sipush 255, 3) := by decide +kernel
theorem dX5_take_41 : decode cX5_take 41 = .ok (.iand, 1) := by decide +kernel
theorem dX5_take_42 : decode cX5_take 42 = .ok (.iastore, 1) := by decide +kernel
theorem dX5_take_43 : decode cX5_take 43 = .ok (.iinc 1 1, 3) := by decide +kernel
theorem dX5_take_46 : decode cX5_take 46 = .ok (.goto (-27), 3) := by decide +kernel
theorem dX5_take_49 : decode cX5_take 49 = .ok (.aload_n 0, 1) := by decide +kernel
theorem dX5_take_50 : decode cX5_take 50 = .ok (.aload_n 0, 1) := by decide +kernel
theorem dX5_take_51 : decode cX5_take 51 = .ok (.getfield 58, 3) := by decide +kernel
theorem dX5_take_54 : decode cX5_take 54 = .ok (.putfield 55, 3) := by decide +kernel
theorem dX5_take_57 : decode cX5_take 57 = .ok (.aload_n 0, 1) := by decide +kernel
theorem dX5_take_58 : decode cX5_take 58 = .ok (.getfield 55, 3) := by decide +kernel
theorem dX5_take_61 : decode cX5_take 61 = .ok (.ireturn, 1) := by decide +kernel
theorem dX5_wrong_0 : decode cX5_wrong 0 = .ok (.aload_n 0, 1) := by decide +kernel
theorem dX5_wrong_1 : decode cX5_wrong 1 = .ok (.getfield 61, 3) := by decide +kernel
theorem dX5_wrong_4 : decode cX5_wrong 4 = .ok (.ifCond .ne 13, 3) := by decide +kernel
theorem dX5_wrong_7 : decode cX5_wrong 7 = .ok (.aload_n 0, 1) := by decide +kernel
theorem dX5_wrong_8 : decode cX5_wrong 8 = .ok (.iload_n 1, 1) := by decide +kernel
theorem dX5_wrong_9 : decode cX5_wrong 9 = .ok (.putfield 61, 3) := by decide +kernel
theorem dX5_wrong_12 : decode cX5_wrong 12 = .ok (.aload_n 0, 1) := by decide +kernel
theorem dX5_wrong_13 : decode cX5_wrong 13 = .ok (.iload_n 2, 1) := by decide +kernel
theorem dX5_wrong_14 : decode cX5_wrong 14 = .ok (.putfield 24, 3) := by decide +kernel
theorem dX5_wrong_17 : decode cX5_wrong 17 = .ok (.iconst 0, 1) := by decide +kernel
theorem dX5_wrong_18 : decode cX5_wrong 18 = .ok (.ireturn, 1) := by decide +kernel
theorem dX5_begin_0 : decode cX5_begin 0 = .ok (.aload_n 0, 1) := by decide +kernel
theorem dX5_begin_1 : decode cX5_begin 1 = .ok (.iconst 0, 1) := by decide +kernel
theorem dX5_begin_2 : decode cX5_begin 2 = .ok (.putfield 52, 3) := by decide +kernel
theorem dX5_begin_5 : decode cX5_begin 5 = .ok (.aload_n 0, 1) := by decide +kernel
theorem dX5_begin_6 : decode cX5_begin 6 = .ok (.iconst 0, 1) := by decide +kernel
theorem dX5_begin_7 : decode cX5_begin 7 = .ok (.putfield 61, 3) := by decide +kernel
theorem dX5_begin_10 : decode cX5_begin 10 = .ok (.aload_n 0, 1) := by decide +kernel
theorem dX5_begin_11 : decode cX5_begin 11 = .ok (.iconst (-1), 1) := by decide +kernel
theorem dX5_begin_12 : decode cX5_begin 12 = .ok (.putfield 24, 3) := by decide +kernel
theorem dX5_begin_15 : decode cX5_begin 15 = .ok (.aload_n 0, 1) := by decide +kernel
theorem dX5_begin_16 : decode cX5_begin 16 = .ok (.iconst 0, 1) := by decide +kernel
theorem dX5_begin_17 : decode cX5_begin 17 = .ok (.putfield 64, 3) := by decide +kernel
theorem dX5_begin_20 : decode cX5_begin 20 = .ok (.aload_n 0, 1) := by decide +kernel
theorem dX5_begin_21 : decode cX5_begin 21 = .ok (.iconst 0, 1) := by decide +kernel
theorem dX5_begin_22 : decode cX5_begin 22 = .ok (.putfield 67, 3) := by decide +kernel
theorem dX5_begin_25 : decode cX5_begin 25 = .ok (.aload_n 0, 1) := by decide +kernel
theorem dX5_begin_26 : decode cX5_begin 26 = .ok (.iconst 0, 1) := by decide +kernel
theorem dX5_begin_27 : decode cX5_begin 27 = .ok (.putfield 70, 3) := by decide +kernel
theorem dX5_begin_30 : decode cX5_begin 30 = .ok (.aload_n 0, 1) := by decide +kernel
theorem dX5_begin_31 : decode cX5_begin 31 = .ok (.iconst 0, 1) := by decide +kernel
theorem dX5_begin_32 : decode cX5_begin 32 = .ok (.putfield 73, 3) := by decide +kernel
theorem dX5_begin_35 : decode cX5_begin 35 = .ok (.return_, 1) := by decide +kernel
theorem dX5_thing_0 : decode cX5_thing 0 = .ok (.aload_n 0, 1) := by decide +kernel
theorem dX5_thing_1 : decode cX5_thing 1 = .ok (.getfield 27, 3) := by decide +kernel
theorem dX5_thing_4 : decode cX5_thing 4 = .ok (.aload_n 0, 1) := by decide +kernel
theorem dX5_thing_5 : decode cX5_thing 5 = .ok (.getfield 67, 3) := by decide +kernel
theorem dX5_thing_8 : decode cX5_thing 8 = .ok (.iload_n 1, 1) := by decide +kernel
theorem dX5_thing_9 : decode cX5_thing 9 = .ok (.iastore, 1) := by decide +kernel
theorem dX5_thing_10 : decode cX5_thing 10 = .ok (.aload_n 0, 1) := by decide +kernel
theorem dX5_thing_11 : decode cX5_thing 11 = .ok (.getfield 30, 3) := by decide +kernel
theorem dX5_thing_14 : decode cX5_thing 14 = .ok (.aload_n 0, 1) := by decide +kernel
theorem dX5_thing_15 : decode cX5_thing 15 = .ok (.getfield 67, 3) := by decide +kernel
theorem dX5_thing_18 : decode cX5_thing 18 = .ok (.lload_n 2, 1) := by decide +kernel
theorem dX5_thing_19 : decode cX5_thing 19 = .ok (.lastore, 1) := by decide +kernel
theorem dX5_thing_20 : decode cX5_thing 20 = .ok (.aload_n 0, 1) := by decide +kernel
theorem dX5_thing_21 : decode cX5_thing 21 = .ok (.getfield 34, 3) := by decide +kernel
theorem dX5_thing_24 : decode cX5_thing 24 = .ok (.aload_n 0, 1) := by decide +kernel
theorem dX5_thing_25 : decode cX5_thing 25 = .ok (.getfield 67, 3) := by decide +kernel
theorem dX5_thing_28 : decode cX5_thing 28 = .ok (.aload_n 0, 1) := by decide +kernel
theorem dX5_thing_29 : decode cX5_thing 29 = .ok (.getfield 70, 3) := by decide +kernel
theorem dX5_thing_32 : decode cX5_thing 32 = .ok (.iastore, 1) := by decide +kernel
theorem dX5_thing_33 : decode cX5_thing 33 = .ok (.aload_n 0, 1) := by decide +kernel
theorem dX5_thing_34 : decode cX5_thing 34 = .ok (.dup, 1) := by decide +kernel
theorem dX5_thing_35 : decode cX5_thing 35 = .ok (.getfield 67, 3) := by decide +kernel
theorem dX5_thing_38 : decode cX5_thing 38 = .ok (.iconst 1, 1) := by decide +kernel
theorem dX5_thing_39 : decode cX5_thing 39 = .ok (.iadd, 1) := by decide +kernel
theorem dX5_thing_40 : decode cX5_thing 40 = .ok (.putfield 67, 3) := by decide +kernel
theorem dX5_thing_43 : decode cX5_thing 43 = .ok (.aload_n 0, 1) := by decide +kernel
theorem dX5_thing_44 : decode cX5_thing 44 = .ok (.getfield 67, 3) := by decide +kernel
theorem dX5_thing_47 : decode cX5_thing 47 = .ok (.iconst 1, 1) := by decide +kernel
theorem dX5_thing_48 : decode cX5_thing 48 = .ok (.isub, 1) := by decide +kernel
theorem dX5_thing_49 : decode cX5_thing 49 = .ok (.ireturn, 1) := by decide +kernel
theorem dX5_here_0 : decode cX5_here 0 = .ok (.aload_n 0, 1) := by decide +kernel
theorem dX5_here_1 : decode cX5_here 1 = .ok (.getfield 64, 3) := by decide +kernel
theorem dX5_here_4 : decode cX5_here 4 = .ok (.aload_n 0, 1) := by decide +kernel
theorem dX5_here_5 : decode cX5_here 5 = .ok (.getfield 55, 3) := by decide +kernel
theorem dX5_here_8 : decode cX5_here 8 = .ok (.if_icmp .ge 15, 3) := by decide +kernel
theorem dX5_here_11 : decode cX5_here 11 = .ok (.aload_n 0, 1) := by decide +kernel
theorem dX5_here_12 : decode cX5_here 12 = .ok (.getfield 7, 3) := by decide +kernel
theorem dX5_here_15 : decode cX5_here 15 = .ok (.aload_n 0, 1) := by decide +kernel
theorem dX5_here_16 : decode cX5_here 16 = .ok (.getfield 64, 3) := by decide +kernel
theorem dX5_here_19 : decode cX5_here 19 = .ok (.iaload, 1) := by decide +kernel
theorem dX5_here_20 : decode cX5_here 20 = .ok (.goto 4, 3) := by decide +kernel
theorem dX5_here_23 : decode cX5_here 23 = .ok (.iconst (-1), 1) := by decide +kernel
theorem dX5_here_24 : decode cX5_here 24 = .ok (.ireturn, 1) := by decide +kernel
theorem dX5_follows_0 : decode cX5_follows 0 = .ok (.iload_n 1, 1) := by decide +kernel
theorem dX5_follows_1 : decode cX5_follows 1 = .ok (.iload_n 2, 1) := by decide +kernel
theorem dX5_follows_2 : decode cX5_follows 2 = .ok (.if_icmp .ge 28, 3) := by decide +kernel
theorem dX5_follows_5 : decode cX5_follows 5 = .ok (.aload_n 0, 1) := by decide +kernel
theorem dX5_follows_6 : decode cX5_follows 6 = .ok (.getfield 7, 3) := by decide +kernel
theorem dX5_follows_9 : decode cX5_follows 9 = .ok (.iload_n 1, 1) := by decide +kernel
theorem dX5_follows_10 : decode cX5_follows 10 = .ok (.iaload, 1) := by decide +kernel
theorem dX5_follows_11 : decode cX5_follows 11 = .ok (.iload_n 3, 1) := by decide +kernel
theorem dX5_follows_12 : decode cX5_follows 12 = .ok (.if_icmp .lt 18, 3) := by decide +kernel
theorem dX5_follows_15 : decode cX5_follows 15 = .ok (.aload_n 0, 1) := by decide +kernel
theorem dX5_follows_16 : decode cX5_follows 16 = .ok (.getfield 7, 3) := by decide +kernel
theorem dX5_follows_19 : decode cX5_follows 19 = .ok (.iload_n 1, 1) := by decide +kernel
theorem dX5_follows_20 : decode cX5_follows 20 = .ok (.iaload, 1) := by decide +kernel
theorem dX5_follows_21 : decode cX5_follows 21 = .ok (.iload 4, 2) := by decide +kernel
theorem dX5_follows_23 : decode cX5_follows 23 = .ok (.if_icmp .gt 7, 3) := by decide +kernel
theorem dX5_follows_26 : decode cX5_follows 26 = .ok (.iconst 1, 1) := by decide +kernel
theorem dX5_follows_27 : decode cX5_follows 27 = .ok (.goto 4, 3) := by decide +kernel
theorem dX5_follows_30 : decode cX5_follows 30 = .ok (.iconst 0, 1) := by decide +kernel
theorem dX5_follows_31 : decode cX5_follows 31 = .ok (.ireturn, 1) := by decide +kernel
theorem dX5_signSize_0 : decode cX5_signSize 0 = .ok (.aload_n 0, 1) := by decide +kernel
theorem dX5_signSize_1 : decode cX5_signSize 1 = .ok (.getfield 7, 3) := by decide +kernel
theorem dX5_signSize_4 : decode cX5_signSize 4 = .ok (.iload_n 1, 1) := by decide +kernel
theorem dX5_signSize_5 : decode cX5_signSize 5 = .ok (.iaload, 1) := by decide +kernel
theorem dX5_signSize_6 : decode cX5_signSize 6 = .ok (.istore_n 3, 1) := by decide +kernel
theorem dX5_signSize_7 : decode cX5_signSize 7 = .ok (.iload_n 3, 1) := by decide +kernel
theorem dX5_signSize_8 : decode cX5_signSize 8 = .ok (.sipush 128, 3) := by decide +kernel
theorem dX5_signSize_11 : decode cX5_signSize 11 = .ok (.if_icmp .ge 5, 3) := by decide +kernel
theorem dX5_signSize_14 : decode cX5_signSize 14 = .ok (.iconst 1, 1) := by decide +kernel
theorem dX5_signSize_15 : decode cX5_signSize 15 = .ok (.ireturn, 1) := by decide +kernel
theorem dX5_signSize_16 : decode cX5_signSize 16 = .ok (.iload_n 3, 1) := by decide +kernel
theorem dX5_signSize_17 : decode cX5_signSize 17 = .ok (.sipush 194, 3) := by decide +kernel
theorem dX5_signSize_20 : decode cX5_signSize 20 = .ok (.if_icmp .lt 10, 3) := by decide +kernel
theorem dX5_signSize_23 : decode cX5_signSize 23 = .ok (.iload_n 3, 1) := by decide +kernel
theorem dX5_signSize_24 : decode cX5_signSize 24 = .ok (.sipush 244, 3) := by decide +kernel
theorem dX5_signSize_27 : decode cX5_signSize 27 = .ok (.if_icmp .le 5, 3) := by decide +kernel
theorem dX5_signSize_30 : decode cX5_signSize 30 = .ok (.iconst 0, 1) := by decide +kernel
theorem dX5_signSize_31 : decode cX5_signSize 31 = .ok (.ireturn, 1) := by decide +kernel
theorem dX5_signSize_32 : decode cX5_signSize 32 = .ok (.iload_n 3, 1) := by decide +kernel
theorem dX5_signSize_33 : decode cX5_signSize 33 = .ok (.sipush 224, 3) := by decide +kernel
theorem dX5_signSize_36 : decode cX5_signSize 36 = .ok (.if_icmp .ne 9, 3) := by decide +kernel
theorem dX5_signSize_39 : decode cX5_signSize 39 = .ok (.sipush 160, 3) := by decide +kernel
theorem dX5_signSize_42 : decode cX5_signSize 42 = .ok (.goto 19, 3) := by decide +kernel
theorem dX5_signSize_45 : decode cX5_signSize 45 = .ok (.iload_n 3, 1) := by decide +kernel
theorem dX5_signSize_46 : decode cX5_signSize 46 = .ok (.sipush 240, 3) := by decide +kernel
theorem dX5_signSize_49 : decode cX5_signSize 49 = .ok (.if_icmp .ne 9, 3) := by decide +kernel
theorem dX5_signSize_52 : decode cX5_signSize 52 = .ok (.sipush 144, 3) := by decide +kernel
theorem dX5_signSize_55 : decode cX5_signSize 55 = .ok (.goto 6, 3) := by decide +kernel
theorem dX5_signSize_58 : decode cX5_signSize 58 = .ok (.sipush 128, 3) := by decide +kernel
theorem dX5_signSize_61 : decode cX5_signSize 61 = .ok (.istore 4, 2) := by decide +kernel
theorem dX5_signSize_63 : decode cX5_signSize 63 = .ok (.iload_n 3, 1) := by decide +kernel
theorem dX5_signSize_64 : decode cX5_signSize 64 = .ok (.sipush 237, 3) := by decide +kernel
theorem dX5_signSize_67 : decode cX5_signSize 67 = .ok (.if_icmp .ne 9, 3) := by decide +kernel
theorem dX5_signSize_70 : decode cX5_signSize 70 = .ok (.sipush 159, 3) := by decide +kernel
theorem dX5_signSize_73 : decode cX5_signSize 73 = .ok (.goto 19, 3) := by decide +kernel
theorem dX5_signSize_76 : decode cX5_signSize 76 = .ok (.iload_n 3, 1) := by decide +kernel
theorem dX5_signSize_77 : decode cX5_signSize 77 = .ok (.sipush 244, 3) := by decide +kernel
theorem dX5_signSize_80 : decode cX5_signSize 80 = .ok (.if_icmp .ne 9, 3) := by decide +kernel
theorem dX5_signSize_83 : decode cX5_signSize 83 = .ok (.sipush 143, 3) := by decide +kernel
theorem dX5_signSize_86 : decode cX5_signSize 86 = .ok (.goto 6, 3) := by decide +kernel
theorem dX5_signSize_89 : decode cX5_signSize 89 = .ok (.sipush 191, 3) := by decide +kernel
theorem dX5_signSize_92 : decode cX5_signSize 92 = .ok (.istore 5, 2) := by decide +kernel
theorem dX5_signSize_94 : decode cX5_signSize 94 = .ok (.iload_n 3, 1) := by decide +kernel
theorem dX5_signSize_95 : decode cX5_signSize 95 = .ok (.sipush 224, 3) := by decide +kernel
theorem dX5_signSize_98 : decode cX5_signSize 98 = .ok (.if_icmp .ge 7, 3) := by decide +kernel
theorem dX5_signSize_101 : decode cX5_signSize 101 = .ok (.iconst 2, 1) := by decide +kernel
theorem dX5_signSize_102 : decode cX5_signSize 102 = .ok (.goto 15, 3) := by decide +kernel
theorem dX5_signSize_105 : decode cX5_signSize 105 = .ok (.iload_n 3, 1) := by decide +kernel
theorem dX5_signSize_106 : decode cX5_signSize 106 = .ok (.sipush 240, 3) := by decide +kernel
theorem dX5_signSize_109 : decode cX5_signSize 109 = .ok (.if_icmp .ge 7, 3) := by decide +kernel
theorem dX5_signSize_112 : decode cX5_signSize 112 = .ok (.iconst 3, 1) := by decide +kernel
theorem dX5_signSize_113 : decode cX5_signSize 113 = .ok (.goto 4, 3) := by decide +kernel
theorem dX5_signSize_116 : decode cX5_signSize 116 = .ok (.iconst 4, 1) := by decide +kernel
theorem dX5_signSize_117 : decode cX5_signSize 117 = .ok (.istore 6, 2) := by decide +kernel
theorem dX5_signSize_119 : decode cX5_signSize 119 = .ok (.aload_n 0, 1) := by decide +kernel
theorem dX5_signSize_120 : decode cX5_signSize 120 = .ok (.iload_n 1, 1) := by decide +kernel
theorem dX5_signSize_121 : decode cX5_signSize 121 = .ok (.iconst 1, 1) := by decide +kernel
theorem dX5_signSize_122 : decode cX5_signSize 122 = .ok (.iadd, 1) := by decide +kernel
theorem dX5_signSize_123 : decode cX5_signSize 123 = .ok (.iload_n 2, 1) := by decide +kernel
theorem dX5_signSize_124 : decode cX5_signSize 124 = .ok (.iload 4, 2) := by decide +kernel
theorem dX5_signSize_126 : decode cX5_signSize 126 = .ok (.iload 5, 2) := by decide +kernel
theorem dX5_signSize_128 : decode cX5_signSize 128 = .ok (.invokevirtual 76, 3) := by decide +kernel
theorem dX5_signSize_131 : decode cX5_signSize 131 = .ok (.ifCond .ne 5, 3) := by decide +kernel
theorem dX5_signSize_134 : decode cX5_signSize 134 = .ok (.iconst 0, 1) := by decide +kernel
theorem dX5_signSize_135 : decode cX5_signSize 135 = .ok (.ireturn, 1) := by decide +kernel
theorem dX5_signSize_136 : decode cX5_signSize 136 = .ok (.iconst 2, 1) := by decide +kernel
theorem dX5_signSize_137 : decode cX5_signSize 137 = .ok (.istore 7, 2) := by decide +kernel
theorem dX5_signSize_139 : decode cX5_signSize 139 = .ok (.iload 7, 2) := by decide +kernel
theorem dX5_signSize_141 : decode cX5_signSize 141 = .ok (.iload 6, 2) := by decide +kernel
theorem dX5_signSize_143 : decode cX5_signSize 143 = .ok (.if_icmp .ge 29, 3) := by decide +kernel
theorem dX5_signSize_146 : decode cX5_signSize 146 = .ok (.aload_n 0, 1) := by decide +kernel
theorem dX5_signSize_147 : decode cX5_signSize 147 = .ok (.iload_n 1, 1) := by decide +kernel
theorem dX5_signSize_148 : decode cX5_signSize 148 = .ok (.iload 7, 2) := by decide +kernel
theorem dX5_signSize_150 : decode cX5_signSize 150 = .ok (.iadd, 1) := by decide +kernel
theorem dX5_signSize_151 : decode cX5_signSize 151 = .ok (.iload_n 2, 1) := by decide +kernel
theorem dX5_signSize_152 : decode cX5_signSize 152 = .ok (.sipush 128, 3) := by decide +kernel
theorem dX5_signSize_155 : decode cX5_signSize 155 = .ok (.sipush 191, 3) := by decide +kernel
theorem dX5_signSize_158 : decode cX5_signSize 158 = .ok (.invokevirtual 76, 3) := by decide +kernel
theorem dX5_signSize_161 : decode cX5_signSize 161 = .ok (.ifCond .ne 5, 3) := by decide +kernel
theorem dX5_signSize_164 : decode cX5_signSize 164 = .ok (.iconst 0, 1) := by decide +kernel
theorem dX5_signSize_165 : decode cX5_signSize 165 = .ok (.ireturn, 1) := by decide +kernel
theorem dX5_signSize_166 : decode cX5_signSize 166 = .ok (.iinc 7 1, 3) := by decide +kernel
theorem dX5_signSize_169 : decode cX5_signSize 169 = .ok (.goto (-30), 3) := by decide +kernel
theorem dX5_signSize_172 : decode cX5_signSize 172 = .ok (.iload 6, 2) := by decide +kernel
theorem dX5_signSize_174 : decode cX5_signSize 174 = .ok (.ireturn, 1) := by decide +kernel
theorem dX5_letter_0 : decode cX5_letter 0 = .ok (.aload_n 0, 1) := by decide +kernel
theorem dX5_letter_1 : decode cX5_letter 1 = .ok (.getfield 37, 3) := by decide +kernel
theorem dX5_letter_4 : decode cX5_letter 4 = .ok (.aload_n 0, 1) := by decide +kernel
theorem dX5_letter_5 : decode cX5_letter 5 = .ok (.getfield 70, 3) := by decide +kernel
theorem dX5_letter_8 : decode cX5_letter 8 = .ok (.iload_n 1, 1) := by decide +kernel
theorem dX5_letter_9 : decode cX5_letter 9 = .ok (.i2b, 1) := by decide +kernel
theorem dX5_letter_10 : decode cX5_letter 10 = .ok (.bastore, 1) := by decide +kernel
theorem dX5_letter_11 : decode cX5_letter 11 = .ok (.aload_n 0, 1) := by decide +kernel
theorem dX5_letter_12 : decode cX5_letter 12 = .ok (.dup, 1) := by decide +kernel
theorem dX5_letter_13 : decode cX5_letter 13 = .ok (.getfield 70, 3) := by decide +kernel
theorem dX5_letter_16 : decode cX5_letter 16 = .ok (.iconst 1, 1) := by decide +kernel
theorem dX5_letter_17 : decode cX5_letter 17 = .ok (.iadd, 1) := by decide +kernel
theorem dX5_letter_18 : decode cX5_letter 18 = .ok (.putfield 70, 3) := by decide +kernel
theorem dX5_letter_21 : decode cX5_letter 21 = .ok (.return_, 1) := by decide +kernel
theorem dX5_sign_0 : decode cX5_sign 0 = .ok (.iload_n 1, 1) := by decide +kernel
theorem dX5_sign_1 : decode cX5_sign 1 = .ok (.sipush 128, 3) := by decide +kernel
theorem dX5_sign_4 : decode cX5_sign 4 = .ok (.if_icmp .ge 11, 3) := by decide +kernel
theorem dX5_sign_7 : decode cX5_sign 7 = .ok (.aload_n 0, 1) := by decide +kernel
theorem dX5_sign_8 : decode cX5_sign 8 = .ok (.iload_n 1, 1) := by decide +kernel
theorem dX5_sign_9 : decode cX5_sign 9 = .ok (.invokevirtual 80, 3) := by decide +kernel
theorem dX5_sign_12 : decode cX5_sign 12 = .ok (.goto 141, 3) := by decide +kernel
theorem dX5_sign_15 : decode cX5_sign 15 = .ok (.iload_n 1, 1) := by decide +kernel
theorem dX5_sign_16 : decode cX5_sign 16 = .ok (.sipush 2048, 3) := by decide +kernel
theorem dX5_sign_19 : decode cX5_sign 19 = .ok (.if_icmp .ge 30, 3) := by decide +kernel
theorem dX5_sign_22 : decode cX5_sign 22 = .ok (.aload_n 0, 1) := by decide +kernel
theorem dX5_sign_23 : decode cX5_sign 23 = .ok (.sipush 192, 3) := by decide +kernel
theorem dX5_sign_26 : decode cX5_sign 26 = .ok (.iload_n 1, 1) := by decide +kernel
theorem dX5_sign_27 : decode cX5_sign 27 = .ok (.bipush 64, 2) := by decide +kernel
theorem dX5_sign_29 : decode cX5_sign 29 = .ok (.idiv, 1) := by decide +kernel
theorem dX5_sign_30 : decode cX5_sign 30 = .ok (.iadd, 1) := by decide +kernel
theorem dX5_sign_31 : decode cX5_sign 31 = .ok (.invokevirtual 80, 3) := by decide +kernel
theorem dX5_sign_34 : decode cX5_sign 34 = .ok (.aload_n 0, 1) := by decide +kernel
theorem dX5_sign_35 : decode cX5_sign 35 = .ok (.sipush 128, 3) := by decide +kernel
theorem dX5_sign_38 : decode cX5_sign 38 = .ok (.iload_n 1, 1) := by decide +kernel
theorem dX5_sign_39 : decode cX5_sign 39 = .ok (.bipush 64, 2) := by decide +kernel
theorem dX5_sign_41 : decode cX5_sign 41 = .ok (.irem, 1) := by decide +kernel
theorem dX5_sign_42 : decode cX5_sign 42 = .ok (.iadd, 1) := by decide +kernel
theorem dX5_sign_43 : decode cX5_sign 43 = .ok (.invokevirtual 80, 3) := by decide +kernel
theorem dX5_sign_46 : decode cX5_sign 46 = .ok (.goto 107, 3) := by decide +kernel
theorem dX5_sign_49 : decode cX5_sign 49 = .ok (.iload_n 1, 1) := by decide +kernel
theorem dX5_sign_50 : decode cX5_sign 50 = .ok (.ldc 84, 2) := by decide +kernel
theorem dX5_sign_52 : decode cX5_sign 52 = .ok (.if_icmp .ge 46, 3) := by decide +kernel
theorem dX5_sign_55 : decode cX5_sign 55 = .ok (.aload_n 0, 1) := by decide +kernel
theorem dX5_sign_56 : decode cX5_sign 56 = .ok (.sipush 224, 3) := by decide +kernel
theorem dX5_sign_59 : decode cX5_sign 59 = .ok (.iload_n 1, 1) := by decide +kernel
theorem dX5_sign_60 : decode cX5_sign 60 = .ok (.sipush 4096, 3) := by decide +kernel
theorem dX5_sign_63 : decode cX5_sign 63 = .ok (.idiv, 1) := by decide +kernel
theorem dX5_sign_64 : decode cX5_sign 64 = .ok (.iadd, 1) := by decide +kernel
theorem dX5_sign_65 : decode cX5_sign 65 = .ok (.invokevirtual 80, 3) := by decide +kernel
theorem dX5_sign_68 : decode cX5_sign 68 = .ok (.aload_n 0, 1) := by decide +kernel
theorem dX5_sign_69 : decode cX5_sign 69 = .ok (.sipush 128, 3) := by decide +kernel
theorem dX5_sign_72 : decode cX5_sign 72 = .ok (.iload_n 1, 1) := by decide +kernel
theorem dX5_sign_73 : decode cX5_sign 73 = .ok (.bipush 64, 2) := by decide +kernel
theorem dX5_sign_75 : decode cX5_sign 75 = .ok (.idiv, 1) := by decide +kernel
theorem dX5_sign_76 : decode cX5_sign 76 = .ok (.bipush 64, 2) := by decide +kernel
theorem dX5_sign_78 : decode cX5_sign 78 = .ok (.irem, 1) := by decide +kernel
theorem dX5_sign_79 : decode cX5_sign 79 = .ok (.iadd, 1) := by decide +kernel
theorem dX5_sign_80 : decode cX5_sign 80 = .ok (.invokevirtual 80, 3) := by decide +kernel
theorem dX5_sign_83 : decode cX5_sign 83 = .ok (.aload_n 0, 1) := by decide +kernel
theorem dX5_sign_84 : decode cX5_sign 84 = .ok (.sipush 128, 3) := by decide +kernel
theorem dX5_sign_87 : decode cX5_sign 87 = .ok (.iload_n 1, 1) := by decide +kernel
theorem dX5_sign_88 : decode cX5_sign 88 = .ok (.bipush 64, 2) := by decide +kernel
theorem dX5_sign_90 : decode cX5_sign 90 = .ok (.irem, 1) := by decide +kernel
theorem dX5_sign_91 : decode cX5_sign 91 = .ok (.iadd, 1) := by decide +kernel
theorem dX5_sign_92 : decode cX5_sign 92 = .ok (.invokevirtual 80, 3) := by decide +kernel
theorem dX5_sign_95 : decode cX5_sign 95 = .ok (.goto 58, 3) := by decide +kernel
theorem dX5_sign_98 : decode cX5_sign 98 = .ok (.aload_n 0, 1) := by decide +kernel
theorem dX5_sign_99 : decode cX5_sign 99 = .ok (.sipush 240, 3) := by decide +kernel
theorem dX5_sign_102 : decode cX5_sign 102 = .ok (.iload_n 1, 1) := by decide +kernel
theorem dX5_sign_103 : decode cX5_sign 103 = .ok (.ldc 85, 2) := by decide +kernel
theorem dX5_sign_105 : decode cX5_sign 105 = .ok (.idiv, 1) := by decide +kernel
theorem dX5_sign_106 : decode cX5_sign 106 = .ok (.iadd, 1) := by decide +kernel
theorem dX5_sign_107 : decode cX5_sign 107 = .ok (.invokevirtual 80, 3) := by decide +kernel
theorem dX5_sign_110 : decode cX5_sign 110 = .ok (.aload_n 0, 1) := by decide +kernel
theorem dX5_sign_111 : decode cX5_sign 111 = .ok (.sipush 128, 3) := by decide +kernel
theorem dX5_sign_114 : decode cX5_sign 114 = .ok (.iload_n 1, 1) := by decide +kernel
theorem dX5_sign_115 : decode cX5_sign 115 = .ok (.sipush 4096, 3) := by decide +kernel
theorem dX5_sign_118 : decode cX5_sign 118 = .ok (.idiv, 1) := by decide +kernel
theorem dX5_sign_119 : decode cX5_sign 119 = .ok (.bipush 64, 2) := by decide +kernel
theorem dX5_sign_121 : decode cX5_sign 121 = .ok (.irem, 1) := by decide +kernel
theorem dX5_sign_122 : decode cX5_sign 122 = .ok (.iadd, 1) := by decide +kernel
theorem dX5_sign_123 : decode cX5_sign 123 = .ok (.invokevirtual 80, 3) := by decide +kernel
theorem dX5_sign_126 : decode cX5_sign 126 = .ok (.aload_n 0, 1) := by decide +kernel
theorem dX5_sign_127 : decode cX5_sign 127 = .ok (.sipush 128, 3) := by decide +kernel
theorem dX5_sign_130 : decode cX5_sign 130 = .ok (.iload_n 1, 1) := by decide +kernel
theorem dX5_sign_131 : decode cX5_sign 131 = .ok (.bipush 64, 2) := by decide +kernel
theorem dX5_sign_133 : decode cX5_sign 133 = .ok (.idiv, 1) := by decide +kernel
theorem dX5_sign_134 : decode cX5_sign 134 = .ok (.bipush 64, 2) := by decide +kernel
theorem dX5_sign_136 : decode cX5_sign 136 = .ok (.irem, 1) := by decide +kernel
theorem dX5_sign_137 : decode cX5_sign 137 = .ok (.iadd, 1) := by decide +kernel
theorem dX5_sign_138 : decode cX5_sign 138 = .ok (.invokevirtual 80, 3) := by decide +kernel
theorem dX5_sign_141 : decode cX5_sign 141 = .ok (.aload_n 0, 1) := by decide +kernel
theorem dX5_sign_142 : decode cX5_sign 142 = .ok (.sipush 128, 3) := by decide +kernel
theorem dX5_sign_145 : decode cX5_sign 145 = .ok (.iload_n 1, 1) := by decide +kernel
theorem dX5_sign_146 : decode cX5_sign 146 = .ok (.bipush 64, 2) := by decide +kernel
theorem dX5_sign_148 : decode cX5_sign 148 = .ok (.irem, 1) := by decide +kernel
theorem dX5_sign_149 : decode cX5_sign 149 = .ok (.iadd, 1) := by decide +kernel
theorem dX5_sign_150 : decode cX5_sign 150 = .ok (.invokevirtual 80, 3) := by decide +kernel
theorem dX5_sign_153 : decode cX5_sign 153 = .ok (.return_, 1) := by decide +kernel
theorem dX5_blanks_0 : decode cX5_blanks 0 = .ok (.aload_n 0, 1) := by decide +kernel
theorem dX5_blanks_1 : decode cX5_blanks 1 = .ok (.invokevirtual 86, 3) := by decide +kernel
theorem dX5_blanks_4 : decode cX5_blanks 4 = .ok (.bipush 9, 2) := by decide +kernel
theorem dX5_blanks_6 : decode cX5_blanks 6 = .ok (.if_icmp .eq 30, 3) := by decide +kernel
theorem dX5_blanks_9 : decode cX5_blanks 9 = .ok (.aload_n 0, 1) := by decide +kernel
theorem dX5_blanks_10 : decode cX5_blanks 10 = .ok (.invokevirtual 86, 3) := by decide +kernel
theorem dX5_blanks_13 : decode cX5_blanks 13 = .ok (.bipush 10, 2) := by decide +kernel
theorem dX5_blanks_15 : decode cX5_blanks 15 = .ok (.if_icmp .eq 21, 3) := by decide +kernel
theorem dX5_blanks_18 : decode cX5_blanks 18 = .ok (.aload_n 0, 1) := by decide +kernel
theorem dX5_blanks_19 : decode cX5_blanks 19 = .ok (.invokevirtual 86, 3) := by decide +kernel
theorem dX5_blanks_22 : decode cX5_blanks 22 = .ok (.bipush 13, 2) := by decide +kernel
theorem dX5_blanks_24 : decode cX5_blanks 24 = .ok (.if_icmp .eq 12, 3) := by decide +kernel
theorem dX5_blanks_27 : decode cX5_blanks 27 = .ok (.aload_n 0, 1) := by decide +kernel
theorem dX5_blanks_28 : decode cX5_blanks 28 = .ok (.invokevirtual 86, 3) := by decide +kernel
theorem dX5_blanks_31 : decode cX5_blanks 31 = .ok (.bipush 32, 2) := by decide +kernel
theorem dX5_blanks_33 : decode cX5_blanks 33 = .ok (.if_icmp .ne 16, 3) := by decide +kernel
theorem dX5_blanks_36 : decode cX5_blanks 36 = .ok (.aload_n 0, 1) := by decide +kernel
theorem dX5_blanks_37 : decode cX5_blanks 37 = .ok (.dup, 1) := by decide +kernel
theorem dX5_blanks_38 : decode cX5_blanks 38 = .ok (.getfield 64, 3) := by decide +kernel
theorem dX5_blanks_41 : decode cX5_blanks 41 = .ok (.iconst 1, 1) := by decide +kernel
theorem dX5_blanks_42 : decode cX5_blanks 42 = .ok (.iadd, 1) := by decide +kernel
theorem dX5_blanks_43 : decode cX5_blanks 43 = .ok (.putfield 64, 3) := by decide +kernel
theorem dX5_blanks_46 : decode cX5_blanks 46 = .ok (.goto (-46), 3) := by decide +kernel
theorem dX5_blanks_49 : decode cX5_blanks 49 = .ok (.return_, 1) := by decide +kernel
theorem dX5_stuck_0 : decode cX5_stuck 0 = .ok (.aload_n 0, 1) := by decide +kernel
theorem dX5_stuck_1 : decode cX5_stuck 1 = .ok (.iconst 1, 1) := by decide +kernel
theorem dX5_stuck_2 : decode cX5_stuck 2 = .ok (.aload_n 0, 1) := by decide +kernel
theorem dX5_stuck_3 : decode cX5_stuck 3 = .ok (.getfield 64, 3) := by decide +kernel
theorem dX5_stuck_6 : decode cX5_stuck 6 = .ok (.invokevirtual 90, 3) := by decide +kernel
theorem dX5_stuck_9 : decode cX5_stuck 9 = .ok (.ireturn, 1) := by decide +kernel
theorem dX5_isDigit_0 : decode cX5_isDigit 0 = .ok (.iload_n 1, 1) := by decide +kernel
theorem dX5_isDigit_1 : decode cX5_isDigit 1 = .ok (.bipush 48, 2) := by decide +kernel
theorem dX5_isDigit_3 : decode cX5_isDigit 3 = .ok (.if_icmp .lt 13, 3) := by decide +kernel
theorem dX5_isDigit_6 : decode cX5_isDigit 6 = .ok (.iload_n 1, 1) := by decide +kernel
theorem dX5_isDigit_7 : decode cX5_isDigit 7 = .ok (.bipush 57, 2) := by decide +kernel
theorem dX5_isDigit_9 : decode cX5_isDigit 9 = .ok (.if_icmp .gt 7, 3) := by decide +kernel
theorem dX5_isDigit_12 : decode cX5_isDigit 12 = .ok (.iconst 1, 1) := by decide +kernel
theorem dX5_isDigit_13 : decode cX5_isDigit 13 = .ok (.goto 4, 3) := by decide +kernel
theorem dX5_isDigit_16 : decode cX5_isDigit 16 = .ok (.iconst 0, 1) := by decide +kernel
theorem dX5_isDigit_17 : decode cX5_isDigit 17 = .ok (.ireturn, 1) := by decide +kernel
theorem dX5_digits_0 : decode cX5_digits 0 = .ok (.aload_n 0, 1) := by decide +kernel
theorem dX5_digits_1 : decode cX5_digits 1 = .ok (.aload_n 0, 1) := by decide +kernel
theorem dX5_digits_2 : decode cX5_digits 2 = .ok (.invokevirtual 86, 3) := by decide +kernel
theorem dX5_digits_5 : decode cX5_digits 5 = .ok (.invokevirtual 94, 3) := by decide +kernel
theorem dX5_digits_8 : decode cX5_digits 8 = .ok (.ifCond .ne 8, 3) := by decide +kernel
theorem dX5_digits_11 : decode cX5_digits 11 = .ok (.aload_n 0, 1) := by decide +kernel
theorem dX5_digits_12 : decode cX5_digits 12 = .ok (.invokevirtual 98, 3) := by decide +kernel
theorem dX5_digits_15 : decode cX5_digits 15 = .ok (.ireturn, 1) := by decide +kernel
theorem dX5_digits_16 : decode cX5_digits 16 = .ok (.aload_n 0, 1) := by decide +kernel
theorem dX5_digits_17 : decode cX5_digits 17 = .ok (.aload_n 0, 1) := by decide +kernel
theorem dX5_digits_18 : decode cX5_digits 18 = .ok (.invokevirtual 86, 3) := by decide +kernel
theorem dX5_digits_21 : decode cX5_digits 21 = .ok (.invokevirtual 94, 3) := by decide +kernel
theorem dX5_digits_24 : decode cX5_digits 24 = .ok (.ifCond .eq 16, 3) := by decide +kernel
theorem dX5_digits_27 : decode cX5_digits 27 = .ok (.aload_n 0, 1) := by decide +kernel
theorem dX5_digits_28 : decode cX5_digits 28 = .ok (.dup, 1) := by decide +kernel
theorem dX5_digits_29 : decode cX5_digits 29 = .ok (.getfield 64, 3) := by decide +kernel
theorem dX5_digits_32 : decode cX5_digits 32 = .ok (.iconst 1, 1) := by decide +kernel
theorem dX5_digits_33 : decode cX5_digits 33 = .ok (.iadd, 1) := by decide +kernel
theorem dX5_digits_34 : decode cX5_digits 34 = .ok (.putfield 64, 3) := by decide +kernel
theorem dX5_digits_37 : decode cX5_digits 37 = .ok (.goto (-21), 3) := by decide +kernel
theorem dX5_digits_40 : decode cX5_digits 40 = .ok (.iconst 1, 1) := by decide +kernel
theorem dX5_digits_41 : decode cX5_digits 41 = .ok (.ireturn, 1) := by decide +kernel
theorem dX5_number_0 : decode cX5_number 0 = .ok (.aload_n 0, 1) := by decide +kernel
theorem dX5_number_1 : decode cX5_number 1 = .ok (.getfield 64, 3) := by decide +kernel
theorem dX5_number_4 : decode cX5_number 4 = .ok (.istore_n 1, 1) := by decide +kernel
theorem dX5_number_5 : decode cX5_number 5 = .ok (.aload_n 0, 1) := by decide +kernel
theorem dX5_number_6 : decode cX5_number 6 = .ok (.invokevirtual 86, 3) := by decide +kernel
theorem dX5_number_9 : decode cX5_number 9 = .ok (.bipush 45, 2) := by decide +kernel
theorem dX5_number_11 : decode cX5_number 11 = .ok (.if_icmp .ne 7, 3) := by decide +kernel
theorem dX5_number_14 : decode cX5_number 14 = .ok (.iconst 1, 1) := by decide +kernel
theorem dX5_number_15 : decode cX5_number 15 = .ok (.goto 4, 3) := by decide +kernel
theorem dX5_number_18 : decode cX5_number 18 = .ok (.iconst 0, 1) := by decide +kernel
theorem dX5_number_19 : decode cX5_number 19 = .ok (.istore_n 2, 1) := by decide +kernel
theorem dX5_number_20 : decode cX5_number 20 = .ok (.iload_n 2, 1) := by decide +kernel
theorem dX5_number_21 : decode cX5_number 21 = .ok (.ifCond .eq 13, 3) := by decide +kernel
theorem dX5_number_24 : decode cX5_number 24 = .ok (.aload_n 0, 1) := by decide +kernel
theorem dX5_number_25 : decode cX5_number 25 = .ok (.dup, 1) := by decide +kernel
theorem dX5_number_26 : decode cX5_number 26 = .ok (.getfield 64, 3) := by decide +kernel
theorem dX5_number_29 : decode cX5_number 29 = .ok (.iconst 1, 1) := by decide +kernel
theorem dX5_number_30 : decode cX5_number 30 = .ok (.iadd, 1) := by decide +kernel
theorem dX5_number_31 : decode cX5_number 31 = .ok (.putfield 64, 3) := by decide +kernel
theorem dX5_number_34 : decode cX5_number 34 = .ok (.aload_n 0, 1) := by decide +kernel
theorem dX5_number_35 : decode cX5_number 35 = .ok (.getfield 64, 3) := by decide +kernel
theorem dX5_number_38 : decode cX5_number 38 = .ok (.istore_n 3, 1) := by decide +kernel
theorem dX5_number_39 : decode cX5_number 39 = .ok (.aload_n 0, 1) := by decide +kernel
theorem dX5_number_40 : decode cX5_number 40 = .ok (.invokevirtual 86, 3) := by decide +kernel
theorem dX5_number_43 : decode cX5_number 43 = .ok (.bipush 48, 2) := by decide +kernel
theorem dX5_number_45 : decode cX5_number 45 = .ok (.if_icmp .ne 16, 3) := by decide +kernel
theorem dX5_number_48 : decode cX5_number 48 = .ok (.aload_n 0, 1) := by decide +kernel
theorem dX5_number_49 : decode cX5_number 49 = .ok (.dup, 1) := by decide +kernel
theorem dX5_number_50 : decode cX5_number 50 = .ok (.getfield 64, 3) := by decide +kernel
theorem dX5_number_53 : decode cX5_number 53 = .ok (.iconst 1, 1) := by decide +kernel
theorem dX5_number_54 : decode cX5_number 54 = .ok (.iadd, 1) := by decide +kernel
theorem dX5_number_55 : decode cX5_number 55 = .ok (.putfield 64, 3) := by decide +kernel
theorem dX5_number_58 : decode cX5_number 58 = .ok (.goto 12, 3) := by decide +kernel
theorem dX5_number_61 : decode cX5_number 61 = .ok (.aload_n 0, 1) := by decide +kernel
theorem dX5_number_62 : decode cX5_number 62 = .ok (.invokevirtual 102, 3) := by decide +kernel
theorem dX5_number_65 : decode cX5_number 65 = .ok (.ifCond .ne 5, 3) := by decide +kernel
theorem dX5_number_68 : decode cX5_number 68 = .ok (.iconst 0, 1) := by decide +kernel
theorem dX5_number_69 : decode cX5_number 69 = .ok (.ireturn, 1) := by decide +kernel
theorem dX5_number_70 : decode cX5_number 70 = .ok (.aload_n 0, 1) := by decide +kernel
theorem dX5_number_71 : decode cX5_number 71 = .ok (.getfield 64, 3) := by decide +kernel
theorem dX5_number_74 : decode cX5_number 74 = .ok (.istore 4, 2) := by decide +kernel
theorem dX5_number_76 : decode cX5_number 76 = .ok (.iconst 1, 1) := by decide +kernel
theorem dX5_number_77 : decode cX5_number 77 = .ok (.istore 5, 2) := by decide +kernel
theorem dX5_number_79 : decode cX5_number 79 = .ok (.aload_n 0, 1) := by decide +kernel
theorem dX5_number_80 : decode cX5_number 80 = .ok (.invokevirtual 86, 3) := by decide +kernel
theorem dX5_number_83 : decode cX5_number 83 = .ok (.bipush 46, 2) := by decide +kernel
theorem dX5_number_85 : decode cX5_number 85 = .ok (.if_icmp .ne 25, 3) := by decide +kernel
theorem dX5_number_88 : decode cX5_number 88 = .ok (.iconst 0, 1) := by decide +kernel
theorem dX5_number_89 : decode cX5_number 89 = .ok (.istore 5, 2) := by decide +kernel
theorem dX5_number_91 : decode cX5_number 91 = .ok (.aload_n 0, 1) := by decide +kernel
theorem dX5_number_92 : decode cX5_number 92 = .ok (.dup, 1) := by decide +kernel
theorem dX5_number_93 : decode cX5_number 93 = .ok (.getfield 64, 3) := by decide +kernel
theorem dX5_number_96 : decode cX5_number 96 = .ok (.iconst 1, 1) := by decide +kernel
theorem dX5_number_97 : decode cX5_number 97 = .ok (.iadd, 1) := by decide +kernel
theorem dX5_number_98 : decode cX5_number 98 = .ok (.putfield 64, 3) := by decide +kernel
theorem dX5_number_101 : decode cX5_number 101 = .ok (.aload_n 0, 1) := by decide +kernel
theorem dX5_number_102 : decode cX5_number 102 = .ok (.invokevirtual 102, 3) := by decide +kernel
theorem dX5_number_105 : decode cX5_number 105 = .ok (.ifCond .ne 5, 3) := by decide +kernel
theorem dX5_number_108 : decode cX5_number 108 = .ok (.iconst 0, 1) := by decide +kernel
theorem dX5_number_109 : decode cX5_number 109 = .ok (.ireturn, 1) := by decide +kernel
theorem dX5_number_110 : decode cX5_number 110 = .ok (.aload_n 0, 1) := by decide +kernel
theorem dX5_number_111 : decode cX5_number 111 = .ok (.invokevirtual 86, 3) := by decide +kernel
theorem dX5_number_114 : decode cX5_number 114 = .ok (.bipush 101, 2) := by decide +kernel
theorem dX5_number_116 : decode cX5_number 116 = .ok (.if_icmp .eq 12, 3) := by decide +kernel
theorem dX5_number_119 : decode cX5_number 119 = .ok (.aload_n 0, 1) := by decide +kernel
theorem dX5_number_120 : decode cX5_number 120 = .ok (.invokevirtual 86, 3) := by decide +kernel
theorem dX5_number_123 : decode cX5_number 123 = .ok (.bipush 69, 2) := by decide +kernel
theorem dX5_number_125 : decode cX5_number 125 = .ok (.if_icmp .ne 53, 3) := by decide +kernel
theorem dX5_number_128 : decode cX5_number 128 = .ok (.iconst 0, 1) := by decide +kernel
theorem dX5_number_129 : decode cX5_number 129 = .ok (.istore 5, 2) := by decide +kernel
theorem dX5_number_131 : decode cX5_number 131 = .ok (.aload_n 0, 1) := by decide +kernel
theorem dX5_number_132 : decode cX5_number 132 = .ok (.dup, 1) := by decide +kernel
theorem dX5_number_133 : decode cX5_number 133 = .ok (.getfield 64, 3) := by decide +kernel
theorem dX5_number_136 : decode cX5_number 136 = .ok (.iconst 1, 1) := by decide +kernel
theorem dX5_number_137 : decode cX5_number 137 = .ok (.iadd, 1) := by decide +kernel
theorem dX5_number_138 : decode cX5_number 138 = .ok (.putfield 64, 3) := by decide +kernel
theorem dX5_number_141 : decode cX5_number 141 = .ok (.aload_n 0, 1) := by decide +kernel
theorem dX5_number_142 : decode cX5_number 142 = .ok (.invokevirtual 86, 3) := by decide +kernel
theorem dX5_number_145 : decode cX5_number 145 = .ok (.bipush 43, 2) := by decide +kernel
theorem dX5_number_147 : decode cX5_number 147 = .ok (.if_icmp .eq 12, 3) := by decide +kernel
theorem dX5_number_150 : decode cX5_number 150 = .ok (.aload_n 0, 1) := by decide +kernel
theorem dX5_number_151 : decode cX5_number 151 = .ok (.invokevirtual 86, 3) := by decide +kernel
theorem dX5_number_154 : decode cX5_number 154 = .ok (.bipush 45, 2) := by decide +kernel
theorem dX5_number_156 : decode cX5_number 156 = .ok (.if_icmp .ne 13, 3) := by decide +kernel
theorem dX5_number_159 : decode cX5_number 159 = .ok (.aload_n 0, 1) := by decide +kernel
theorem dX5_number_160 : decode cX5_number 160 = .ok (.dup, 1) := by decide +kernel
theorem dX5_number_161 : decode cX5_number 161 = .ok (.getfield 64, 3) := by decide +kernel
theorem dX5_number_164 : decode cX5_number 164 = .ok (.iconst 1, 1) := by decide +kernel
theorem dX5_number_165 : decode cX5_number 165 = .ok (.iadd, 1) := by decide +kernel
theorem dX5_number_166 : decode cX5_number 166 = .ok (.putfield 64, 3) := by decide +kernel
theorem dX5_number_169 : decode cX5_number 169 = .ok (.aload_n 0, 1) := by decide +kernel
theorem dX5_number_170 : decode cX5_number 170 = .ok (.invokevirtual 102, 3) := by decide +kernel
theorem dX5_number_173 : decode cX5_number 173 = .ok (.ifCond .ne 5, 3) := by decide +kernel
theorem dX5_number_176 : decode cX5_number 176 = .ok (.iconst 0, 1) := by decide +kernel
theorem dX5_number_177 : decode cX5_number 177 = .ok (.ireturn, 1) := by decide +kernel
theorem dX5_number_178 : decode cX5_number 178 = .ok (.iload 5, 2) := by decide +kernel
theorem dX5_number_180 : decode cX5_number 180 = .ok (.ifCond .eq 14, 3) := by decide +kernel
theorem dX5_number_183 : decode cX5_number 183 = .ok (.aload_n 0, 1) := by decide +kernel
theorem dX5_number_184 : decode cX5_number 184 = .ok (.iload_n 3, 1) := by decide +kernel
theorem dX5_number_185 : decode cX5_number 185 = .ok (.iload 4, 2) := by decide +kernel
theorem dX5_number_187 : decode cX5_number 187 = .ok (.iload_n 2, 1) := by decide +kernel
theorem dX5_number_188 : decode cX5_number 188 = .ok (.invokevirtual 105, 3) := by decide +kernel
theorem dX5_number_191 : decode cX5_number 191 = .ok (.ifCond .ne 12, 3) := by decide +kernel
theorem dX5_number_194 : decode cX5_number 194 = .ok (.aload_n 0, 1) := by decide +kernel
theorem dX5_number_195 : decode cX5_number 195 = .ok (.iconst 3, 1) := by decide +kernel
theorem dX5_number_196 : decode cX5_number 196 = .ok (.iload_n 1, 1) := by decide +kernel
theorem dX5_number_197 : decode cX5_number 197 = .ok (.invokevirtual 90, 3) := by decide +kernel
theorem dX5_number_200 : decode cX5_number 200 = .ok (.ifCond .eq 7, 3) := by decide +kernel
theorem dX5_number_203 : decode cX5_number 203 = .ok (.iconst 1, 1) := by decide +kernel
theorem dX5_number_204 : decode cX5_number 204 = .ok (.goto 4, 3) := by decide +kernel
theorem dX5_number_207 : decode cX5_number 207 = .ok (.iconst 0, 1) := by decide +kernel
theorem dX5_number_208 : decode cX5_number 208 = .ok (.ireturn, 1) := by decide +kernel
theorem dX5_order_0 : decode cX5_order 0 = .ok (.iload_n 2, 1) := by decide +kernel
theorem dX5_order_1 : decode cX5_order 1 = .ok (.iload_n 1, 1) := by decide +kernel
theorem dX5_order_2 : decode cX5_order 2 = .ok (.isub, 1) := by decide +kernel
theorem dX5_order_3 : decode cX5_order 3 = .ok (.istore_n 3, 1) := by decide +kernel
theorem dX5_order_4 : decode cX5_order 4 = .ok (.iload_n 3, 1) := by decide +kernel
theorem dX5_order_5 : decode cX5_order 5 = .ok (.bipush 20, 2) := by decide +kernel
theorem dX5_order_7 : decode cX5_order 7 = .ok (.if_icmp .eq 15, 3) := by decide +kernel
theorem dX5_order_10 : decode cX5_order 10 = .ok (.iload_n 3, 1) := by decide +kernel
theorem dX5_order_11 : decode cX5_order 11 = .ok (.bipush 20, 2) := by decide +kernel
theorem dX5_order_13 : decode cX5_order 13 = .ok (.if_icmp .ge 7, 3) := by decide +kernel
theorem dX5_order_16 : decode cX5_order 16 = .ok (.iconst (-1), 1) := by decide +kernel
theorem dX5_order_17 : decode cX5_order 17 = .ok (.goto 4, 3) := by decide +kernel
theorem dX5_order_20 : decode cX5_order 20 = .ok (.iconst 1, 1) := by decide +kernel
theorem dX5_order_21 : decode cX5_order 21 = .ok (.ireturn, 1) := by decide +kernel
theorem dX5_order_22 : decode cX5_order 22 = .ok (.iconst 0, 1) := by decide +kernel
theorem dX5_order_23 : decode cX5_order 23 = .ok (.istore 4, 2) := by decide +kernel
theorem dX5_order_25 : decode cX5_order 25 = .ok (.iload 4, 2) := by decide +kernel
theorem dX5_order_27 : decode cX5_order 27 = .ok (.bipush 20, 2) := by decide +kernel
theorem dX5_order_29 : decode cX5_order 29 = .ok (.if_icmp .ge 52, 3) := by decide +kernel
theorem dX5_order_32 : decode cX5_order 32 = .ok (.ldc 109, 2) := by decide +kernel
theorem dX5_order_34 : decode cX5_order 34 = .ok (.iload 4, 2) := by decide +kernel
theorem dX5_order_36 : decode cX5_order 36 = .ok (.invokevirtual 111, 3) := by decide +kernel
theorem dX5_order_39 : decode cX5_order 39 = .ok (.istore 5, 2) := by decide +kernel
theorem dX5_order_41 : decode cX5_order 41 = .ok (.aload_n 0, 1) := by decide +kernel
theorem dX5_order_42 : decode cX5_order 42 = .ok (.getfield 7, 3) := by decide +kernel
theorem dX5_order_45 : decode cX5_order 45 = .ok (.iload_n 1, 1) := by decide +kernel
theorem dX5_order_46 : decode cX5_order 46 = .ok (.iload 4, 2) := by decide +kernel
theorem dX5_order_48 : decode cX5_order 48 = .ok (.iadd, 1) := by decide +kernel
theorem dX5_order_49 : decode cX5_order 49 = .ok (.iaload, 1) := by decide +kernel
theorem dX5_order_50 : decode cX5_order 50 = .ok (.iload 5, 2) := by decide +kernel
theorem dX5_order_52 : decode cX5_order 52 = .ok (.if_icmp .eq 23, 3) := by decide +kernel
theorem dX5_order_55 : decode cX5_order 55 = .ok (.aload_n 0, 1) := by decide +kernel
theorem dX5_order_56 : decode cX5_order 56 = .ok (.getfield 7, 3) := by decide +kernel
theorem dX5_order_59 : decode cX5_order 59 = .ok (.iload_n 1, 1) := by decide +kernel
theorem dX5_order_60 : decode cX5_order 60 = .ok (.iload 4, 2) := by decide +kernel
theorem dX5_order_62 : decode cX5_order 62 = .ok (.iadd, 1) := by decide +kernel
theorem dX5_order_63 : decode cX5_order 63 = .ok (.iaload, 1) := by decide +kernel
theorem dX5_order_64 : decode cX5_order 64 = .ok (.iload 5, 2) := by decide +kernel
theorem dX5_order_66 : decode cX5_order 66 = .ok (.if_icmp .ge 7, 3) := by decide +kernel
theorem dX5_order_69 : decode cX5_order 69 = .ok (.iconst (-1), 1) := by decide +kernel
theorem dX5_order_70 : decode cX5_order 70 = .ok (.goto 4, 3) := by decide +kernel
theorem dX5_order_73 : decode cX5_order 73 = .ok (.iconst 1, 1) := by decide +kernel
theorem dX5_order_74 : decode cX5_order 74 = .ok (.ireturn, 1) := by decide +kernel
theorem dX5_order_75 : decode cX5_order 75 = .ok (.iinc 4 1, 3) := by decide +kernel
theorem dX5_order_78 : decode cX5_order 78 = .ok (.goto (-53), 3) := by decide +kernel
theorem dX5_order_81 : decode cX5_order 81 = .ok (.iconst 0, 1) := by decide +kernel
theorem dX5_order_82 : decode cX5_order 82 = .ok (.ireturn, 1) := by decide +kernel
theorem dX5_whole_0 : decode cX5_whole 0 = .ok (.aload_n 0, 1) := by decide +kernel
theorem dX5_whole_1 : decode cX5_whole 1 = .ok (.iload_n 1, 1) := by decide +kernel
theorem dX5_whole_2 : decode cX5_whole 2 = .ok (.iload_n 2, 1) := by decide +kernel
theorem dX5_whole_3 : decode cX5_whole 3 = .ok (.invokevirtual 117, 3) := by decide +kernel
theorem dX5_whole_6 : decode cX5_whole 6 = .ok (.istore 4, 2) := by decide +kernel
theorem dX5_whole_8 : decode cX5_whole 8 = .ok (.iload 4, 2) := by decide +kernel
theorem dX5_whole_10 : decode cX5_whole 10 = .ok (.ifCond .gt 12, 3) := by decide +kernel
theorem dX5_whole_13 : decode cX5_whole 13 = .ok (.iload 4, 2) := by decide +kernel
theorem dX5_whole_15 : decode cX5_whole 15 = .ok (.ifCond .ne 9, 3) := by decide +kernel
theorem dX5_whole_18 : decode cX5_whole 18 = .ok (.iload_n 3, 1) := by decide +kernel
theorem dX5_whole_19 : decode cX5_whole 19 = .ok (.ifCond .ne 5, 3) := by decide +kernel
theorem dX5_whole_22 : decode cX5_whole 22 = .ok (.iconst 0, 1) := by decide +kernel
theorem dX5_whole_23 : decode cX5_whole 23 = .ok (.ireturn, 1) := by decide +kernel
theorem dX5_whole_24 : decode cX5_whole 24 = .ok (.lconst 0, 1) := by decide +kernel
theorem dX5_whole_25 : decode cX5_whole 25 = .ok (.lstore 5, 2) := by decide +kernel
theorem dX5_whole_27 : decode cX5_whole 27 = .ok (.iload_n 1, 1) := by decide +kernel
theorem dX5_whole_28 : decode cX5_whole 28 = .ok (.istore 7, 2) := by decide +kernel
theorem dX5_whole_30 : decode cX5_whole 30 = .ok (.iload 7, 2) := by decide +kernel
theorem dX5_whole_32 : decode cX5_whole 32 = .ok (.iload_n 2, 1) := by decide +kernel
theorem dX5_whole_33 : decode cX5_whole 33 = .ok (.if_icmp .ge 30, 3) := by decide +kernel
theorem dX5_whole_36 : decode cX5_whole 36 = .ok (.ldc2_w 121, 3) := by decide +kernel
theorem dX5_whole_39 : decode cX5_whole 39 = .ok (.lload 5, 2) := by decide +kernel
theorem dX5_whole_41 : decode cX5_whole 41 = .ok (.lmul, 1) := by decide +kernel
theorem dX5_whole_42 : decode cX5_whole 42 = .ok (.aload_n 0, 1) := by decide +kernel
theorem dX5_whole_43 : decode cX5_whole 43 = .ok (.getfield 7, 3) := by decide +kernel
theorem dX5_whole_46 : decode cX5_whole 46 = .ok (.iload 7, 2) := by decide +kernel
theorem dX5_whole_48 : decode cX5_whole 48 = .ok (.iaload, 1) := by decide +kernel
theorem dX5_whole_49 : decode cX5_whole 49 = .ok (.i2l, 1) := by decide +kernel
theorem dX5_whole_50 : decode cX5_whole 50 = .ok (.ladd, 1) := by decide +kernel
theorem dX5_whole_51 : decode cX5_whole 51 = .ok (.ldc2_w 123, 3) := by decide +kernel
theorem dX5_whole_54 : decode cX5_whole 54 = .ok (.lsub, 1) := by decide +kernel
theorem dX5_whole_55 : decode cX5_whole 55 = .ok (.lstore 5, 2) := by decide +kernel
theorem dX5_whole_57 : decode cX5_whole 57 = .ok (.iinc 7 1, 3) := by decide +kernel
theorem dX5_whole_60 : decode cX5_whole 60 = .ok (.goto (-30), 3) := by decide +kernel
theorem dX5_whole_63 : decode cX5_whole 63 = .ok (.iload_n 3, 1) := by decide +kernel
theorem dX5_whole_64 : decode cX5_whole 64 = .ok (.ifCond .eq 28, 3) := by decide +kernel
theorem dX5_whole_67 : decode cX5_whole 67 = .ok (.lload 5, 2) := by decide +kernel
theorem dX5_whole_69 : decode cX5_whole 69 = .ok (.lconst 0, 1) := by decide +kernel
theorem dX5_whole_70 : decode cX5_whole 70 = .ok (.lcmp, 1) := by decide +kernel
theorem dX5_whole_71 : decode cX5_whole 71 = .ok (.ifCond .ne 8, 3) := by decide +kernel
theorem dX5_whole_74 : decode cX5_whole 74 = .ok (.iload 4, 2) := by decide +kernel
theorem dX5_whole_76 : decode cX5_whole 76 = .ok (.ifCond .ne 16, 3) := by decide +kernel
theorem dX5_whole_79 : decode cX5_whole 79 = .ok (.aload_n 0, 1) := by decide +kernel
theorem dX5_whole_80 : decode cX5_whole 80 = .ok (.iconst 1, 1) := by decide +kernel
theorem dX5_whole_81 : decode cX5_whole 81 = .ok (.lload 5, 2) := by decide +kernel
theorem dX5_whole_83 : decode cX5_whole 83 = .ok (.lconst 1, 1) := by decide +kernel
theorem dX5_whole_84 : decode cX5_whole 84 = .ok (.lsub, 1) := by decide +kernel
theorem dX5_whole_85 : decode cX5_whole 85 = .ok (.invokevirtual 125, 3) := by decide +kernel
theorem dX5_whole_88 : decode cX5_whole 88 = .ok (.pop, 1) := by decide +kernel
theorem dX5_whole_89 : decode cX5_whole 89 = .ok (.goto 11, 3) := by decide +kernel
theorem dX5_whole_92 : decode cX5_whole 92 = .ok (.aload_n 0, 1) := by decide +kernel
theorem dX5_whole_93 : decode cX5_whole 93 = .ok (.iconst 0, 1) := by decide +kernel
theorem dX5_whole_94 : decode cX5_whole 94 = .ok (.lload 5, 2) := by decide +kernel
theorem dX5_whole_96 : decode cX5_whole 96 = .ok (.invokevirtual 125, 3) := by decide +kernel
theorem dX5_whole_99 : decode cX5_whole 99 = .ok (.pop, 1) := by decide +kernel
theorem dX5_whole_100 : decode cX5_whole 100 = .ok (.iconst 1, 1) := by decide +kernel
theorem dX5_whole_101 : decode cX5_whole 101 = .ok (.ireturn, 1) := by decide +kernel
theorem dX5_hexOf_0 : decode cX5_hexOf 0 = .ok (.iload_n 0, 1) := by decide +kernel
theorem dX5_hexOf_1 : decode cX5_hexOf 1 = .ok (.bipush 48, 2) := by decide +kernel
theorem dX5_hexOf_3 : decode cX5_hexOf 3 = .ok (.if_icmp .lt 16, 3) := by decide +kernel
theorem dX5_hexOf_6 : decode cX5_hexOf 6 = .ok (.iload_n 0, 1) := by decide +kernel
theorem dX5_hexOf_7 : decode cX5_hexOf 7 = .ok (.bipush 57, 2) := by decide +kernel
theorem dX5_hexOf_9 : decode cX5_hexOf 9 = .ok (.if_icmp .gt 10, 3) := by decide +kernel
theorem dX5_hexOf_12 : decode cX5_hexOf 12 = .ok (.iload_n 0, 1) := by decide +kernel
theorem dX5_hexOf_13 : decode cX5_hexOf 13 = .ok (.bipush 48, 2) := by decide +kernel
theorem dX5_hexOf_15 : decode cX5_hexOf 15 = .ok (.isub, 1) := by decide +kernel
theorem dX5_hexOf_16 : decode cX5_hexOf 16 = .ok (.goto 48, 3) := by decide +kernel
theorem dX5_hexOf_19 : decode cX5_hexOf 19 = .ok (.iload_n 0, 1) := by decide +kernel
theorem dX5_hexOf_20 : decode cX5_hexOf 20 = .ok (.bipush 97, 2) := by decide +kernel
theorem dX5_hexOf_22 : decode cX5_hexOf 22 = .ok (.if_icmp .lt 19, 3) := by decide +kernel
theorem dX5_hexOf_25 : decode cX5_hexOf 25 = .ok (.iload_n 0, 1) := by decide +kernel
theorem dX5_hexOf_26 : decode cX5_hexOf 26 = .ok (.bipush 102, 2) := by decide +kernel
theorem dX5_hexOf_28 : decode cX5_hexOf 28 = .ok (.if_icmp .gt 13, 3) := by decide +kernel
theorem dX5_hexOf_31 : decode cX5_hexOf 31 = .ok (.iload_n 0, 1) := by decide +kernel
theorem dX5_hexOf_32 : decode cX5_hexOf 32 = .ok (.bipush 97, 2) := by decide +kernel
theorem dX5_hexOf_34 : decode cX5_hexOf 34 = .ok (.isub, 1) := by decide +kernel
theorem dX5_hexOf_35 : decode cX5_hexOf 35 = .ok (.bipush 10, 2) := by decide +kernel
theorem dX5_hexOf_37 : decode cX5_hexOf 37 = .ok (.iadd, 1) := by decide +kernel
theorem dX5_hexOf_38 : decode cX5_hexOf 38 = .ok (.goto 26, 3) := by decide +kernel
theorem dX5_hexOf_41 : decode cX5_hexOf 41 = .ok (.iload_n 0, 1) := by decide +kernel
theorem dX5_hexOf_42 : decode cX5_hexOf 42 = .ok (.bipush 65, 2) := by decide +kernel
theorem dX5_hexOf_44 : decode cX5_hexOf 44 = .ok (.if_icmp .lt 19, 3) := by decide +kernel
theorem dX5_hexOf_47 : decode cX5_hexOf 47 = .ok (.iload_n 0, 1) := by decide +kernel
theorem dX5_hexOf_48 : decode cX5_hexOf 48 = .ok (.bipush 70, 2) := by decide +kernel
theorem dX5_hexOf_50 : decode cX5_hexOf 50 = .ok (.if_icmp .gt 13, 3) := by decide +kernel
theorem dX5_hexOf_53 : decode cX5_hexOf 53 = .ok (.iload_n 0, 1) := by decide +kernel
theorem dX5_hexOf_54 : decode cX5_hexOf 54 = .ok (.bipush 65, 2) := by decide +kernel
theorem dX5_hexOf_56 : decode cX5_hexOf 56 = .ok (.isub, 1) := by decide +kernel
theorem dX5_hexOf_57 : decode cX5_hexOf 57 = .ok (.bipush 10, 2) := by decide +kernel
theorem dX5_hexOf_59 : decode cX5_hexOf 59 = .ok (.iadd, 1) := by decide +kernel
theorem dX5_hexOf_60 : decode cX5_hexOf 60 = .ok (.goto 4, 3) := by decide +kernel
theorem dX5_hexOf_63 : decode cX5_hexOf 63 = .ok (.iconst (-1), 1) := by decide +kernel
theorem dX5_hexOf_64 : decode cX5_hexOf 64 = .ok (.ireturn, 1) := by decide +kernel
theorem dX5_four_0 : decode cX5_four 0 = .ok (.iconst 0, 1) := by decide +kernel
theorem dX5_four_1 : decode cX5_four 1 = .ok (.istore_n 2, 1) := by decide +kernel
theorem dX5_four_2 : decode cX5_four 2 = .ok (.iconst 0, 1) := by decide +kernel
theorem dX5_four_3 : decode cX5_four 3 = .ok (.istore_n 3, 1) := by decide +kernel
theorem dX5_four_4 : decode cX5_four 4 = .ok (.iload_n 3, 1) := by decide +kernel
theorem dX5_four_5 : decode cX5_four 5 = .ok (.iconst 4, 1) := by decide +kernel
theorem dX5_four_6 : decode cX5_four 6 = .ok (.if_icmp .ge 51, 3) := by decide +kernel
theorem dX5_four_9 : decode cX5_four 9 = .ok (.iload_n 1, 1) := by decide +kernel
theorem dX5_four_10 : decode cX5_four 10 = .ok (.iload_n 3, 1) := by decide +kernel
theorem dX5_four_11 : decode cX5_four 11 = .ok (.iadd, 1) := by decide +kernel
theorem dX5_four_12 : decode cX5_four 12 = .ok (.aload_n 0, 1) := by decide +kernel
theorem dX5_four_13 : decode cX5_four 13 = .ok (.getfield 55, 3) := by decide +kernel
theorem dX5_four_16 : decode cX5_four 16 = .ok (.if_icmp .ge 17, 3) := by decide +kernel
theorem dX5_four_19 : decode cX5_four 19 = .ok (.aload_n 0, 1) := by decide +kernel
theorem dX5_four_20 : decode cX5_four 20 = .ok (.getfield 7, 3) := by decide +kernel
theorem dX5_four_23 : decode cX5_four 23 = .ok (.iload_n 1, 1) := by decide +kernel
theorem dX5_four_24 : decode cX5_four 24 = .ok (.iload_n 3, 1) := by decide +kernel
theorem dX5_four_25 : decode cX5_four 25 = .ok (.iadd, 1) := by decide +kernel
theorem dX5_four_26 : decode cX5_four 26 = .ok (.iaload, 1) := by decide +kernel
theorem dX5_four_27 : decode cX5_four 27 = .ok (.invokestatic 129, 3) := by decide +kernel
theorem dX5_four_30 : decode cX5_four 30 = .ok (.goto 4, 3) := by decide +kernel
theorem dX5_four_33 : decode cX5_four 33 = .ok (.iconst (-1), 1) := by decide +kernel
theorem dX5_four_34 : decode cX5_four 34 = .ok (.istore 4, 2) := by decide +kernel
theorem dX5_four_36 : decode cX5_four 36 = .ok (.iload 4, 2) := by decide +kernel
theorem dX5_four_38 : decode cX5_four 38 = .ok (.ifCond .ge 5, 3) := by decide +kernel
theorem dX5_four_41 : decode cX5_four 41 = .ok (.iconst (-1), 1) := by decide +kernel
theorem dX5_four_42 : decode cX5_four 42 = .ok (.ireturn, 1) := by decide +kernel
end
section
theorem dX5_four_43 : decode cX5_four 43 = .ok (.bipush 16, 2) := by decide +kernel
theorem dX5_four_45 : decode cX5_four 45 = .ok (.iload_n 2, 1) := by decide +kernel
theorem dX5_four_46 : decode cX5_four 46 = .ok (.imul, 1) := by decide +kernel
theorem dX5_four_47 : decode cX5_four 47 = .ok (.iload 4, 2) := by decide +kernel
theorem dX5_four_49 : decode cX5_four 49 = .ok (.iadd, 1) := by decide +kernel
theorem dX5_four_50 : decode cX5_four 50 = .ok (.istore_n 2, 1) := by decide +kernel
theorem dX5_four_51 : decode cX5_four 51 = .ok (.iinc 3 1, 3) := by decide +kernel
theorem dX5_four_54 : decode cX5_four 54 = .ok (.goto (-50), 3) := by decide +kernel
theorem dX5_four_57 : decode cX5_four 57 = .ok (.iload_n 2, 1) := by decide +kernel
theorem dX5_four_58 : decode cX5_four 58 = .ok (.ireturn, 1) := by decide +kernel
theorem dX5_coded_0 : decode cX5_coded 0 = .ok (.iconst 0, 1) := by decide +kernel
theorem dX5_coded_1 : decode cX5_coded 1 = .ok (.istore_n 2, 1) := by decide +kernel
theorem dX5_coded_2 : decode cX5_coded 2 = .ok (.iload_n 2, 1) := by decide +kernel
theorem dX5_coded_3 : decode cX5_coded 3 = .ok (.iconst 4, 1) := by decide +kernel
theorem dX5_coded_4 : decode cX5_coded 4 = .ok (.if_icmp .ge 34, 3) := by decide +kernel
theorem dX5_coded_7 : decode cX5_coded 7 = .ok (.aload_n 0, 1) := by decide +kernel
theorem dX5_coded_8 : decode cX5_coded 8 = .ok (.dup, 1) := by decide +kernel
theorem dX5_coded_9 : decode cX5_coded 9 = .ok (.getfield 64, 3) := by decide +kernel
theorem dX5_coded_12 : decode cX5_coded 12 = .ok (.iconst 1, 1) := by decide +kernel
theorem dX5_coded_13 : decode cX5_coded 13 = .ok (.iadd, 1) := by decide +kernel
theorem dX5_coded_14 : decode cX5_coded 14 = .ok (.putfield 64, 3) := by decide +kernel
theorem dX5_coded_17 : decode cX5_coded 17 = .ok (.aload_n 0, 1) := by decide +kernel
theorem dX5_coded_18 : decode cX5_coded 18 = .ok (.invokevirtual 86, 3) := by decide +kernel
theorem dX5_coded_21 : decode cX5_coded 21 = .ok (.invokestatic 129, 3) := by decide +kernel
theorem dX5_coded_24 : decode cX5_coded 24 = .ok (.ifCond .ge 8, 3) := by decide +kernel
theorem dX5_coded_27 : decode cX5_coded 27 = .ok (.aload_n 0, 1) := by decide +kernel
theorem dX5_coded_28 : decode cX5_coded 28 = .ok (.invokevirtual 98, 3) := by decide +kernel
theorem dX5_coded_31 : decode cX5_coded 31 = .ok (.ireturn, 1) := by decide +kernel
theorem dX5_coded_32 : decode cX5_coded 32 = .ok (.iinc 2 1, 3) := by decide +kernel
theorem dX5_coded_35 : decode cX5_coded 35 = .ok (.goto (-33), 3) := by decide +kernel
theorem dX5_coded_38 : decode cX5_coded 38 = .ok (.aload_n 0, 1) := by decide +kernel
theorem dX5_coded_39 : decode cX5_coded 39 = .ok (.dup, 1) := by decide +kernel
theorem dX5_coded_40 : decode cX5_coded 40 = .ok (.getfield 64, 3) := by decide +kernel
theorem dX5_coded_43 : decode cX5_coded 43 = .ok (.iconst 1, 1) := by decide +kernel
theorem dX5_coded_44 : decode cX5_coded 44 = .ok (.iadd, 1) := by decide +kernel
theorem dX5_coded_45 : decode cX5_coded 45 = .ok (.putfield 64, 3) := by decide +kernel
theorem dX5_coded_48 : decode cX5_coded 48 = .ok (.aload_n 0, 1) := by decide +kernel
theorem dX5_coded_49 : decode cX5_coded 49 = .ok (.iload_n 1, 1) := by decide +kernel
theorem dX5_coded_50 : decode cX5_coded 50 = .ok (.iconst 2, 1) := by decide +kernel
theorem dX5_coded_51 : decode cX5_coded 51 = .ok (.iadd, 1) := by decide +kernel
theorem dX5_coded_52 : decode cX5_coded 52 = .ok (.invokevirtual 133, 3) := by decide +kernel
theorem dX5_coded_55 : decode cX5_coded 55 = .ok (.istore_n 2, 1) := by decide +kernel
theorem dX5_coded_56 : decode cX5_coded 56 = .ok (.iload_n 2, 1) := by decide +kernel
theorem dX5_coded_57 : decode cX5_coded 57 = .ok (.ldc 136, 2) := by decide +kernel
theorem dX5_coded_59 : decode cX5_coded 59 = .ok (.if_icmp .lt 16, 3) := by decide +kernel
theorem dX5_coded_62 : decode cX5_coded 62 = .ok (.iload_n 2, 1) := by decide +kernel
theorem dX5_coded_63 : decode cX5_coded 63 = .ok (.ldc 137, 2) := by decide +kernel
theorem dX5_coded_65 : decode cX5_coded 65 = .ok (.if_icmp .gt 10, 3) := by decide +kernel
theorem dX5_coded_68 : decode cX5_coded 68 = .ok (.aload_n 0, 1) := by decide +kernel
theorem dX5_coded_69 : decode cX5_coded 69 = .ok (.iconst 2, 1) := by decide +kernel
theorem dX5_coded_70 : decode cX5_coded 70 = .ok (.iload_n 1, 1) := by decide +kernel
theorem dX5_coded_71 : decode cX5_coded 71 = .ok (.invokevirtual 90, 3) := by decide +kernel
theorem dX5_coded_74 : decode cX5_coded 74 = .ok (.ireturn, 1) := by decide +kernel
theorem dX5_coded_75 : decode cX5_coded 75 = .ok (.iload_n 2, 1) := by decide +kernel
theorem dX5_coded_76 : decode cX5_coded 76 = .ok (.ldc 138, 2) := by decide +kernel
theorem dX5_coded_78 : decode cX5_coded 78 = .ok (.if_icmp .lt 9, 3) := by decide +kernel
theorem dX5_coded_81 : decode cX5_coded 81 = .ok (.iload_n 2, 1) := by decide +kernel
theorem dX5_coded_82 : decode cX5_coded 82 = .ok (.ldc 139, 2) := by decide +kernel
theorem dX5_coded_84 : decode cX5_coded 84 = .ok (.if_icmp .le 10, 3) := by decide +kernel
theorem dX5_coded_87 : decode cX5_coded 87 = .ok (.aload_n 0, 1) := by decide +kernel
theorem dX5_coded_88 : decode cX5_coded 88 = .ok (.iload_n 2, 1) := by decide +kernel
theorem dX5_coded_89 : decode cX5_coded 89 = .ok (.invokevirtual 140, 3) := by decide +kernel
theorem dX5_coded_92 : decode cX5_coded 92 = .ok (.iconst 1, 1) := by decide +kernel
theorem dX5_coded_93 : decode cX5_coded 93 = .ok (.ireturn, 1) := by decide +kernel
theorem dX5_coded_94 : decode cX5_coded 94 = .ok (.aload_n 0, 1) := by decide +kernel
theorem dX5_coded_95 : decode cX5_coded 95 = .ok (.getfield 64, 3) := by decide +kernel
theorem dX5_coded_98 : decode cX5_coded 98 = .ok (.iconst 1, 1) := by decide +kernel
theorem dX5_coded_99 : decode cX5_coded 99 = .ok (.iadd, 1) := by decide +kernel
theorem dX5_coded_100 : decode cX5_coded 100 = .ok (.aload_n 0, 1) := by decide +kernel
theorem dX5_coded_101 : decode cX5_coded 101 = .ok (.getfield 55, 3) := by decide +kernel
theorem dX5_coded_104 : decode cX5_coded 104 = .ok (.if_icmp .ge 37, 3) := by decide +kernel
theorem dX5_coded_107 : decode cX5_coded 107 = .ok (.aload_n 0, 1) := by decide +kernel
theorem dX5_coded_108 : decode cX5_coded 108 = .ok (.getfield 7, 3) := by decide +kernel
theorem dX5_coded_111 : decode cX5_coded 111 = .ok (.aload_n 0, 1) := by decide +kernel
theorem dX5_coded_112 : decode cX5_coded 112 = .ok (.getfield 64, 3) := by decide +kernel
theorem dX5_coded_115 : decode cX5_coded 115 = .ok (.iaload, 1) := by decide +kernel
theorem dX5_coded_116 : decode cX5_coded 116 = .ok (.bipush 92, 2) := by decide +kernel
theorem dX5_coded_118 : decode cX5_coded 118 = .ok (.if_icmp .ne 23, 3) := by decide +kernel
theorem dX5_coded_121 : decode cX5_coded 121 = .ok (.aload_n 0, 1) := by decide +kernel
theorem dX5_coded_122 : decode cX5_coded 122 = .ok (.getfield 7, 3) := by decide +kernel
theorem dX5_coded_125 : decode cX5_coded 125 = .ok (.aload_n 0, 1) := by decide +kernel
theorem dX5_coded_126 : decode cX5_coded 126 = .ok (.getfield 64, 3) := by decide +kernel
theorem dX5_coded_129 : decode cX5_coded 129 = .ok (.iconst 1, 1) := by decide +kernel
theorem dX5_coded_130 : decode cX5_coded 130 = .ok (.iadd, 1) := by decide +kernel
theorem dX5_coded_131 : decode cX5_coded 131 = .ok (.iaload, 1) := by decide +kernel
theorem dX5_coded_132 : decode cX5_coded 132 = .ok (.bipush 117, 2) := by decide +kernel
theorem dX5_coded_134 : decode cX5_coded 134 = .ok (.if_icmp .ne 7, 3) := by decide +kernel
theorem dX5_coded_137 : decode cX5_coded 137 = .ok (.iconst 1, 1) := by decide +kernel
theorem dX5_coded_138 : decode cX5_coded 138 = .ok (.goto 4, 3) := by decide +kernel
theorem dX5_coded_141 : decode cX5_coded 141 = .ok (.iconst 0, 1) := by decide +kernel
theorem dX5_coded_142 : decode cX5_coded 142 = .ok (.istore_n 3, 1) := by decide +kernel
theorem dX5_coded_143 : decode cX5_coded 143 = .ok (.iload_n 3, 1) := by decide +kernel
theorem dX5_coded_144 : decode cX5_coded 144 = .ok (.ifCond .eq 16, 3) := by decide +kernel
theorem dX5_coded_147 : decode cX5_coded 147 = .ok (.aload_n 0, 1) := by decide +kernel
theorem dX5_coded_148 : decode cX5_coded 148 = .ok (.aload_n 0, 1) := by decide +kernel
theorem dX5_coded_149 : decode cX5_coded 149 = .ok (.getfield 64, 3) := by decide +kernel
theorem dX5_coded_152 : decode cX5_coded 152 = .ok (.iconst 2, 1) := by decide +kernel
theorem dX5_coded_153 : decode cX5_coded 153 = .ok (.iadd, 1) := by decide +kernel
theorem dX5_coded_154 : decode cX5_coded 154 = .ok (.invokevirtual 133, 3) := by decide +kernel
theorem dX5_coded_157 : decode cX5_coded 157 = .ok (.goto 4, 3) := by decide +kernel
theorem dX5_coded_160 : decode cX5_coded 160 = .ok (.iconst (-1), 1) := by decide +kernel
theorem dX5_coded_161 : decode cX5_coded 161 = .ok (.istore 4, 2) := by decide +kernel
theorem dX5_coded_163 : decode cX5_coded 163 = .ok (.iload 4, 2) := by decide +kernel
theorem dX5_coded_165 : decode cX5_coded 165 = .ok (.ldc 136, 2) := by decide +kernel
theorem dX5_coded_167 : decode cX5_coded 167 = .ok (.if_icmp .lt 10, 3) := by decide +kernel
theorem dX5_coded_170 : decode cX5_coded 170 = .ok (.iload 4, 2) := by decide +kernel
theorem dX5_coded_172 : decode cX5_coded 172 = .ok (.ldc 137, 2) := by decide +kernel
theorem dX5_coded_174 : decode cX5_coded 174 = .ok (.if_icmp .le 10, 3) := by decide +kernel
theorem dX5_coded_177 : decode cX5_coded 177 = .ok (.aload_n 0, 1) := by decide +kernel
theorem dX5_coded_178 : decode cX5_coded 178 = .ok (.iconst 2, 1) := by decide +kernel
theorem dX5_coded_179 : decode cX5_coded 179 = .ok (.iload_n 1, 1) := by decide +kernel
theorem dX5_coded_180 : decode cX5_coded 180 = .ok (.invokevirtual 90, 3) := by decide +kernel
theorem dX5_coded_183 : decode cX5_coded 183 = .ok (.ireturn, 1) := by decide +kernel
theorem dX5_coded_184 : decode cX5_coded 184 = .ok (.aload_n 0, 1) := by decide +kernel
theorem dX5_coded_185 : decode cX5_coded 185 = .ok (.dup, 1) := by decide +kernel
theorem dX5_coded_186 : decode cX5_coded 186 = .ok (.getfield 64, 3) := by decide +kernel
theorem dX5_coded_189 : decode cX5_coded 189 = .ok (.bipush 6, 2) := by decide +kernel
theorem dX5_coded_191 : decode cX5_coded 191 = .ok (.iadd, 1) := by decide +kernel
theorem dX5_coded_192 : decode cX5_coded 192 = .ok (.putfield 64, 3) := by decide +kernel
theorem dX5_coded_195 : decode cX5_coded 195 = .ok (.aload_n 0, 1) := by decide +kernel
theorem dX5_coded_196 : decode cX5_coded 196 = .ok (.ldc 84, 2) := by decide +kernel
theorem dX5_coded_198 : decode cX5_coded 198 = .ok (.iload_n 2, 1) := by decide +kernel
theorem dX5_coded_199 : decode cX5_coded 199 = .ok (.ldc 138, 2) := by decide +kernel
theorem dX5_coded_201 : decode cX5_coded 201 = .ok (.isub, 1) := by decide +kernel
theorem dX5_coded_202 : decode cX5_coded 202 = .ok (.sipush 1024, 3) := by decide +kernel
theorem dX5_coded_205 : decode cX5_coded 205 = .ok (.imul, 1) := by decide +kernel
theorem dX5_coded_206 : decode cX5_coded 206 = .ok (.iadd, 1) := by decide +kernel
theorem dX5_coded_207 : decode cX5_coded 207 = .ok (.iload 4, 2) := by decide +kernel
theorem dX5_coded_209 : decode cX5_coded 209 = .ok (.iadd, 1) := by decide +kernel
theorem dX5_coded_210 : decode cX5_coded 210 = .ok (.ldc 136, 2) := by decide +kernel
theorem dX5_coded_212 : decode cX5_coded 212 = .ok (.isub, 1) := by decide +kernel
theorem dX5_coded_213 : decode cX5_coded 213 = .ok (.invokevirtual 140, 3) := by decide +kernel
theorem dX5_coded_216 : decode cX5_coded 216 = .ok (.iconst 1, 1) := by decide +kernel
theorem dX5_coded_217 : decode cX5_coded 217 = .ok (.ireturn, 1) := by decide +kernel
theorem dX5_escape_0 : decode cX5_escape 0 = .ok (.aload_n 0, 1) := by decide +kernel
theorem dX5_escape_1 : decode cX5_escape 1 = .ok (.getfield 64, 3) := by decide +kernel
theorem dX5_escape_4 : decode cX5_escape 4 = .ok (.istore_n 1, 1) := by decide +kernel
theorem dX5_escape_5 : decode cX5_escape 5 = .ok (.aload_n 0, 1) := by decide +kernel
theorem dX5_escape_6 : decode cX5_escape 6 = .ok (.dup, 1) := by decide +kernel
theorem dX5_escape_7 : decode cX5_escape 7 = .ok (.getfield 64, 3) := by decide +kernel
theorem dX5_escape_10 : decode cX5_escape 10 = .ok (.iconst 1, 1) := by decide +kernel
theorem dX5_escape_11 : decode cX5_escape 11 = .ok (.iadd, 1) := by decide +kernel
theorem dX5_escape_12 : decode cX5_escape 12 = .ok (.putfield 64, 3) := by decide +kernel
theorem dX5_escape_15 : decode cX5_escape 15 = .ok (.aload_n 0, 1) := by decide +kernel
theorem dX5_escape_16 : decode cX5_escape 16 = .ok (.invokevirtual 86, 3) := by decide +kernel
theorem dX5_escape_19 : decode cX5_escape 19 = .ok (.istore_n 2, 1) := by decide +kernel
theorem dX5_escape_20 : decode cX5_escape 20 = .ok (.iload_n 2, 1) := by decide +kernel
theorem dX5_escape_21 : decode cX5_escape 21 = .ok (.bipush 117, 2) := by decide +kernel
theorem dX5_escape_23 : decode cX5_escape 23 = .ok (.if_icmp .ne 9, 3) := by decide +kernel
theorem dX5_escape_26 : decode cX5_escape 26 = .ok (.aload_n 0, 1) := by decide +kernel
theorem dX5_escape_27 : decode cX5_escape 27 = .ok (.iload_n 1, 1) := by decide +kernel
theorem dX5_escape_28 : decode cX5_escape 28 = .ok (.invokevirtual 143, 3) := by decide +kernel
theorem dX5_escape_31 : decode cX5_escape 31 = .ok (.ireturn, 1) := by decide +kernel
theorem dX5_escape_32 : decode cX5_escape 32 = .ok (.iload_n 2, 1) := by decide +kernel
theorem dX5_escape_33 : decode cX5_escape 33 = .ok (.bipush 34, 2) := by decide +kernel
theorem dX5_escape_35 : decode cX5_escape 35 = .ok (.if_icmp .eq 15, 3) := by decide +kernel
theorem dX5_escape_38 : decode cX5_escape 38 = .ok (.iload_n 2, 1) := by decide +kernel
theorem dX5_escape_39 : decode cX5_escape 39 = .ok (.bipush 92, 2) := by decide +kernel
theorem dX5_escape_41 : decode cX5_escape 41 = .ok (.if_icmp .eq 9, 3) := by decide +kernel
theorem dX5_escape_44 : decode cX5_escape 44 = .ok (.iload_n 2, 1) := by decide +kernel
theorem dX5_escape_45 : decode cX5_escape 45 = .ok (.bipush 47, 2) := by decide +kernel
theorem dX5_escape_47 : decode cX5_escape 47 = .ok (.if_icmp .ne 7, 3) := by decide +kernel
theorem dX5_escape_50 : decode cX5_escape 50 = .ok (.iload_n 2, 1) := by decide +kernel
theorem dX5_escape_51 : decode cX5_escape 51 = .ok (.goto 59, 3) := by decide +kernel
theorem dX5_escape_54 : decode cX5_escape 54 = .ok (.iload_n 2, 1) := by decide +kernel
theorem dX5_escape_55 : decode cX5_escape 55 = .ok (.bipush 98, 2) := by decide +kernel
theorem dX5_escape_57 : decode cX5_escape 57 = .ok (.if_icmp .ne 8, 3) := by decide +kernel
theorem dX5_escape_60 : decode cX5_escape 60 = .ok (.bipush 8, 2) := by decide +kernel
theorem dX5_escape_62 : decode cX5_escape 62 = .ok (.goto 48, 3) := by decide +kernel
theorem dX5_escape_65 : decode cX5_escape 65 = .ok (.iload_n 2, 1) := by decide +kernel
theorem dX5_escape_66 : decode cX5_escape 66 = .ok (.bipush 102, 2) := by decide +kernel
theorem dX5_escape_68 : decode cX5_escape 68 = .ok (.if_icmp .ne 8, 3) := by decide +kernel
theorem dX5_escape_71 : decode cX5_escape 71 = .ok (.bipush 12, 2) := by decide +kernel
theorem dX5_escape_73 : decode cX5_escape 73 = .ok (.goto 37, 3) := by decide +kernel
theorem dX5_escape_76 : decode cX5_escape 76 = .ok (.iload_n 2, 1) := by decide +kernel
theorem dX5_escape_77 : decode cX5_escape 77 = .ok (.bipush 110, 2) := by decide +kernel
theorem dX5_escape_79 : decode cX5_escape 79 = .ok (.if_icmp .ne 8, 3) := by decide +kernel
theorem dX5_escape_82 : decode cX5_escape 82 = .ok (.bipush 10, 2) := by decide +kernel
theorem dX5_escape_84 : decode cX5_escape 84 = .ok (.goto 26, 3) := by decide +kernel
theorem dX5_escape_87 : decode cX5_escape 87 = .ok (.iload_n 2, 1) := by decide +kernel
theorem dX5_escape_88 : decode cX5_escape 88 = .ok (.bipush 114, 2) := by decide +kernel
theorem dX5_escape_90 : decode cX5_escape 90 = .ok (.if_icmp .ne 8, 3) := by decide +kernel
theorem dX5_escape_93 : decode cX5_escape 93 = .ok (.bipush 13, 2) := by decide +kernel
theorem dX5_escape_95 : decode cX5_escape 95 = .ok (.goto 15, 3) := by decide +kernel
theorem dX5_escape_98 : decode cX5_escape 98 = .ok (.iload_n 2, 1) := by decide +kernel
theorem dX5_escape_99 : decode cX5_escape 99 = .ok (.bipush 116, 2) := by decide +kernel
theorem dX5_escape_101 : decode cX5_escape 101 = .ok (.if_icmp .ne 8, 3) := by decide +kernel
theorem dX5_escape_104 : decode cX5_escape 104 = .ok (.bipush 9, 2) := by decide +kernel
theorem dX5_escape_106 : decode cX5_escape 106 = .ok (.goto 4, 3) := by decide +kernel
theorem dX5_escape_109 : decode cX5_escape 109 = .ok (.iconst (-1), 1) := by decide +kernel
theorem dX5_escape_110 : decode cX5_escape 110 = .ok (.istore_n 3, 1) := by decide +kernel
theorem dX5_escape_111 : decode cX5_escape 111 = .ok (.iload_n 3, 1) := by decide +kernel
theorem dX5_escape_112 : decode cX5_escape 112 = .ok (.ifCond .ge 8, 3) := by decide +kernel
theorem dX5_escape_115 : decode cX5_escape 115 = .ok (.aload_n 0, 1) := by decide +kernel
theorem dX5_escape_116 : decode cX5_escape 116 = .ok (.invokevirtual 98, 3) := by decide +kernel
theorem dX5_escape_119 : decode cX5_escape 119 = .ok (.ireturn, 1) := by decide +kernel
theorem dX5_escape_120 : decode cX5_escape 120 = .ok (.aload_n 0, 1) := by decide +kernel
theorem dX5_escape_121 : decode cX5_escape 121 = .ok (.iload_n 3, 1) := by decide +kernel
theorem dX5_escape_122 : decode cX5_escape 122 = .ok (.invokevirtual 80, 3) := by decide +kernel
theorem dX5_escape_125 : decode cX5_escape 125 = .ok (.aload_n 0, 1) := by decide +kernel
theorem dX5_escape_126 : decode cX5_escape 126 = .ok (.dup, 1) := by decide +kernel
theorem dX5_escape_127 : decode cX5_escape 127 = .ok (.getfield 64, 3) := by decide +kernel
theorem dX5_escape_130 : decode cX5_escape 130 = .ok (.iconst 1, 1) := by decide +kernel
theorem dX5_escape_131 : decode cX5_escape 131 = .ok (.iadd, 1) := by decide +kernel
theorem dX5_escape_132 : decode cX5_escape 132 = .ok (.putfield 64, 3) := by decide +kernel
theorem dX5_escape_135 : decode cX5_escape 135 = .ok (.iconst 1, 1) := by decide +kernel
theorem dX5_escape_136 : decode cX5_escape 136 = .ok (.ireturn, 1) := by decide +kernel
theorem dX5_string_0 : decode cX5_string 0 = .ok (.aload_n 0, 1) := by decide +kernel
theorem dX5_string_1 : decode cX5_string 1 = .ok (.iconst 3, 1) := by decide +kernel
theorem dX5_string_2 : decode cX5_string 2 = .ok (.lconst 0, 1) := by decide +kernel
theorem dX5_string_3 : decode cX5_string 3 = .ok (.invokevirtual 125, 3) := by decide +kernel
theorem dX5_string_6 : decode cX5_string 6 = .ok (.istore_n 1, 1) := by decide +kernel
theorem dX5_string_7 : decode cX5_string 7 = .ok (.aload_n 0, 1) := by decide +kernel
theorem dX5_string_8 : decode cX5_string 8 = .ok (.dup, 1) := by decide +kernel
theorem dX5_string_9 : decode cX5_string 9 = .ok (.getfield 64, 3) := by decide +kernel
theorem dX5_string_12 : decode cX5_string 12 = .ok (.iconst 1, 1) := by decide +kernel
theorem dX5_string_13 : decode cX5_string 13 = .ok (.iadd, 1) := by decide +kernel
theorem dX5_string_14 : decode cX5_string 14 = .ok (.putfield 64, 3) := by decide +kernel
theorem dX5_string_17 : decode cX5_string 17 = .ok (.aload_n 0, 1) := by decide +kernel
theorem dX5_string_18 : decode cX5_string 18 = .ok (.invokevirtual 86, 3) := by decide +kernel
theorem dX5_string_21 : decode cX5_string 21 = .ok (.bipush 34, 2) := by decide +kernel
theorem dX5_string_23 : decode cX5_string 23 = .ok (.if_icmp .eq 105, 3) := by decide +kernel
theorem dX5_string_26 : decode cX5_string 26 = .ok (.aload_n 0, 1) := by decide +kernel
theorem dX5_string_27 : decode cX5_string 27 = .ok (.invokevirtual 86, 3) := by decide +kernel
theorem dX5_string_30 : decode cX5_string 30 = .ok (.istore_n 2, 1) := by decide +kernel
theorem dX5_string_31 : decode cX5_string 31 = .ok (.iload_n 2, 1) := by decide +kernel
theorem dX5_string_32 : decode cX5_string 32 = .ok (.bipush 32, 2) := by decide +kernel
theorem dX5_string_34 : decode cX5_string 34 = .ok (.if_icmp .ge 8, 3) := by decide +kernel
theorem dX5_string_37 : decode cX5_string 37 = .ok (.aload_n 0, 1) := by decide +kernel
theorem dX5_string_38 : decode cX5_string 38 = .ok (.invokevirtual 98, 3) := by decide +kernel
theorem dX5_string_41 : decode cX5_string 41 = .ok (.ireturn, 1) := by decide +kernel
theorem dX5_string_42 : decode cX5_string 42 = .ok (.iload_n 2, 1) := by decide +kernel
theorem dX5_string_43 : decode cX5_string 43 = .ok (.bipush 92, 2) := by decide +kernel
theorem dX5_string_45 : decode cX5_string 45 = .ok (.if_icmp .ne 12, 3) := by decide +kernel
theorem dX5_string_48 : decode cX5_string 48 = .ok (.aload_n 0, 1) := by decide +kernel
theorem dX5_string_49 : decode cX5_string 49 = .ok (.invokevirtual 146, 3) := by decide +kernel
theorem dX5_string_52 : decode cX5_string 52 = .ok (.ifCond .ne (-35), 3) := by decide +kernel
theorem dX5_string_55 : decode cX5_string 55 = .ok (.iconst 0, 1) := by decide +kernel
theorem dX5_string_56 : decode cX5_string 56 = .ok (.ireturn, 1) := by decide +kernel
theorem dX5_string_57 : decode cX5_string 57 = .ok (.aload_n 0, 1) := by decide +kernel
theorem dX5_string_58 : decode cX5_string 58 = .ok (.aload_n 0, 1) := by decide +kernel
theorem dX5_string_59 : decode cX5_string 59 = .ok (.getfield 64, 3) := by decide +kernel
theorem dX5_string_62 : decode cX5_string 62 = .ok (.aload_n 0, 1) := by decide +kernel
theorem dX5_string_63 : decode cX5_string 63 = .ok (.getfield 55, 3) := by decide +kernel
theorem dX5_string_66 : decode cX5_string 66 = .ok (.invokevirtual 149, 3) := by decide +kernel
theorem dX5_string_69 : decode cX5_string 69 = .ok (.istore_n 3, 1) := by decide +kernel
theorem dX5_string_70 : decode cX5_string 70 = .ok (.iload_n 3, 1) := by decide +kernel
theorem dX5_string_71 : decode cX5_string 71 = .ok (.ifCond .ne 13, 3) := by decide +kernel
theorem dX5_string_74 : decode cX5_string 74 = .ok (.aload_n 0, 1) := by decide +kernel
theorem dX5_string_75 : decode cX5_string 75 = .ok (.iconst 2, 1) := by decide +kernel
theorem dX5_string_76 : decode cX5_string 76 = .ok (.aload_n 0, 1) := by decide +kernel
theorem dX5_string_77 : decode cX5_string 77 = .ok (.getfield 64, 3) := by decide +kernel
theorem dX5_string_80 : decode cX5_string 80 = .ok (.invokevirtual 90, 3) := by decide +kernel
theorem dX5_string_83 : decode cX5_string 83 = .ok (.ireturn, 1) := by decide +kernel
theorem dX5_string_84 : decode cX5_string 84 = .ok (.iconst 0, 1) := by decide +kernel
theorem dX5_string_85 : decode cX5_string 85 = .ok (.istore 4, 2) := by decide +kernel
theorem dX5_string_87 : decode cX5_string 87 = .ok (.iload 4, 2) := by decide +kernel
theorem dX5_string_89 : decode cX5_string 89 = .ok (.iload_n 3, 1) := by decide +kernel
theorem dX5_string_90 : decode cX5_string 90 = .ok (.if_icmp .ge 25, 3) := by decide +kernel
theorem dX5_string_93 : decode cX5_string 93 = .ok (.aload_n 0, 1) := by decide +kernel
theorem dX5_string_94 : decode cX5_string 94 = .ok (.aload_n 0, 1) := by decide +kernel
theorem dX5_string_95 : decode cX5_string 95 = .ok (.getfield 7, 3) := by decide +kernel
theorem dX5_string_98 : decode cX5_string 98 = .ok (.aload_n 0, 1) := by decide +kernel
theorem dX5_string_99 : decode cX5_string 99 = .ok (.getfield 64, 3) := by decide +kernel
theorem dX5_string_102 : decode cX5_string 102 = .ok (.iload 4, 2) := by decide +kernel
theorem dX5_string_104 : decode cX5_string 104 = .ok (.iadd, 1) := by decide +kernel
theorem dX5_string_105 : decode cX5_string 105 = .ok (.iaload, 1) := by decide +kernel
theorem dX5_string_106 : decode cX5_string 106 = .ok (.invokevirtual 80, 3) := by decide +kernel
theorem dX5_string_109 : decode cX5_string 109 = .ok (.iinc 4 1, 3) := by decide +kernel
theorem dX5_string_112 : decode cX5_string 112 = .ok (.goto (-25), 3) := by decide +kernel
theorem dX5_string_115 : decode cX5_string 115 = .ok (.aload_n 0, 1) := by decide +kernel
theorem dX5_string_116 : decode cX5_string 116 = .ok (.dup, 1) := by decide +kernel
theorem dX5_string_117 : decode cX5_string 117 = .ok (.getfield 64, 3) := by decide +kernel
theorem dX5_string_120 : decode cX5_string 120 = .ok (.iload_n 3, 1) := by decide +kernel
theorem dX5_string_121 : decode cX5_string 121 = .ok (.iadd, 1) := by decide +kernel
theorem dX5_string_122 : decode cX5_string 122 = .ok (.putfield 64, 3) := by decide +kernel
theorem dX5_string_125 : decode cX5_string 125 = .ok (.goto (-108), 3) := by decide +kernel
theorem dX5_string_128 : decode cX5_string 128 = .ok (.aload_n 0, 1) := by decide +kernel
theorem dX5_string_129 : decode cX5_string 129 = .ok (.dup, 1) := by decide +kernel
theorem dX5_string_130 : decode cX5_string 130 = .ok (.getfield 64, 3) := by decide +kernel
theorem dX5_string_133 : decode cX5_string 133 = .ok (.iconst 1, 1) := by decide +kernel
theorem dX5_string_134 : decode cX5_string 134 = .ok (.iadd, 1) := by decide +kernel
theorem dX5_string_135 : decode cX5_string 135 = .ok (.putfield 64, 3) := by decide +kernel
theorem dX5_string_138 : decode cX5_string 138 = .ok (.aload_n 0, 1) := by decide +kernel
theorem dX5_string_139 : decode cX5_string 139 = .ok (.getfield 30, 3) := by decide +kernel
theorem dX5_string_142 : decode cX5_string 142 = .ok (.iload_n 1, 1) := by decide +kernel
theorem dX5_string_143 : decode cX5_string 143 = .ok (.aload_n 0, 1) := by decide +kernel
theorem dX5_string_144 : decode cX5_string 144 = .ok (.getfield 70, 3) := by decide +kernel
theorem dX5_string_147 : decode cX5_string 147 = .ok (.aload_n 0, 1) := by decide +kernel
theorem dX5_string_148 : decode cX5_string 148 = .ok (.getfield 34, 3) := by decide +kernel
theorem dX5_string_151 : decode cX5_string 151 = .ok (.iload_n 1, 1) := by decide +kernel
theorem dX5_string_152 : decode cX5_string 152 = .ok (.iaload, 1) := by decide +kernel
theorem dX5_string_153 : decode cX5_string 153 = .ok (.isub, 1) := by decide +kernel
theorem dX5_string_154 : decode cX5_string 154 = .ok (.i2l, 1) := by decide +kernel
theorem dX5_string_155 : decode cX5_string 155 = .ok (.lastore, 1) := by decide +kernel
theorem dX5_string_156 : decode cX5_string 156 = .ok (.iconst 1, 1) := by decide +kernel
theorem dX5_string_157 : decode cX5_string 157 = .ok (.ireturn, 1) := by decide +kernel
theorem dX5_word_0 : decode cX5_word 0 = .ok (.iconst 0, 1) := by decide +kernel
theorem dX5_word_1 : decode cX5_word 1 = .ok (.istore_n 3, 1) := by decide +kernel
theorem dX5_word_2 : decode cX5_word 2 = .ok (.iload_n 3, 1) := by decide +kernel
theorem dX5_word_3 : decode cX5_word 3 = .ok (.aload_n 1, 1) := by decide +kernel
theorem dX5_word_4 : decode cX5_word 4 = .ok (.invokevirtual 152, 3) := by decide +kernel
theorem dX5_word_7 : decode cX5_word 7 = .ok (.if_icmp .ge 36, 3) := by decide +kernel
theorem dX5_word_10 : decode cX5_word 10 = .ok (.aload_n 0, 1) := by decide +kernel
theorem dX5_word_11 : decode cX5_word 11 = .ok (.invokevirtual 86, 3) := by decide +kernel
theorem dX5_word_14 : decode cX5_word 14 = .ok (.aload_n 1, 1) := by decide +kernel
theorem dX5_word_15 : decode cX5_word 15 = .ok (.iload_n 3, 1) := by decide +kernel
theorem dX5_word_16 : decode cX5_word 16 = .ok (.invokevirtual 111, 3) := by decide +kernel
theorem dX5_word_19 : decode cX5_word 19 = .ok (.if_icmp .eq 8, 3) := by decide +kernel
theorem dX5_word_22 : decode cX5_word 22 = .ok (.aload_n 0, 1) := by decide +kernel
theorem dX5_word_23 : decode cX5_word 23 = .ok (.invokevirtual 98, 3) := by decide +kernel
theorem dX5_word_26 : decode cX5_word 26 = .ok (.ireturn, 1) := by decide +kernel
theorem dX5_word_27 : decode cX5_word 27 = .ok (.aload_n 0, 1) := by decide +kernel
theorem dX5_word_28 : decode cX5_word 28 = .ok (.dup, 1) := by decide +kernel
theorem dX5_word_29 : decode cX5_word 29 = .ok (.getfield 64, 3) := by decide +kernel
theorem dX5_word_32 : decode cX5_word 32 = .ok (.iconst 1, 1) := by decide +kernel
theorem dX5_word_33 : decode cX5_word 33 = .ok (.iadd, 1) := by decide +kernel
theorem dX5_word_34 : decode cX5_word 34 = .ok (.putfield 64, 3) := by decide +kernel
theorem dX5_word_37 : decode cX5_word 37 = .ok (.iinc 3 1, 3) := by decide +kernel
theorem dX5_word_40 : decode cX5_word 40 = .ok (.goto (-38), 3) := by decide +kernel
theorem dX5_word_43 : decode cX5_word 43 = .ok (.aload_n 0, 1) := by decide +kernel
theorem dX5_word_44 : decode cX5_word 44 = .ok (.bipush 7, 2) := by decide +kernel
theorem dX5_word_46 : decode cX5_word 46 = .ok (.iload_n 2, 1) := by decide +kernel
theorem dX5_word_47 : decode cX5_word 47 = .ok (.i2l, 1) := by decide +kernel
theorem dX5_word_48 : decode cX5_word 48 = .ok (.invokevirtual 125, 3) := by decide +kernel
theorem dX5_word_51 : decode cX5_word 51 = .ok (.pop, 1) := by decide +kernel
theorem dX5_word_52 : decode cX5_word 52 = .ok (.iconst 1, 1) := by decide +kernel
theorem dX5_word_53 : decode cX5_word 53 = .ok (.ireturn, 1) := by decide +kernel
theorem dX5_opens_0 : decode cX5_opens 0 = .ok (.aload_n 0, 1) := by decide +kernel
theorem dX5_opens_1 : decode cX5_opens 1 = .ok (.getfield 73, 3) := by decide +kernel
theorem dX5_opens_4 : decode cX5_opens 4 = .ok (.aload_n 0, 1) := by decide +kernel
theorem dX5_opens_5 : decode cX5_opens 5 = .ok (.getfield 13, 3) := by decide +kernel
theorem dX5_opens_8 : decode cX5_opens 8 = .ok (.if_icmp .ne 13, 3) := by decide +kernel
theorem dX5_opens_11 : decode cX5_opens 11 = .ok (.aload_n 0, 1) := by decide +kernel
theorem dX5_opens_12 : decode cX5_opens 12 = .ok (.iconst 4, 1) := by decide +kernel
theorem dX5_opens_13 : decode cX5_opens 13 = .ok (.aload_n 0, 1) := by decide +kernel
theorem dX5_opens_14 : decode cX5_opens 14 = .ok (.getfield 64, 3) := by decide +kernel
theorem dX5_opens_17 : decode cX5_opens 17 = .ok (.invokevirtual 90, 3) := by decide +kernel
theorem dX5_opens_20 : decode cX5_opens 20 = .ok (.ireturn, 1) := by decide +kernel
theorem dX5_opens_21 : decode cX5_opens 21 = .ok (.aload_n 0, 1) := by decide +kernel
theorem dX5_opens_22 : decode cX5_opens 22 = .ok (.getfield 40, 3) := by decide +kernel
theorem dX5_opens_25 : decode cX5_opens 25 = .ok (.aload_n 0, 1) := by decide +kernel
theorem dX5_opens_26 : decode cX5_opens 26 = .ok (.getfield 73, 3) := by decide +kernel
theorem dX5_opens_29 : decode cX5_opens 29 = .ok (.aload_n 0, 1) := by decide +kernel
theorem dX5_opens_30 : decode cX5_opens 30 = .ok (.iload_n 1, 1) := by decide +kernel
theorem dX5_opens_31 : decode cX5_opens 31 = .ok (.lconst 0, 1) := by decide +kernel
theorem dX5_opens_32 : decode cX5_opens 32 = .ok (.invokevirtual 125, 3) := by decide +kernel
theorem dX5_opens_35 : decode cX5_opens 35 = .ok (.iastore, 1) := by decide +kernel
theorem dX5_opens_36 : decode cX5_opens 36 = .ok (.aload_n 0, 1) := by decide +kernel
theorem dX5_opens_37 : decode cX5_opens 37 = .ok (.dup, 1) := by decide +kernel
theorem dX5_opens_38 : decode cX5_opens 38 = .ok (.getfield 73, 3) := by decide +kernel
theorem dX5_opens_41 : decode cX5_opens 41 = .ok (.iconst 1, 1) := by decide +kernel
theorem dX5_opens_42 : decode cX5_opens 42 = .ok (.iadd, 1) := by decide +kernel
theorem dX5_opens_43 : decode cX5_opens 43 = .ok (.putfield 73, 3) := by decide +kernel
theorem dX5_opens_46 : decode cX5_opens 46 = .ok (.aload_n 0, 1) := by decide +kernel
theorem dX5_opens_47 : decode cX5_opens 47 = .ok (.dup, 1) := by decide +kernel
theorem dX5_opens_48 : decode cX5_opens 48 = .ok (.getfield 64, 3) := by decide +kernel
theorem dX5_opens_51 : decode cX5_opens 51 = .ok (.iconst 1, 1) := by decide +kernel
theorem dX5_opens_52 : decode cX5_opens 52 = .ok (.iadd, 1) := by decide +kernel
theorem dX5_opens_53 : decode cX5_opens 53 = .ok (.putfield 64, 3) := by decide +kernel
theorem dX5_opens_56 : decode cX5_opens 56 = .ok (.iconst 1, 1) := by decide +kernel
theorem dX5_opens_57 : decode cX5_opens 57 = .ok (.ireturn, 1) := by decide +kernel
theorem dX5_isMap_0 : decode cX5_isMap 0 = .ok (.aload_n 0, 1) := by decide +kernel
theorem dX5_isMap_1 : decode cX5_isMap 1 = .ok (.getfield 73, 3) := by decide +kernel
theorem dX5_isMap_4 : decode cX5_isMap 4 = .ok (.ifCond .le 27, 3) := by decide +kernel
theorem dX5_isMap_7 : decode cX5_isMap 7 = .ok (.aload_n 0, 1) := by decide +kernel
theorem dX5_isMap_8 : decode cX5_isMap 8 = .ok (.getfield 27, 3) := by decide +kernel
theorem dX5_isMap_11 : decode cX5_isMap 11 = .ok (.aload_n 0, 1) := by decide +kernel
theorem dX5_isMap_12 : decode cX5_isMap 12 = .ok (.getfield 40, 3) := by decide +kernel
theorem dX5_isMap_15 : decode cX5_isMap 15 = .ok (.aload_n 0, 1) := by decide +kernel
theorem dX5_isMap_16 : decode cX5_isMap 16 = .ok (.getfield 73, 3) := by decide +kernel
theorem dX5_isMap_19 : decode cX5_isMap 19 = .ok (.iconst 1, 1) := by decide +kernel
theorem dX5_isMap_20 : decode cX5_isMap 20 = .ok (.isub, 1) := by decide +kernel
theorem dX5_isMap_21 : decode cX5_isMap 21 = .ok (.iaload, 1) := by decide +kernel
theorem dX5_isMap_22 : decode cX5_isMap 22 = .ok (.iaload, 1) := by decide +kernel
theorem dX5_isMap_23 : decode cX5_isMap 23 = .ok (.iconst 5, 1) := by decide +kernel
theorem dX5_isMap_24 : decode cX5_isMap 24 = .ok (.if_icmp .ne 7, 3) := by decide +kernel
theorem dX5_isMap_27 : decode cX5_isMap 27 = .ok (.iconst 1, 1) := by decide +kernel
theorem dX5_isMap_28 : decode cX5_isMap 28 = .ok (.goto 4, 3) := by decide +kernel
theorem dX5_isMap_31 : decode cX5_isMap 31 = .ok (.iconst 0, 1) := by decide +kernel
theorem dX5_isMap_32 : decode cX5_isMap 32 = .ok (.ireturn, 1) := by decide +kernel
theorem dX5_value_0 : decode cX5_value 0 = .ok (.aload_n 0, 1) := by decide +kernel
theorem dX5_value_1 : decode cX5_value 1 = .ok (.invokevirtual 86, 3) := by decide +kernel
theorem dX5_value_4 : decode cX5_value 4 = .ok (.istore_n 1, 1) := by decide +kernel
theorem dX5_value_5 : decode cX5_value 5 = .ok (.iload_n 1, 1) := by decide +kernel
theorem dX5_value_6 : decode cX5_value 6 = .ok (.bipush 34, 2) := by decide +kernel
theorem dX5_value_8 : decode cX5_value 8 = .ok (.if_icmp .ne 8, 3) := by decide +kernel
theorem dX5_value_11 : decode cX5_value 11 = .ok (.aload_n 0, 1) := by decide +kernel
theorem dX5_value_12 : decode cX5_value 12 = .ok (.invokevirtual 155, 3) := by decide +kernel
theorem dX5_value_15 : decode cX5_value 15 = .ok (.ireturn, 1) := by decide +kernel
theorem dX5_value_16 : decode cX5_value 16 = .ok (.iload_n 1, 1) := by decide +kernel
theorem dX5_value_17 : decode cX5_value 17 = .ok (.bipush 91, 2) := by decide +kernel
theorem dX5_value_19 : decode cX5_value 19 = .ok (.if_icmp .ne 9, 3) := by decide +kernel
theorem dX5_value_22 : decode cX5_value 22 = .ok (.aload_n 0, 1) := by decide +kernel
theorem dX5_value_23 : decode cX5_value 23 = .ok (.iconst 4, 1) := by decide +kernel
theorem dX5_value_24 : decode cX5_value 24 = .ok (.invokevirtual 158, 3) := by decide +kernel
theorem dX5_value_27 : decode cX5_value 27 = .ok (.ireturn, 1) := by decide +kernel
theorem dX5_value_28 : decode cX5_value 28 = .ok (.iload_n 1, 1) := by decide +kernel
theorem dX5_value_29 : decode cX5_value 29 = .ok (.bipush 123, 2) := by decide +kernel
theorem dX5_value_31 : decode cX5_value 31 = .ok (.if_icmp .ne 9, 3) := by decide +kernel
theorem dX5_value_34 : decode cX5_value 34 = .ok (.aload_n 0, 1) := by decide +kernel
theorem dX5_value_35 : decode cX5_value 35 = .ok (.iconst 5, 1) := by decide +kernel
theorem dX5_value_36 : decode cX5_value 36 = .ok (.invokevirtual 158, 3) := by decide +kernel
theorem dX5_value_39 : decode cX5_value 39 = .ok (.ireturn, 1) := by decide +kernel
theorem dX5_value_40 : decode cX5_value 40 = .ok (.iload_n 1, 1) := by decide +kernel
theorem dX5_value_41 : decode cX5_value 41 = .ok (.bipush 102, 2) := by decide +kernel
theorem dX5_value_43 : decode cX5_value 43 = .ok (.if_icmp .ne 12, 3) := by decide +kernel
theorem dX5_value_46 : decode cX5_value 46 = .ok (.aload_n 0, 1) := by decide +kernel
theorem dX5_value_47 : decode cX5_value 47 = .ok (.ldc 161, 2) := by decide +kernel
theorem dX5_value_49 : decode cX5_value 49 = .ok (.bipush 20, 2) := by decide +kernel
theorem dX5_value_51 : decode cX5_value 51 = .ok (.invokevirtual 163, 3) := by decide +kernel
theorem dX5_value_54 : decode cX5_value 54 = .ok (.ireturn, 1) := by decide +kernel
theorem dX5_value_55 : decode cX5_value 55 = .ok (.iload_n 1, 1) := by decide +kernel
theorem dX5_value_56 : decode cX5_value 56 = .ok (.bipush 116, 2) := by decide +kernel
theorem dX5_value_58 : decode cX5_value 58 = .ok (.if_icmp .ne 12, 3) := by decide +kernel
theorem dX5_value_61 : decode cX5_value 61 = .ok (.aload_n 0, 1) := by decide +kernel
theorem dX5_value_62 : decode cX5_value 62 = .ok (.ldc 167, 2) := by decide +kernel
theorem dX5_value_64 : decode cX5_value 64 = .ok (.bipush 21, 2) := by decide +kernel
theorem dX5_value_66 : decode cX5_value 66 = .ok (.invokevirtual 163, 3) := by decide +kernel
theorem dX5_value_69 : decode cX5_value 69 = .ok (.ireturn, 1) := by decide +kernel
theorem dX5_value_70 : decode cX5_value 70 = .ok (.iload_n 1, 1) := by decide +kernel
theorem dX5_value_71 : decode cX5_value 71 = .ok (.bipush 110, 2) := by decide +kernel
theorem dX5_value_73 : decode cX5_value 73 = .ok (.if_icmp .ne 12, 3) := by decide +kernel
theorem dX5_value_76 : decode cX5_value 76 = .ok (.aload_n 0, 1) := by decide +kernel
theorem dX5_value_77 : decode cX5_value 77 = .ok (.ldc 169, 2) := by decide +kernel
theorem dX5_value_79 : decode cX5_value 79 = .ok (.bipush 22, 2) := by decide +kernel
theorem dX5_value_81 : decode cX5_value 81 = .ok (.invokevirtual 163, 3) := by decide +kernel
theorem dX5_value_84 : decode cX5_value 84 = .ok (.ireturn, 1) := by decide +kernel
theorem dX5_value_85 : decode cX5_value 85 = .ok (.iload_n 1, 1) := by decide +kernel
theorem dX5_value_86 : decode cX5_value 86 = .ok (.bipush 45, 2) := by decide +kernel
theorem dX5_value_88 : decode cX5_value 88 = .ok (.if_icmp .eq 11, 3) := by decide +kernel
theorem dX5_value_91 : decode cX5_value 91 = .ok (.aload_n 0, 1) := by decide +kernel
theorem dX5_value_92 : decode cX5_value 92 = .ok (.iload_n 1, 1) := by decide +kernel
theorem dX5_value_93 : decode cX5_value 93 = .ok (.invokevirtual 94, 3) := by decide +kernel
theorem dX5_value_96 : decode cX5_value 96 = .ok (.ifCond .eq 10, 3) := by decide +kernel
theorem dX5_value_99 : decode cX5_value 99 = .ok (.aload_n 0, 1) := by decide +kernel
theorem dX5_value_100 : decode cX5_value 100 = .ok (.invokevirtual 171, 3) := by decide +kernel
theorem dX5_value_103 : decode cX5_value 103 = .ok (.goto 7, 3) := by decide +kernel
theorem dX5_value_106 : decode cX5_value 106 = .ok (.aload_n 0, 1) := by decide +kernel
theorem dX5_value_107 : decode cX5_value 107 = .ok (.invokevirtual 98, 3) := by decide +kernel
theorem dX5_value_110 : decode cX5_value 110 = .ok (.ireturn, 1) := by decide +kernel
theorem dX5_key_0 : decode cX5_key 0 = .ok (.aload_n 0, 1) := by decide +kernel
theorem dX5_key_1 : decode cX5_key 1 = .ok (.invokevirtual 86, 3) := by decide +kernel
theorem dX5_key_4 : decode cX5_key 4 = .ok (.bipush 34, 2) := by decide +kernel
theorem dX5_key_6 : decode cX5_key 6 = .ok (.if_icmp .eq 8, 3) := by decide +kernel
theorem dX5_key_9 : decode cX5_key 9 = .ok (.aload_n 0, 1) := by decide +kernel
theorem dX5_key_10 : decode cX5_key 10 = .ok (.invokevirtual 98, 3) := by decide +kernel
theorem dX5_key_13 : decode cX5_key 13 = .ok (.ireturn, 1) := by decide +kernel
theorem dX5_key_14 : decode cX5_key 14 = .ok (.aload_n 0, 1) := by decide +kernel
theorem dX5_key_15 : decode cX5_key 15 = .ok (.invokevirtual 155, 3) := by decide +kernel
theorem dX5_key_18 : decode cX5_key 18 = .ok (.ifCond .ne 5, 3) := by decide +kernel
theorem dX5_key_21 : decode cX5_key 21 = .ok (.iconst 0, 1) := by decide +kernel
theorem dX5_key_22 : decode cX5_key 22 = .ok (.ireturn, 1) := by decide +kernel
theorem dX5_key_23 : decode cX5_key 23 = .ok (.aload_n 0, 1) := by decide +kernel
theorem dX5_key_24 : decode cX5_key 24 = .ok (.invokevirtual 174, 3) := by decide +kernel
theorem dX5_key_27 : decode cX5_key 27 = .ok (.aload_n 0, 1) := by decide +kernel
theorem dX5_key_28 : decode cX5_key 28 = .ok (.invokevirtual 86, 3) := by decide +kernel
theorem dX5_key_31 : decode cX5_key 31 = .ok (.bipush 58, 2) := by decide +kernel
theorem dX5_key_33 : decode cX5_key 33 = .ok (.if_icmp .eq 8, 3) := by decide +kernel
theorem dX5_key_36 : decode cX5_key 36 = .ok (.aload_n 0, 1) := by decide +kernel
theorem dX5_key_37 : decode cX5_key 37 = .ok (.invokevirtual 98, 3) := by decide +kernel
theorem dX5_key_40 : decode cX5_key 40 = .ok (.ireturn, 1) := by decide +kernel
theorem dX5_key_41 : decode cX5_key 41 = .ok (.aload_n 0, 1) := by decide +kernel
theorem dX5_key_42 : decode cX5_key 42 = .ok (.dup, 1) := by decide +kernel
theorem dX5_key_43 : decode cX5_key 43 = .ok (.getfield 64, 3) := by decide +kernel
theorem dX5_key_46 : decode cX5_key 46 = .ok (.iconst 1, 1) := by decide +kernel
theorem dX5_key_47 : decode cX5_key 47 = .ok (.iadd, 1) := by decide +kernel
theorem dX5_key_48 : decode cX5_key 48 = .ok (.putfield 64, 3) := by decide +kernel
theorem dX5_key_51 : decode cX5_key 51 = .ok (.aload_n 0, 1) := by decide +kernel
theorem dX5_key_52 : decode cX5_key 52 = .ok (.invokevirtual 174, 3) := by decide +kernel
theorem dX5_key_55 : decode cX5_key 55 = .ok (.iconst 1, 1) := by decide +kernel
theorem dX5_key_56 : decode cX5_key 56 = .ok (.ireturn, 1) := by decide +kernel
theorem dX5_item_0 : decode cX5_item 0 = .ok (.aload_n 0, 1) := by decide +kernel
theorem dX5_item_1 : decode cX5_item 1 = .ok (.getfield 73, 3) := by decide +kernel
theorem dX5_item_4 : decode cX5_item 4 = .ok (.ifCond .le 23, 3) := by decide +kernel
theorem dX5_item_7 : decode cX5_item 7 = .ok (.aload_n 0, 1) := by decide +kernel
theorem dX5_item_8 : decode cX5_item 8 = .ok (.getfield 30, 3) := by decide +kernel
theorem dX5_item_11 : decode cX5_item 11 = .ok (.aload_n 0, 1) := by decide +kernel
theorem dX5_item_12 : decode cX5_item 12 = .ok (.getfield 40, 3) := by decide +kernel
theorem dX5_item_15 : decode cX5_item 15 = .ok (.aload_n 0, 1) := by decide +kernel
theorem dX5_item_16 : decode cX5_item 16 = .ok (.getfield 73, 3) := by decide +kernel
theorem dX5_item_19 : decode cX5_item 19 = .ok (.iconst 1, 1) := by decide +kernel
theorem dX5_item_20 : decode cX5_item 20 = .ok (.isub, 1) := by decide +kernel
theorem dX5_item_21 : decode cX5_item 21 = .ok (.iaload, 1) := by decide +kernel
theorem dX5_item_22 : decode cX5_item 22 = .ok (.dup2, 1) := by decide +kernel
theorem dX5_item_23 : decode cX5_item 23 = .ok (.laload, 1) := by decide +kernel
theorem dX5_item_24 : decode cX5_item 24 = .ok (.lconst 1, 1) := by decide +kernel
theorem dX5_item_25 : decode cX5_item 25 = .ok (.ladd, 1) := by decide +kernel
theorem dX5_item_26 : decode cX5_item 26 = .ok (.lastore, 1) := by decide +kernel
theorem dX5_item_27 : decode cX5_item 27 = .ok (.aload_n 0, 1) := by decide +kernel
theorem dX5_item_28 : decode cX5_item 28 = .ok (.invokevirtual 177, 3) := by decide +kernel
theorem dX5_item_31 : decode cX5_item 31 = .ok (.ifCond .eq 10, 3) := by decide +kernel
theorem dX5_item_34 : decode cX5_item 34 = .ok (.aload_n 0, 1) := by decide +kernel
theorem dX5_item_35 : decode cX5_item 35 = .ok (.invokevirtual 180, 3) := by decide +kernel
theorem dX5_item_38 : decode cX5_item 38 = .ok (.ifCond .eq 14, 3) := by decide +kernel
theorem dX5_item_41 : decode cX5_item 41 = .ok (.aload_n 0, 1) := by decide +kernel
theorem dX5_item_42 : decode cX5_item 42 = .ok (.invokevirtual 183, 3) := by decide +kernel
theorem dX5_item_45 : decode cX5_item 45 = .ok (.ifCond .eq 7, 3) := by decide +kernel
theorem dX5_item_48 : decode cX5_item 48 = .ok (.iconst 1, 1) := by decide +kernel
theorem dX5_item_49 : decode cX5_item 49 = .ok (.goto 4, 3) := by decide +kernel
theorem dX5_item_52 : decode cX5_item 52 = .ok (.iconst 0, 1) := by decide +kernel
theorem dX5_item_53 : decode cX5_item 53 = .ok (.ireturn, 1) := by decide +kernel
theorem dX5_isCloser_0 : decode cX5_isCloser 0 = .ok (.aload_n 0, 1) := by decide +kernel
theorem dX5_isCloser_1 : decode cX5_isCloser 1 = .ok (.invokevirtual 86, 3) := by decide +kernel
theorem dX5_isCloser_4 : decode cX5_isCloser 4 = .ok (.aload_n 0, 1) := by decide +kernel
theorem dX5_isCloser_5 : decode cX5_isCloser 5 = .ok (.invokevirtual 177, 3) := by decide +kernel
theorem dX5_isCloser_8 : decode cX5_isCloser 8 = .ok (.ifCond .eq 8, 3) := by decide +kernel
theorem dX5_isCloser_11 : decode cX5_isCloser 11 = .ok (.bipush 125, 2) := by decide +kernel
theorem dX5_isCloser_13 : decode cX5_isCloser 13 = .ok (.goto 5, 3) := by decide +kernel
theorem dX5_isCloser_16 : decode cX5_isCloser 16 = .ok (.bipush 93, 2) := by decide +kernel
theorem dX5_isCloser_18 : decode cX5_isCloser 18 = .ok (.if_icmp .ne 7, 3) := by decide +kernel
theorem dX5_isCloser_21 : decode cX5_isCloser 21 = .ok (.iconst 1, 1) := by decide +kernel
theorem dX5_isCloser_22 : decode cX5_isCloser 22 = .ok (.goto 4, 3) := by decide +kernel
theorem dX5_isCloser_25 : decode cX5_isCloser 25 = .ok (.iconst 0, 1) := by decide +kernel
theorem dX5_isCloser_26 : decode cX5_isCloser 26 = .ok (.ireturn, 1) := by decide +kernel
theorem dX5_goesOn_0 : decode cX5_goesOn 0 = .ok (.aload_n 0, 1) := by decide +kernel
theorem dX5_goesOn_1 : decode cX5_goesOn 1 = .ok (.invokevirtual 174, 3) := by decide +kernel
theorem dX5_goesOn_4 : decode cX5_goesOn 4 = .ok (.aload_n 0, 1) := by decide +kernel
theorem dX5_goesOn_5 : decode cX5_goesOn 5 = .ok (.getfield 73, 3) := by decide +kernel
theorem dX5_goesOn_8 : decode cX5_goesOn 8 = .ok (.ifCond .le 37, 3) := by decide +kernel
theorem dX5_goesOn_11 : decode cX5_goesOn 11 = .ok (.aload_n 0, 1) := by decide +kernel
theorem dX5_goesOn_12 : decode cX5_goesOn 12 = .ok (.invokevirtual 186, 3) := by decide +kernel
theorem dX5_goesOn_15 : decode cX5_goesOn 15 = .ok (.ifCond .eq 30, 3) := by decide +kernel
theorem dX5_goesOn_18 : decode cX5_goesOn 18 = .ok (.aload_n 0, 1) := by decide +kernel
theorem dX5_goesOn_19 : decode cX5_goesOn 19 = .ok (.dup, 1) := by decide +kernel
theorem dX5_goesOn_20 : decode cX5_goesOn 20 = .ok (.getfield 73, 3) := by decide +kernel
theorem dX5_goesOn_23 : decode cX5_goesOn 23 = .ok (.iconst 1, 1) := by decide +kernel
theorem dX5_goesOn_24 : decode cX5_goesOn 24 = .ok (.isub, 1) := by decide +kernel
theorem dX5_goesOn_25 : decode cX5_goesOn 25 = .ok (.putfield 73, 3) := by decide +kernel
theorem dX5_goesOn_28 : decode cX5_goesOn 28 = .ok (.aload_n 0, 1) := by decide +kernel
theorem dX5_goesOn_29 : decode cX5_goesOn 29 = .ok (.dup, 1) := by decide +kernel
theorem dX5_goesOn_30 : decode cX5_goesOn 30 = .ok (.getfield 64, 3) := by decide +kernel
theorem dX5_goesOn_33 : decode cX5_goesOn 33 = .ok (.iconst 1, 1) := by decide +kernel
theorem dX5_goesOn_34 : decode cX5_goesOn 34 = .ok (.iadd, 1) := by decide +kernel
theorem dX5_goesOn_35 : decode cX5_goesOn 35 = .ok (.putfield 64, 3) := by decide +kernel
theorem dX5_goesOn_38 : decode cX5_goesOn 38 = .ok (.aload_n 0, 1) := by decide +kernel
theorem dX5_goesOn_39 : decode cX5_goesOn 39 = .ok (.invokevirtual 174, 3) := by decide +kernel
theorem dX5_goesOn_42 : decode cX5_goesOn 42 = .ok (.goto (-38), 3) := by decide +kernel
theorem dX5_goesOn_45 : decode cX5_goesOn 45 = .ok (.aload_n 0, 1) := by decide +kernel
theorem dX5_goesOn_46 : decode cX5_goesOn 46 = .ok (.getfield 73, 3) := by decide +kernel
theorem dX5_goesOn_49 : decode cX5_goesOn 49 = .ok (.ifCond .ne 5, 3) := by decide +kernel
theorem dX5_goesOn_52 : decode cX5_goesOn 52 = .ok (.iconst 0, 1) := by decide +kernel
theorem dX5_goesOn_53 : decode cX5_goesOn 53 = .ok (.ireturn, 1) := by decide +kernel
theorem dX5_goesOn_54 : decode cX5_goesOn 54 = .ok (.aload_n 0, 1) := by decide +kernel
theorem dX5_goesOn_55 : decode cX5_goesOn 55 = .ok (.invokevirtual 86, 3) := by decide +kernel
theorem dX5_goesOn_58 : decode cX5_goesOn 58 = .ok (.bipush 44, 2) := by decide +kernel
theorem dX5_goesOn_60 : decode cX5_goesOn 60 = .ok (.if_icmp .eq 8, 3) := by decide +kernel
theorem dX5_goesOn_63 : decode cX5_goesOn 63 = .ok (.aload_n 0, 1) := by decide +kernel
theorem dX5_goesOn_64 : decode cX5_goesOn 64 = .ok (.invokevirtual 98, 3) := by decide +kernel
theorem dX5_goesOn_67 : decode cX5_goesOn 67 = .ok (.ireturn, 1) := by decide +kernel
theorem dX5_goesOn_68 : decode cX5_goesOn 68 = .ok (.aload_n 0, 1) := by decide +kernel
theorem dX5_goesOn_69 : decode cX5_goesOn 69 = .ok (.dup, 1) := by decide +kernel
theorem dX5_goesOn_70 : decode cX5_goesOn 70 = .ok (.getfield 64, 3) := by decide +kernel
theorem dX5_goesOn_73 : decode cX5_goesOn 73 = .ok (.iconst 1, 1) := by decide +kernel
theorem dX5_goesOn_74 : decode cX5_goesOn 74 = .ok (.iadd, 1) := by decide +kernel
theorem dX5_goesOn_75 : decode cX5_goesOn 75 = .ok (.putfield 64, 3) := by decide +kernel
theorem dX5_goesOn_78 : decode cX5_goesOn 78 = .ok (.aload_n 0, 1) := by decide +kernel
theorem dX5_goesOn_79 : decode cX5_goesOn 79 = .ok (.invokevirtual 174, 3) := by decide +kernel
theorem dX5_goesOn_82 : decode cX5_goesOn 82 = .ok (.iconst 1, 1) := by decide +kernel
theorem dX5_goesOn_83 : decode cX5_goesOn 83 = .ok (.ireturn, 1) := by decide +kernel
theorem dX5_readsJson_0 : decode cX5_readsJson 0 = .ok (.aload_n 0, 1) := by decide +kernel
theorem dX5_readsJson_1 : decode cX5_readsJson 1 = .ok (.invokevirtual 174, 3) := by decide +kernel
theorem dX5_readsJson_4 : decode cX5_readsJson 4 = .ok (.iconst 1, 1) := by decide +kernel
theorem dX5_readsJson_5 : decode cX5_readsJson 5 = .ok (.istore_n 1, 1) := by decide +kernel
theorem dX5_readsJson_6 : decode cX5_readsJson 6 = .ok (.iload_n 1, 1) := by decide +kernel
theorem dX5_readsJson_7 : decode cX5_readsJson 7 = .ok (.ifCond .eq 46, 3) := by decide +kernel
theorem dX5_readsJson_10 : decode cX5_readsJson 10 = .ok (.aload_n 0, 1) := by decide +kernel
theorem dX5_readsJson_11 : decode cX5_readsJson 11 = .ok (.getfield 73, 3) := by decide +kernel
theorem dX5_readsJson_14 : decode cX5_readsJson 14 = .ok (.istore_n 2, 1) := by decide +kernel
theorem dX5_readsJson_15 : decode cX5_readsJson 15 = .ok (.aload_n 0, 1) := by decide +kernel
theorem dX5_readsJson_16 : decode cX5_readsJson 16 = .ok (.invokevirtual 189, 3) := by decide +kernel
theorem dX5_readsJson_19 : decode cX5_readsJson 19 = .ok (.ifCond .ne 4, 3) := by decide +kernel
theorem dX5_readsJson_22 : decode cX5_readsJson 22 = .ok (.return_, 1) := by decide +kernel
theorem dX5_readsJson_23 : decode cX5_readsJson 23 = .ok (.aload_n 0, 1) := by decide +kernel
theorem dX5_readsJson_24 : decode cX5_readsJson 24 = .ok (.getfield 73, 3) := by decide +kernel
theorem dX5_readsJson_27 : decode cX5_readsJson 27 = .ok (.iload_n 2, 1) := by decide +kernel
theorem dX5_readsJson_28 : decode cX5_readsJson 28 = .ok (.if_icmp .le 17, 3) := by decide +kernel
theorem dX5_readsJson_31 : decode cX5_readsJson 31 = .ok (.aload_n 0, 1) := by decide +kernel
theorem dX5_readsJson_32 : decode cX5_readsJson 32 = .ok (.invokevirtual 174, 3) := by decide +kernel
theorem dX5_readsJson_35 : decode cX5_readsJson 35 = .ok (.aload_n 0, 1) := by decide +kernel
theorem dX5_readsJson_36 : decode cX5_readsJson 36 = .ok (.invokevirtual 186, 3) := by decide +kernel
theorem dX5_readsJson_39 : decode cX5_readsJson 39 = .ok (.ifCond .ne 6, 3) := by decide +kernel
theorem dX5_readsJson_42 : decode cX5_readsJson 42 = .ok (.goto (-36), 3) := by decide +kernel
theorem dX5_readsJson_45 : decode cX5_readsJson 45 = .ok (.aload_n 0, 1) := by decide +kernel
theorem dX5_readsJson_46 : decode cX5_readsJson 46 = .ok (.invokevirtual 192, 3) := by decide +kernel
theorem dX5_readsJson_49 : decode cX5_readsJson 49 = .ok (.istore_n 1, 1) := by decide +kernel
theorem dX5_readsJson_50 : decode cX5_readsJson 50 = .ok (.goto (-44), 3) := by decide +kernel
theorem dX5_readsJson_53 : decode cX5_readsJson 53 = .ok (.aload_n 0, 1) := by decide +kernel
theorem dX5_readsJson_54 : decode cX5_readsJson 54 = .ok (.getfield 61, 3) := by decide +kernel
theorem dX5_readsJson_57 : decode cX5_readsJson 57 = .ok (.ifCond .ne 19, 3) := by decide +kernel
theorem dX5_readsJson_60 : decode cX5_readsJson 60 = .ok (.aload_n 0, 1) := by decide +kernel
theorem dX5_readsJson_61 : decode cX5_readsJson 61 = .ok (.getfield 64, 3) := by decide +kernel
theorem dX5_readsJson_64 : decode cX5_readsJson 64 = .ok (.aload_n 0, 1) := by decide +kernel
theorem dX5_readsJson_65 : decode cX5_readsJson 65 = .ok (.getfield 55, 3) := by decide +kernel
theorem dX5_readsJson_68 : decode cX5_readsJson 68 = .ok (.if_icmp .ge 8, 3) := by decide +kernel
theorem dX5_readsJson_71 : decode cX5_readsJson 71 = .ok (.aload_n 0, 1) := by decide +kernel
theorem dX5_readsJson_72 : decode cX5_readsJson 72 = .ok (.invokevirtual 98, 3) := by decide +kernel
theorem dX5_readsJson_75 : decode cX5_readsJson 75 = .ok (.pop, 1) := by decide +kernel
theorem dX5_readsJson_76 : decode cX5_readsJson 76 = .ok (.return_, 1) := by decide +kernel
theorem dX5_head_0 : decode cX5_head 0 = .ok (.aload_n 0, 1) := by decide +kernel
theorem dX5_head_1 : decode cX5_head 1 = .ok (.getfield 64, 3) := by decide +kernel
theorem dX5_head_4 : decode cX5_head 4 = .ok (.istore_n 2, 1) := by decide +kernel
theorem dX5_head_5 : decode cX5_head 5 = .ok (.aload_n 0, 1) := by decide +kernel
theorem dX5_head_6 : decode cX5_head 6 = .ok (.getfield 7, 3) := by decide +kernel
theorem dX5_head_9 : decode cX5_head 9 = .ok (.aload_n 0, 1) := by decide +kernel
theorem dX5_head_10 : decode cX5_head 10 = .ok (.getfield 64, 3) := by decide +kernel
theorem dX5_head_13 : decode cX5_head 13 = .ok (.iaload, 1) := by decide +kernel
theorem dX5_head_14 : decode cX5_head 14 = .ok (.iconst 5, 1) := by decide +kernel
theorem dX5_head_15 : decode cX5_head 15 = .ok (.ishr, 1) := by decide +kernel
theorem dX5_head_16 : decode cX5_head 16 = .ok (.istore_n 3, 1) := by decide +kernel
theorem dX5_head_17 : decode cX5_head 17 = .ok (.aload_n 0, 1) := by decide +kernel
theorem dX5_head_18 : decode cX5_head 18 = .ok (.getfield 7, 3) := by decide +kernel
theorem dX5_head_21 : decode cX5_head 21 = .ok (.aload_n 0, 1) := by decide +kernel
theorem dX5_head_22 : decode cX5_head 22 = .ok (.getfield 64, 3) := by decide +kernel
theorem dX5_head_25 : decode cX5_head 25 = .ok (.iaload, 1) := by decide +kernel
theorem dX5_head_26 : decode cX5_head 26 = .ok (.bipush 31, 2) := by decide +kernel
theorem dX5_head_28 : decode cX5_head 28 = .ok (.iand, 1) := by decide +kernel
theorem dX5_head_29 : decode cX5_head 29 = .ok (.istore 4, 2) := by decide +kernel
theorem dX5_head_31 : decode cX5_head 31 = .ok (.iload 4, 2) := by decide +kernel
theorem dX5_head_33 : decode cX5_head 33 = .ok (.bipush 27, 2) := by decide +kernel
theorem dX5_head_35 : decode cX5_head 35 = .ok (.if_icmp .le 28, 3) := by decide +kernel
theorem dX5_head_38 : decode cX5_head 38 = .ok (.iload 4, 2) := by decide +kernel
theorem dX5_head_40 : decode cX5_head 40 = .ok (.bipush 31, 2) := by decide +kernel
theorem dX5_head_42 : decode cX5_head 42 = .ok (.if_icmp .lt 14, 3) := by decide +kernel
theorem dX5_head_45 : decode cX5_head 45 = .ok (.iload_n 3, 1) := by decide +kernel
theorem dX5_head_46 : decode cX5_head 46 = .ok (.iconst 2, 1) := by decide +kernel
theorem dX5_head_47 : decode cX5_head 47 = .ok (.if_icmp .lt 9, 3) := by decide +kernel
theorem dX5_head_50 : decode cX5_head 50 = .ok (.iload_n 3, 1) := by decide +kernel
theorem dX5_head_51 : decode cX5_head 51 = .ok (.bipush 7, 2) := by decide +kernel
theorem dX5_head_53 : decode cX5_head 53 = .ok (.if_icmp .ne 10, 3) := by decide +kernel
theorem dX5_head_56 : decode cX5_head 56 = .ok (.aload_n 0, 1) := by decide +kernel
theorem dX5_head_57 : decode cX5_head 57 = .ok (.iconst 1, 1) := by decide +kernel
theorem dX5_head_58 : decode cX5_head 58 = .ok (.iload_n 2, 1) := by decide +kernel
theorem dX5_head_59 : decode cX5_head 59 = .ok (.invokevirtual 90, 3) := by decide +kernel
theorem dX5_head_62 : decode cX5_head 62 = .ok (.ireturn, 1) := by decide +kernel
theorem dX5_head_63 : decode cX5_head 63 = .ok (.iload_n 3, 1) := by decide +kernel
theorem dX5_head_64 : decode cX5_head 64 = .ok (.iconst 2, 1) := by decide +kernel
theorem dX5_head_65 : decode cX5_head 65 = .ok (.if_icmp .eq 38, 3) := by decide +kernel
theorem dX5_head_68 : decode cX5_head 68 = .ok (.iload_n 3, 1) := by decide +kernel
theorem dX5_head_69 : decode cX5_head 69 = .ok (.bipush 6, 2) := by decide +kernel
theorem dX5_head_71 : decode cX5_head 71 = .ok (.if_icmp .eq 32, 3) := by decide +kernel
theorem dX5_head_74 : decode cX5_head 74 = .ok (.iload_n 3, 1) := by decide +kernel
theorem dX5_head_75 : decode cX5_head 75 = .ok (.bipush 7, 2) := by decide +kernel
theorem dX5_head_77 : decode cX5_head 77 = .ok (.if_icmp .ne 17, 3) := by decide +kernel
theorem dX5_head_80 : decode cX5_head 80 = .ok (.iload 4, 2) := by decide +kernel
theorem dX5_head_82 : decode cX5_head 82 = .ok (.bipush 20, 2) := by decide +kernel
theorem dX5_head_84 : decode cX5_head 84 = .ok (.if_icmp .lt 19, 3) := by decide +kernel
theorem dX5_head_87 : decode cX5_head 87 = .ok (.iload 4, 2) := by decide +kernel
theorem dX5_head_89 : decode cX5_head 89 = .ok (.bipush 22, 2) := by decide +kernel
theorem dX5_head_91 : decode cX5_head 91 = .ok (.if_icmp .gt 12, 3) := by decide +kernel
theorem dX5_head_94 : decode cX5_head 94 = .ok (.iload_n 1, 1) := by decide +kernel
theorem dX5_head_95 : decode cX5_head 95 = .ok (.ifCond .eq 15, 3) := by decide +kernel
theorem dX5_head_98 : decode cX5_head 98 = .ok (.iload_n 3, 1) := by decide +kernel
theorem dX5_head_99 : decode cX5_head 99 = .ok (.iconst 3, 1) := by decide +kernel
theorem dX5_head_100 : decode cX5_head 100 = .ok (.if_icmp .eq 10, 3) := by decide +kernel
theorem dX5_head_103 : decode cX5_head 103 = .ok (.aload_n 0, 1) := by decide +kernel
theorem dX5_head_104 : decode cX5_head 104 = .ok (.iconst 2, 1) := by decide +kernel
theorem dX5_head_105 : decode cX5_head 105 = .ok (.iload_n 2, 1) := by decide +kernel
theorem dX5_head_106 : decode cX5_head 106 = .ok (.invokevirtual 90, 3) := by decide +kernel
theorem dX5_head_109 : decode cX5_head 109 = .ok (.ireturn, 1) := by decide +kernel
theorem dX5_head_110 : decode cX5_head 110 = .ok (.iload 4, 2) := by decide +kernel
theorem dX5_head_112 : decode cX5_head 112 = .ok (.bipush 31, 2) := by decide +kernel
theorem dX5_head_114 : decode cX5_head 114 = .ok (.if_icmp .ne 11, 3) := by decide +kernel
theorem dX5_head_117 : decode cX5_head 117 = .ok (.aload_n 0, 1) := by decide +kernel
theorem dX5_head_118 : decode cX5_head 118 = .ok (.bipush 6, 2) := by decide +kernel
theorem dX5_head_120 : decode cX5_head 120 = .ok (.iload_n 2, 1) := by decide +kernel
theorem dX5_head_121 : decode cX5_head 121 = .ok (.invokevirtual 90, 3) := by decide +kernel
theorem dX5_head_124 : decode cX5_head 124 = .ok (.ireturn, 1) := by decide +kernel
theorem dX5_head_125 : decode cX5_head 125 = .ok (.iload 4, 2) := by decide +kernel
theorem dX5_head_127 : decode cX5_head 127 = .ok (.bipush 24, 2) := by decide +kernel
theorem dX5_head_129 : decode cX5_head 129 = .ok (.if_icmp .ge 7, 3) := by decide +kernel
theorem dX5_head_132 : decode cX5_head 132 = .ok (.iconst 0, 1) := by decide +kernel
theorem dX5_head_133 : decode cX5_head 133 = .ok (.goto 10, 3) := by decide +kernel
theorem dX5_head_136 : decode cX5_head 136 = .ok (.iconst 1, 1) := by decide +kernel
theorem dX5_head_137 : decode cX5_head 137 = .ok (.iload 4, 2) := by decide +kernel
theorem dX5_head_139 : decode cX5_head 139 = .ok (.bipush 24, 2) := by decide +kernel
theorem dX5_head_141 : decode cX5_head 141 = .ok (.isub, 1) := by decide +kernel
theorem dX5_head_142 : decode cX5_head 142 = .ok (.ishl, 1) := by decide +kernel
theorem dX5_head_143 : decode cX5_head 143 = .ok (.istore 5, 2) := by decide +kernel
theorem dX5_head_145 : decode cX5_head 145 = .ok (.aload_n 0, 1) := by decide +kernel
theorem dX5_head_146 : decode cX5_head 146 = .ok (.getfield 55, 3) := by decide +kernel
theorem dX5_head_149 : decode cX5_head 149 = .ok (.aload_n 0, 1) := by decide +kernel
theorem dX5_head_150 : decode cX5_head 150 = .ok (.getfield 64, 3) := by decide +kernel
theorem dX5_head_153 : decode cX5_head 153 = .ok (.isub, 1) := by decide +kernel
theorem dX5_head_154 : decode cX5_head 154 = .ok (.iconst 1, 1) := by decide +kernel
theorem dX5_head_155 : decode cX5_head 155 = .ok (.isub, 1) := by decide +kernel
theorem dX5_head_156 : decode cX5_head 156 = .ok (.iload 5, 2) := by decide +kernel
theorem dX5_head_158 : decode cX5_head 158 = .ok (.if_icmp .ge 13, 3) := by decide +kernel
theorem dX5_head_161 : decode cX5_head 161 = .ok (.aload_n 0, 1) := by decide +kernel
theorem dX5_head_162 : decode cX5_head 162 = .ok (.iconst 1, 1) := by decide +kernel
theorem dX5_head_163 : decode cX5_head 163 = .ok (.aload_n 0, 1) := by decide +kernel
theorem dX5_head_164 : decode cX5_head 164 = .ok (.getfield 55, 3) := by decide +kernel
theorem dX5_head_167 : decode cX5_head 167 = .ok (.invokevirtual 90, 3) := by decide +kernel
theorem dX5_head_170 : decode cX5_head 170 = .ok (.ireturn, 1) := by decide +kernel
theorem dX5_head_171 : decode cX5_head 171 = .ok (.iload 4, 2) := by decide +kernel
theorem dX5_head_173 : decode cX5_head 173 = .ok (.i2l, 1) := by decide +kernel
theorem dX5_head_174 : decode cX5_head 174 = .ok (.lstore 6, 2) := by decide +kernel
theorem dX5_head_176 : decode cX5_head 176 = .ok (.iload 5, 2) := by decide +kernel
theorem dX5_head_178 : decode cX5_head 178 = .ok (.ifCond .le 99, 3) := by decide +kernel
theorem dX5_head_181 : decode cX5_head 181 = .ok (.lconst 0, 1) := by decide +kernel
theorem dX5_head_182 : decode cX5_head 182 = .ok (.lstore 6, 2) := by decide +kernel
theorem dX5_head_184 : decode cX5_head 184 = .ok (.iconst 1, 1) := by decide +kernel
theorem dX5_head_185 : decode cX5_head 185 = .ok (.istore 8, 2) := by decide +kernel
theorem dX5_head_187 : decode cX5_head 187 = .ok (.iload 8, 2) := by decide +kernel
theorem dX5_head_189 : decode cX5_head 189 = .ok (.iload 5, 2) := by decide +kernel
theorem dX5_head_191 : decode cX5_head 191 = .ok (.if_icmp .gt 30, 3) := by decide +kernel
theorem dX5_head_194 : decode cX5_head 194 = .ok (.lload 6, 2) := by decide +kernel
theorem dX5_head_196 : decode cX5_head 196 = .ok (.bipush 8, 2) := by decide +kernel
theorem dX5_head_198 : decode cX5_head 198 = .ok (.lshl, 1) := by decide +kernel
theorem dX5_head_199 : decode cX5_head 199 = .ok (.aload_n 0, 1) := by decide +kernel
theorem dX5_head_200 : decode cX5_head 200 = .ok (.getfield 7, 3) := by decide +kernel
theorem dX5_head_203 : decode cX5_head 203 = .ok (.aload_n 0, 1) := by decide +kernel
theorem dX5_head_204 : decode cX5_head 204 = .ok (.getfield 64, 3) := by decide +kernel
theorem dX5_head_207 : decode cX5_head 207 = .ok (.iload 8, 2) := by decide +kernel
theorem dX5_head_209 : decode cX5_head 209 = .ok (.iadd, 1) := by decide +kernel
theorem dX5_head_210 : decode cX5_head 210 = .ok (.iaload, 1) := by decide +kernel
theorem dX5_head_211 : decode cX5_head 211 = .ok (.i2l, 1) := by decide +kernel
theorem dX5_head_212 : decode cX5_head 212 = .ok (.lor, 1) := by decide +kernel
theorem dX5_head_213 : decode cX5_head 213 = .ok (.lstore 6, 2) := by decide +kernel
theorem dX5_head_215 : decode cX5_head 215 = .ok (.iinc 8 1, 3) := by decide +kernel
theorem dX5_head_218 : decode cX5_head 218 = .ok (.goto (-31), 3) := by decide +kernel
theorem dX5_head_221 : decode cX5_head 221 = .ok (.iload 5, 2) := by decide +kernel
theorem dX5_head_223 : decode cX5_head 223 = .ok (.iconst 1, 1) := by decide +kernel
theorem dX5_head_224 : decode cX5_head 224 = .ok (.if_icmp .ne 9, 3) := by decide +kernel
theorem dX5_head_227 : decode cX5_head 227 = .ok (.ldc2_w 195, 3) := by decide +kernel
theorem dX5_head_230 : decode cX5_head 230 = .ok (.goto 9, 3) := by decide +kernel
theorem dX5_head_233 : decode cX5_head 233 = .ok (.lconst 1, 1) := by decide +kernel
theorem dX5_head_234 : decode cX5_head 234 = .ok (.iconst 4, 1) := by decide +kernel
theorem dX5_head_235 : decode cX5_head 235 = .ok (.iload 5, 2) := by decide +kernel
theorem dX5_head_237 : decode cX5_head 237 = .ok (.imul, 1) := by decide +kernel
theorem dX5_head_238 : decode cX5_head 238 = .ok (.lshl, 1) := by decide +kernel
theorem dX5_head_239 : decode cX5_head 239 = .ok (.lstore 8, 2) := by decide +kernel
theorem dX5_head_241 : decode cX5_head 241 = .ok (.iload 5, 2) := by decide +kernel
theorem dX5_head_243 : decode cX5_head 243 = .ok (.bipush 8, 2) := by decide +kernel
theorem dX5_head_245 : decode cX5_head 245 = .ok (.if_icmp .ge 14, 3) := by decide +kernel
theorem dX5_head_248 : decode cX5_head 248 = .ok (.lload 6, 2) := by decide +kernel
theorem dX5_head_250 : decode cX5_head 250 = .ok (.lload 8, 2) := by decide +kernel
theorem dX5_head_252 : decode cX5_head 252 = .ok (.lcmp, 1) := by decide +kernel
theorem dX5_head_253 : decode cX5_head 253 = .ok (.ifCond .ge 24, 3) := by decide +kernel
theorem dX5_head_256 : decode cX5_head 256 = .ok (.goto 13, 3) := by decide +kernel
theorem dX5_head_259 : decode cX5_head 259 = .ok (.lload 6, 2) := by decide +kernel
theorem dX5_head_261 : decode cX5_head 261 = .ok (.bipush 32, 2) := by decide +kernel
theorem dX5_head_263 : decode cX5_head 263 = .ok (.lushr, 1) := by decide +kernel
theorem dX5_head_264 : decode cX5_head 264 = .ok (.lconst 0, 1) := by decide +kernel
theorem dX5_head_265 : decode cX5_head 265 = .ok (.lcmp, 1) := by decide +kernel
theorem dX5_head_266 : decode cX5_head 266 = .ok (.ifCond .ne 11, 3) := by decide +kernel
theorem dX5_head_269 : decode cX5_head 269 = .ok (.aload_n 0, 1) := by decide +kernel
theorem dX5_head_270 : decode cX5_head 270 = .ok (.bipush 6, 2) := by decide +kernel
theorem dX5_head_272 : decode cX5_head 272 = .ok (.iload_n 2, 1) := by decide +kernel
theorem dX5_head_273 : decode cX5_head 273 = .ok (.invokevirtual 90, 3) := by decide +kernel
theorem dX5_head_276 : decode cX5_head 276 = .ok (.ireturn, 1) := by decide +kernel
theorem dX5_head_277 : decode cX5_head 277 = .ok (.aload_n 0, 1) := by decide +kernel
theorem dX5_head_278 : decode cX5_head 278 = .ok (.dup, 1) := by decide +kernel
theorem dX5_head_279 : decode cX5_head 279 = .ok (.getfield 64, 3) := by decide +kernel
theorem dX5_head_282 : decode cX5_head 282 = .ok (.iload 5, 2) := by decide +kernel
theorem dX5_head_284 : decode cX5_head 284 = .ok (.iconst 1, 1) := by decide +kernel
theorem dX5_head_285 : decode cX5_head 285 = .ok (.iadd, 1) := by decide +kernel
theorem dX5_head_286 : decode cX5_head 286 = .ok (.iadd, 1) := by decide +kernel
theorem dX5_head_287 : decode cX5_head 287 = .ok (.putfield 64, 3) := by decide +kernel
theorem dX5_head_290 : decode cX5_head 290 = .ok (.iload_n 3, 1) := by decide +kernel
theorem dX5_head_291 : decode cX5_head 291 = .ok (.iconst 4, 1) := by decide +kernel
theorem dX5_head_292 : decode cX5_head 292 = .ok (.if_icmp .eq 8, 3) := by decide +kernel
theorem dX5_head_295 : decode cX5_head 295 = .ok (.iload_n 3, 1) := by decide +kernel
theorem dX5_head_296 : decode cX5_head 296 = .ok (.iconst 5, 1) := by decide +kernel
theorem dX5_head_297 : decode cX5_head 297 = .ok (.if_icmp .ne 21, 3) := by decide +kernel
theorem dX5_head_300 : decode cX5_head 300 = .ok (.aload_n 0, 1) := by decide +kernel
theorem dX5_head_301 : decode cX5_head 301 = .ok (.getfield 73, 3) := by decide +kernel
theorem dX5_head_304 : decode cX5_head 304 = .ok (.aload_n 0, 1) := by decide +kernel
theorem dX5_head_305 : decode cX5_head 305 = .ok (.getfield 13, 3) := by decide +kernel
theorem dX5_head_308 : decode cX5_head 308 = .ok (.if_icmp .ne 10, 3) := by decide +kernel
theorem dX5_head_311 : decode cX5_head 311 = .ok (.aload_n 0, 1) := by decide +kernel
theorem dX5_head_312 : decode cX5_head 312 = .ok (.iconst 4, 1) := by decide +kernel
theorem dX5_head_313 : decode cX5_head 313 = .ok (.iload_n 2, 1) := by decide +kernel
theorem dX5_head_314 : decode cX5_head 314 = .ok (.invokevirtual 90, 3) := by decide +kernel
theorem dX5_head_317 : decode cX5_head 317 = .ok (.ireturn, 1) := by decide +kernel
theorem dX5_head_318 : decode cX5_head 318 = .ok (.aload_n 0, 1) := by decide +kernel
theorem dX5_head_319 : decode cX5_head 319 = .ok (.iload_n 3, 1) := by decide +kernel
theorem dX5_head_320 : decode cX5_head 320 = .ok (.lload 6, 2) := by decide +kernel
theorem dX5_head_322 : decode cX5_head 322 = .ok (.invokevirtual 125, 3) := by decide +kernel
theorem dX5_head_325 : decode cX5_head 325 = .ok (.pop, 1) := by decide +kernel
theorem dX5_head_326 : decode cX5_head 326 = .ok (.iload_n 3, 1) := by decide +kernel
theorem dX5_head_327 : decode cX5_head 327 = .ok (.iconst 3, 1) := by decide +kernel
theorem dX5_head_328 : decode cX5_head 328 = .ok (.if_icmp .ne 12, 3) := by decide +kernel
theorem dX5_head_331 : decode cX5_head 331 = .ok (.aload_n 0, 1) := by decide +kernel
theorem dX5_head_332 : decode cX5_head 332 = .ok (.lload 6, 2) := by decide +kernel
theorem dX5_head_334 : decode cX5_head 334 = .ok (.invokevirtual 197, 3) := by decide +kernel
theorem dX5_head_337 : decode cX5_head 337 = .ok (.ifCond .eq 7, 3) := by decide +kernel
theorem dX5_head_340 : decode cX5_head 340 = .ok (.iconst 1, 1) := by decide +kernel
theorem dX5_head_341 : decode cX5_head 341 = .ok (.goto 4, 3) := by decide +kernel
theorem dX5_head_344 : decode cX5_head 344 = .ok (.iconst 0, 1) := by decide +kernel
theorem dX5_head_345 : decode cX5_head 345 = .ok (.ireturn, 1) := by decide +kernel
theorem dX5_text_0 : decode cX5_text 0 = .ok (.lload_n 1, 1) := by decide +kernel
theorem dX5_text_1 : decode cX5_text 1 = .ok (.lconst 0, 1) := by decide +kernel
theorem dX5_text_2 : decode cX5_text 2 = .ok (.lcmp, 1) := by decide +kernel
theorem dX5_text_3 : decode cX5_text 3 = .ok (.ifCond .lt 18, 3) := by decide +kernel
theorem dX5_text_6 : decode cX5_text 6 = .ok (.lload_n 1, 1) := by decide +kernel
theorem dX5_text_7 : decode cX5_text 7 = .ok (.aload_n 0, 1) := by decide +kernel
theorem dX5_text_8 : decode cX5_text 8 = .ok (.getfield 55, 3) := by decide +kernel
theorem dX5_text_11 : decode cX5_text 11 = .ok (.aload_n 0, 1) := by decide +kernel
theorem dX5_text_12 : decode cX5_text 12 = .ok (.getfield 64, 3) := by decide +kernel
theorem dX5_text_15 : decode cX5_text 15 = .ok (.isub, 1) := by decide +kernel
theorem dX5_text_16 : decode cX5_text 16 = .ok (.i2l, 1) := by decide +kernel
theorem dX5_text_17 : decode cX5_text 17 = .ok (.lcmp, 1) := by decide +kernel
theorem dX5_text_18 : decode cX5_text 18 = .ok (.ifCond .le 13, 3) := by decide +kernel
theorem dX5_text_21 : decode cX5_text 21 = .ok (.aload_n 0, 1) := by decide +kernel
theorem dX5_text_22 : decode cX5_text 22 = .ok (.iconst 1, 1) := by decide +kernel
theorem dX5_text_23 : decode cX5_text 23 = .ok (.aload_n 0, 1) := by decide +kernel
theorem dX5_text_24 : decode cX5_text 24 = .ok (.getfield 55, 3) := by decide +kernel
theorem dX5_text_27 : decode cX5_text 27 = .ok (.invokevirtual 90, 3) := by decide +kernel
theorem dX5_text_30 : decode cX5_text 30 = .ok (.ireturn, 1) := by decide +kernel
theorem dX5_text_31 : decode cX5_text 31 = .ok (.aload_n 0, 1) := by decide +kernel
theorem dX5_text_32 : decode cX5_text 32 = .ok (.getfield 64, 3) := by decide +kernel
theorem dX5_text_35 : decode cX5_text 35 = .ok (.lload_n 1, 1) := by decide +kernel
theorem dX5_text_36 : decode cX5_text 36 = .ok (.l2i, 1) := by decide +kernel
theorem dX5_text_37 : decode cX5_text 37 = .ok (.iadd, 1) := by decide +kernel
theorem dX5_text_38 : decode cX5_text 38 = .ok (.istore_n 3, 1) := by decide +kernel
theorem dX5_text_39 : decode cX5_text 39 = .ok (.aload_n 0, 1) := by decide +kernel
theorem dX5_text_40 : decode cX5_text 40 = .ok (.getfield 64, 3) := by decide +kernel
theorem dX5_text_43 : decode cX5_text 43 = .ok (.iload_n 3, 1) := by decide +kernel
theorem dX5_text_44 : decode cX5_text 44 = .ok (.if_icmp .ge 75, 3) := by decide +kernel
theorem dX5_text_47 : decode cX5_text 47 = .ok (.aload_n 0, 1) := by decide +kernel
theorem dX5_text_48 : decode cX5_text 48 = .ok (.aload_n 0, 1) := by decide +kernel
theorem dX5_text_49 : decode cX5_text 49 = .ok (.getfield 64, 3) := by decide +kernel
theorem dX5_text_52 : decode cX5_text 52 = .ok (.iload_n 3, 1) := by decide +kernel
theorem dX5_text_53 : decode cX5_text 53 = .ok (.invokevirtual 149, 3) := by decide +kernel
theorem dX5_text_56 : decode cX5_text 56 = .ok (.istore 4, 2) := by decide +kernel
theorem dX5_text_58 : decode cX5_text 58 = .ok (.iload 4, 2) := by decide +kernel
theorem dX5_text_60 : decode cX5_text 60 = .ok (.ifCond .ne 13, 3) := by decide +kernel
theorem dX5_text_63 : decode cX5_text 63 = .ok (.aload_n 0, 1) := by decide +kernel
theorem dX5_text_64 : decode cX5_text 64 = .ok (.iconst 3, 1) := by decide +kernel
theorem dX5_text_65 : decode cX5_text 65 = .ok (.aload_n 0, 1) := by decide +kernel
theorem dX5_text_66 : decode cX5_text 66 = .ok (.getfield 64, 3) := by decide +kernel
theorem dX5_text_69 : decode cX5_text 69 = .ok (.invokevirtual 90, 3) := by decide +kernel
theorem dX5_text_72 : decode cX5_text 72 = .ok (.ireturn, 1) := by decide +kernel
theorem dX5_text_73 : decode cX5_text 73 = .ok (.iconst 0, 1) := by decide +kernel
theorem dX5_text_74 : decode cX5_text 74 = .ok (.istore 5, 2) := by decide +kernel
theorem dX5_text_76 : decode cX5_text 76 = .ok (.iload 5, 2) := by decide +kernel
theorem dX5_text_78 : decode cX5_text 78 = .ok (.iload 4, 2) := by decide +kernel
theorem dX5_text_80 : decode cX5_text 80 = .ok (.if_icmp .ge 25, 3) := by decide +kernel
theorem dX5_text_83 : decode cX5_text 83 = .ok (.aload_n 0, 1) := by decide +kernel
end
section
theorem dX5_text_84 : decode cX5_text 84 = .ok (.aload_n 0, 1) := by decide +kernel
theorem dX5_text_85 : decode cX5_text 85 = .ok (.getfield 7, 3) := by decide +kernel
theorem dX5_text_88 : decode cX5_text 88 = .ok (.aload_n 0, 1) := by decide +kernel
theorem dX5_text_89 : decode cX5_text 89 = .ok (.getfield 64, 3) := by decide +kernel
theorem dX5_text_92 : decode cX5_text 92 = .ok (.iload 5, 2) := by decide +kernel
theorem dX5_text_94 : decode cX5_text 94 = .ok (.iadd, 1) := by decide +kernel
theorem dX5_text_95 : decode cX5_text 95 = .ok (.iaload, 1) := by decide +kernel
theorem dX5_text_96 : decode cX5_text 96 = .ok (.invokevirtual 80, 3) := by decide +kernel
theorem dX5_text_99 : decode cX5_text 99 = .ok (.iinc 5 1, 3) := by decide +kernel
theorem dX5_text_102 : decode cX5_text 102 = .ok (.goto (-26), 3) := by decide +kernel
theorem dX5_text_105 : decode cX5_text 105 = .ok (.aload_n 0, 1) := by decide +kernel
theorem dX5_text_106 : decode cX5_text 106 = .ok (.dup, 1) := by decide +kernel
theorem dX5_text_107 : decode cX5_text 107 = .ok (.getfield 64, 3) := by decide +kernel
theorem dX5_text_110 : decode cX5_text 110 = .ok (.iload 4, 2) := by decide +kernel
theorem dX5_text_112 : decode cX5_text 112 = .ok (.iadd, 1) := by decide +kernel
theorem dX5_text_113 : decode cX5_text 113 = .ok (.putfield 64, 3) := by decide +kernel
theorem dX5_text_116 : decode cX5_text 116 = .ok (.goto (-77), 3) := by decide +kernel
theorem dX5_text_119 : decode cX5_text 119 = .ok (.iconst 1, 1) := by decide +kernel
theorem dX5_text_120 : decode cX5_text 120 = .ok (.ireturn, 1) := by decide +kernel
theorem dX5_isKey_0 : decode cX5_isKey 0 = .ok (.aload_n 0, 1) := by decide +kernel
theorem dX5_isKey_1 : decode cX5_isKey 1 = .ok (.invokevirtual 177, 3) := by decide +kernel
theorem dX5_isKey_4 : decode cX5_isKey 4 = .ok (.ifCond .eq 25, 3) := by decide +kernel
theorem dX5_isKey_7 : decode cX5_isKey 7 = .ok (.aload_n 0, 1) := by decide +kernel
theorem dX5_isKey_8 : decode cX5_isKey 8 = .ok (.getfield 43, 3) := by decide +kernel
theorem dX5_isKey_11 : decode cX5_isKey 11 = .ok (.aload_n 0, 1) := by decide +kernel
theorem dX5_isKey_12 : decode cX5_isKey 12 = .ok (.getfield 73, 3) := by decide +kernel
theorem dX5_isKey_15 : decode cX5_isKey 15 = .ok (.iconst 1, 1) := by decide +kernel
theorem dX5_isKey_16 : decode cX5_isKey 16 = .ok (.isub, 1) := by decide +kernel
theorem dX5_isKey_17 : decode cX5_isKey 17 = .ok (.laload, 1) := by decide +kernel
theorem dX5_isKey_18 : decode cX5_isKey 18 = .ok (.lconst 1, 1) := by decide +kernel
theorem dX5_isKey_19 : decode cX5_isKey 19 = .ok (.land, 1) := by decide +kernel
theorem dX5_isKey_20 : decode cX5_isKey 20 = .ok (.lconst 0, 1) := by decide +kernel
theorem dX5_isKey_21 : decode cX5_isKey 21 = .ok (.lcmp, 1) := by decide +kernel
theorem dX5_isKey_22 : decode cX5_isKey 22 = .ok (.ifCond .ne 7, 3) := by decide +kernel
theorem dX5_isKey_25 : decode cX5_isKey 25 = .ok (.iconst 1, 1) := by decide +kernel
theorem dX5_isKey_26 : decode cX5_isKey 26 = .ok (.goto 4, 3) := by decide +kernel
theorem dX5_isKey_29 : decode cX5_isKey 29 = .ok (.iconst 0, 1) := by decide +kernel
theorem dX5_isKey_30 : decode cX5_isKey 30 = .ok (.ireturn, 1) := by decide +kernel
theorem dX5_readsCbor_0 : decode cX5_readsCbor 0 = .ok (.iconst 1, 1) := by decide +kernel
theorem dX5_readsCbor_1 : decode cX5_readsCbor 1 = .ok (.istore_n 1, 1) := by decide +kernel
theorem dX5_readsCbor_2 : decode cX5_readsCbor 2 = .ok (.iload_n 1, 1) := by decide +kernel
theorem dX5_readsCbor_3 : decode cX5_readsCbor 3 = .ok (.ifCond .eq 234, 3) := by decide +kernel
theorem dX5_readsCbor_6 : decode cX5_readsCbor 6 = .ok (.aload_n 0, 1) := by decide +kernel
theorem dX5_readsCbor_7 : decode cX5_readsCbor 7 = .ok (.getfield 64, 3) := by decide +kernel
theorem dX5_readsCbor_10 : decode cX5_readsCbor 10 = .ok (.aload_n 0, 1) := by decide +kernel
theorem dX5_readsCbor_11 : decode cX5_readsCbor 11 = .ok (.getfield 55, 3) := by decide +kernel
theorem dX5_readsCbor_14 : decode cX5_readsCbor 14 = .ok (.if_icmp .lt 14, 3) := by decide +kernel
theorem dX5_readsCbor_17 : decode cX5_readsCbor 17 = .ok (.aload_n 0, 1) := by decide +kernel
theorem dX5_readsCbor_18 : decode cX5_readsCbor 18 = .ok (.iconst 1, 1) := by decide +kernel
theorem dX5_readsCbor_19 : decode cX5_readsCbor 19 = .ok (.aload_n 0, 1) := by decide +kernel
theorem dX5_readsCbor_20 : decode cX5_readsCbor 20 = .ok (.getfield 55, 3) := by decide +kernel
theorem dX5_readsCbor_23 : decode cX5_readsCbor 23 = .ok (.invokevirtual 90, 3) := by decide +kernel
theorem dX5_readsCbor_26 : decode cX5_readsCbor 26 = .ok (.pop, 1) := by decide +kernel
theorem dX5_readsCbor_27 : decode cX5_readsCbor 27 = .ok (.return_, 1) := by decide +kernel
theorem dX5_readsCbor_28 : decode cX5_readsCbor 28 = .ok (.aload_n 0, 1) := by decide +kernel
theorem dX5_readsCbor_29 : decode cX5_readsCbor 29 = .ok (.aload_n 0, 1) := by decide +kernel
theorem dX5_readsCbor_30 : decode cX5_readsCbor 30 = .ok (.invokevirtual 201, 3) := by decide +kernel
theorem dX5_readsCbor_33 : decode cX5_readsCbor 33 = .ok (.invokevirtual 204, 3) := by decide +kernel
theorem dX5_readsCbor_36 : decode cX5_readsCbor 36 = .ok (.ifCond .ne 4, 3) := by decide +kernel
theorem dX5_readsCbor_39 : decode cX5_readsCbor 39 = .ok (.return_, 1) := by decide +kernel
theorem dX5_readsCbor_40 : decode cX5_readsCbor 40 = .ok (.aload_n 0, 1) := by decide +kernel
theorem dX5_readsCbor_41 : decode cX5_readsCbor 41 = .ok (.getfield 67, 3) := by decide +kernel
theorem dX5_readsCbor_44 : decode cX5_readsCbor 44 = .ok (.iconst 1, 1) := by decide +kernel
theorem dX5_readsCbor_45 : decode cX5_readsCbor 45 = .ok (.isub, 1) := by decide +kernel
theorem dX5_readsCbor_46 : decode cX5_readsCbor 46 = .ok (.istore_n 2, 1) := by decide +kernel
theorem dX5_readsCbor_47 : decode cX5_readsCbor 47 = .ok (.aload_n 0, 1) := by decide +kernel
theorem dX5_readsCbor_48 : decode cX5_readsCbor 48 = .ok (.getfield 73, 3) := by decide +kernel
theorem dX5_readsCbor_51 : decode cX5_readsCbor 51 = .ok (.ifCond .le 18, 3) := by decide +kernel
theorem dX5_readsCbor_54 : decode cX5_readsCbor 54 = .ok (.aload_n 0, 1) := by decide +kernel
theorem dX5_readsCbor_55 : decode cX5_readsCbor 55 = .ok (.getfield 43, 3) := by decide +kernel
theorem dX5_readsCbor_58 : decode cX5_readsCbor 58 = .ok (.aload_n 0, 1) := by decide +kernel
theorem dX5_readsCbor_59 : decode cX5_readsCbor 59 = .ok (.getfield 73, 3) := by decide +kernel
theorem dX5_readsCbor_62 : decode cX5_readsCbor 62 = .ok (.iconst 1, 1) := by decide +kernel
theorem dX5_readsCbor_63 : decode cX5_readsCbor 63 = .ok (.isub, 1) := by decide +kernel
theorem dX5_readsCbor_64 : decode cX5_readsCbor 64 = .ok (.dup2, 1) := by decide +kernel
theorem dX5_readsCbor_65 : decode cX5_readsCbor 65 = .ok (.laload, 1) := by decide +kernel
theorem dX5_readsCbor_66 : decode cX5_readsCbor 66 = .ok (.lconst 1, 1) := by decide +kernel
theorem dX5_readsCbor_67 : decode cX5_readsCbor 67 = .ok (.lsub, 1) := by decide +kernel
theorem dX5_readsCbor_68 : decode cX5_readsCbor 68 = .ok (.lastore, 1) := by decide +kernel
theorem dX5_readsCbor_69 : decode cX5_readsCbor 69 = .ok (.aload_n 0, 1) := by decide +kernel
theorem dX5_readsCbor_70 : decode cX5_readsCbor 70 = .ok (.getfield 27, 3) := by decide +kernel
theorem dX5_readsCbor_73 : decode cX5_readsCbor 73 = .ok (.iload_n 2, 1) := by decide +kernel
theorem dX5_readsCbor_74 : decode cX5_readsCbor 74 = .ok (.iaload, 1) := by decide +kernel
theorem dX5_readsCbor_75 : decode cX5_readsCbor 75 = .ok (.iconst 4, 1) := by decide +kernel
theorem dX5_readsCbor_76 : decode cX5_readsCbor 76 = .ok (.if_icmp .eq 13, 3) := by decide +kernel
theorem dX5_readsCbor_79 : decode cX5_readsCbor 79 = .ok (.aload_n 0, 1) := by decide +kernel
theorem dX5_readsCbor_80 : decode cX5_readsCbor 80 = .ok (.getfield 27, 3) := by decide +kernel
theorem dX5_readsCbor_83 : decode cX5_readsCbor 83 = .ok (.iload_n 2, 1) := by decide +kernel
theorem dX5_readsCbor_84 : decode cX5_readsCbor 84 = .ok (.iaload, 1) := by decide +kernel
theorem dX5_readsCbor_85 : decode cX5_readsCbor 85 = .ok (.iconst 5, 1) := by decide +kernel
theorem dX5_readsCbor_86 : decode cX5_readsCbor 86 = .ok (.if_icmp .ne 99, 3) := by decide +kernel
theorem dX5_readsCbor_89 : decode cX5_readsCbor 89 = .ok (.aload_n 0, 1) := by decide +kernel
theorem dX5_readsCbor_90 : decode cX5_readsCbor 90 = .ok (.getfield 30, 3) := by decide +kernel
theorem dX5_readsCbor_93 : decode cX5_readsCbor 93 = .ok (.iload_n 2, 1) := by decide +kernel
theorem dX5_readsCbor_94 : decode cX5_readsCbor 94 = .ok (.laload, 1) := by decide +kernel
theorem dX5_readsCbor_95 : decode cX5_readsCbor 95 = .ok (.lconst 0, 1) := by decide +kernel
theorem dX5_readsCbor_96 : decode cX5_readsCbor 96 = .ok (.lcmp, 1) := by decide +kernel
theorem dX5_readsCbor_97 : decode cX5_readsCbor 97 = .ok (.ifCond .eq 88, 3) := by decide +kernel
theorem dX5_readsCbor_100 : decode cX5_readsCbor 100 = .ok (.aload_n 0, 1) := by decide +kernel
theorem dX5_readsCbor_101 : decode cX5_readsCbor 101 = .ok (.getfield 40, 3) := by decide +kernel
theorem dX5_readsCbor_104 : decode cX5_readsCbor 104 = .ok (.aload_n 0, 1) := by decide +kernel
theorem dX5_readsCbor_105 : decode cX5_readsCbor 105 = .ok (.getfield 73, 3) := by decide +kernel
theorem dX5_readsCbor_108 : decode cX5_readsCbor 108 = .ok (.iload_n 2, 1) := by decide +kernel
theorem dX5_readsCbor_109 : decode cX5_readsCbor 109 = .ok (.iastore, 1) := by decide +kernel
theorem dX5_readsCbor_110 : decode cX5_readsCbor 110 = .ok (.aload_n 0, 1) := by decide +kernel
theorem dX5_readsCbor_111 : decode cX5_readsCbor 111 = .ok (.getfield 30, 3) := by decide +kernel
theorem dX5_readsCbor_114 : decode cX5_readsCbor 114 = .ok (.iload_n 2, 1) := by decide +kernel
theorem dX5_readsCbor_115 : decode cX5_readsCbor 115 = .ok (.laload, 1) := by decide +kernel
theorem dX5_readsCbor_116 : decode cX5_readsCbor 116 = .ok (.lconst 0, 1) := by decide +kernel
theorem dX5_readsCbor_117 : decode cX5_readsCbor 117 = .ok (.lcmp, 1) := by decide +kernel
theorem dX5_readsCbor_118 : decode cX5_readsCbor 118 = .ok (.ifCond .lt 16, 3) := by decide +kernel
theorem dX5_readsCbor_121 : decode cX5_readsCbor 121 = .ok (.aload_n 0, 1) := by decide +kernel
theorem dX5_readsCbor_122 : decode cX5_readsCbor 122 = .ok (.getfield 30, 3) := by decide +kernel
theorem dX5_readsCbor_125 : decode cX5_readsCbor 125 = .ok (.iload_n 2, 1) := by decide +kernel
theorem dX5_readsCbor_126 : decode cX5_readsCbor 126 = .ok (.laload, 1) := by decide +kernel
theorem dX5_readsCbor_127 : decode cX5_readsCbor 127 = .ok (.ldc2_w 208, 3) := by decide +kernel
theorem dX5_readsCbor_130 : decode cX5_readsCbor 130 = .ok (.lcmp, 1) := by decide +kernel
theorem dX5_readsCbor_131 : decode cX5_readsCbor 131 = .ok (.ifCond .le 9, 3) := by decide +kernel
theorem dX5_readsCbor_134 : decode cX5_readsCbor 134 = .ok (.ldc2_w 208, 3) := by decide +kernel
theorem dX5_readsCbor_137 : decode cX5_readsCbor 137 = .ok (.goto 9, 3) := by decide +kernel
theorem dX5_readsCbor_140 : decode cX5_readsCbor 140 = .ok (.aload_n 0, 1) := by decide +kernel
theorem dX5_readsCbor_141 : decode cX5_readsCbor 141 = .ok (.getfield 30, 3) := by decide +kernel
theorem dX5_readsCbor_144 : decode cX5_readsCbor 144 = .ok (.iload_n 2, 1) := by decide +kernel
theorem dX5_readsCbor_145 : decode cX5_readsCbor 145 = .ok (.laload, 1) := by decide +kernel
theorem dX5_readsCbor_146 : decode cX5_readsCbor 146 = .ok (.lstore_n 3, 1) := by decide +kernel
theorem dX5_readsCbor_147 : decode cX5_readsCbor 147 = .ok (.aload_n 0, 1) := by decide +kernel
theorem dX5_readsCbor_148 : decode cX5_readsCbor 148 = .ok (.getfield 43, 3) := by decide +kernel
theorem dX5_readsCbor_151 : decode cX5_readsCbor 151 = .ok (.aload_n 0, 1) := by decide +kernel
theorem dX5_readsCbor_152 : decode cX5_readsCbor 152 = .ok (.getfield 73, 3) := by decide +kernel
theorem dX5_readsCbor_155 : decode cX5_readsCbor 155 = .ok (.aload_n 0, 1) := by decide +kernel
theorem dX5_readsCbor_156 : decode cX5_readsCbor 156 = .ok (.getfield 27, 3) := by decide +kernel
theorem dX5_readsCbor_159 : decode cX5_readsCbor 159 = .ok (.iload_n 2, 1) := by decide +kernel
theorem dX5_readsCbor_160 : decode cX5_readsCbor 160 = .ok (.iaload, 1) := by decide +kernel
theorem dX5_readsCbor_161 : decode cX5_readsCbor 161 = .ok (.iconst 5, 1) := by decide +kernel
theorem dX5_readsCbor_162 : decode cX5_readsCbor 162 = .ok (.if_icmp .ne 11, 3) := by decide +kernel
theorem dX5_readsCbor_165 : decode cX5_readsCbor 165 = .ok (.ldc2_w 210, 3) := by decide +kernel
theorem dX5_readsCbor_168 : decode cX5_readsCbor 168 = .ok (.lload_n 3, 1) := by decide +kernel
theorem dX5_readsCbor_169 : decode cX5_readsCbor 169 = .ok (.lmul, 1) := by decide +kernel
theorem dX5_readsCbor_170 : decode cX5_readsCbor 170 = .ok (.goto 4, 3) := by decide +kernel
theorem dX5_readsCbor_173 : decode cX5_readsCbor 173 = .ok (.lload_n 3, 1) := by decide +kernel
theorem dX5_readsCbor_174 : decode cX5_readsCbor 174 = .ok (.lastore, 1) := by decide +kernel
theorem dX5_readsCbor_175 : decode cX5_readsCbor 175 = .ok (.aload_n 0, 1) := by decide +kernel
theorem dX5_readsCbor_176 : decode cX5_readsCbor 176 = .ok (.dup, 1) := by decide +kernel
theorem dX5_readsCbor_177 : decode cX5_readsCbor 177 = .ok (.getfield 73, 3) := by decide +kernel
theorem dX5_readsCbor_180 : decode cX5_readsCbor 180 = .ok (.iconst 1, 1) := by decide +kernel
theorem dX5_readsCbor_181 : decode cX5_readsCbor 181 = .ok (.iadd, 1) := by decide +kernel
theorem dX5_readsCbor_182 : decode cX5_readsCbor 182 = .ok (.putfield 73, 3) := by decide +kernel
theorem dX5_readsCbor_185 : decode cX5_readsCbor 185 = .ok (.aload_n 0, 1) := by decide +kernel
theorem dX5_readsCbor_186 : decode cX5_readsCbor 186 = .ok (.getfield 73, 3) := by decide +kernel
theorem dX5_readsCbor_189 : decode cX5_readsCbor 189 = .ok (.ifCond .le 32, 3) := by decide +kernel
theorem dX5_readsCbor_192 : decode cX5_readsCbor 192 = .ok (.aload_n 0, 1) := by decide +kernel
theorem dX5_readsCbor_193 : decode cX5_readsCbor 193 = .ok (.getfield 43, 3) := by decide +kernel
theorem dX5_readsCbor_196 : decode cX5_readsCbor 196 = .ok (.aload_n 0, 1) := by decide +kernel
theorem dX5_readsCbor_197 : decode cX5_readsCbor 197 = .ok (.getfield 73, 3) := by decide +kernel
theorem dX5_readsCbor_200 : decode cX5_readsCbor 200 = .ok (.iconst 1, 1) := by decide +kernel
theorem dX5_readsCbor_201 : decode cX5_readsCbor 201 = .ok (.isub, 1) := by decide +kernel
theorem dX5_readsCbor_202 : decode cX5_readsCbor 202 = .ok (.laload, 1) := by decide +kernel
theorem dX5_readsCbor_203 : decode cX5_readsCbor 203 = .ok (.lconst 0, 1) := by decide +kernel
theorem dX5_readsCbor_204 : decode cX5_readsCbor 204 = .ok (.lcmp, 1) := by decide +kernel
theorem dX5_readsCbor_205 : decode cX5_readsCbor 205 = .ok (.ifCond .ne 16, 3) := by decide +kernel
theorem dX5_readsCbor_208 : decode cX5_readsCbor 208 = .ok (.aload_n 0, 1) := by decide +kernel
theorem dX5_readsCbor_209 : decode cX5_readsCbor 209 = .ok (.dup, 1) := by decide +kernel
theorem dX5_readsCbor_210 : decode cX5_readsCbor 210 = .ok (.getfield 73, 3) := by decide +kernel
theorem dX5_readsCbor_213 : decode cX5_readsCbor 213 = .ok (.iconst 1, 1) := by decide +kernel
theorem dX5_readsCbor_214 : decode cX5_readsCbor 214 = .ok (.isub, 1) := by decide +kernel
theorem dX5_readsCbor_215 : decode cX5_readsCbor 215 = .ok (.putfield 73, 3) := by decide +kernel
theorem dX5_readsCbor_218 : decode cX5_readsCbor 218 = .ok (.goto (-33), 3) := by decide +kernel
theorem dX5_readsCbor_221 : decode cX5_readsCbor 221 = .ok (.aload_n 0, 1) := by decide +kernel
theorem dX5_readsCbor_222 : decode cX5_readsCbor 222 = .ok (.getfield 73, 3) := by decide +kernel
theorem dX5_readsCbor_225 : decode cX5_readsCbor 225 = .ok (.ifCond .le 7, 3) := by decide +kernel
theorem dX5_readsCbor_228 : decode cX5_readsCbor 228 = .ok (.iconst 1, 1) := by decide +kernel
theorem dX5_readsCbor_229 : decode cX5_readsCbor 229 = .ok (.goto 4, 3) := by decide +kernel
theorem dX5_readsCbor_232 : decode cX5_readsCbor 232 = .ok (.iconst 0, 1) := by decide +kernel
theorem dX5_readsCbor_233 : decode cX5_readsCbor 233 = .ok (.istore_n 1, 1) := by decide +kernel
theorem dX5_readsCbor_234 : decode cX5_readsCbor 234 = .ok (.goto (-232), 3) := by decide +kernel
theorem dX5_readsCbor_237 : decode cX5_readsCbor 237 = .ok (.aload_n 0, 1) := by decide +kernel
theorem dX5_readsCbor_238 : decode cX5_readsCbor 238 = .ok (.getfield 64, 3) := by decide +kernel
theorem dX5_readsCbor_241 : decode cX5_readsCbor 241 = .ok (.aload_n 0, 1) := by decide +kernel
theorem dX5_readsCbor_242 : decode cX5_readsCbor 242 = .ok (.getfield 55, 3) := by decide +kernel
theorem dX5_readsCbor_245 : decode cX5_readsCbor 245 = .ok (.if_icmp .ge 13, 3) := by decide +kernel
theorem dX5_readsCbor_248 : decode cX5_readsCbor 248 = .ok (.aload_n 0, 1) := by decide +kernel
theorem dX5_readsCbor_249 : decode cX5_readsCbor 249 = .ok (.iconst 1, 1) := by decide +kernel
theorem dX5_readsCbor_250 : decode cX5_readsCbor 250 = .ok (.aload_n 0, 1) := by decide +kernel
theorem dX5_readsCbor_251 : decode cX5_readsCbor 251 = .ok (.getfield 64, 3) := by decide +kernel
theorem dX5_readsCbor_254 : decode cX5_readsCbor 254 = .ok (.invokevirtual 90, 3) := by decide +kernel
theorem dX5_readsCbor_257 : decode cX5_readsCbor 257 = .ok (.pop, 1) := by decide +kernel
theorem dX5_readsCbor_258 : decode cX5_readsCbor 258 = .ok (.return_, 1) := by decide +kernel
theorem dX5_put_0 : decode cX5_put 0 = .ok (.aload_n 0, 1) := by decide +kernel
theorem dX5_put_1 : decode cX5_put 1 = .ok (.getfield 212, 3) := by decide +kernel
theorem dX5_put_4 : decode cX5_put 4 = .ok (.sipush 6000, 3) := by decide +kernel
theorem dX5_put_7 : decode cX5_put 7 = .ok (.if_icmp .ge 14, 3) := by decide +kernel
theorem dX5_put_10 : decode cX5_put 10 = .ok (.aload_n 0, 1) := by decide +kernel
theorem dX5_put_11 : decode cX5_put 11 = .ok (.getfield 46, 3) := by decide +kernel
theorem dX5_put_14 : decode cX5_put 14 = .ok (.aload_n 0, 1) := by decide +kernel
theorem dX5_put_15 : decode cX5_put 15 = .ok (.getfield 212, 3) := by decide +kernel
theorem dX5_put_18 : decode cX5_put 18 = .ok (.iload_n 1, 1) := by decide +kernel
theorem dX5_put_19 : decode cX5_put 19 = .ok (.i2b, 1) := by decide +kernel
theorem dX5_put_20 : decode cX5_put 20 = .ok (.bastore, 1) := by decide +kernel
theorem dX5_put_21 : decode cX5_put 21 = .ok (.aload_n 0, 1) := by decide +kernel
theorem dX5_put_22 : decode cX5_put 22 = .ok (.dup, 1) := by decide +kernel
theorem dX5_put_23 : decode cX5_put 23 = .ok (.getfield 212, 3) := by decide +kernel
theorem dX5_put_26 : decode cX5_put 26 = .ok (.iconst 1, 1) := by decide +kernel
theorem dX5_put_27 : decode cX5_put 27 = .ok (.iadd, 1) := by decide +kernel
theorem dX5_put_28 : decode cX5_put 28 = .ok (.putfield 212, 3) := by decide +kernel
theorem dX5_put_31 : decode cX5_put 31 = .ok (.return_, 1) := by decide +kernel
theorem dX5_ends_0 : decode cX5_ends 0 = .ok (.aload_n 0, 1) := by decide +kernel
theorem dX5_ends_1 : decode cX5_ends 1 = .ok (.getfield 212, 3) := by decide +kernel
theorem dX5_ends_4 : decode cX5_ends 4 = .ok (.aload_n 0, 1) := by decide +kernel
theorem dX5_ends_5 : decode cX5_ends 5 = .ok (.getfield 17, 3) := by decide +kernel
theorem dX5_ends_8 : decode cX5_ends 8 = .ok (.if_icmp .le 13, 3) := by decide +kernel
theorem dX5_ends_11 : decode cX5_ends 11 = .ok (.aload_n 0, 1) := by decide +kernel
theorem dX5_ends_12 : decode cX5_ends 12 = .ok (.iconst 5, 1) := by decide +kernel
theorem dX5_ends_13 : decode cX5_ends 13 = .ok (.aload_n 0, 1) := by decide +kernel
theorem dX5_ends_14 : decode cX5_ends 14 = .ok (.getfield 55, 3) := by decide +kernel
theorem dX5_ends_17 : decode cX5_ends 17 = .ok (.invokevirtual 90, 3) := by decide +kernel
theorem dX5_ends_20 : decode cX5_ends 20 = .ok (.pop, 1) := by decide +kernel
theorem dX5_ends_21 : decode cX5_ends 21 = .ok (.aload_n 0, 1) := by decide +kernel
theorem dX5_ends_22 : decode cX5_ends 22 = .ok (.getfield 61, 3) := by decide +kernel
theorem dX5_ends_25 : decode cX5_ends 25 = .ok (.ifCond .le 9, 3) := by decide +kernel
theorem dX5_ends_28 : decode cX5_ends 28 = .ok (.aload_n 0, 1) := by decide +kernel
theorem dX5_ends_29 : decode cX5_ends 29 = .ok (.getfield 61, 3) := by decide +kernel
theorem dX5_ends_32 : decode cX5_ends 32 = .ok (.ineg, 1) := by decide +kernel
theorem dX5_ends_33 : decode cX5_ends 33 = .ok (.ireturn, 1) := by decide +kernel
theorem dX5_ends_34 : decode cX5_ends 34 = .ok (.iconst 0, 1) := by decide +kernel
theorem dX5_ends_35 : decode cX5_ends 35 = .ok (.istore_n 1, 1) := by decide +kernel
theorem dX5_ends_36 : decode cX5_ends 36 = .ok (.iload_n 1, 1) := by decide +kernel
theorem dX5_ends_37 : decode cX5_ends 37 = .ok (.aload_n 0, 1) := by decide +kernel
theorem dX5_ends_38 : decode cX5_ends 38 = .ok (.getfield 212, 3) := by decide +kernel
theorem dX5_ends_41 : decode cX5_ends 41 = .ok (.if_icmp .ge 21, 3) := by decide +kernel
theorem dX5_ends_44 : decode cX5_ends 44 = .ok (.aload_n 0, 1) := by decide +kernel
theorem dX5_ends_45 : decode cX5_ends 45 = .ok (.getfield 20, 3) := by decide +kernel
theorem dX5_ends_48 : decode cX5_ends 48 = .ok (.iload_n 1, 1) := by decide +kernel
theorem dX5_ends_49 : decode cX5_ends 49 = .ok (.aload_n 0, 1) := by decide +kernel
theorem dX5_ends_50 : decode cX5_ends 50 = .ok (.getfield 46, 3) := by decide +kernel
theorem dX5_ends_53 : decode cX5_ends 53 = .ok (.iload_n 1, 1) := by decide +kernel
theorem dX5_ends_54 : decode cX5_ends 54 = .ok (.baload, 1) := by decide +kernel
theorem dX5_ends_55 : decode cX5_ends 55 = .ok (.bastore, 1) := by decide +kernel
theorem dX5_ends_56 : decode cX5_ends 56 = .ok (.iinc 1 1, 3) := by decide +kernel
theorem dX5_ends_59 : decode cX5_ends 59 = .ok (.goto (-23), 3) := by decide +kernel
theorem dX5_ends_62 : decode cX5_ends 62 = .ok (.aload_n 0, 1) := by decide +kernel
theorem dX5_ends_63 : decode cX5_ends 63 = .ok (.aload_n 0, 1) := by decide +kernel
theorem dX5_ends_64 : decode cX5_ends 64 = .ok (.getfield 212, 3) := by decide +kernel
theorem dX5_ends_67 : decode cX5_ends 67 = .ok (.putfield 58, 3) := by decide +kernel
theorem dX5_ends_70 : decode cX5_ends 70 = .ok (.aload_n 0, 1) := by decide +kernel
theorem dX5_ends_71 : decode cX5_ends 71 = .ok (.getfield 58, 3) := by decide +kernel
theorem dX5_ends_74 : decode cX5_ends 74 = .ok (.ireturn, 1) := by decide +kernel
theorem dX5_puts_0 : decode cX5_puts 0 = .ok (.lload_n 2, 1) := by decide +kernel
theorem dX5_puts_1 : decode cX5_puts 1 = .ok (.lconst 0, 1) := by decide +kernel
theorem dX5_puts_2 : decode cX5_puts 2 = .ok (.lcmp, 1) := by decide +kernel
theorem dX5_puts_3 : decode cX5_puts 3 = .ok (.ifCond .lt 15, 3) := by decide +kernel
theorem dX5_puts_6 : decode cX5_puts 6 = .ok (.lload_n 2, 1) := by decide +kernel
theorem dX5_puts_7 : decode cX5_puts 7 = .ok (.ldc2_w 195, 3) := by decide +kernel
theorem dX5_puts_10 : decode cX5_puts 10 = .ok (.lcmp, 1) := by decide +kernel
theorem dX5_puts_11 : decode cX5_puts 11 = .ok (.ifCond .ge 7, 3) := by decide +kernel
theorem dX5_puts_14 : decode cX5_puts 14 = .ok (.iconst 0, 1) := by decide +kernel
theorem dX5_puts_15 : decode cX5_puts 15 = .ok (.goto 54, 3) := by decide +kernel
theorem dX5_puts_18 : decode cX5_puts 18 = .ok (.lload_n 2, 1) := by decide +kernel
theorem dX5_puts_19 : decode cX5_puts 19 = .ok (.lconst 0, 1) := by decide +kernel
theorem dX5_puts_20 : decode cX5_puts 20 = .ok (.lcmp, 1) := by decide +kernel
theorem dX5_puts_21 : decode cX5_puts 21 = .ok (.ifCond .lt 15, 3) := by decide +kernel
theorem dX5_puts_24 : decode cX5_puts 24 = .ok (.lload_n 2, 1) := by decide +kernel
theorem dX5_puts_25 : decode cX5_puts 25 = .ok (.ldc2_w 215, 3) := by decide +kernel
theorem dX5_puts_28 : decode cX5_puts 28 = .ok (.lcmp, 1) := by decide +kernel
theorem dX5_puts_29 : decode cX5_puts 29 = .ok (.ifCond .ge 7, 3) := by decide +kernel
theorem dX5_puts_32 : decode cX5_puts 32 = .ok (.iconst 1, 1) := by decide +kernel
theorem dX5_puts_33 : decode cX5_puts 33 = .ok (.goto 36, 3) := by decide +kernel
theorem dX5_puts_36 : decode cX5_puts 36 = .ok (.lload_n 2, 1) := by decide +kernel
theorem dX5_puts_37 : decode cX5_puts 37 = .ok (.lconst 0, 1) := by decide +kernel
theorem dX5_puts_38 : decode cX5_puts 38 = .ok (.lcmp, 1) := by decide +kernel
theorem dX5_puts_39 : decode cX5_puts 39 = .ok (.ifCond .lt 15, 3) := by decide +kernel
theorem dX5_puts_42 : decode cX5_puts 42 = .ok (.lload_n 2, 1) := by decide +kernel
theorem dX5_puts_43 : decode cX5_puts 43 = .ok (.ldc2_w 217, 3) := by decide +kernel
theorem dX5_puts_46 : decode cX5_puts 46 = .ok (.lcmp, 1) := by decide +kernel
theorem dX5_puts_47 : decode cX5_puts 47 = .ok (.ifCond .ge 7, 3) := by decide +kernel
theorem dX5_puts_50 : decode cX5_puts 50 = .ok (.iconst 2, 1) := by decide +kernel
theorem dX5_puts_51 : decode cX5_puts 51 = .ok (.goto 18, 3) := by decide +kernel
theorem dX5_puts_54 : decode cX5_puts 54 = .ok (.lload_n 2, 1) := by decide +kernel
theorem dX5_puts_55 : decode cX5_puts 55 = .ok (.bipush 32, 2) := by decide +kernel
theorem dX5_puts_57 : decode cX5_puts 57 = .ok (.lushr, 1) := by decide +kernel
theorem dX5_puts_58 : decode cX5_puts 58 = .ok (.lconst 0, 1) := by decide +kernel
theorem dX5_puts_59 : decode cX5_puts 59 = .ok (.lcmp, 1) := by decide +kernel
theorem dX5_puts_60 : decode cX5_puts 60 = .ok (.ifCond .ne 7, 3) := by decide +kernel
theorem dX5_puts_63 : decode cX5_puts 63 = .ok (.iconst 4, 1) := by decide +kernel
theorem dX5_puts_64 : decode cX5_puts 64 = .ok (.goto 5, 3) := by decide +kernel
theorem dX5_puts_67 : decode cX5_puts 67 = .ok (.bipush 8, 2) := by decide +kernel
theorem dX5_puts_69 : decode cX5_puts 69 = .ok (.istore 4, 2) := by decide +kernel
theorem dX5_puts_71 : decode cX5_puts 71 = .ok (.aload_n 0, 1) := by decide +kernel
theorem dX5_puts_72 : decode cX5_puts 72 = .ok (.bipush 32, 2) := by decide +kernel
theorem dX5_puts_74 : decode cX5_puts 74 = .ok (.iload_n 1, 1) := by decide +kernel
theorem dX5_puts_75 : decode cX5_puts 75 = .ok (.imul, 1) := by decide +kernel
theorem dX5_puts_76 : decode cX5_puts 76 = .ok (.iload 4, 2) := by decide +kernel
theorem dX5_puts_78 : decode cX5_puts 78 = .ok (.ifCond .ne 8, 3) := by decide +kernel
theorem dX5_puts_81 : decode cX5_puts 81 = .ok (.lload_n 2, 1) := by decide +kernel
theorem dX5_puts_82 : decode cX5_puts 82 = .ok (.l2i, 1) := by decide +kernel
theorem dX5_puts_83 : decode cX5_puts 83 = .ok (.goto 38, 3) := by decide +kernel
theorem dX5_puts_86 : decode cX5_puts 86 = .ok (.iload 4, 2) := by decide +kernel
theorem dX5_puts_88 : decode cX5_puts 88 = .ok (.iconst 1, 1) := by decide +kernel
theorem dX5_puts_89 : decode cX5_puts 89 = .ok (.if_icmp .ne 8, 3) := by decide +kernel
theorem dX5_puts_92 : decode cX5_puts 92 = .ok (.bipush 24, 2) := by decide +kernel
theorem dX5_puts_94 : decode cX5_puts 94 = .ok (.goto 27, 3) := by decide +kernel
theorem dX5_puts_97 : decode cX5_puts 97 = .ok (.iload 4, 2) := by decide +kernel
theorem dX5_puts_99 : decode cX5_puts 99 = .ok (.iconst 2, 1) := by decide +kernel
theorem dX5_puts_100 : decode cX5_puts 100 = .ok (.if_icmp .ne 8, 3) := by decide +kernel
theorem dX5_puts_103 : decode cX5_puts 103 = .ok (.bipush 25, 2) := by decide +kernel
theorem dX5_puts_105 : decode cX5_puts 105 = .ok (.goto 16, 3) := by decide +kernel
theorem dX5_puts_108 : decode cX5_puts 108 = .ok (.iload 4, 2) := by decide +kernel
theorem dX5_puts_110 : decode cX5_puts 110 = .ok (.iconst 4, 1) := by decide +kernel
theorem dX5_puts_111 : decode cX5_puts 111 = .ok (.if_icmp .ne 8, 3) := by decide +kernel
theorem dX5_puts_114 : decode cX5_puts 114 = .ok (.bipush 26, 2) := by decide +kernel
theorem dX5_puts_116 : decode cX5_puts 116 = .ok (.goto 5, 3) := by decide +kernel
theorem dX5_puts_119 : decode cX5_puts 119 = .ok (.bipush 27, 2) := by decide +kernel
theorem dX5_puts_121 : decode cX5_puts 121 = .ok (.iadd, 1) := by decide +kernel
theorem dX5_puts_122 : decode cX5_puts 122 = .ok (.invokevirtual 219, 3) := by decide +kernel
theorem dX5_puts_125 : decode cX5_puts 125 = .ok (.bipush 8, 2) := by decide +kernel
theorem dX5_puts_127 : decode cX5_puts 127 = .ok (.iload 4, 2) := by decide +kernel
theorem dX5_puts_129 : decode cX5_puts 129 = .ok (.imul, 1) := by decide +kernel
theorem dX5_puts_130 : decode cX5_puts 130 = .ok (.bipush 8, 2) := by decide +kernel
theorem dX5_puts_132 : decode cX5_puts 132 = .ok (.isub, 1) := by decide +kernel
theorem dX5_puts_133 : decode cX5_puts 133 = .ok (.istore 5, 2) := by decide +kernel
theorem dX5_puts_135 : decode cX5_puts 135 = .ok (.iload 5, 2) := by decide +kernel
theorem dX5_puts_137 : decode cX5_puts 137 = .ok (.ifCond .lt 22, 3) := by decide +kernel
theorem dX5_puts_140 : decode cX5_puts 140 = .ok (.aload_n 0, 1) := by decide +kernel
theorem dX5_puts_141 : decode cX5_puts 141 = .ok (.lload_n 2, 1) := by decide +kernel
theorem dX5_puts_142 : decode cX5_puts 142 = .ok (.iload 5, 2) := by decide +kernel
theorem dX5_puts_144 : decode cX5_puts 144 = .ok (.lshr, 1) := by decide +kernel
theorem dX5_puts_145 : decode cX5_puts 145 = .ok (.l2i, 1) := by decide +kernel
theorem dX5_puts_146 : decode cX5_puts 146 = .ok (.sipush 255, 3) := by decide +kernel
theorem dX5_puts_149 : decode cX5_puts 149 = .ok (.iand, 1) := by decide +kernel
theorem dX5_puts_150 : decode cX5_puts 150 = .ok (.invokevirtual 219, 3) := by decide +kernel
theorem dX5_puts_153 : decode cX5_puts 153 = .ok (.iinc 5 (-8), 3) := by decide +kernel
theorem dX5_puts_156 : decode cX5_puts 156 = .ok (.goto (-21), 3) := by decide +kernel
theorem dX5_puts_159 : decode cX5_puts 159 = .ok (.return_, 1) := by decide +kernel
theorem dX5_putsLetters_0 : decode cX5_putsLetters 0 = .ok (.iconst 0, 1) := by decide +kernel
theorem dX5_putsLetters_1 : decode cX5_putsLetters 1 = .ok (.istore_n 2, 1) := by decide +kernel
theorem dX5_putsLetters_2 : decode cX5_putsLetters 2 = .ok (.iload_n 2, 1) := by decide +kernel
theorem dX5_putsLetters_3 : decode cX5_putsLetters 3 = .ok (.aload_n 0, 1) := by decide +kernel
theorem dX5_putsLetters_4 : decode cX5_putsLetters 4 = .ok (.getfield 30, 3) := by decide +kernel
theorem dX5_putsLetters_7 : decode cX5_putsLetters 7 = .ok (.iload_n 1, 1) := by decide +kernel
theorem dX5_putsLetters_8 : decode cX5_putsLetters 8 = .ok (.laload, 1) := by decide +kernel
theorem dX5_putsLetters_9 : decode cX5_putsLetters 9 = .ok (.l2i, 1) := by decide +kernel
theorem dX5_putsLetters_10 : decode cX5_putsLetters 10 = .ok (.if_icmp .ge 26, 3) := by decide +kernel
theorem dX5_putsLetters_13 : decode cX5_putsLetters 13 = .ok (.aload_n 0, 1) := by decide +kernel
theorem dX5_putsLetters_14 : decode cX5_putsLetters 14 = .ok (.aload_n 0, 1) := by decide +kernel
theorem dX5_putsLetters_15 : decode cX5_putsLetters 15 = .ok (.getfield 37, 3) := by decide +kernel
theorem dX5_putsLetters_18 : decode cX5_putsLetters 18 = .ok (.aload_n 0, 1) := by decide +kernel
theorem dX5_putsLetters_19 : decode cX5_putsLetters 19 = .ok (.getfield 34, 3) := by decide +kernel
theorem dX5_putsLetters_22 : decode cX5_putsLetters 22 = .ok (.iload_n 1, 1) := by decide +kernel
theorem dX5_putsLetters_23 : decode cX5_putsLetters 23 = .ok (.iaload, 1) := by decide +kernel
theorem dX5_putsLetters_24 : decode cX5_putsLetters 24 = .ok (.iload_n 2, 1) := by decide +kernel
theorem dX5_putsLetters_25 : decode cX5_putsLetters 25 = .ok (.iadd, 1) := by decide +kernel
theorem dX5_putsLetters_26 : decode cX5_putsLetters 26 = .ok (.baload, 1) := by decide +kernel
theorem dX5_putsLetters_27 : decode cX5_putsLetters 27 = .ok (.invokevirtual 219, 3) := by decide +kernel
theorem dX5_putsLetters_30 : decode cX5_putsLetters 30 = .ok (.iinc 2 1, 3) := by decide +kernel
theorem dX5_putsLetters_33 : decode cX5_putsLetters 33 = .ok (.goto (-31), 3) := by decide +kernel
theorem dX5_putsLetters_36 : decode cX5_putsLetters 36 = .ok (.return_, 1) := by decide +kernel
theorem dX5_writesCbor_0 : decode cX5_writesCbor 0 = .ok (.aload_n 0, 1) := by decide +kernel
theorem dX5_writesCbor_1 : decode cX5_writesCbor 1 = .ok (.iconst 0, 1) := by decide +kernel
theorem dX5_writesCbor_2 : decode cX5_writesCbor 2 = .ok (.putfield 212, 3) := by decide +kernel
theorem dX5_writesCbor_5 : decode cX5_writesCbor 5 = .ok (.iconst 0, 1) := by decide +kernel
theorem dX5_writesCbor_6 : decode cX5_writesCbor 6 = .ok (.istore_n 1, 1) := by decide +kernel
theorem dX5_writesCbor_7 : decode cX5_writesCbor 7 = .ok (.iload_n 1, 1) := by decide +kernel
theorem dX5_writesCbor_8 : decode cX5_writesCbor 8 = .ok (.aload_n 0, 1) := by decide +kernel
theorem dX5_writesCbor_9 : decode cX5_writesCbor 9 = .ok (.getfield 67, 3) := by decide +kernel
theorem dX5_writesCbor_12 : decode cX5_writesCbor 12 = .ok (.if_icmp .ge 40, 3) := by decide +kernel
theorem dX5_writesCbor_15 : decode cX5_writesCbor 15 = .ok (.aload_n 0, 1) := by decide +kernel
theorem dX5_writesCbor_16 : decode cX5_writesCbor 16 = .ok (.aload_n 0, 1) := by decide +kernel
theorem dX5_writesCbor_17 : decode cX5_writesCbor 17 = .ok (.getfield 27, 3) := by decide +kernel
theorem dX5_writesCbor_20 : decode cX5_writesCbor 20 = .ok (.iload_n 1, 1) := by decide +kernel
theorem dX5_writesCbor_21 : decode cX5_writesCbor 21 = .ok (.iaload, 1) := by decide +kernel
theorem dX5_writesCbor_22 : decode cX5_writesCbor 22 = .ok (.aload_n 0, 1) := by decide +kernel
theorem dX5_writesCbor_23 : decode cX5_writesCbor 23 = .ok (.getfield 30, 3) := by decide +kernel
theorem dX5_writesCbor_26 : decode cX5_writesCbor 26 = .ok (.iload_n 1, 1) := by decide +kernel
theorem dX5_writesCbor_27 : decode cX5_writesCbor 27 = .ok (.laload, 1) := by decide +kernel
theorem dX5_writesCbor_28 : decode cX5_writesCbor 28 = .ok (.invokevirtual 222, 3) := by decide +kernel
theorem dX5_writesCbor_31 : decode cX5_writesCbor 31 = .ok (.aload_n 0, 1) := by decide +kernel
theorem dX5_writesCbor_32 : decode cX5_writesCbor 32 = .ok (.getfield 27, 3) := by decide +kernel
theorem dX5_writesCbor_35 : decode cX5_writesCbor 35 = .ok (.iload_n 1, 1) := by decide +kernel
theorem dX5_writesCbor_36 : decode cX5_writesCbor 36 = .ok (.iaload, 1) := by decide +kernel
theorem dX5_writesCbor_37 : decode cX5_writesCbor 37 = .ok (.iconst 3, 1) := by decide +kernel
theorem dX5_writesCbor_38 : decode cX5_writesCbor 38 = .ok (.if_icmp .ne 8, 3) := by decide +kernel
theorem dX5_writesCbor_41 : decode cX5_writesCbor 41 = .ok (.aload_n 0, 1) := by decide +kernel
theorem dX5_writesCbor_42 : decode cX5_writesCbor 42 = .ok (.iload_n 1, 1) := by decide +kernel
theorem dX5_writesCbor_43 : decode cX5_writesCbor 43 = .ok (.invokevirtual 226, 3) := by decide +kernel
theorem dX5_writesCbor_46 : decode cX5_writesCbor 46 = .ok (.iinc 1 1, 3) := by decide +kernel
theorem dX5_writesCbor_49 : decode cX5_writesCbor 49 = .ok (.goto (-42), 3) := by decide +kernel
theorem dX5_writesCbor_52 : decode cX5_writesCbor 52 = .ok (.aload_n 0, 1) := by decide +kernel
theorem dX5_writesCbor_53 : decode cX5_writesCbor 53 = .ok (.invokevirtual 229, 3) := by decide +kernel
theorem dX5_writesCbor_56 : decode cX5_writesCbor 56 = .ok (.ireturn, 1) := by decide +kernel
theorem dX5_putsWord_0 : decode cX5_putsWord 0 = .ok (.iconst 0, 1) := by decide +kernel
theorem dX5_putsWord_1 : decode cX5_putsWord 1 = .ok (.istore_n 2, 1) := by decide +kernel
theorem dX5_putsWord_2 : decode cX5_putsWord 2 = .ok (.iload_n 2, 1) := by decide +kernel
theorem dX5_putsWord_3 : decode cX5_putsWord 3 = .ok (.aload_n 1, 1) := by decide +kernel
theorem dX5_putsWord_4 : decode cX5_putsWord 4 = .ok (.invokevirtual 152, 3) := by decide +kernel
theorem dX5_putsWord_7 : decode cX5_putsWord 7 = .ok (.if_icmp .ge 18, 3) := by decide +kernel
theorem dX5_putsWord_10 : decode cX5_putsWord 10 = .ok (.aload_n 0, 1) := by decide +kernel
theorem dX5_putsWord_11 : decode cX5_putsWord 11 = .ok (.aload_n 1, 1) := by decide +kernel
theorem dX5_putsWord_12 : decode cX5_putsWord 12 = .ok (.iload_n 2, 1) := by decide +kernel
theorem dX5_putsWord_13 : decode cX5_putsWord 13 = .ok (.invokevirtual 111, 3) := by decide +kernel
theorem dX5_putsWord_16 : decode cX5_putsWord 16 = .ok (.invokevirtual 219, 3) := by decide +kernel
theorem dX5_putsWord_19 : decode cX5_putsWord 19 = .ok (.iinc 2 1, 3) := by decide +kernel
theorem dX5_putsWord_22 : decode cX5_putsWord 22 = .ok (.goto (-20), 3) := by decide +kernel
theorem dX5_putsWord_25 : decode cX5_putsWord 25 = .ok (.return_, 1) := by decide +kernel
theorem dX5_putsNumber_0 : decode cX5_putsNumber 0 = .ok (.iload_n 3, 1) := by decide +kernel
theorem dX5_putsNumber_1 : decode cX5_putsNumber 1 = .ok (.ifCond .eq 18, 3) := by decide +kernel
theorem dX5_putsNumber_4 : decode cX5_putsNumber 4 = .ok (.lload_n 1, 1) := by decide +kernel
theorem dX5_putsNumber_5 : decode cX5_putsNumber 5 = .ok (.ldc2_w 232, 3) := by decide +kernel
theorem dX5_putsNumber_8 : decode cX5_putsNumber 8 = .ok (.lcmp, 1) := by decide +kernel
theorem dX5_putsNumber_9 : decode cX5_putsNumber 9 = .ok (.ifCond .ne 10, 3) := by decide +kernel
theorem dX5_putsNumber_12 : decode cX5_putsNumber 12 = .ok (.aload_n 0, 1) := by decide +kernel
theorem dX5_putsNumber_13 : decode cX5_putsNumber 13 = .ok (.ldc 109, 2) := by decide +kernel
theorem dX5_putsNumber_15 : decode cX5_putsNumber 15 = .ok (.invokevirtual 234, 3) := by decide +kernel
theorem dX5_putsNumber_18 : decode cX5_putsNumber 18 = .ok (.return_, 1) := by decide +kernel
theorem dX5_putsNumber_19 : decode cX5_putsNumber 19 = .ok (.iload_n 3, 1) := by decide +kernel
theorem dX5_putsNumber_20 : decode cX5_putsNumber 20 = .ok (.ifCond .eq 9, 3) := by decide +kernel
theorem dX5_putsNumber_23 : decode cX5_putsNumber 23 = .ok (.lload_n 1, 1) := by decide +kernel
theorem dX5_putsNumber_24 : decode cX5_putsNumber 24 = .ok (.lconst 1, 1) := by decide +kernel
theorem dX5_putsNumber_25 : decode cX5_putsNumber 25 = .ok (.ladd, 1) := by decide +kernel
theorem dX5_putsNumber_26 : decode cX5_putsNumber 26 = .ok (.goto 4, 3) := by decide +kernel
theorem dX5_putsNumber_29 : decode cX5_putsNumber 29 = .ok (.lload_n 1, 1) := by decide +kernel
theorem dX5_putsNumber_30 : decode cX5_putsNumber 30 = .ok (.lstore 4, 2) := by decide +kernel
theorem dX5_putsNumber_32 : decode cX5_putsNumber 32 = .ok (.iconst 0, 1) := by decide +kernel
theorem dX5_putsNumber_33 : decode cX5_putsNumber 33 = .ok (.istore 6, 2) := by decide +kernel
theorem dX5_putsNumber_35 : decode cX5_putsNumber 35 = .ok (.iload 6, 2) := by decide +kernel
theorem dX5_putsNumber_37 : decode cX5_putsNumber 37 = .ok (.ifCond .eq 10, 3) := by decide +kernel
theorem dX5_putsNumber_40 : decode cX5_putsNumber 40 = .ok (.lload 4, 2) := by decide +kernel
theorem dX5_putsNumber_42 : decode cX5_putsNumber 42 = .ok (.lconst 0, 1) := by decide +kernel
theorem dX5_putsNumber_43 : decode cX5_putsNumber 43 = .ok (.lcmp, 1) := by decide +kernel
theorem dX5_putsNumber_44 : decode cX5_putsNumber 44 = .ok (.ifCond .eq 40, 3) := by decide +kernel
theorem dX5_putsNumber_47 : decode cX5_putsNumber 47 = .ok (.lload 4, 2) := by decide +kernel
theorem dX5_putsNumber_49 : decode cX5_putsNumber 49 = .ok (.iconst 1, 1) := by decide +kernel
theorem dX5_putsNumber_50 : decode cX5_putsNumber 50 = .ok (.lushr, 1) := by decide +kernel
theorem dX5_putsNumber_51 : decode cX5_putsNumber 51 = .ok (.ldc2_w 238, 3) := by decide +kernel
theorem dX5_putsNumber_54 : decode cX5_putsNumber 54 = .ok (.ldiv, 1) := by decide +kernel
theorem dX5_putsNumber_55 : decode cX5_putsNumber 55 = .ok (.lstore 7, 2) := by decide +kernel
theorem dX5_putsNumber_57 : decode cX5_putsNumber 57 = .ok (.aload_n 0, 1) := by decide +kernel
theorem dX5_putsNumber_58 : decode cX5_putsNumber 58 = .ok (.getfield 49, 3) := by decide +kernel
theorem dX5_putsNumber_61 : decode cX5_putsNumber 61 = .ok (.iload 6, 2) := by decide +kernel
theorem dX5_putsNumber_63 : decode cX5_putsNumber 63 = .ok (.lload 4, 2) := by decide +kernel
theorem dX5_putsNumber_65 : decode cX5_putsNumber 65 = .ok (.ldc2_w 121, 3) := by decide +kernel
theorem dX5_putsNumber_68 : decode cX5_putsNumber 68 = .ok (.lload 7, 2) := by decide +kernel
theorem dX5_putsNumber_70 : decode cX5_putsNumber 70 = .ok (.lmul, 1) := by decide +kernel
theorem dX5_putsNumber_71 : decode cX5_putsNumber 71 = .ok (.lsub, 1) := by decide +kernel
theorem dX5_putsNumber_72 : decode cX5_putsNumber 72 = .ok (.l2i, 1) := by decide +kernel
theorem dX5_putsNumber_73 : decode cX5_putsNumber 73 = .ok (.iastore, 1) := by decide +kernel
theorem dX5_putsNumber_74 : decode cX5_putsNumber 74 = .ok (.iinc 6 1, 3) := by decide +kernel
theorem dX5_putsNumber_77 : decode cX5_putsNumber 77 = .ok (.lload 7, 2) := by decide +kernel
theorem dX5_putsNumber_79 : decode cX5_putsNumber 79 = .ok (.lstore 4, 2) := by decide +kernel
theorem dX5_putsNumber_81 : decode cX5_putsNumber 81 = .ok (.goto (-46), 3) := by decide +kernel
theorem dX5_putsNumber_84 : decode cX5_putsNumber 84 = .ok (.iload 6, 2) := by decide +kernel
theorem dX5_putsNumber_86 : decode cX5_putsNumber 86 = .ok (.iconst 1, 1) := by decide +kernel
theorem dX5_putsNumber_87 : decode cX5_putsNumber 87 = .ok (.isub, 1) := by decide +kernel
theorem dX5_putsNumber_88 : decode cX5_putsNumber 88 = .ok (.istore 7, 2) := by decide +kernel
theorem dX5_putsNumber_90 : decode cX5_putsNumber 90 = .ok (.iload 7, 2) := by decide +kernel
theorem dX5_putsNumber_92 : decode cX5_putsNumber 92 = .ok (.ifCond .lt 23, 3) := by decide +kernel
theorem dX5_putsNumber_95 : decode cX5_putsNumber 95 = .ok (.aload_n 0, 1) := by decide +kernel
theorem dX5_putsNumber_96 : decode cX5_putsNumber 96 = .ok (.bipush 48, 2) := by decide +kernel
theorem dX5_putsNumber_98 : decode cX5_putsNumber 98 = .ok (.aload_n 0, 1) := by decide +kernel
theorem dX5_putsNumber_99 : decode cX5_putsNumber 99 = .ok (.getfield 49, 3) := by decide +kernel
theorem dX5_putsNumber_102 : decode cX5_putsNumber 102 = .ok (.iload 7, 2) := by decide +kernel
theorem dX5_putsNumber_104 : decode cX5_putsNumber 104 = .ok (.iaload, 1) := by decide +kernel
theorem dX5_putsNumber_105 : decode cX5_putsNumber 105 = .ok (.iadd, 1) := by decide +kernel
theorem dX5_putsNumber_106 : decode cX5_putsNumber 106 = .ok (.invokevirtual 219, 3) := by decide +kernel
theorem dX5_putsNumber_109 : decode cX5_putsNumber 109 = .ok (.iinc 7 (-1), 3) := by decide +kernel
theorem dX5_putsNumber_112 : decode cX5_putsNumber 112 = .ok (.goto (-22), 3) := by decide +kernel
theorem dX5_putsNumber_115 : decode cX5_putsNumber 115 = .ok (.return_, 1) := by decide +kernel
theorem dX5_shown_0 : decode cX5_shown 0 = .ok (.iload_n 0, 1) := by decide +kernel
theorem dX5_shown_1 : decode cX5_shown 1 = .ok (.bipush 10, 2) := by decide +kernel
theorem dX5_shown_3 : decode cX5_shown 3 = .ok (.if_icmp .ge 10, 3) := by decide +kernel
theorem dX5_shown_6 : decode cX5_shown 6 = .ok (.bipush 48, 2) := by decide +kernel
theorem dX5_shown_8 : decode cX5_shown 8 = .ok (.iload_n 0, 1) := by decide +kernel
theorem dX5_shown_9 : decode cX5_shown 9 = .ok (.iadd, 1) := by decide +kernel
theorem dX5_shown_10 : decode cX5_shown 10 = .ok (.goto 10, 3) := by decide +kernel
theorem dX5_shown_13 : decode cX5_shown 13 = .ok (.bipush 97, 2) := by decide +kernel
theorem dX5_shown_15 : decode cX5_shown 15 = .ok (.iload_n 0, 1) := by decide +kernel
theorem dX5_shown_16 : decode cX5_shown 16 = .ok (.iadd, 1) := by decide +kernel
theorem dX5_shown_17 : decode cX5_shown 17 = .ok (.bipush 10, 2) := by decide +kernel
theorem dX5_shown_19 : decode cX5_shown 19 = .ok (.isub, 1) := by decide +kernel
theorem dX5_shown_20 : decode cX5_shown 20 = .ok (.ireturn, 1) := by decide +kernel
theorem dX5_putsString_0 : decode cX5_putsString 0 = .ok (.aload_n 0, 1) := by decide +kernel
theorem dX5_putsString_1 : decode cX5_putsString 1 = .ok (.bipush 34, 2) := by decide +kernel
theorem dX5_putsString_3 : decode cX5_putsString 3 = .ok (.invokevirtual 219, 3) := by decide +kernel
theorem dX5_putsString_6 : decode cX5_putsString 6 = .ok (.iconst 0, 1) := by decide +kernel
theorem dX5_putsString_7 : decode cX5_putsString 7 = .ok (.istore_n 2, 1) := by decide +kernel
theorem dX5_putsString_8 : decode cX5_putsString 8 = .ok (.iload_n 2, 1) := by decide +kernel
theorem dX5_putsString_9 : decode cX5_putsString 9 = .ok (.aload_n 0, 1) := by decide +kernel
theorem dX5_putsString_10 : decode cX5_putsString 10 = .ok (.getfield 30, 3) := by decide +kernel
theorem dX5_putsString_13 : decode cX5_putsString 13 = .ok (.iload_n 1, 1) := by decide +kernel
theorem dX5_putsString_14 : decode cX5_putsString 14 = .ok (.laload, 1) := by decide +kernel
theorem dX5_putsString_15 : decode cX5_putsString 15 = .ok (.l2i, 1) := by decide +kernel
theorem dX5_putsString_16 : decode cX5_putsString 16 = .ok (.if_icmp .ge 163, 3) := by decide +kernel
theorem dX5_putsString_19 : decode cX5_putsString 19 = .ok (.aload_n 0, 1) := by decide +kernel
theorem dX5_putsString_20 : decode cX5_putsString 20 = .ok (.getfield 37, 3) := by decide +kernel
theorem dX5_putsString_23 : decode cX5_putsString 23 = .ok (.aload_n 0, 1) := by decide +kernel
theorem dX5_putsString_24 : decode cX5_putsString 24 = .ok (.getfield 34, 3) := by decide +kernel
theorem dX5_putsString_27 : decode cX5_putsString 27 = .ok (.iload_n 1, 1) := by decide +kernel
theorem dX5_putsString_28 : decode cX5_putsString 28 = .ok (.iaload, 1) := by decide +kernel
theorem dX5_putsString_29 : decode cX5_putsString 29 = .ok (.iload_n 2, 1) := by decide +kernel
theorem dX5_putsString_30 : decode cX5_putsString 30 = .ok (.iadd, 1) := by decide +kernel
theorem dX5_putsString_31 : decode cX5_putsString 31 = .ok (.baload, 1) := by decide +kernel
theorem dX5_putsString_32 : decode cX5_putsString 32 = .ok (.istore_n 3, 1) := by decide +kernel
theorem dX5_putsString_33 : decode cX5_putsString 33 = .ok (.iload_n 3, 1) := by decide +kernel
theorem dX5_putsString_34 : decode cX5_putsString 34 = .ok (.bipush 34, 2) := by decide +kernel
theorem dX5_putsString_36 : decode cX5_putsString 36 = .ok (.if_icmp .eq 9, 3) := by decide +kernel
theorem dX5_putsString_39 : decode cX5_putsString 39 = .ok (.iload_n 3, 1) := by decide +kernel
theorem dX5_putsString_40 : decode cX5_putsString 40 = .ok (.bipush 92, 2) := by decide +kernel
theorem dX5_putsString_42 : decode cX5_putsString 42 = .ok (.if_icmp .ne 7, 3) := by decide +kernel
theorem dX5_putsString_45 : decode cX5_putsString 45 = .ok (.iload_n 3, 1) := by decide +kernel
theorem dX5_putsString_46 : decode cX5_putsString 46 = .ok (.goto 59, 3) := by decide +kernel
theorem dX5_putsString_49 : decode cX5_putsString 49 = .ok (.iload_n 3, 1) := by decide +kernel
theorem dX5_putsString_50 : decode cX5_putsString 50 = .ok (.bipush 8, 2) := by decide +kernel
theorem dX5_putsString_52 : decode cX5_putsString 52 = .ok (.if_icmp .ne 8, 3) := by decide +kernel
theorem dX5_putsString_55 : decode cX5_putsString 55 = .ok (.bipush 98, 2) := by decide +kernel
theorem dX5_putsString_57 : decode cX5_putsString 57 = .ok (.goto 48, 3) := by decide +kernel
theorem dX5_putsString_60 : decode cX5_putsString 60 = .ok (.iload_n 3, 1) := by decide +kernel
theorem dX5_putsString_61 : decode cX5_putsString 61 = .ok (.bipush 9, 2) := by decide +kernel
theorem dX5_putsString_63 : decode cX5_putsString 63 = .ok (.if_icmp .ne 8, 3) := by decide +kernel
theorem dX5_putsString_66 : decode cX5_putsString 66 = .ok (.bipush 116, 2) := by decide +kernel
theorem dX5_putsString_68 : decode cX5_putsString 68 = .ok (.goto 37, 3) := by decide +kernel
theorem dX5_putsString_71 : decode cX5_putsString 71 = .ok (.iload_n 3, 1) := by decide +kernel
theorem dX5_putsString_72 : decode cX5_putsString 72 = .ok (.bipush 10, 2) := by decide +kernel
theorem dX5_putsString_74 : decode cX5_putsString 74 = .ok (.if_icmp .ne 8, 3) := by decide +kernel
theorem dX5_putsString_77 : decode cX5_putsString 77 = .ok (.bipush 110, 2) := by decide +kernel
theorem dX5_putsString_79 : decode cX5_putsString 79 = .ok (.goto 26, 3) := by decide +kernel
theorem dX5_putsString_82 : decode cX5_putsString 82 = .ok (.iload_n 3, 1) := by decide +kernel
theorem dX5_putsString_83 : decode cX5_putsString 83 = .ok (.bipush 12, 2) := by decide +kernel
theorem dX5_putsString_85 : decode cX5_putsString 85 = .ok (.if_icmp .ne 8, 3) := by decide +kernel
theorem dX5_putsString_88 : decode cX5_putsString 88 = .ok (.bipush 102, 2) := by decide +kernel
theorem dX5_putsString_90 : decode cX5_putsString 90 = .ok (.goto 15, 3) := by decide +kernel
theorem dX5_putsString_93 : decode cX5_putsString 93 = .ok (.iload_n 3, 1) := by decide +kernel
theorem dX5_putsString_94 : decode cX5_putsString 94 = .ok (.bipush 13, 2) := by decide +kernel
theorem dX5_putsString_96 : decode cX5_putsString 96 = .ok (.if_icmp .ne 8, 3) := by decide +kernel
theorem dX5_putsString_99 : decode cX5_putsString 99 = .ok (.bipush 114, 2) := by decide +kernel
theorem dX5_putsString_101 : decode cX5_putsString 101 = .ok (.goto 4, 3) := by decide +kernel
theorem dX5_putsString_104 : decode cX5_putsString 104 = .ok (.iconst 0, 1) := by decide +kernel
theorem dX5_putsString_105 : decode cX5_putsString 105 = .ok (.istore 4, 2) := by decide +kernel
theorem dX5_putsString_107 : decode cX5_putsString 107 = .ok (.iload 4, 2) := by decide +kernel
theorem dX5_putsString_109 : decode cX5_putsString 109 = .ok (.ifCond .le 18, 3) := by decide +kernel
theorem dX5_putsString_112 : decode cX5_putsString 112 = .ok (.aload_n 0, 1) := by decide +kernel
theorem dX5_putsString_113 : decode cX5_putsString 113 = .ok (.bipush 92, 2) := by decide +kernel
theorem dX5_putsString_115 : decode cX5_putsString 115 = .ok (.invokevirtual 219, 3) := by decide +kernel
theorem dX5_putsString_118 : decode cX5_putsString 118 = .ok (.aload_n 0, 1) := by decide +kernel
theorem dX5_putsString_119 : decode cX5_putsString 119 = .ok (.iload 4, 2) := by decide +kernel
theorem dX5_putsString_121 : decode cX5_putsString 121 = .ok (.invokevirtual 219, 3) := by decide +kernel
theorem dX5_putsString_124 : decode cX5_putsString 124 = .ok (.goto 49, 3) := by decide +kernel
theorem dX5_putsString_127 : decode cX5_putsString 127 = .ok (.iload_n 3, 1) := by decide +kernel
theorem dX5_putsString_128 : decode cX5_putsString 128 = .ok (.ifCond .lt 40, 3) := by decide +kernel
theorem dX5_putsString_131 : decode cX5_putsString 131 = .ok (.iload_n 3, 1) := by decide +kernel
theorem dX5_putsString_132 : decode cX5_putsString 132 = .ok (.bipush 32, 2) := by decide +kernel
theorem dX5_putsString_134 : decode cX5_putsString 134 = .ok (.if_icmp .ge 34, 3) := by decide +kernel
theorem dX5_putsString_137 : decode cX5_putsString 137 = .ok (.aload_n 0, 1) := by decide +kernel
theorem dX5_putsString_138 : decode cX5_putsString 138 = .ok (.ldc 240, 2) := by decide +kernel
theorem dX5_putsString_140 : decode cX5_putsString 140 = .ok (.invokevirtual 234, 3) := by decide +kernel
theorem dX5_putsString_143 : decode cX5_putsString 143 = .ok (.aload_n 0, 1) := by decide +kernel
theorem dX5_putsString_144 : decode cX5_putsString 144 = .ok (.iload_n 3, 1) := by decide +kernel
theorem dX5_putsString_145 : decode cX5_putsString 145 = .ok (.bipush 16, 2) := by decide +kernel
theorem dX5_putsString_147 : decode cX5_putsString 147 = .ok (.idiv, 1) := by decide +kernel
theorem dX5_putsString_148 : decode cX5_putsString 148 = .ok (.invokestatic 242, 3) := by decide +kernel
theorem dX5_putsString_151 : decode cX5_putsString 151 = .ok (.invokevirtual 219, 3) := by decide +kernel
theorem dX5_putsString_154 : decode cX5_putsString 154 = .ok (.aload_n 0, 1) := by decide +kernel
theorem dX5_putsString_155 : decode cX5_putsString 155 = .ok (.iload_n 3, 1) := by decide +kernel
theorem dX5_putsString_156 : decode cX5_putsString 156 = .ok (.bipush 16, 2) := by decide +kernel
theorem dX5_putsString_158 : decode cX5_putsString 158 = .ok (.irem, 1) := by decide +kernel
theorem dX5_putsString_159 : decode cX5_putsString 159 = .ok (.invokestatic 242, 3) := by decide +kernel
theorem dX5_putsString_162 : decode cX5_putsString 162 = .ok (.invokevirtual 219, 3) := by decide +kernel
theorem dX5_putsString_165 : decode cX5_putsString 165 = .ok (.goto 8, 3) := by decide +kernel
theorem dX5_putsString_168 : decode cX5_putsString 168 = .ok (.aload_n 0, 1) := by decide +kernel
theorem dX5_putsString_169 : decode cX5_putsString 169 = .ok (.iload_n 3, 1) := by decide +kernel
theorem dX5_putsString_170 : decode cX5_putsString 170 = .ok (.invokevirtual 219, 3) := by decide +kernel
theorem dX5_putsString_173 : decode cX5_putsString 173 = .ok (.iinc 2 1, 3) := by decide +kernel
theorem dX5_putsString_176 : decode cX5_putsString 176 = .ok (.goto (-168), 3) := by decide +kernel
theorem dX5_putsString_179 : decode cX5_putsString 179 = .ok (.aload_n 0, 1) := by decide +kernel
theorem dX5_putsString_180 : decode cX5_putsString 180 = .ok (.bipush 34, 2) := by decide +kernel
theorem dX5_putsString_182 : decode cX5_putsString 182 = .ok (.invokevirtual 219, 3) := by decide +kernel
theorem dX5_putsString_185 : decode cX5_putsString 185 = .ok (.return_, 1) := by decide +kernel
theorem dX5_putsThing_0 : decode cX5_putsThing 0 = .ok (.aload_n 0, 1) := by decide +kernel
theorem dX5_putsThing_1 : decode cX5_putsThing 1 = .ok (.getfield 27, 3) := by decide +kernel
theorem dX5_putsThing_4 : decode cX5_putsThing 4 = .ok (.iload_n 1, 1) := by decide +kernel
theorem dX5_putsThing_5 : decode cX5_putsThing 5 = .ok (.iaload, 1) := by decide +kernel
theorem dX5_putsThing_6 : decode cX5_putsThing 6 = .ok (.tableswitch 133 0 7 #[46, 60, 133, 80, 133, 133, 133, 88], 46) := by decide +kernel
theorem dX5_putsThing_52 : decode cX5_putsThing 52 = .ok (.aload_n 0, 1) := by decide +kernel
theorem dX5_putsThing_53 : decode cX5_putsThing 53 = .ok (.aload_n 0, 1) := by decide +kernel
theorem dX5_putsThing_54 : decode cX5_putsThing 54 = .ok (.getfield 30, 3) := by decide +kernel
theorem dX5_putsThing_57 : decode cX5_putsThing 57 = .ok (.iload_n 1, 1) := by decide +kernel
theorem dX5_putsThing_58 : decode cX5_putsThing 58 = .ok (.laload, 1) := by decide +kernel
theorem dX5_putsThing_59 : decode cX5_putsThing 59 = .ok (.iconst 0, 1) := by decide +kernel
theorem dX5_putsThing_60 : decode cX5_putsThing 60 = .ok (.invokevirtual 245, 3) := by decide +kernel
theorem dX5_putsThing_63 : decode cX5_putsThing 63 = .ok (.goto 155, 3) := by decide +kernel
theorem dX5_putsThing_66 : decode cX5_putsThing 66 = .ok (.aload_n 0, 1) := by decide +kernel
theorem dX5_putsThing_67 : decode cX5_putsThing 67 = .ok (.bipush 45, 2) := by decide +kernel
theorem dX5_putsThing_69 : decode cX5_putsThing 69 = .ok (.invokevirtual 219, 3) := by decide +kernel
theorem dX5_putsThing_72 : decode cX5_putsThing 72 = .ok (.aload_n 0, 1) := by decide +kernel
theorem dX5_putsThing_73 : decode cX5_putsThing 73 = .ok (.aload_n 0, 1) := by decide +kernel
theorem dX5_putsThing_74 : decode cX5_putsThing 74 = .ok (.getfield 30, 3) := by decide +kernel
theorem dX5_putsThing_77 : decode cX5_putsThing 77 = .ok (.iload_n 1, 1) := by decide +kernel
theorem dX5_putsThing_78 : decode cX5_putsThing 78 = .ok (.laload, 1) := by decide +kernel
theorem dX5_putsThing_79 : decode cX5_putsThing 79 = .ok (.iconst 1, 1) := by decide +kernel
theorem dX5_putsThing_80 : decode cX5_putsThing 80 = .ok (.invokevirtual 245, 3) := by decide +kernel
theorem dX5_putsThing_83 : decode cX5_putsThing 83 = .ok (.goto 135, 3) := by decide +kernel
theorem dX5_putsThing_86 : decode cX5_putsThing 86 = .ok (.aload_n 0, 1) := by decide +kernel
theorem dX5_putsThing_87 : decode cX5_putsThing 87 = .ok (.iload_n 1, 1) := by decide +kernel
theorem dX5_putsThing_88 : decode cX5_putsThing 88 = .ok (.invokevirtual 249, 3) := by decide +kernel
theorem dX5_putsThing_91 : decode cX5_putsThing 91 = .ok (.goto 127, 3) := by decide +kernel
theorem dX5_putsThing_94 : decode cX5_putsThing 94 = .ok (.aload_n 0, 1) := by decide +kernel
theorem dX5_putsThing_95 : decode cX5_putsThing 95 = .ok (.aload_n 0, 1) := by decide +kernel
theorem dX5_putsThing_96 : decode cX5_putsThing 96 = .ok (.getfield 30, 3) := by decide +kernel
theorem dX5_putsThing_99 : decode cX5_putsThing 99 = .ok (.iload_n 1, 1) := by decide +kernel
theorem dX5_putsThing_100 : decode cX5_putsThing 100 = .ok (.laload, 1) := by decide +kernel
theorem dX5_putsThing_101 : decode cX5_putsThing 101 = .ok (.ldc2_w 252, 3) := by decide +kernel
theorem dX5_putsThing_104 : decode cX5_putsThing 104 = .ok (.lcmp, 1) := by decide +kernel
theorem dX5_putsThing_105 : decode cX5_putsThing 105 = .ok (.ifCond .ne 8, 3) := by decide +kernel
theorem dX5_putsThing_108 : decode cX5_putsThing 108 = .ok (.ldc 161, 2) := by decide +kernel
theorem dX5_putsThing_110 : decode cX5_putsThing 110 = .ok (.goto 23, 3) := by decide +kernel
theorem dX5_putsThing_113 : decode cX5_putsThing 113 = .ok (.aload_n 0, 1) := by decide +kernel
theorem dX5_putsThing_114 : decode cX5_putsThing 114 = .ok (.getfield 30, 3) := by decide +kernel
theorem dX5_putsThing_117 : decode cX5_putsThing 117 = .ok (.iload_n 1, 1) := by decide +kernel
theorem dX5_putsThing_118 : decode cX5_putsThing 118 = .ok (.laload, 1) := by decide +kernel
theorem dX5_putsThing_119 : decode cX5_putsThing 119 = .ok (.ldc2_w 254, 3) := by decide +kernel
theorem dX5_putsThing_122 : decode cX5_putsThing 122 = .ok (.lcmp, 1) := by decide +kernel
theorem dX5_putsThing_123 : decode cX5_putsThing 123 = .ok (.ifCond .ne 8, 3) := by decide +kernel
theorem dX5_putsThing_126 : decode cX5_putsThing 126 = .ok (.ldc 167, 2) := by decide +kernel
theorem dX5_putsThing_128 : decode cX5_putsThing 128 = .ok (.goto 5, 3) := by decide +kernel
theorem dX5_putsThing_131 : decode cX5_putsThing 131 = .ok (.ldc 169, 2) := by decide +kernel
theorem dX5_putsThing_133 : decode cX5_putsThing 133 = .ok (.invokevirtual 234, 3) := by decide +kernel
theorem dX5_putsThing_136 : decode cX5_putsThing 136 = .ok (.goto 82, 3) := by decide +kernel
theorem dX5_putsThing_139 : decode cX5_putsThing 139 = .ok (.aload_n 0, 1) := by decide +kernel
theorem dX5_putsThing_140 : decode cX5_putsThing 140 = .ok (.aload_n 0, 1) := by decide +kernel
theorem dX5_putsThing_141 : decode cX5_putsThing 141 = .ok (.getfield 27, 3) := by decide +kernel
theorem dX5_putsThing_144 : decode cX5_putsThing 144 = .ok (.iload_n 1, 1) := by decide +kernel
theorem dX5_putsThing_145 : decode cX5_putsThing 145 = .ok (.iaload, 1) := by decide +kernel
theorem dX5_putsThing_146 : decode cX5_putsThing 146 = .ok (.iconst 5, 1) := by decide +kernel
theorem dX5_putsThing_147 : decode cX5_putsThing 147 = .ok (.if_icmp .ne 8, 3) := by decide +kernel
theorem dX5_putsThing_150 : decode cX5_putsThing 150 = .ok (.bipush 123, 2) := by decide +kernel
theorem dX5_putsThing_152 : decode cX5_putsThing 152 = .ok (.goto 5, 3) := by decide +kernel
theorem dX5_putsThing_155 : decode cX5_putsThing 155 = .ok (.bipush 91, 2) := by decide +kernel
theorem dX5_putsThing_157 : decode cX5_putsThing 157 = .ok (.invokevirtual 219, 3) := by decide +kernel
theorem dX5_putsThing_160 : decode cX5_putsThing 160 = .ok (.aload_n 0, 1) := by decide +kernel
theorem dX5_putsThing_161 : decode cX5_putsThing 161 = .ok (.getfield 40, 3) := by decide +kernel
theorem dX5_putsThing_164 : decode cX5_putsThing 164 = .ok (.aload_n 0, 1) := by decide +kernel
theorem dX5_putsThing_165 : decode cX5_putsThing 165 = .ok (.getfield 73, 3) := by decide +kernel
theorem dX5_putsThing_168 : decode cX5_putsThing 168 = .ok (.iload_n 1, 1) := by decide +kernel
theorem dX5_putsThing_169 : decode cX5_putsThing 169 = .ok (.iastore, 1) := by decide +kernel
theorem dX5_putsThing_170 : decode cX5_putsThing 170 = .ok (.aload_n 0, 1) := by decide +kernel
theorem dX5_putsThing_171 : decode cX5_putsThing 171 = .ok (.getfield 43, 3) := by decide +kernel
theorem dX5_putsThing_174 : decode cX5_putsThing 174 = .ok (.aload_n 0, 1) := by decide +kernel
theorem dX5_putsThing_175 : decode cX5_putsThing 175 = .ok (.getfield 73, 3) := by decide +kernel
theorem dX5_putsThing_178 : decode cX5_putsThing 178 = .ok (.aload_n 0, 1) := by decide +kernel
theorem dX5_putsThing_179 : decode cX5_putsThing 179 = .ok (.getfield 27, 3) := by decide +kernel
theorem dX5_putsThing_182 : decode cX5_putsThing 182 = .ok (.iload_n 1, 1) := by decide +kernel
theorem dX5_putsThing_183 : decode cX5_putsThing 183 = .ok (.iaload, 1) := by decide +kernel
theorem dX5_putsThing_184 : decode cX5_putsThing 184 = .ok (.iconst 5, 1) := by decide +kernel
theorem dX5_putsThing_185 : decode cX5_putsThing 185 = .ok (.if_icmp .ne 16, 3) := by decide +kernel
theorem dX5_putsThing_188 : decode cX5_putsThing 188 = .ok (.ldc2_w 210, 3) := by decide +kernel
theorem dX5_putsThing_191 : decode cX5_putsThing 191 = .ok (.aload_n 0, 1) := by decide +kernel
theorem dX5_putsThing_192 : decode cX5_putsThing 192 = .ok (.getfield 30, 3) := by decide +kernel
theorem dX5_putsThing_195 : decode cX5_putsThing 195 = .ok (.iload_n 1, 1) := by decide +kernel
theorem dX5_putsThing_196 : decode cX5_putsThing 196 = .ok (.laload, 1) := by decide +kernel
theorem dX5_putsThing_197 : decode cX5_putsThing 197 = .ok (.lmul, 1) := by decide +kernel
theorem dX5_putsThing_198 : decode cX5_putsThing 198 = .ok (.goto 9, 3) := by decide +kernel
theorem dX5_putsThing_201 : decode cX5_putsThing 201 = .ok (.aload_n 0, 1) := by decide +kernel
theorem dX5_putsThing_202 : decode cX5_putsThing 202 = .ok (.getfield 30, 3) := by decide +kernel
theorem dX5_putsThing_205 : decode cX5_putsThing 205 = .ok (.iload_n 1, 1) := by decide +kernel
theorem dX5_putsThing_206 : decode cX5_putsThing 206 = .ok (.laload, 1) := by decide +kernel
theorem dX5_putsThing_207 : decode cX5_putsThing 207 = .ok (.lastore, 1) := by decide +kernel
theorem dX5_putsThing_208 : decode cX5_putsThing 208 = .ok (.aload_n 0, 1) := by decide +kernel
theorem dX5_putsThing_209 : decode cX5_putsThing 209 = .ok (.dup, 1) := by decide +kernel
theorem dX5_putsThing_210 : decode cX5_putsThing 210 = .ok (.getfield 73, 3) := by decide +kernel
theorem dX5_putsThing_213 : decode cX5_putsThing 213 = .ok (.iconst 1, 1) := by decide +kernel
theorem dX5_putsThing_214 : decode cX5_putsThing 214 = .ok (.iadd, 1) := by decide +kernel
theorem dX5_putsThing_215 : decode cX5_putsThing 215 = .ok (.putfield 73, 3) := by decide +kernel
theorem dX5_putsThing_218 : decode cX5_putsThing 218 = .ok (.return_, 1) := by decide +kernel
theorem dX5_writesJson_0 : decode cX5_writesJson 0 = .ok (.aload_n 0, 1) := by decide +kernel
theorem dX5_writesJson_1 : decode cX5_writesJson 1 = .ok (.iconst 0, 1) := by decide +kernel
theorem dX5_writesJson_2 : decode cX5_writesJson 2 = .ok (.putfield 212, 3) := by decide +kernel
theorem dX5_writesJson_5 : decode cX5_writesJson 5 = .ok (.aload_n 0, 1) := by decide +kernel
theorem dX5_writesJson_6 : decode cX5_writesJson 6 = .ok (.iconst 0, 1) := by decide +kernel
theorem dX5_writesJson_7 : decode cX5_writesJson 7 = .ok (.putfield 73, 3) := by decide +kernel
theorem dX5_writesJson_10 : decode cX5_writesJson 10 = .ok (.iconst 0, 1) := by decide +kernel
theorem dX5_writesJson_11 : decode cX5_writesJson 11 = .ok (.istore_n 1, 1) := by decide +kernel
theorem dX5_writesJson_12 : decode cX5_writesJson 12 = .ok (.iload_n 1, 1) := by decide +kernel
theorem dX5_writesJson_13 : decode cX5_writesJson 13 = .ok (.aload_n 0, 1) := by decide +kernel
theorem dX5_writesJson_14 : decode cX5_writesJson 14 = .ok (.getfield 67, 3) := by decide +kernel
theorem dX5_writesJson_17 : decode cX5_writesJson 17 = .ok (.if_icmp .ge 228, 3) := by decide +kernel
theorem dX5_writesJson_20 : decode cX5_writesJson 20 = .ok (.aload_n 0, 1) := by decide +kernel
theorem dX5_writesJson_21 : decode cX5_writesJson 21 = .ok (.getfield 73, 3) := by decide +kernel
theorem dX5_writesJson_24 : decode cX5_writesJson 24 = .ok (.ifCond .le 145, 3) := by decide +kernel
theorem dX5_writesJson_27 : decode cX5_writesJson 27 = .ok (.aload_n 0, 1) := by decide +kernel
theorem dX5_writesJson_28 : decode cX5_writesJson 28 = .ok (.getfield 40, 3) := by decide +kernel
theorem dX5_writesJson_31 : decode cX5_writesJson 31 = .ok (.aload_n 0, 1) := by decide +kernel
theorem dX5_writesJson_32 : decode cX5_writesJson 32 = .ok (.getfield 73, 3) := by decide +kernel
theorem dX5_writesJson_35 : decode cX5_writesJson 35 = .ok (.iconst 1, 1) := by decide +kernel
theorem dX5_writesJson_36 : decode cX5_writesJson 36 = .ok (.isub, 1) := by decide +kernel
theorem dX5_writesJson_37 : decode cX5_writesJson 37 = .ok (.iaload, 1) := by decide +kernel
theorem dX5_writesJson_38 : decode cX5_writesJson 38 = .ok (.istore_n 2, 1) := by decide +kernel
theorem dX5_writesJson_39 : decode cX5_writesJson 39 = .ok (.aload_n 0, 1) := by decide +kernel
theorem dX5_writesJson_40 : decode cX5_writesJson 40 = .ok (.getfield 27, 3) := by decide +kernel
theorem dX5_writesJson_43 : decode cX5_writesJson 43 = .ok (.iload_n 2, 1) := by decide +kernel
theorem dX5_writesJson_44 : decode cX5_writesJson 44 = .ok (.iaload, 1) := by decide +kernel
theorem dX5_writesJson_45 : decode cX5_writesJson 45 = .ok (.iconst 5, 1) := by decide +kernel
theorem dX5_writesJson_46 : decode cX5_writesJson 46 = .ok (.if_icmp .ne 7, 3) := by decide +kernel
theorem dX5_writesJson_49 : decode cX5_writesJson 49 = .ok (.iconst 1, 1) := by decide +kernel
theorem dX5_writesJson_50 : decode cX5_writesJson 50 = .ok (.goto 4, 3) := by decide +kernel
theorem dX5_writesJson_53 : decode cX5_writesJson 53 = .ok (.iconst 0, 1) := by decide +kernel
theorem dX5_writesJson_54 : decode cX5_writesJson 54 = .ok (.istore_n 3, 1) := by decide +kernel
theorem dX5_writesJson_55 : decode cX5_writesJson 55 = .ok (.iload_n 3, 1) := by decide +kernel
theorem dX5_writesJson_56 : decode cX5_writesJson 56 = .ok (.ifCond .eq 25, 3) := by decide +kernel
theorem dX5_writesJson_59 : decode cX5_writesJson 59 = .ok (.aload_n 0, 1) := by decide +kernel
theorem dX5_writesJson_60 : decode cX5_writesJson 60 = .ok (.getfield 43, 3) := by decide +kernel
theorem dX5_writesJson_63 : decode cX5_writesJson 63 = .ok (.aload_n 0, 1) := by decide +kernel
theorem dX5_writesJson_64 : decode cX5_writesJson 64 = .ok (.getfield 73, 3) := by decide +kernel
theorem dX5_writesJson_67 : decode cX5_writesJson 67 = .ok (.iconst 1, 1) := by decide +kernel
theorem dX5_writesJson_68 : decode cX5_writesJson 68 = .ok (.isub, 1) := by decide +kernel
theorem dX5_writesJson_69 : decode cX5_writesJson 69 = .ok (.laload, 1) := by decide +kernel
theorem dX5_writesJson_70 : decode cX5_writesJson 70 = .ok (.lconst 1, 1) := by decide +kernel
theorem dX5_writesJson_71 : decode cX5_writesJson 71 = .ok (.land, 1) := by decide +kernel
theorem dX5_writesJson_72 : decode cX5_writesJson 72 = .ok (.lconst 1, 1) := by decide +kernel
theorem dX5_writesJson_73 : decode cX5_writesJson 73 = .ok (.lcmp, 1) := by decide +kernel
theorem dX5_writesJson_74 : decode cX5_writesJson 74 = .ok (.ifCond .ne 7, 3) := by decide +kernel
theorem dX5_writesJson_77 : decode cX5_writesJson 77 = .ok (.iconst 1, 1) := by decide +kernel
theorem dX5_writesJson_78 : decode cX5_writesJson 78 = .ok (.goto 4, 3) := by decide +kernel
theorem dX5_writesJson_81 : decode cX5_writesJson 81 = .ok (.iconst 0, 1) := by decide +kernel
theorem dX5_writesJson_82 : decode cX5_writesJson 82 = .ok (.istore 4, 2) := by decide +kernel
theorem dX5_writesJson_84 : decode cX5_writesJson 84 = .ok (.aload_n 0, 1) := by decide +kernel
theorem dX5_writesJson_85 : decode cX5_writesJson 85 = .ok (.getfield 43, 3) := by decide +kernel
theorem dX5_writesJson_88 : decode cX5_writesJson 88 = .ok (.aload_n 0, 1) := by decide +kernel
theorem dX5_writesJson_89 : decode cX5_writesJson 89 = .ok (.getfield 73, 3) := by decide +kernel
theorem dX5_writesJson_92 : decode cX5_writesJson 92 = .ok (.iconst 1, 1) := by decide +kernel
theorem dX5_writesJson_93 : decode cX5_writesJson 93 = .ok (.isub, 1) := by decide +kernel
theorem dX5_writesJson_94 : decode cX5_writesJson 94 = .ok (.laload, 1) := by decide +kernel
theorem dX5_writesJson_95 : decode cX5_writesJson 95 = .ok (.iload_n 3, 1) := by decide +kernel
theorem dX5_writesJson_96 : decode cX5_writesJson 96 = .ok (.ifCond .eq 16, 3) := by decide +kernel
theorem dX5_writesJson_99 : decode cX5_writesJson 99 = .ok (.ldc2_w 210, 3) := by decide +kernel
theorem dX5_writesJson_102 : decode cX5_writesJson 102 = .ok (.aload_n 0, 1) := by decide +kernel
theorem dX5_writesJson_103 : decode cX5_writesJson 103 = .ok (.getfield 30, 3) := by decide +kernel
theorem dX5_writesJson_106 : decode cX5_writesJson 106 = .ok (.iload_n 2, 1) := by decide +kernel
theorem dX5_writesJson_107 : decode cX5_writesJson 107 = .ok (.laload, 1) := by decide +kernel
theorem dX5_writesJson_108 : decode cX5_writesJson 108 = .ok (.lmul, 1) := by decide +kernel
theorem dX5_writesJson_109 : decode cX5_writesJson 109 = .ok (.goto 9, 3) := by decide +kernel
theorem dX5_writesJson_112 : decode cX5_writesJson 112 = .ok (.aload_n 0, 1) := by decide +kernel
theorem dX5_writesJson_113 : decode cX5_writesJson 113 = .ok (.getfield 30, 3) := by decide +kernel
theorem dX5_writesJson_116 : decode cX5_writesJson 116 = .ok (.iload_n 2, 1) := by decide +kernel
theorem dX5_writesJson_117 : decode cX5_writesJson 117 = .ok (.laload, 1) := by decide +kernel
theorem dX5_writesJson_118 : decode cX5_writesJson 118 = .ok (.lcmp, 1) := by decide +kernel
theorem dX5_writesJson_119 : decode cX5_writesJson 119 = .ok (.ifCond .ne 7, 3) := by decide +kernel
theorem dX5_writesJson_122 : decode cX5_writesJson 122 = .ok (.iconst 1, 1) := by decide +kernel
theorem dX5_writesJson_123 : decode cX5_writesJson 123 = .ok (.goto 4, 3) := by decide +kernel
theorem dX5_writesJson_126 : decode cX5_writesJson 126 = .ok (.iconst 0, 1) := by decide +kernel
theorem dX5_writesJson_127 : decode cX5_writesJson 127 = .ok (.istore 5, 2) := by decide +kernel
theorem dX5_writesJson_129 : decode cX5_writesJson 129 = .ok (.iload 4, 2) := by decide +kernel
theorem dX5_writesJson_131 : decode cX5_writesJson 131 = .ok (.ifCond .eq 12, 3) := by decide +kernel
theorem dX5_writesJson_134 : decode cX5_writesJson 134 = .ok (.aload_n 0, 1) := by decide +kernel
theorem dX5_writesJson_135 : decode cX5_writesJson 135 = .ok (.bipush 58, 2) := by decide +kernel
theorem dX5_writesJson_137 : decode cX5_writesJson 137 = .ok (.invokevirtual 219, 3) := by decide +kernel
theorem dX5_writesJson_140 : decode cX5_writesJson 140 = .ok (.goto 14, 3) := by decide +kernel
theorem dX5_writesJson_143 : decode cX5_writesJson 143 = .ok (.iload 5, 2) := by decide +kernel
theorem dX5_writesJson_145 : decode cX5_writesJson 145 = .ok (.ifCond .ne 9, 3) := by decide +kernel
theorem dX5_writesJson_148 : decode cX5_writesJson 148 = .ok (.aload_n 0, 1) := by decide +kernel
theorem dX5_writesJson_149 : decode cX5_writesJson 149 = .ok (.bipush 44, 2) := by decide +kernel
theorem dX5_writesJson_151 : decode cX5_writesJson 151 = .ok (.invokevirtual 219, 3) := by decide +kernel
theorem dX5_writesJson_154 : decode cX5_writesJson 154 = .ok (.aload_n 0, 1) := by decide +kernel
theorem dX5_writesJson_155 : decode cX5_writesJson 155 = .ok (.getfield 43, 3) := by decide +kernel
theorem dX5_writesJson_158 : decode cX5_writesJson 158 = .ok (.aload_n 0, 1) := by decide +kernel
theorem dX5_writesJson_159 : decode cX5_writesJson 159 = .ok (.getfield 73, 3) := by decide +kernel
theorem dX5_writesJson_162 : decode cX5_writesJson 162 = .ok (.iconst 1, 1) := by decide +kernel
theorem dX5_writesJson_163 : decode cX5_writesJson 163 = .ok (.isub, 1) := by decide +kernel
theorem dX5_writesJson_164 : decode cX5_writesJson 164 = .ok (.dup2, 1) := by decide +kernel
theorem dX5_writesJson_165 : decode cX5_writesJson 165 = .ok (.laload, 1) := by decide +kernel
theorem dX5_writesJson_166 : decode cX5_writesJson 166 = .ok (.lconst 1, 1) := by decide +kernel
theorem dX5_writesJson_167 : decode cX5_writesJson 167 = .ok (.lsub, 1) := by decide +kernel
theorem dX5_writesJson_168 : decode cX5_writesJson 168 = .ok (.lastore, 1) := by decide +kernel
theorem dX5_writesJson_169 : decode cX5_writesJson 169 = .ok (.aload_n 0, 1) := by decide +kernel
theorem dX5_writesJson_170 : decode cX5_writesJson 170 = .ok (.iload_n 1, 1) := by decide +kernel
theorem dX5_writesJson_171 : decode cX5_writesJson 171 = .ok (.invokevirtual 256, 3) := by decide +kernel
theorem dX5_writesJson_174 : decode cX5_writesJson 174 = .ok (.aload_n 0, 1) := by decide +kernel
theorem dX5_writesJson_175 : decode cX5_writesJson 175 = .ok (.getfield 73, 3) := by decide +kernel
theorem dX5_writesJson_178 : decode cX5_writesJson 178 = .ok (.ifCond .le 61, 3) := by decide +kernel
theorem dX5_writesJson_181 : decode cX5_writesJson 181 = .ok (.aload_n 0, 1) := by decide +kernel
theorem dX5_writesJson_182 : decode cX5_writesJson 182 = .ok (.getfield 43, 3) := by decide +kernel
theorem dX5_writesJson_185 : decode cX5_writesJson 185 = .ok (.aload_n 0, 1) := by decide +kernel
theorem dX5_writesJson_186 : decode cX5_writesJson 186 = .ok (.getfield 73, 3) := by decide +kernel
theorem dX5_writesJson_189 : decode cX5_writesJson 189 = .ok (.iconst 1, 1) := by decide +kernel
theorem dX5_writesJson_190 : decode cX5_writesJson 190 = .ok (.isub, 1) := by decide +kernel
theorem dX5_writesJson_191 : decode cX5_writesJson 191 = .ok (.laload, 1) := by decide +kernel
theorem dX5_writesJson_192 : decode cX5_writesJson 192 = .ok (.lconst 0, 1) := by decide +kernel
theorem dX5_writesJson_193 : decode cX5_writesJson 193 = .ok (.lcmp, 1) := by decide +kernel
theorem dX5_writesJson_194 : decode cX5_writesJson 194 = .ok (.ifCond .ne 45, 3) := by decide +kernel
theorem dX5_writesJson_197 : decode cX5_writesJson 197 = .ok (.aload_n 0, 1) := by decide +kernel
theorem dX5_writesJson_198 : decode cX5_writesJson 198 = .ok (.dup, 1) := by decide +kernel
theorem dX5_writesJson_199 : decode cX5_writesJson 199 = .ok (.getfield 73, 3) := by decide +kernel
theorem dX5_writesJson_202 : decode cX5_writesJson 202 = .ok (.iconst 1, 1) := by decide +kernel
theorem dX5_writesJson_203 : decode cX5_writesJson 203 = .ok (.isub, 1) := by decide +kernel
theorem dX5_writesJson_204 : decode cX5_writesJson 204 = .ok (.putfield 73, 3) := by decide +kernel
theorem dX5_writesJson_207 : decode cX5_writesJson 207 = .ok (.aload_n 0, 1) := by decide +kernel
theorem dX5_writesJson_208 : decode cX5_writesJson 208 = .ok (.aload_n 0, 1) := by decide +kernel
theorem dX5_writesJson_209 : decode cX5_writesJson 209 = .ok (.getfield 27, 3) := by decide +kernel
theorem dX5_writesJson_212 : decode cX5_writesJson 212 = .ok (.aload_n 0, 1) := by decide +kernel
theorem dX5_writesJson_213 : decode cX5_writesJson 213 = .ok (.getfield 40, 3) := by decide +kernel
theorem dX5_writesJson_216 : decode cX5_writesJson 216 = .ok (.aload_n 0, 1) := by decide +kernel
theorem dX5_writesJson_217 : decode cX5_writesJson 217 = .ok (.getfield 73, 3) := by decide +kernel
theorem dX5_writesJson_220 : decode cX5_writesJson 220 = .ok (.iaload, 1) := by decide +kernel
theorem dX5_writesJson_221 : decode cX5_writesJson 221 = .ok (.iaload, 1) := by decide +kernel
theorem dX5_writesJson_222 : decode cX5_writesJson 222 = .ok (.iconst 5, 1) := by decide +kernel
theorem dX5_writesJson_223 : decode cX5_writesJson 223 = .ok (.if_icmp .ne 8, 3) := by decide +kernel
theorem dX5_writesJson_226 : decode cX5_writesJson 226 = .ok (.bipush 125, 2) := by decide +kernel
theorem dX5_writesJson_228 : decode cX5_writesJson 228 = .ok (.goto 5, 3) := by decide +kernel
theorem dX5_writesJson_231 : decode cX5_writesJson 231 = .ok (.bipush 93, 2) := by decide +kernel
theorem dX5_writesJson_233 : decode cX5_writesJson 233 = .ok (.invokevirtual 219, 3) := by decide +kernel
theorem dX5_writesJson_236 : decode cX5_writesJson 236 = .ok (.goto (-62), 3) := by decide +kernel
theorem dX5_writesJson_239 : decode cX5_writesJson 239 = .ok (.iinc 1 1, 3) := by decide +kernel
theorem dX5_writesJson_242 : decode cX5_writesJson 242 = .ok (.goto (-230), 3) := by decide +kernel
theorem dX5_writesJson_245 : decode cX5_writesJson 245 = .ok (.aload_n 0, 1) := by decide +kernel
theorem dX5_writesJson_246 : decode cX5_writesJson 246 = .ok (.invokevirtual 229, 3) := by decide +kernel
theorem dX5_writesJson_249 : decode cX5_writesJson 249 = .ok (.ireturn, 1) := by decide +kernel
theorem dX5_toCbor_0 : decode cX5_toCbor 0 = .ok (.aload_n 0, 1) := by decide +kernel
theorem dX5_toCbor_1 : decode cX5_toCbor 1 = .ok (.invokevirtual 259, 3) := by decide +kernel
theorem dX5_toCbor_4 : decode cX5_toCbor 4 = .ok (.aload_n 0, 1) := by decide +kernel
theorem dX5_toCbor_5 : decode cX5_toCbor 5 = .ok (.invokevirtual 262, 3) := by decide +kernel
theorem dX5_toCbor_8 : decode cX5_toCbor 8 = .ok (.aload_n 0, 1) := by decide +kernel
theorem dX5_toCbor_9 : decode cX5_toCbor 9 = .ok (.getfield 61, 3) := by decide +kernel
theorem dX5_toCbor_12 : decode cX5_toCbor 12 = .ok (.ifCond .le 11, 3) := by decide +kernel
theorem dX5_toCbor_15 : decode cX5_toCbor 15 = .ok (.aload_n 0, 1) := by decide +kernel
theorem dX5_toCbor_16 : decode cX5_toCbor 16 = .ok (.getfield 61, 3) := by decide +kernel
theorem dX5_toCbor_19 : decode cX5_toCbor 19 = .ok (.ineg, 1) := by decide +kernel
theorem dX5_toCbor_20 : decode cX5_toCbor 20 = .ok (.goto 7, 3) := by decide +kernel
theorem dX5_toCbor_23 : decode cX5_toCbor 23 = .ok (.aload_n 0, 1) := by decide +kernel
theorem dX5_toCbor_24 : decode cX5_toCbor 24 = .ok (.invokevirtual 265, 3) := by decide +kernel
theorem dX5_toCbor_27 : decode cX5_toCbor 27 = .ok (.ireturn, 1) := by decide +kernel
theorem dX5_toJson_0 : decode cX5_toJson 0 = .ok (.aload_n 0, 1) := by decide +kernel
theorem dX5_toJson_1 : decode cX5_toJson 1 = .ok (.invokevirtual 259, 3) := by decide +kernel
theorem dX5_toJson_4 : decode cX5_toJson 4 = .ok (.aload_n 0, 1) := by decide +kernel
theorem dX5_toJson_5 : decode cX5_toJson 5 = .ok (.invokevirtual 268, 3) := by decide +kernel
theorem dX5_toJson_8 : decode cX5_toJson 8 = .ok (.aload_n 0, 1) := by decide +kernel
theorem dX5_toJson_9 : decode cX5_toJson 9 = .ok (.getfield 61, 3) := by decide +kernel
theorem dX5_toJson_12 : decode cX5_toJson 12 = .ok (.ifCond .le 11, 3) := by decide +kernel
theorem dX5_toJson_15 : decode cX5_toJson 15 = .ok (.aload_n 0, 1) := by decide +kernel
theorem dX5_toJson_16 : decode cX5_toJson 16 = .ok (.getfield 61, 3) := by decide +kernel
theorem dX5_toJson_19 : decode cX5_toJson 19 = .ok (.ineg, 1) := by decide +kernel
theorem dX5_toJson_20 : decode cX5_toJson 20 = .ok (.goto 7, 3) := by decide +kernel
theorem dX5_toJson_23 : decode cX5_toJson 23 = .ok (.aload_n 0, 1) := by decide +kernel
theorem dX5_toJson_24 : decode cX5_toJson 24 = .ok (.invokevirtual 271, 3) := by decide +kernel
theorem dX5_toJson_27 : decode cX5_toJson 27 = .ok (.ireturn, 1) := by decide +kernel
end
section
/-! GENERIC: one word list for all methods, one form of contract, calls and returns in it -/
def wT : List Cond := lw_tbl.filter goodWord
theorem wT_of {w : Cond} (h : w ∈ lw_tbl) (g : goodWord w = true) : w ∈ wT := List.mem_filter.mpr ⟨h, g⟩
theorem wT_self : ∀ w ∈ wT, (w.onTables && w.keeps) = true ∨ ∃ ty, w = .arrayClass ty := fun w h => good_of_word (List.mem_filter.mp h).2
theorem wT_good {c : Cond} {ws : List Cond} (h : ∀ w ∈ ws, w ∈ wT) : GoodIn (c :: wT) ws := fun w hw => ⟨List.mem_cons_of_mem _ (h w hw), wT_self w (h w hw)⟩
abbrev wM (y : MethodName) (cc : ByteArray) (n : Nat) (ret : Option FieldType) : List Cond := Cond.code y cc n ret :: wT
-- booleans of the machine
def bI (b : Bool) : Int32 := if b then 1 else 0
theorem bI_t : bI true = 1 := rfl
theorem bI_f : bI false = 0 := rfl
theorem bI_0 {b : Bool} (h : bI b = 0) : ¬ b = true := by cases b with
  | false => decide
  | true => exact absurd h (by decide)
theorem bI_n {b : Bool} (h : ¬ bI b = 0) : b = true := by cases b with
  | false => exact absurd rfl h
  | true => rfl
theorem bI_nar (b : Bool) : narrow .boolean (.int (bI b)) = .int (bI b) := by cases b <;> decide
-- the pure side: a checked index, a named value
def ck {α : Type} (i : Int32) (n : Nat) (k : Option α) : Option α := if i < 0 ∨ n ≤ i.toNatClampNeg then none else k
theorem ck_some {α : Type} {i : Int32} {n : Nat} {k : Option α} {r : α} (h : ck i n k = some r) : vp_in i n ∧ k = some r := by
  unfold ck at h
  by_cases c : i < 0 ∨ n ≤ i.toNatClampNeg
  · rw [if_pos c] at h; cases h
  · rw [if_neg c] at h; exact ⟨c, h⟩
theorem ck_in {α : Type} {i : Int32} {n : Nat} {k : Option α} (h : vp_in i n) : ck i n k = k := if_neg h
def lt {α β : Type} (a : α) (k : α → β) : β := k a
theorem lt_eq {α β : Type} {a y : α} {k : α → β} {r : β} (h : lt a k = r) (e : y = a) : k y = r := by subst e; exact h
def bd {α β : Type} (a : Option α) (k : α → Option β) : Option β := match a with
  | none => none
  | some x => k x
theorem bd_some {α β : Type} {a : Option α} {k : α → Option β} {r : β} (h : bd a k = some r) : ∃ x, a = some x ∧ k x = some r := by
  cases a with
  | none => cases h
  | some x => exact ⟨x, rfl, h⟩
theorem bd_of {α β : Type} {a : Option α} {k : α → Option β} {x : α} (h : a = some x) : bd a k = k x := by rw [h]; rfl
def FU : Nat := 100000
-- the strings of the system, by their places: false, true, null, hexadecimal digits, 2 to the 64, \u00
def gTx : List (List Int32) := [[102, 97, 108, 115, 101], [116, 114, 117, 101], [110, 117, 108, 108], [48, 49, 50, 51, 52, 53, 54, 55, 56, 57, 97, 98, 99, 100, 101, 102], [49, 56, 52, 52, 54, 55, 52, 52, 48, 55, 51, 55, 48, 57, 53, 53, 49, 54, 49, 54], [92, 117, 48, 48]]
def gLn : List Nat := [5, 4, 4, 16, 20, 4]
abbrev gSt : List (String × Nat × String × Nat) := [("TextBridge$JsonReader", 45, "false", 0), ("TextBridge$JsonReader", 51, "true", 1), ("TextBridge$JsonReader", 53, "null", 2), ("TextBridge$CborReader", 121, "0123456789abcdef", 3), ("TextBridge$CborReader", 63, "false", 0), ("TextBridge$CborReader", 67, "true", 1), ("TextBridge$CborReader", 69, "null", 2), ("TextBridgeModel", 161, "false", 0), ("TextBridgeModel", 167, "true", 1), ("TextBridgeModel", 169, "null", 2), ("TextBridgeModel", 109, "18446744073709551616", 4), ("TextBridgeModel", 240, "\\u00", 5)]
abbrev gNs : List (String × Nat × MethodName) := [(RX3, 48, yX4_shortestInfo), (RX3, 52, yX4_bytesBehind), (RX1, 109, yX4_signLength), (RX0, 83, yX4_bytesBehind), (RX0, 90, yX4_shortestInfo), (RX0, 108, yX4_signLength)]
def gR (aK : Nat → Nat) (U : State) : Prop := (∀ q ∈ gSt, vk_R q.1 q.2.1 q.2.2.1 (aK q.2.2.2) U) ∧ ∀ q ∈ gNs, va_Nw (.methodLinkNest q.1 q.2.1 q.2.2 "TextBridge") U
theorem gR.same {aK : Nat → Nat} {u U : State} (hv : U.vm = u.vm) (h : gR aK u) : gR aK U := ⟨fun q hq => (h.1 q hq).same hv, fun q hq => va_Nw.same rfl hv.symm (h.2 q hq)⟩
theorem gR.warm {aK : Nat → Nat} {s U : State} (hW : s.WarmedH U.vm) (h : gR aK s) : gR aK U := ⟨fun q hq => (h.1 q hq).warm hW, fun q hq => va_Nw.warmM hW (h.2 q hq)⟩
def gH (aK aV : Nat → Nat) (A : Nat → Prop) (U : State) (H : Heap) : Prop := vk_S 6 gLn gTx aK aV A U H ∧ va_Z "java/lang/String" "COMPACT_STRINGS" "Z" (.int 1) A U H ∧ va_Zq "jdk/internal/util/Preconditions" "SIOOBE_FORMATTER" "Ljava/util/function/BiFunction;" A U H
theorem gH.moved {aK aV : Nat → Nat} {A : Nat → Prop} {u U : State} {H : Heap} (hvm : u.vm.Alike U.vm) (h : gH aK aV A u H) : gH aK aV A U H := ⟨h.1.moved hvm, h.2.1.moved hvm, h.2.2.moved hvm⟩
theorem gH.kept {aK aV : Nat → Nat} {A : Nat → Prop} {U : State} {H H1 : Heap} (h : gH aK aV A U H) (hq : ∀ a : Nat, a < H.size → ¬ A a → H1[a]? = H[a]?) : gH aK aV A U H1 := ⟨h.1.kept hq, h.2.1.kept hq, h.2.2.kept hq⟩
theorem gH.narrow {aK aV : Nat → Nat} {A B : Nat → Prop} {U : State} {H : Heap} (h : gH aK aV A U H) (hAB : ∀ q, B q → A q) : gH aK aV B U H := ⟨h.1.narrow hAB, h.2.1.narrow hAB, h.2.2.narrow hAB⟩
-- the contract
def cP (D : va_G) (tys : List (ClassId × FieldType)) (aK aV : Nat → Nat) (w : va_W) (sz : Nat) (U : State) : Prop := U.heap.size = sz ∧ va_P D vwCl w U.heap ∧ va_K D vwCl tys U ∧ va_D (fun _ => True) w ∧ gR aK U ∧ gH aK aV (va_A w sz) U U.heap
def cQ (D : va_G) (tys : List (ClassId × FieldType)) (A : Nat → Prop) (w : va_W) (ov : Option Value) : Array Value → State → Outcome → State → Prop := fun _ st o t => (o = .returned ov ∧ va_P D vwCl w t.heap ∧ va_K D vwCl tys t ∧ va_D A w) ∧ va_F A st t
def CT (l : Launch) (D : va_G) (tys : List (ClassId × FieldType)) (aK aV : Nat → Nat) (y : MethodName) (ws : List Cond) (rm : Room) (mc ms : Nat) (av : List Value) (w : va_W) (ov : Option Value) (w' : va_W) : Prop := ∀ sz : Nat, Met l y ws rm (va_Pc av (cP D tys aK aV w sz)) (cQ D tys (va_A w sz) w' ov) mc ms (va_A w sz)
theorem cP_blind (D : va_G) (tys : List (ClassId × FieldType)) (aK aV : Nat → Nat) (w : va_W) (sz : Nat) (av : List Value) : FrameBlind (va_Pc av (cP D tys aK aV w sz)) := by
  intro a U g mk q
  obtain ⟨q0, q1, qP, qK, qD, qR, qH⟩ := q
  exact ⟨q0, q1, qP, va_K.moved (u := U) (U := U.calling g mk a) (Vm.Alike.refl U.vm) qK, qD, gR.same (u := U) (U := U.calling g mk a) rfl qR, gH.moved (u := U) (U := U.calling g mk a) (Vm.Alike.refl U.vm) qH⟩
/-- what holds all along a method's body -/
def CX (p : Program) (s : State) (m : MethodId) (args : Array Value) (meth : Method) (c : Code) (D : va_G) (tys : List (ClassId × FieldType)) (aK aV : Nat → Nat) (A : Nat → Prop) (own : String) (cc : ByteArray) (nL : Nat) (ret : Option FieldType) : Prop :=
  p.tables.exec = Jvm.exec ∧ c.code = cc ∧ c.maxLocals = nL ∧ s.vm.findClass own = some m.cls ∧ (∀ w ∈ wT, w.before args s = true) ∧ meth.sig.returnType = ret ∧ meth.locks = false ∧ va_K D vwCl tys s ∧ (∀ q, s.heap.size ≤ q → A q) ∧ gR aK s ∧ gH aK aV A s s.heap
section GEN
variable {p : Program} {l : Launch} {e : Env} {R : Room} {s : State} {m : MethodId} {args : Array Value} {below : List Frame} {meth : Method} {c : Code} {H : Heap} {locs : List Loc} {cells slots : Nat} {Q : State → Prop}
variable {D : va_G} {tys : List (ClassId × FieldType)} {aK aV : Nat → Nat} {A : Nat → Prop} {own : String} {cc : ByteArray} {nL : Nat} {ret : Option FieldType} {pc : Nat} {ls : Array Slot} {w wc wr w1 : va_W} {ov : Option Value} {y : MethodName} {bytes : ByteArray} {maxL mc ms n index : Nat} {ret' : Option FieldType} {rm : Room} {As rest : List Value} {b : Nat}
theorem CT.of (hy : plainName y.cls = true) (hown : y.cls = own) {av : List Value} {w' : va_W}
    (body : ∀ (p : Program) (e : Env) (s : State) (m : MethodId) (below : List Frame) (meth : Method) (c : Code) (A : Nat → Prop), CX p s m av.toArray meth c D tys aK aV A own cc nL ret → meth.name = y.name → va_P D vwCl w s.heap → va_D A w → va_S A s.heap s.heap [] →
      W p l e rm s m av.toArray below meth c s.heap [] 0 0 (MQ below (cQ D tys A w' ov) av.toArray s mc ms A) (entryFrame m av.toArray nL)) : CT l D tys aK aV y (wM y cc nL ret) rm mc ms av w ov w' := by
  intro sz
  refine Met.ofW (cc := cc) (maxL := nL) (ret := ret) hy rfl ?_
  intro p e s m args below meth c s₁ B hml hv
  obtain ⟨rfl, hsz, hP, hK, hD0, hR, hH⟩ := hv
  subst hsz
  have hts := atoms_spec (ws := wM y cc nL ret) B.pre
  exact body p e s m below meth c (va_A w s.heap.size) ⟨B.exec, B.bytes, hml, by rw [← hown]; exact findClass_of_methodNamed B.named, fun w hw => hts w (List.mem_cons_of_mem _ hw), B.returns, B.notSynchronized, hK, fun q h => Or.inr h, hR, hH⟩ (name_of_methodNamed B.named B.method).1 hP (hD0.self) va_S.rf
/-- behind a call -/
theorem ct_go {av : Array Value} {st0 : List Value} (G : CX p s m args meth c D tys aK aV A own cc nL ret) (hP : va_P D vwCl w H) (hD : va_D A w) (hS : va_S A s.heap H locs) (isC isR : List Nat) (hC : isC.map (fun i => w[i]?) = wc.map some) (hR : isR.map (fun i => w[i]?) = wr.map some) (hn : va_nd isR = true) (hdis : ∀ i ∈ isR, i ∉ isC)
    (hr : va_Run p l e R s m args below meth c H locs cells slots mc ms (F0 m pc ls st0) rest (cQ D tys (va_A wc H.size) w1 ov av) (va_A wc H.size))
    (kk : ∀ (H1 : Heap) (locs1 : List Loc), va_P D vwCl (wr ++ w1) H1 → va_D A (wr ++ w1) → va_S A s.heap H1 locs1 → W p l e R s m args below meth c H1 locs1 (cells + mc) (slots + ms) Q (F0 m (pc + 3) ls (ov.toList ++ rest))) : W p l e R s m args below meth c H locs cells slots Q (F0 m pc ls st0) := by
  obtain ⟨hx, hb, hml, hown, hT, hrt, hlk, hK, hA, hG, hE⟩ := G
  have hFc := va_free (wc := wc) hD hS hA isC hC
  intro T hT X
  obtain ⟨v, st₀, t, T', L, h0, X', hL, e1, e2, ⟨⟨hv, hP1, hK1, hD1⟩, hz, hk⟩, st⟩ := hr T hT X
  cases hv
  rw [h0] at hz hk
  rw [← e1] at hP1 hz hk
  obtain ⟨hP, hD⟩ := va_join hP hD isC isR hC hR hn hdis hk hFc hP1 hD1
  obtain ⟨t2, a1, b1⟩ := kk T'.heap (locs ++ L) hP hD ⟨Nat.le_trans hS.1 hz, fun q h1 h2 => by rw [hk q (Nat.lt_of_lt_of_le h1 hS.1) (fun z => h2 (hFc q z))]; exact hS.2.1 q h1 h2, fun q hq => by
      rcases List.mem_append.mp hq with h | h
      · exact hS.2.2 q h
      · exact hFc _ (hL q h)⟩ T' rfl X'
  exact ⟨t2, st t2 a1, b1⟩
/-- a callee's start -/
theorem ct_pre (G : CX p s m args meth c D tys aK aV A own cc nL ret) (hP : va_P D vwCl w H) (hD : va_D A w) (hS : va_S A s.heap H locs) (isC : List Nat) (hn : va_nd isC = true) (hC : isC.map (fun i => w[i]?) = wc.map some) (av : List Value) : PreS s H (va_Pc av (cP D tys aK aV wc H.size)) av := by
  obtain ⟨hx, hb, hml, hown, hT, hrt, hlk, hK, hA, hG, hE⟩ := G
  have hFc := va_free (wc := wc) hD hS hA isC hC
  refine ⟨cP_blind D tys aK aV wc H.size av, fun U hU hW => ⟨rfl, by rw [hU], ?_, va_K.moved hW.alike hK, (hD.sub isC hn hC).weaken (fun _ _ _ _ => trivial), hG.warm hW, ?_⟩⟩
  · rw [hU]
    exact hP.sub isC (by
      have h := congrArg (fun l => l.filterMap id) hC
      simpa [List.filterMap_map, Function.comp_def] using h)
  · rw [hU]
    exact ((hE.moved hW.alike).kept hS.2.1).narrow hFc
def MV (own : String) (index : Nat) (C : String) (y : MethodName) (bytes : ByteArray) (maxL : Nat) (ret' : Option FieldType) (n : Nat) : Prop := (∀ w ∈ ([.methodLink own index y, .instanceMethod y, .selects C y y, .initialized C, .code y bytes maxL ret'] : List Cond), w ∈ wT) ∧ (y.cls = C ∧ y.cls ≠ "java/lang/invoke/MethodHandle" ∧ y.cls ≠ "java/lang/invoke/VarHandle" ∧ (parseMethodDescriptor y.desc).map (fun d => d.parameters.length) = some n)
/-- invokevirtual of a method of the receiver's own class, private ones too -/
theorem ct_v {C : String} (G : CX p s m args meth c D tys aK aV A own cc nL ret) (M : MV own index C y bytes maxL ret' n) (hM : CT l D tys aK aV y (wM y bytes maxL ret') rm mc ms (.ref b :: As) wc ov w1) (hP : va_P D vwCl w H) (hD : va_D A w) (hS : va_S A s.heap H locs)
    (isC isR : List Nat) (hnC : va_nd isC = true) (hC : isC.map (fun i => w[i]?) = wc.map some) (hR : isR.map (fun i => w[i]?) = wr.map some) (hn : va_nd isR = true) (hdis : ∀ i ∈ isR, i ∉ isC) {ci q0 : Nat} {q : vw_C} {fs : List Value} (hq : vwCl[ci]? = some q) (hq1 : q.1 = C) (he : w[q0]? = some (b, .inr (ci, fs)))
    (hrm : rm.cells = mc ∧ rm.slots = ms ∧ rm.frames + 1 ≤ R.frames ∧ 8 + (maxL + 11) + rm.locals ≤ R.locals) (hA : As.length = n) (hls : ls.size = nL) (hst : (rest.map fun v => v.category).sum ≤ 8) (hdg : decode cc pc = .ok (.invokevirtual index, 3)) (hf : cells + mc ≤ R.cells ∧ slots + ms ≤ R.slots)
    (kk : ∀ (H1 : Heap) (locs1 : List Loc), va_P D vwCl (wr ++ w1) H1 → va_D A (wr ++ w1) → va_S A s.heap H1 locs1 → W p l e R s m args below meth c H1 locs1 (cells + mc) (slots + ms) Q (F0 m (pc + 3) ls (ov.toList ++ rest))) : W p l e R s m args below meth c H locs cells slots Q (F0 m pc ls (As.reverse ++ .ref b :: rest)) := by
  have hp := ct_pre G hP hD hS isC hnC hC (.ref b :: As)
  obtain ⟨hx, hb, hml, hown, hT, hrt, hlk, hK, hAA, hG, hE⟩ := id G
  have hts : ∀ w ∈ (Cond.tt :: wT), w ∈ wT → w.before args s = true := fun w _ h => hT w h
  have cw : CallW R s args own C index y bytes maxL ret' (wM y bytes maxL ret') rm mc ms n := by
    obtain ⟨M1, M2⟩ := M
    refine cwV (Ts := wT) n hT ?_ rfl hrm.1 hrm.2.1 M2 hrm.2.2
    intro w hw
    have hw1 : w ∈ wT := by
      rcases List.mem_append.mp hw with h | h
      · exact M1 w (by simp only [List.mem_cons, List.not_mem_nil, or_false] at h ⊢; rcases h with h | h | h | h <;> simp [h])
      · rcases List.mem_cons.mp h with h | h
        · exact M1 w (by simp [h])
        · exact h
    exact ⟨hw1, wT_self w hw1⟩
  exact ct_go G hP hD hS isC isR hC hR hn hdis (va_runV (Ts := wT) (g := F0 m pc ls (As.reverse ++ .ref b :: rest)) (rest := rest) ⟨hx, hb, hml, hown, hT⟩ (hM H.size) cw ⟨hp.1, by rw [← hq1]; exact va_recv hK hP hq he, hp.2⟩ rfl hA hls rfl (lv_room hst) hdg hf) kk
def MU (own : String) (index : Nat) (C owner : String) (x y : MethodName) (bytes : ByteArray) (maxL : Nat) (ret' : Option FieldType) (n : Nat) : Prop := (∀ w ∈ ([.methodLink own index x, .sameMethod x.cls owner x.name x.desc, .selects C x y, .instanceMethod y, .initialized y.cls, .code y bytes maxL ret'] : List Cond), w ∈ wT) ∧ y = ⟨owner, x.name, x.desc⟩ ∧ (owner ≠ "java/lang/invoke/MethodHandle" ∧ owner ≠ "java/lang/invoke/VarHandle" ∧ (parseMethodDescriptor x.desc).map (fun d => d.parameters.length) = some n)
/-- invokevirtual of an inherited method -/
theorem ct_u {C owner : String} {x : MethodName} (G : CX p s m args meth c D tys aK aV A own cc nL ret) (M : MU own index C owner x y bytes maxL ret' n) (hM : CT l D tys aK aV y (wM y bytes maxL ret') rm mc ms (.ref b :: As) wc ov w1) (hP : va_P D vwCl w H) (hD : va_D A w) (hS : va_S A s.heap H locs)
    (isC isR : List Nat) (hnC : va_nd isC = true) (hC : isC.map (fun i => w[i]?) = wc.map some) (hR : isR.map (fun i => w[i]?) = wr.map some) (hn : va_nd isR = true) (hdis : ∀ i ∈ isR, i ∉ isC) {ci q0 : Nat} {q : vw_C} {fs : List Value} (hq : vwCl[ci]? = some q) (hq1 : q.1 = C) (he : w[q0]? = some (b, .inr (ci, fs)))
    (hrm : rm.cells = mc ∧ rm.slots = ms ∧ rm.frames + 1 ≤ R.frames ∧ 8 + (maxL + 11) + rm.locals ≤ R.locals) (hA : As.length = n) (hls : ls.size = nL) (hst : (rest.map fun v => v.category).sum ≤ 8) (hdg : decode cc pc = .ok (.invokevirtual index, 3)) (hf : cells + mc ≤ R.cells ∧ slots + ms ≤ R.slots)
    (kk : ∀ (H1 : Heap) (locs1 : List Loc), va_P D vwCl (wr ++ w1) H1 → va_D A (wr ++ w1) → va_S A s.heap H1 locs1 → W p l e R s m args below meth c H1 locs1 (cells + mc) (slots + ms) Q (F0 m (pc + 3) ls (ov.toList ++ rest))) : W p l e R s m args below meth c H locs cells slots Q (F0 m pc ls (As.reverse ++ .ref b :: rest)) := by
  have hp := ct_pre G hP hD hS isC hnC hC (.ref b :: As)
  obtain ⟨hx, hb, hml, hown, hT, hrt, hlk, hK, hAA, hG, hE⟩ := id G
  have cw : va_CU R s args own C owner index x y bytes maxL ret' (wM y bytes maxL ret') rm mc ms n := by
    obtain ⟨M1, M2, M3⟩ := M
    refine va_cwU (Ts := wT) n hT ?_ rfl hrm.1 hrm.2.1 M2 M3 hrm.2.2
    intro w hw
    have hw1 : w ∈ wT := by
      rcases List.mem_append.mp hw with h | h
      · exact M1 w (by simp only [List.mem_cons, List.not_mem_nil, or_false] at h ⊢; rcases h with h | h | h | h | h <;> simp [h])
      · rcases List.mem_cons.mp h with h | h
        · exact M1 w (by simp [h])
        · exact h
    exact ⟨hw1, wT_self w hw1⟩
  exact ct_go G hP hD hS isC isR hC hR hn hdis (va_runU (Ts := wT) (g := F0 m pc ls (As.reverse ++ .ref b :: rest)) (rest := rest) ⟨hx, hb, hml, hown, hT⟩ (hM H.size) cw ⟨hp.1, by rw [← hq1]; exact va_recv hK hP hq he, hp.2⟩ rfl hA hls rfl (lv_room hst) hdg hf) kk
def MS0 (own : String) (index : Nat) (y : MethodName) (bytes : ByteArray) (maxL : Nat) (ret' : Option FieldType) (n : Nat) : Prop := (∀ w ∈ ([.methodLink own index y, .static y, .initialized own, .code y bytes maxL ret'] : List Cond), w ∈ wT) ∧ (y.cls = own ∧ y.cls ≠ "java/lang/invoke/MethodHandle" ∧ y.cls ≠ "java/lang/invoke/VarHandle" ∧ (parseMethodDescriptor y.desc).map (fun d => d.parameters.length) = some n)
/-- invokestatic, own class -/
theorem ct_s (G : CX p s m args meth c D tys aK aV A own cc nL ret) (M : MS0 own index y bytes maxL ret' n) (hM : CT l D tys aK aV y (wM y bytes maxL ret') rm mc ms As wc ov w1) (hP : va_P D vwCl w H) (hD : va_D A w) (hS : va_S A s.heap H locs)
    (isC isR : List Nat) (hnC : va_nd isC = true) (hC : isC.map (fun i => w[i]?) = wc.map some) (hR : isR.map (fun i => w[i]?) = wr.map some) (hn : va_nd isR = true) (hdis : ∀ i ∈ isR, i ∉ isC)
    (hrm : rm.cells = mc ∧ rm.slots = ms ∧ rm.frames + 1 ≤ R.frames ∧ 8 + (maxL + 11) + rm.locals ≤ R.locals) (hA : As.length = n) (hls : ls.size = nL) (hst : (rest.map fun v => v.category).sum ≤ 8) (hdg : decode cc pc = .ok (.invokestatic index, 3)) (hf : cells + mc ≤ R.cells ∧ slots + ms ≤ R.slots)
    (kk : ∀ (H1 : Heap) (locs1 : List Loc), va_P D vwCl (wr ++ w1) H1 → va_D A (wr ++ w1) → va_S A s.heap H1 locs1 → W p l e R s m args below meth c H1 locs1 (cells + mc) (slots + ms) Q (F0 m (pc + 3) ls (ov.toList ++ rest))) : W p l e R s m args below meth c H locs cells slots Q (F0 m pc ls (As.reverse ++ rest)) := by
  have hp := ct_pre G hP hD hS isC hnC hC As
  obtain ⟨hx, hb, hml, hown, hT, hrt, hlk, hK, hAA, hG, hE⟩ := id G
  have cw : CallB R s args own index y bytes maxL ret' (wM y bytes maxL ret') rm mc ms n ∧ (Cond.static y).before args s = true := by
    obtain ⟨M1, M2⟩ := M
    refine cwS (Ts := wT) n hT ?_ rfl hrm.1 hrm.2.1 M2 hrm.2.2
    intro w hw
    have hw1 : w ∈ wT := by
      rcases List.mem_append.mp hw with h | h
      · exact M1 w (by simp only [List.mem_cons, List.not_mem_nil, or_false] at h ⊢; rcases h with h | h | h <;> simp [h])
      · rcases List.mem_cons.mp h with h | h
        · exact M1 w (by simp [h])
        · exact h
    exact ⟨hw1, wT_self w hw1⟩
  exact ct_go G hP hD hS isC isR hC hR hn hdis (va_runS (Ts := wT) (g := F0 m pc ls (As.reverse ++ rest)) (rest := rest) ⟨hx, hb, hml, hown, hT⟩ (hM H.size) cw hp rfl hA hls rfl (lv_room hst) hdg hf) kk
def MN (own : String) (index : Nat) (y : MethodName) (bytes : ByteArray) (maxL : Nat) (ret' : Option FieldType) (n : Nat) : Prop := (∀ w ∈ ([.static y, .initialized y.cls, .code y bytes maxL ret'] : List Cond), w ∈ wT) ∧ (y.cls ≠ "java/lang/invoke/MethodHandle" ∧ y.cls ≠ "java/lang/invoke/VarHandle" ∧ (parseMethodDescriptor y.desc).map (fun d => d.parameters.length) = some n) ∧ (own, index, y) ∈ gNs
/-- invokestatic of a nest mate's private method -/
theorem ct_sn (G : CX p s m args meth c D tys aK aV A own cc nL ret) (M : MN own index y bytes maxL ret' n) (hM : CT l D tys aK aV y (wM y bytes maxL ret') rm mc ms As wc ov w1) (hP : va_P D vwCl w H) (hD : va_D A w) (hS : va_S A s.heap H locs)
    (isC isR : List Nat) (hnC : va_nd isC = true) (hC : isC.map (fun i => w[i]?) = wc.map some) (hR : isR.map (fun i => w[i]?) = wr.map some) (hn : va_nd isR = true) (hdis : ∀ i ∈ isR, i ∉ isC)
    (hrm : rm.cells = mc ∧ rm.slots = ms ∧ rm.frames + 1 ≤ R.frames ∧ 8 + (maxL + 11) + rm.locals ≤ R.locals) (hA : As.length = n) (hls : ls.size = nL) (hst : (rest.map fun v => v.category).sum ≤ 8) (hdg : decode cc pc = .ok (.invokestatic index, 3)) (hf : cells + mc ≤ R.cells ∧ slots + ms ≤ R.slots)
    (kk : ∀ (H1 : Heap) (locs1 : List Loc), va_P D vwCl (wr ++ w1) H1 → va_D A (wr ++ w1) → va_S A s.heap H1 locs1 → W p l e R s m args below meth c H1 locs1 (cells + mc) (slots + ms) Q (F0 m (pc + 3) ls (ov.toList ++ rest))) : W p l e R s m args below meth c H locs cells slots Q (F0 m pc ls (As.reverse ++ rest)) := by
  have hp := ct_pre G hP hD hS isC hnC hC As
  obtain ⟨hx, hb, hml, hown, hT, hrt, hlk, hK, hAA, hG, hE⟩ := id G
  obtain ⟨M1, M2, M3⟩ := M
  have cw : va_CN R s args own index y "TextBridge" bytes maxL ret' (wM y bytes maxL ret') rm mc ms n := by
    refine va_cnB (Ts := wT) n hT ?_ rfl hrm.1 hrm.2.1 (hG.2 _ M3) (hT _ (M1 _ (by simp))) M2 hrm.2.2
    intro w hw
    have hw1 : w ∈ wT := by
      rcases List.mem_cons.mp hw with h | h
      · exact M1 w (by simp [h])
      · exact h
    exact ⟨hw1, wT_self w hw1⟩
  exact ct_go G hP hD hS isC isR hC hR hn hdis (va_runSN (Ts := wT) (g := F0 m pc ls (As.reverse ++ rest)) (rest := rest) ⟨hx, hb, hml, hown, hT⟩ (hM H.size) ⟨cw, hT _ (M1 _ (by simp)), trivial⟩ hp rfl hA hls rfl (lv_room hst) hdg hf) kk
/-- returns -/
theorem ct_iret {v : Int32} {ty : FieldType} (G : CX p s m args meth c D tys aK aV A own cc nL (some ty)) (hnar : narrow ty (.int v) = .int v) (hP : va_P D vwCl w H) (hD : va_D A w) (hS : va_S A s.heap H locs) (hdg : decode cc pc = .ok (.ireturn, 1)) : W p l e R s m args below meth c H locs cells slots (MQ below (cQ D tys A w (some (.int v))) args s cells slots A) (F0 m pc ls [.int v]) := by
  obtain ⟨hx, hb, hml, hown, hT, hrt, hlk, hK, hA, hG, hE⟩ := G
  exact W.zret hx hb hrt hnar (fun t ht hW => ⟨⟨rfl, by rw [ht]; exact hP, va_K.moved hW.alike hK, hD⟩, hS.F ht⟩) hS.2.2 hdg hlk
theorem ct_lret {v : Int64} (G : CX p s m args meth c D tys aK aV A own cc nL (some .long)) (hP : va_P D vwCl w H) (hD : va_D A w) (hS : va_S A s.heap H locs) (hdg : decode cc pc = .ok (.lreturn, 1)) : W p l e R s m args below meth c H locs cells slots (MQ below (cQ D tys A w (some (.long v))) args s cells slots A) (F0 m pc ls [.long v]) := by
  obtain ⟨hx, hb, hml, hown, hT, hrt, hlk, hK, hA, hG, hE⟩ := G
  exact W.lret hx hb hrt (fun t ht hW => ⟨⟨rfl, by rw [ht]; exact hP, va_K.moved hW.alike hK, hD⟩, hS.F ht⟩) hS.2.2 hdg hlk
theorem ct_vret (G : CX p s m args meth c D tys aK aV A own cc nL none) (hP : va_P D vwCl w H) (hD : va_D A w) (hS : va_S A s.heap H locs) (hdg : decode cc pc = .ok (.return_, 1)) : W p l e R s m args below meth c H locs cells slots (MQ below (cQ D tys A w none) args s cells slots A) (F0 m pc ls []) := by
  obtain ⟨hx, hb, hml, hown, hT, hrt, hlk, hK, hA, hG, hE⟩ := G
  exact W.vret hx hb hrt (fun t ht hW => ⟨⟨rfl, by rw [ht]; exact hP, va_K.moved hW.alike hK, hD⟩, hS.F ht⟩) hS.2.2 hdg hlk
end GEN
end
section
/-! WORDS: which are among the tables' (printed by program) -/
theorem in1 {w : Cond} {i : Nat} (h : tables_1_1[i]? = some w) : w ∈ lw_tbl := List.mem_append_right (k2_sels lw_privs) (List.mem_append_left (tables_1_2 ++ (tables_1_3 ++ tables_1_4)) (List.mem_of_getElem? h))
theorem in2 {w : Cond} {i : Nat} (h : tables_1_2[i]? = some w) : w ∈ lw_tbl := List.mem_append_right (k2_sels lw_privs) (List.mem_append_right tables_1_1 (List.mem_append_left (tables_1_3 ++ tables_1_4) (List.mem_of_getElem? h)))
theorem in3 {w : Cond} {i : Nat} (h : tables_1_3[i]? = some w) : w ∈ lw_tbl := List.mem_append_right (k2_sels lw_privs) (List.mem_append_right tables_1_1 (List.mem_append_right tables_1_2 (List.mem_append_left tables_1_4 (List.mem_of_getElem? h))))
theorem in4 {w : Cond} {i : Nat} (h : tables_1_4[i]? = some w) : w ∈ lw_tbl := List.mem_append_right (k2_sels lw_privs) (List.mem_append_right tables_1_1 (List.mem_append_right tables_1_2 (List.mem_append_right tables_1_3 (List.mem_of_getElem? h))))
theorem sel {y : MethodName} {n : Nat} (h : (y, n) ∈ lw_privs) : Cond.selects y.cls y y ∈ lw_tbl := List.mem_append_left _ (List.mem_map.mpr ⟨(y, n), h, rfl⟩)
theorem i_X0 : ∀ w ∈ u_ws RX0 TX0 8, w ∈ wT := by decide +kernel
theorem i_X1 : ∀ w ∈ u_ws RX1 TX1 6, w ∈ wT := by decide +kernel
theorem i_X3 : ∀ w ∈ u_ws RX3 TX3 2, w ∈ wT := by decide +kernel
theorem i_X4 : ∀ w ∈ u_ws RX4 TX4 6, w ∈ wT := by decide +kernel
theorem i_X5 : ∀ w ∈ u_ws RX5 TX5 22, w ∈ wT := by decide +kernel
theorem wfl_X0_15 : Cond.fieldLink RX0 15 "TextBridge$CborReader" "number" "J" ∈ wT := wT_of (in2 (i := 142) rfl) rfl
theorem wfl_X0_19 : Cond.fieldLink RX0 19 "TextBridge$CborReader" "place" "I" ∈ wT := wT_of (in1 (i := 114) rfl) rfl
theorem wfl_X0_22 : Cond.fieldLink RX0 22 "TextBridge$CborReader" "tape" "LTextBridge$Row;" ∈ wT := wT_of (in1 (i := 99) rfl) rfl
theorem wfl_X0_51 : Cond.fieldLink RX0 51 "TextBridge$CborReader" "depthLimit" "I" ∈ wT := wT_of (in1 (i := 109) rfl) rfl
theorem wfl_X0_58 : Cond.fieldLink RX0 58 "TextBridge$CborReader" "target" "LTextBridge$Row;" ∈ wT := wT_of (in1 (i := 104) rfl) rfl
theorem wfl_X0_9 : Cond.fieldLink RX0 9 "TextBridge$CborReader" "type" "I" ∈ wT := wT_of (in2 (i := 141) rfl) rfl
theorem wfl_X1_15 : Cond.fieldLink RX1 15 "TextBridge$JsonReader" "place" "I" ∈ wT := wT_of (in1 (i := 116) rfl) rfl
theorem wfl_X1_19 : Cond.fieldLink RX1 19 "TextBridge$JsonReader" "tape" "LTextBridge$Row;" ∈ wT := wT_of (in1 (i := 101) rfl) rfl
theorem wfl_X1_74 : Cond.fieldLink RX1 74 "TextBridge$JsonReader" "target" "LTextBridge$Row;" ∈ wT := wT_of (in1 (i := 106) rfl) rfl
theorem wfl_X1_81 : Cond.fieldLink RX1 81 "TextBridge$JsonReader" "depthLimit" "I" ∈ wT := wT_of (in1 (i := 111) rfl) rfl
theorem wfl_X2_15 : Cond.fieldLink RX2 15 "TextBridge$Reader" "target" "LTextBridge$Row;" ∈ wT := wT_of (in1 (i := 103) rfl) rfl
theorem wfl_X2_18 : Cond.fieldLink RX2 18 "TextBridge$Reader" "depthLimit" "I" ∈ wT := wT_of (in1 (i := 108) rfl) rfl
theorem wfl_X2_22 : Cond.fieldLink RX2 22 "TextBridge$Reader" "place" "I" ∈ wT := wT_of (in1 (i := 113) rfl) rfl
theorem wfl_X2_25 : Cond.fieldLink RX2 25 "TextBridge$Reader" "faultKind" "I" ∈ wT := wT_of (in1 (i := 118) rfl) rfl
theorem wfl_X2_28 : Cond.fieldLink RX2 28 "TextBridge$Reader" "faultPlace" "I" ∈ wT := wT_of (in1 (i := 119) rfl) rfl
theorem wfl_X2_9 : Cond.fieldLink RX2 9 "TextBridge$Reader" "tape" "LTextBridge$Row;" ∈ wT := wT_of (in1 (i := 98) rfl) rfl
theorem wfl_X3_15 : Cond.fieldLink RX3 15 "TextBridge$Row" "bytes" "[B" ∈ wT := wT_of (in1 (i := 30) rfl) rfl
theorem wfl_X3_21 : Cond.fieldLink RX3 21 "TextBridge$Row" "size" "I" ∈ wT := wT_of (in1 (i := 31) rfl) rfl
theorem wfl_X4_14 : Cond.fieldLink RX4 14 "TextBridge" "tape" "LTextBridge$Row;" ∈ wT := wT_of (in1 (i := 38) rfl) rfl
theorem wfl_X4_18 : Cond.fieldLink RX4 18 "TextBridge" "written" "LTextBridge$Row;" ∈ wT := wT_of (in1 (i := 39) rfl) rfl
theorem wfl_X4_21 : Cond.fieldLink RX4 21 "TextBridge" "draft" "LTextBridge$Row;" ∈ wT := wT_of (in1 (i := 40) rfl) rfl
theorem wfl_X4_24 : Cond.fieldLink RX4 24 "TextBridge" "depth" "I" ∈ wT := wT_of (in1 (i := 41) rfl) rfl
theorem wfl_X4_28 : Cond.fieldLink RX4 28 "TextBridge" "room" "I" ∈ wT := wT_of (in1 (i := 42) rfl) rfl
theorem wfl_X4_31 : Cond.fieldLink RX4 31 "TextBridge" "faultPlace" "I" ∈ wT := wT_of (in1 (i := 43) rfl) rfl
theorem wfl_X5_13 : Cond.fieldLink RX5 13 "TextBridgeModel" "depth" "I" ∈ wT := wT_of (in3 (i := 29) rfl) rfl
theorem wfl_X5_17 : Cond.fieldLink RX5 17 "TextBridgeModel" "room" "I" ∈ wT := wT_of (in3 (i := 30) rfl) rfl
theorem wfl_X5_20 : Cond.fieldLink RX5 20 "TextBridgeModel" "written" "[B" ∈ wT := wT_of (in3 (i := 31) rfl) rfl
theorem wfl_X5_212 : Cond.fieldLink RX5 212 "TextBridgeModel" "freshMany" "I" ∈ wT := wT_of (in3 (i := 46) rfl) rfl
theorem wfl_X5_24 : Cond.fieldLink RX5 24 "TextBridgeModel" "errorPlace" "I" ∈ wT := wT_of (in3 (i := 33) rfl) rfl
theorem wfl_X5_27 : Cond.fieldLink RX5 27 "TextBridgeModel" "sorts" "[I" ∈ wT := wT_of (in3 (i := 34) rfl) rfl
theorem wfl_X5_30 : Cond.fieldLink RX5 30 "TextBridgeModel" "numbers" "[J" ∈ wT := wT_of (in3 (i := 35) rfl) rfl
theorem wfl_X5_34 : Cond.fieldLink RX5 34 "TextBridgeModel" "places" "[I" ∈ wT := wT_of (in3 (i := 36) rfl) rfl
theorem wfl_X5_37 : Cond.fieldLink RX5 37 "TextBridgeModel" "letters" "[B" ∈ wT := wT_of (in3 (i := 38) rfl) rfl
theorem wfl_X5_40 : Cond.fieldLink RX5 40 "TextBridgeModel" "openThing" "[I" ∈ wT := wT_of (in3 (i := 40) rfl) rfl
theorem wfl_X5_43 : Cond.fieldLink RX5 43 "TextBridgeModel" "openLeft" "[J" ∈ wT := wT_of (in3 (i := 41) rfl) rfl
theorem wfl_X5_46 : Cond.fieldLink RX5 46 "TextBridgeModel" "fresh" "[B" ∈ wT := wT_of (in3 (i := 45) rfl) rfl
theorem wfl_X5_49 : Cond.fieldLink RX5 49 "TextBridgeModel" "figures" "[I" ∈ wT := wT_of (in3 (i := 47) rfl) rfl
theorem wfl_X5_52 : Cond.fieldLink RX5 52 "TextBridgeModel" "thrown" "I" ∈ wT := wT_of (in3 (i := 26) rfl) rfl
theorem wfl_X5_55 : Cond.fieldLink RX5 55 "TextBridgeModel" "taped" "I" ∈ wT := wT_of (in3 (i := 28) rfl) rfl
theorem wfl_X5_58 : Cond.fieldLink RX5 58 "TextBridgeModel" "writtenMany" "I" ∈ wT := wT_of (in3 (i := 32) rfl) rfl
theorem wfl_X5_61 : Cond.fieldLink RX5 61 "TextBridgeModel" "fault" "I" ∈ wT := wT_of (in3 (i := 44) rfl) rfl
theorem wfl_X5_64 : Cond.fieldLink RX5 64 "TextBridgeModel" "at" "I" ∈ wT := wT_of (in3 (i := 43) rfl) rfl
theorem wfl_X5_67 : Cond.fieldLink RX5 67 "TextBridgeModel" "things" "I" ∈ wT := wT_of (in3 (i := 37) rfl) rfl
theorem wfl_X5_7 : Cond.fieldLink RX5 7 "TextBridgeModel" "tape" "[I" ∈ wT := wT_of (in3 (i := 27) rfl) rfl
theorem wfl_X5_70 : Cond.fieldLink RX5 70 "TextBridgeModel" "lettersMany" "I" ∈ wT := wT_of (in3 (i := 39) rfl) rfl
theorem wfl_X5_73 : Cond.fieldLink RX5 73 "TextBridgeModel" "open" "I" ∈ wT := wT_of (in3 (i := 42) rfl) rfl
theorem wfl_J0_1053 : Cond.fieldLink RJ0 1053 "jdk/internal/util/Preconditions" "SIOOBE_FORMATTER" "Ljava/util/function/BiFunction;" ∈ wT := wT_of (in2 (i := 46) rfl) rfl
theorem wfl_J0_15 : Cond.fieldLink RJ0 15 "java/lang/String" "coder" "B" ∈ wT := wT_of (in4 (i := 93) rfl) rfl
theorem wfl_J0_38 : Cond.fieldLink RJ0 38 "java/lang/String" "COMPACT_STRINGS" "Z" ∈ wT := wT_of (in2 (i := 30) rfl) rfl
theorem wfl_J0_9 : Cond.fieldLink RJ0 9 "java/lang/String" "value" "[B" ∈ wT := wT_of (in4 (i := 92) rfl) rfl
theorem wfl_J2_44 : Cond.fieldLink RJ2 44 "java/lang/StringUTF16" "$assertionsDisabled" "Z" ∈ wT := wT_of (in2 (i := 64) rfl) rfl
theorem wfl_J2_59 : Cond.fieldLink RJ2 59 "java/lang/StringUTF16" "HI_BYTE_SHIFT" "I" ∈ wT := wT_of (in2 (i := 66) rfl) rfl
theorem wfl_J2_63 : Cond.fieldLink RJ2 63 "java/lang/StringUTF16" "LO_BYTE_SHIFT" "I" ∈ wT := wT_of (in2 (i := 68) rfl) rfl
theorem wsf_X0_depthLimit : Cond.sameField "TextBridge$CborReader" "TextBridge$Reader" "depthLimit" "I" ∈ wT := wT_of (in1 (i := 110) rfl) rfl
theorem wsf_X0_place : Cond.sameField "TextBridge$CborReader" "TextBridge$Reader" "place" "I" ∈ wT := wT_of (in1 (i := 115) rfl) rfl
theorem wsf_X0_tape : Cond.sameField "TextBridge$CborReader" "TextBridge$Reader" "tape" "LTextBridge$Row;" ∈ wT := wT_of (in1 (i := 100) rfl) rfl
theorem wsf_X0_target : Cond.sameField "TextBridge$CborReader" "TextBridge$Reader" "target" "LTextBridge$Row;" ∈ wT := wT_of (in1 (i := 105) rfl) rfl
theorem wsf_X1_depthLimit : Cond.sameField "TextBridge$JsonReader" "TextBridge$Reader" "depthLimit" "I" ∈ wT := wT_of (in1 (i := 112) rfl) rfl
theorem wsf_X1_place : Cond.sameField "TextBridge$JsonReader" "TextBridge$Reader" "place" "I" ∈ wT := wT_of (in1 (i := 117) rfl) rfl
theorem wsf_X1_tape : Cond.sameField "TextBridge$JsonReader" "TextBridge$Reader" "tape" "LTextBridge$Row;" ∈ wT := wT_of (in1 (i := 102) rfl) rfl
theorem wsf_X1_target : Cond.sameField "TextBridge$JsonReader" "TextBridge$Reader" "target" "LTextBridge$Row;" ∈ wT := wT_of (in1 (i := 107) rfl) rfl
theorem wc_X1_135 : Cond.constant RX1 135 (65536) ∈ wT := wT_of (in1 (i := 217) rfl) rfl
theorem wc_X1_136 : Cond.constant RX1 136 (55296) ∈ wT := wT_of (in1 (i := 210) rfl) rfl
theorem wc_X1_137 : Cond.constant RX1 137 (56320) ∈ wT := wT_of (in1 (i := 205) rfl) rfl
theorem wc_X1_138 : Cond.constant RX1 138 (65280) ∈ wT := wT_of (in1 (i := 218) rfl) rfl
theorem wc_X1_160 : Cond.constant RX1 160 (56319) ∈ wT := wT_of (in1 (i := 211) rfl) rfl
theorem wc_X1_161 : Cond.constant RX1 161 (57343) ∈ wT := wT_of (in1 (i := 206) rfl) rfl
theorem wc_X4_104 : Cond.constant RX4 104 (55296) ∈ wT := wT_of (in2 (i := 0) rfl) rfl
theorem wc_X4_105 : Cond.constant RX4 105 (57343) ∈ wT := wT_of (in2 (i := 1) rfl) rfl
theorem wc_X4_106 : Cond.constant RX4 106 (65536) ∈ wT := wT_of (in2 (i := 2) rfl) rfl
theorem wc_X4_107 : Cond.constant RX4 107 (1114111) ∈ wT := wT_of (in2 (i := 3) rfl) rfl
theorem wc_X5_136 : Cond.constant RX5 136 (56320) ∈ wT := wT_of (in3 (i := 186) rfl) rfl
theorem wc_X5_137 : Cond.constant RX5 137 (57343) ∈ wT := wT_of (in3 (i := 187) rfl) rfl
theorem wc_X5_138 : Cond.constant RX5 138 (55296) ∈ wT := wT_of (in3 (i := 188) rfl) rfl
theorem wc_X5_139 : Cond.constant RX5 139 (56319) ∈ wT := wT_of (in3 (i := 189) rfl) rfl
theorem wc_X5_84 : Cond.constant RX5 84 (65536) ∈ wT := wT_of (in3 (i := 198) rfl) rfl
theorem wc_X5_85 : Cond.constant RX5 85 (262144) ∈ wT := wT_of (in3 (i := 199) rfl) rfl
theorem wc_X0_133 : Cond.constantLong RX0 133 (10) ∈ wT := wT_of (in2 (i := 185) rfl) rfl
theorem wc_X0_139 : Cond.constantLong RX0 139 (5) ∈ wT := wT_of (in2 (i := 184) rfl) rfl
theorem wc_X0_61 : Cond.constantLong RX0 61 (20) ∈ wT := wT_of (in2 (i := 225) rfl) rfl
theorem wc_X0_65 : Cond.constantLong RX0 65 (21) ∈ wT := wT_of (in2 (i := 227) rfl) rfl
theorem wc_X1_156 : Cond.constantLong RX1 156 (10) ∈ wT := wT_of (in2 (i := 105) rfl) rfl
theorem wc_X1_158 : Cond.constantLong RX1 158 (1844674407370955161) ∈ wT := wT_of (in2 (i := 104) rfl) rfl
theorem wc_X4_90 : Cond.constantLong RX4 90 (4294967295) ∈ wT := wT_of (in1 (i := 164) rfl) rfl
theorem wc_X4_92 : Cond.constantLong RX4 92 (24) ∈ wT := wT_of (in1 (i := 165) rfl) rfl
theorem wc_X4_94 : Cond.constantLong RX4 94 (256) ∈ wT := wT_of (in1 (i := 166) rfl) rfl
theorem wc_X4_96 : Cond.constantLong RX4 96 (65536) ∈ wT := wT_of (in1 (i := 167) rfl) rfl
theorem wc_X5_121 : Cond.constantLong RX5 121 (10) ∈ wT := wT_of (in4 (i := 6) rfl) rfl
theorem wc_X5_123 : Cond.constantLong RX5 123 (48) ∈ wT := wT_of (in4 (i := 7) rfl) rfl
theorem wc_X5_195 : Cond.constantLong RX5 195 (24) ∈ wT := wT_of (in4 (i := 24) rfl) rfl
theorem wc_X5_208 : Cond.constantLong RX5 208 (100000) ∈ wT := wT_of (in4 (i := 59) rfl) rfl
theorem wc_X5_210 : Cond.constantLong RX5 210 (2) ∈ wT := wT_of (in4 (i := 60) rfl) rfl
theorem wc_X5_215 : Cond.constantLong RX5 215 (256) ∈ wT := wT_of (in4 (i := 25) rfl) rfl
theorem wc_X5_217 : Cond.constantLong RX5 217 (65536) ∈ wT := wT_of (in4 (i := 26) rfl) rfl
theorem wc_X5_232 : Cond.constantLong RX5 232 (-1) ∈ wT := wT_of (in4 (i := 73) rfl) rfl
theorem wc_X5_238 : Cond.constantLong RX5 238 (5) ∈ wT := wT_of (in4 (i := 78) rfl) rfl
theorem wc_X5_252 : Cond.constantLong RX5 252 (20) ∈ wT := wT_of (in4 (i := 87) rfl) rfl
theorem wc_X5_254 : Cond.constantLong RX5 254 (21) ∈ wT := wT_of (in4 (i := 88) rfl) rfl
theorem kX0_75 : MV RX0 75 RX3 yX3_at cX3_at 2 (some .int) 1 := ⟨List.forall_mem_cons.mpr ⟨wT_of (in2 (i := 162) rfl) rfl, List.forall_mem_cons.mpr ⟨wT_of (in1 (i := 143) rfl) rfl, List.forall_mem_cons.mpr ⟨wT_of (in1 (i := 144) rfl) rfl, List.forall_mem_cons.mpr ⟨wT_of (in1 (i := 2) rfl) rfl, List.forall_mem_cons.mpr ⟨wT_of (in1 (i := 145) rfl) rfl, fun _ h => absurd h List.not_mem_nil⟩⟩⟩⟩⟩, by decide +kernel⟩
theorem kX0_129 : MS0 RX0 129 yX0_tenthOf cX0_tenthOf 2 (some .long) 1 := ⟨List.forall_mem_cons.mpr ⟨wT_of (in2 (i := 181) rfl) rfl, List.forall_mem_cons.mpr ⟨wT_of (in2 (i := 182) rfl) rfl, List.forall_mem_cons.mpr ⟨wT_of (in1 (i := 12) rfl) rfl, List.forall_mem_cons.mpr ⟨wT_of (in2 (i := 183) rfl) rfl, fun _ h => absurd h List.not_mem_nil⟩⟩⟩⟩, by decide +kernel⟩
theorem kX0_135 : MV RX0 135 RX0 yX0_putDigits cX0_putDigits 9 none 2 := ⟨List.forall_mem_cons.mpr ⟨wT_of (in2 (i := 186) rfl) rfl, List.forall_mem_cons.mpr ⟨wT_of (in2 (i := 188) rfl) rfl, List.forall_mem_cons.mpr ⟨wT_of (sel (y := yX0_putDigits) (n := 8) (by decide +kernel)) rfl, List.forall_mem_cons.mpr ⟨wT_of (in1 (i := 12) rfl) rfl, List.forall_mem_cons.mpr ⟨wT_of (in2 (i := 189) rfl) rfl, fun _ h => absurd h List.not_mem_nil⟩⟩⟩⟩⟩, by decide +kernel⟩
theorem kX0_98 : MV RX0 98 RX3 yX3_put cX3_put 2 none 1 := ⟨List.forall_mem_cons.mpr ⟨wT_of (in2 (i := 190) rfl) rfl, List.forall_mem_cons.mpr ⟨wT_of (in1 (i := 70) rfl) rfl, List.forall_mem_cons.mpr ⟨wT_of (in1 (i := 71) rfl) rfl, List.forall_mem_cons.mpr ⟨wT_of (in1 (i := 2) rfl) rfl, List.forall_mem_cons.mpr ⟨wT_of (in1 (i := 72) rfl) rfl, fun _ h => absurd h List.not_mem_nil⟩⟩⟩⟩⟩, by decide +kernel⟩
theorem kX0_118 : MS0 RX0 118 yX0_letterOf cX0_letterOf 1 (some .int) 1 := ⟨List.forall_mem_cons.mpr ⟨wT_of (in2 (i := 211) rfl) rfl, List.forall_mem_cons.mpr ⟨wT_of (in2 (i := 212) rfl) rfl, List.forall_mem_cons.mpr ⟨wT_of (in1 (i := 12) rfl) rfl, List.forall_mem_cons.mpr ⟨wT_of (in2 (i := 213) rfl) rfl, fun _ h => absurd h List.not_mem_nil⟩⟩⟩⟩, by decide +kernel⟩
theorem kX0_123 : MV RX0 123 RJ0 yJ0_charAt_5068e cJ0_charAt_5068e 2 (some .char) 1 := ⟨List.forall_mem_cons.mpr ⟨wT_of (in2 (i := 215) rfl) rfl, List.forall_mem_cons.mpr ⟨wT_of (in2 (i := 33) rfl) rfl, List.forall_mem_cons.mpr ⟨wT_of (in2 (i := 34) rfl) rfl, List.forall_mem_cons.mpr ⟨wT_of (in1 (i := 8) rfl) rfl, List.forall_mem_cons.mpr ⟨wT_of (in2 (i := 35) rfl) rfl, fun _ h => absurd h List.not_mem_nil⟩⟩⟩⟩⟩, by decide +kernel⟩
theorem kX0_115 : MV RX0 115 RX0 yX0_putShortSign cX0_putShortSign 3 none 1 := ⟨List.forall_mem_cons.mpr ⟨wT_of (in2 (i := 207) rfl) rfl, List.forall_mem_cons.mpr ⟨wT_of (in2 (i := 209) rfl) rfl, List.forall_mem_cons.mpr ⟨wT_of (sel (y := yX0_putShortSign) (n := 8) (by decide +kernel)) rfl, List.forall_mem_cons.mpr ⟨wT_of (in1 (i := 12) rfl) rfl, List.forall_mem_cons.mpr ⟨wT_of (in2 (i := 210) rfl) rfl, fun _ h => absurd h List.not_mem_nil⟩⟩⟩⟩⟩, by decide +kernel⟩
theorem kX0_26 : MV RX0 26 RX3 yX3_size cX3_size 1 (some .int) 0 := ⟨List.forall_mem_cons.mpr ⟨wT_of (in2 (i := 163) rfl) rfl, List.forall_mem_cons.mpr ⟨wT_of (in1 (i := 62) rfl) rfl, List.forall_mem_cons.mpr ⟨wT_of (in1 (i := 63) rfl) rfl, List.forall_mem_cons.mpr ⟨wT_of (in1 (i := 2) rfl) rfl, List.forall_mem_cons.mpr ⟨wT_of (in1 (i := 64) rfl) rfl, fun _ h => absurd h List.not_mem_nil⟩⟩⟩⟩⟩, by decide +kernel⟩
theorem kX0_32 : MU RX0 32 RX0 "TextBridge$Reader" ⟨"TextBridge$CborReader", "refuse", "(II)Z"⟩ yX2_refuse cX2_refuse 3 (some .boolean) 2 := ⟨List.forall_mem_cons.mpr ⟨wT_of (in2 (i := 164) rfl) rfl, List.forall_mem_cons.mpr ⟨wT_of (in2 (i := 165) rfl) rfl, List.forall_mem_cons.mpr ⟨wT_of (in2 (i := 166) rfl) rfl, List.forall_mem_cons.mpr ⟨wT_of (in1 (i := 196) rfl) rfl, List.forall_mem_cons.mpr ⟨wT_of (in1 (i := 5) rfl) rfl, List.forall_mem_cons.mpr ⟨wT_of (in1 (i := 197) rfl) rfl, fun _ h => absurd h List.not_mem_nil⟩⟩⟩⟩⟩⟩, rfl, by decide +kernel⟩
theorem kX0_79 : MV RX0 79 RX0 yX0_faultOfFirst cX0_faultOfFirst 4 (some .int) 2 := ⟨List.forall_mem_cons.mpr ⟨wT_of (in2 (i := 167) rfl) rfl, List.forall_mem_cons.mpr ⟨wT_of (in2 (i := 169) rfl) rfl, List.forall_mem_cons.mpr ⟨wT_of (sel (y := yX0_faultOfFirst) (n := 8) (by decide +kernel)) rfl, List.forall_mem_cons.mpr ⟨wT_of (in1 (i := 12) rfl) rfl, List.forall_mem_cons.mpr ⟨wT_of (in2 (i := 170) rfl) rfl, fun _ h => absurd h List.not_mem_nil⟩⟩⟩⟩⟩, by decide +kernel⟩
theorem kX0_83 : MN RX0 83 yX4_bytesBehind cX4_bytesBehind 1 (some .int) 1 := ⟨List.forall_mem_cons.mpr ⟨wT_of (in1 (i := 169) rfl) rfl, List.forall_mem_cons.mpr ⟨wT_of (in1 (i := 1) rfl) rfl, List.forall_mem_cons.mpr ⟨wT_of (in1 (i := 170) rfl) rfl, fun _ h => absurd h List.not_mem_nil⟩⟩⟩, by decide +kernel, by decide +kernel⟩
theorem kX0_86 : MV RX0 86 RX0 yX0_numberBehind cX0_numberBehind 5 (some .long) 1 := ⟨List.forall_mem_cons.mpr ⟨wT_of (in2 (i := 172) rfl) rfl, List.forall_mem_cons.mpr ⟨wT_of (in2 (i := 174) rfl) rfl, List.forall_mem_cons.mpr ⟨wT_of (sel (y := yX0_numberBehind) (n := 8) (by decide +kernel)) rfl, List.forall_mem_cons.mpr ⟨wT_of (in1 (i := 12) rfl) rfl, List.forall_mem_cons.mpr ⟨wT_of (in2 (i := 175) rfl) rfl, fun _ h => absurd h List.not_mem_nil⟩⟩⟩⟩⟩, by decide +kernel⟩
theorem kX0_90 : MN RX0 90 yX4_shortestInfo cX4_shortestInfo 2 (some .int) 1 := ⟨List.forall_mem_cons.mpr ⟨wT_of (in1 (i := 162) rfl) rfl, List.forall_mem_cons.mpr ⟨wT_of (in1 (i := 1) rfl) rfl, List.forall_mem_cons.mpr ⟨wT_of (in1 (i := 163) rfl) rfl, fun _ h => absurd h List.not_mem_nil⟩⟩⟩, by decide +kernel, by decide +kernel⟩
theorem kX0_36 : MV RX0 36 RX0 yX0_readHead cX0_readHead 6 (some .boolean) 1 := ⟨List.forall_mem_cons.mpr ⟨wT_of (in2 (i := 158) rfl) rfl, List.forall_mem_cons.mpr ⟨wT_of (in2 (i := 160) rfl) rfl, List.forall_mem_cons.mpr ⟨wT_of (sel (y := yX0_readHead) (n := 8) (by decide +kernel)) rfl, List.forall_mem_cons.mpr ⟨wT_of (in1 (i := 12) rfl) rfl, List.forall_mem_cons.mpr ⟨wT_of (in2 (i := 161) rfl) rfl, fun _ h => absurd h List.not_mem_nil⟩⟩⟩⟩⟩, by decide +kernel⟩
theorem kX0_40 : MV RX0 40 RX0 yX0_putDecimal cX0_putDecimal 5 none 1 := ⟨List.forall_mem_cons.mpr ⟨wT_of (in2 (i := 177) rfl) rfl, List.forall_mem_cons.mpr ⟨wT_of (in2 (i := 179) rfl) rfl, List.forall_mem_cons.mpr ⟨wT_of (sel (y := yX0_putDecimal) (n := 8) (by decide +kernel)) rfl, List.forall_mem_cons.mpr ⟨wT_of (in1 (i := 12) rfl) rfl, List.forall_mem_cons.mpr ⟨wT_of (in2 (i := 180) rfl) rfl, fun _ h => absurd h List.not_mem_nil⟩⟩⟩⟩⟩, by decide +kernel⟩
theorem kX0_44 : MV RX0 44 RX0 yX0_putNegative cX0_putNegative 6 none 1 := ⟨List.forall_mem_cons.mpr ⟨wT_of (in2 (i := 191) rfl) rfl, List.forall_mem_cons.mpr ⟨wT_of (in2 (i := 193) rfl) rfl, List.forall_mem_cons.mpr ⟨wT_of (sel (y := yX0_putNegative) (n := 8) (by decide +kernel)) rfl, List.forall_mem_cons.mpr ⟨wT_of (in1 (i := 12) rfl) rfl, List.forall_mem_cons.mpr ⟨wT_of (in2 (i := 194) rfl) rfl, fun _ h => absurd h List.not_mem_nil⟩⟩⟩⟩⟩, by decide +kernel⟩
theorem kX0_47 : MV RX0 47 RX0 yX0_readText cX0_readText 5 (some .boolean) 0 := ⟨List.forall_mem_cons.mpr ⟨wT_of (in2 (i := 195) rfl) rfl, List.forall_mem_cons.mpr ⟨wT_of (in2 (i := 197) rfl) rfl, List.forall_mem_cons.mpr ⟨wT_of (sel (y := yX0_readText) (n := 8) (by decide +kernel)) rfl, List.forall_mem_cons.mpr ⟨wT_of (in1 (i := 12) rfl) rfl, List.forall_mem_cons.mpr ⟨wT_of (in2 (i := 198) rfl) rfl, fun _ h => absurd h List.not_mem_nil⟩⟩⟩⟩⟩, by decide +kernel⟩
theorem kX0_54 : MV RX0 54 RX0 yX0_readParts cX0_readParts 5 (some .boolean) 1 := ⟨List.forall_mem_cons.mpr ⟨wT_of (in2 (i := 216) rfl) rfl, List.forall_mem_cons.mpr ⟨wT_of (in2 (i := 218) rfl) rfl, List.forall_mem_cons.mpr ⟨wT_of (sel (y := yX0_readParts) (n := 8) (by decide +kernel)) rfl, List.forall_mem_cons.mpr ⟨wT_of (in1 (i := 12) rfl) rfl, List.forall_mem_cons.mpr ⟨wT_of (in2 (i := 219) rfl) rfl, fun _ h => absurd h List.not_mem_nil⟩⟩⟩⟩⟩, by decide +kernel⟩
theorem kX0_71 : MV RX0 71 RX3 yX3_putWord cX3_putWord 3 none 1 := ⟨List.forall_mem_cons.mpr ⟨wT_of (in2 (i := 230) rfl) rfl, List.forall_mem_cons.mpr ⟨wT_of (in2 (i := 231) rfl) rfl, List.forall_mem_cons.mpr ⟨wT_of (in2 (i := 232) rfl) rfl, List.forall_mem_cons.mpr ⟨wT_of (in1 (i := 2) rfl) rfl, List.forall_mem_cons.mpr ⟨wT_of (in2 (i := 233) rfl) rfl, fun _ h => absurd h List.not_mem_nil⟩⟩⟩⟩⟩, by decide +kernel⟩
theorem kX0_94 : MS0 RX0 94 yX0_isWithin cX0_isWithin 3 (some .boolean) 2 := ⟨List.forall_mem_cons.mpr ⟨wT_of (in2 (i := 199) rfl) rfl, List.forall_mem_cons.mpr ⟨wT_of (in2 (i := 200) rfl) rfl, List.forall_mem_cons.mpr ⟨wT_of (in1 (i := 12) rfl) rfl, List.forall_mem_cons.mpr ⟨wT_of (in2 (i := 201) rfl) rfl, fun _ h => absurd h List.not_mem_nil⟩⟩⟩⟩, by decide +kernel⟩
theorem kX0_102 : MV RX0 102 RX0 yX0_readKey cX0_readKey 1 (some .boolean) 0 := ⟨List.forall_mem_cons.mpr ⟨wT_of (in2 (i := 220) rfl) rfl, List.forall_mem_cons.mpr ⟨wT_of (in2 (i := 222) rfl) rfl, List.forall_mem_cons.mpr ⟨wT_of (sel (y := yX0_readKey) (n := 8) (by decide +kernel)) rfl, List.forall_mem_cons.mpr ⟨wT_of (in1 (i := 12) rfl) rfl, List.forall_mem_cons.mpr ⟨wT_of (in2 (i := 223) rfl) rfl, fun _ h => absurd h List.not_mem_nil⟩⟩⟩⟩⟩, by decide +kernel⟩
theorem kX0_105 : MV RX0 105 RX0 yX0_readItem cX0_readItem 3 (some .boolean) 1 := ⟨List.forall_mem_cons.mpr ⟨wT_of (in2 (i := 224) rfl) rfl, List.forall_mem_cons.mpr ⟨wT_of (in2 (i := 155) rfl) rfl, List.forall_mem_cons.mpr ⟨wT_of (in2 (i := 156) rfl) rfl, List.forall_mem_cons.mpr ⟨wT_of (in1 (i := 12) rfl) rfl, List.forall_mem_cons.mpr ⟨wT_of (in2 (i := 157) rfl) rfl, fun _ h => absurd h List.not_mem_nil⟩⟩⟩⟩⟩, by decide +kernel⟩
theorem kX0_108 : MN RX0 108 yX4_signLength cX4_signLength 8 (some .int) 3 := ⟨List.forall_mem_cons.mpr ⟨wT_of (in1 (i := 231) rfl) rfl, List.forall_mem_cons.mpr ⟨wT_of (in1 (i := 1) rfl) rfl, List.forall_mem_cons.mpr ⟨wT_of (in1 (i := 232) rfl) rfl, fun _ h => absurd h List.not_mem_nil⟩⟩⟩, by decide +kernel, by decide +kernel⟩
theorem kX0_112 : MV RX0 112 RX0 yX0_putSign cX0_putSign 3 none 1 := ⟨List.forall_mem_cons.mpr ⟨wT_of (in2 (i := 203) rfl) rfl, List.forall_mem_cons.mpr ⟨wT_of (in2 (i := 205) rfl) rfl, List.forall_mem_cons.mpr ⟨wT_of (sel (y := yX0_putSign) (n := 8) (by decide +kernel)) rfl, List.forall_mem_cons.mpr ⟨wT_of (in1 (i := 12) rfl) rfl, List.forall_mem_cons.mpr ⟨wT_of (in2 (i := 206) rfl) rfl, fun _ h => absurd h List.not_mem_nil⟩⟩⟩⟩⟩, by decide +kernel⟩
theorem kX1_96 : MV RX1 96 RX3 yX3_closeHead cX3_closeHead 8 none 3 := ⟨List.forall_mem_cons.mpr ⟨wT_of (in1 (i := 157) rfl) rfl, List.forall_mem_cons.mpr ⟨wT_of (in1 (i := 158) rfl) rfl, List.forall_mem_cons.mpr ⟨wT_of (in1 (i := 159) rfl) rfl, List.forall_mem_cons.mpr ⟨wT_of (in1 (i := 2) rfl) rfl, List.forall_mem_cons.mpr ⟨wT_of (in1 (i := 160) rfl) rfl, fun _ h => absurd h List.not_mem_nil⟩⟩⟩⟩⟩, by decide +kernel⟩
theorem kX1_33 : MV RX1 33 RX3 yX3_at cX3_at 2 (some .int) 1 := ⟨List.forall_mem_cons.mpr ⟨wT_of (in1 (i := 142) rfl) rfl, List.forall_mem_cons.mpr ⟨wT_of (in1 (i := 143) rfl) rfl, List.forall_mem_cons.mpr ⟨wT_of (in1 (i := 144) rfl) rfl, List.forall_mem_cons.mpr ⟨wT_of (in1 (i := 2) rfl) rfl, List.forall_mem_cons.mpr ⟨wT_of (in1 (i := 145) rfl) rfl, fun _ h => absurd h List.not_mem_nil⟩⟩⟩⟩⟩, by decide +kernel⟩
theorem kX1_120 : MS0 RX1 120 yX1_hexValue cX1_hexValue 1 (some .int) 1 := ⟨List.forall_mem_cons.mpr ⟨wT_of (in1 (i := 189) rfl) rfl, List.forall_mem_cons.mpr ⟨wT_of (in1 (i := 190) rfl) rfl, List.forall_mem_cons.mpr ⟨wT_of (in1 (i := 6) rfl) rfl, List.forall_mem_cons.mpr ⟨wT_of (in1 (i := 191) rfl) rfl, fun _ h => absurd h List.not_mem_nil⟩⟩⟩⟩, by decide +kernel⟩
theorem kX1_113 : MV RX1 113 RX3 yX3_put cX3_put 2 none 1 := ⟨List.forall_mem_cons.mpr ⟨wT_of (in1 (i := 216) rfl) rfl, List.forall_mem_cons.mpr ⟨wT_of (in1 (i := 70) rfl) rfl, List.forall_mem_cons.mpr ⟨wT_of (in1 (i := 71) rfl) rfl, List.forall_mem_cons.mpr ⟨wT_of (in1 (i := 2) rfl) rfl, List.forall_mem_cons.mpr ⟨wT_of (in1 (i := 72) rfl) rfl, fun _ h => absurd h List.not_mem_nil⟩⟩⟩⟩⟩, by decide +kernel⟩
theorem kX1_152 : MS0 RX1 152 yX1_isBeyond cX1_isBeyond 5 (some .boolean) 4 := ⟨List.forall_mem_cons.mpr ⟨wT_of (in2 (i := 101) rfl) rfl, List.forall_mem_cons.mpr ⟨wT_of (in2 (i := 102) rfl) rfl, List.forall_mem_cons.mpr ⟨wT_of (in1 (i := 6) rfl) rfl, List.forall_mem_cons.mpr ⟨wT_of (in2 (i := 103) rfl) rfl, fun _ h => absurd h List.not_mem_nil⟩⟩⟩⟩, by decide +kernel⟩
theorem kX1_77 : MV RX1 77 RX3 yX3_putHead cX3_putHead 4 none 2 := ⟨List.forall_mem_cons.mpr ⟨wT_of (in2 (i := 70) rfl) rfl, List.forall_mem_cons.mpr ⟨wT_of (in2 (i := 71) rfl) rfl, List.forall_mem_cons.mpr ⟨wT_of (in2 (i := 72) rfl) rfl, List.forall_mem_cons.mpr ⟨wT_of (in1 (i := 2) rfl) rfl, List.forall_mem_cons.mpr ⟨wT_of (in2 (i := 73) rfl) rfl, fun _ h => absurd h List.not_mem_nil⟩⟩⟩⟩⟩, by decide +kernel⟩
theorem kX1_23 : MV RX1 23 RX3 yX3_size cX3_size 1 (some .int) 0 := ⟨List.forall_mem_cons.mpr ⟨wT_of (in1 (i := 141) rfl) rfl, List.forall_mem_cons.mpr ⟨wT_of (in1 (i := 62) rfl) rfl, List.forall_mem_cons.mpr ⟨wT_of (in1 (i := 63) rfl) rfl, List.forall_mem_cons.mpr ⟨wT_of (in1 (i := 2) rfl) rfl, List.forall_mem_cons.mpr ⟨wT_of (in1 (i := 64) rfl) rfl, fun _ h => absurd h List.not_mem_nil⟩⟩⟩⟩⟩, by decide +kernel⟩
theorem kX1_55 : MS0 RX1 55 yX1_isDigit cX1_isDigit 1 (some .boolean) 1 := ⟨List.forall_mem_cons.mpr ⟨wT_of (in2 (i := 78) rfl) rfl, List.forall_mem_cons.mpr ⟨wT_of (in2 (i := 79) rfl) rfl, List.forall_mem_cons.mpr ⟨wT_of (in1 (i := 6) rfl) rfl, List.forall_mem_cons.mpr ⟨wT_of (in2 (i := 80) rfl) rfl, fun _ h => absurd h List.not_mem_nil⟩⟩⟩⟩, by decide +kernel⟩
theorem kX1_29 : MU RX1 29 RX1 "TextBridge$Reader" ⟨"TextBridge$JsonReader", "refuse", "(II)Z"⟩ yX2_refuse cX2_refuse 3 (some .boolean) 2 := ⟨List.forall_mem_cons.mpr ⟨wT_of (in1 (i := 192) rfl) rfl, List.forall_mem_cons.mpr ⟨wT_of (in1 (i := 193) rfl) rfl, List.forall_mem_cons.mpr ⟨wT_of (in1 (i := 195) rfl) rfl, List.forall_mem_cons.mpr ⟨wT_of (in1 (i := 196) rfl) rfl, List.forall_mem_cons.mpr ⟨wT_of (in1 (i := 5) rfl) rfl, List.forall_mem_cons.mpr ⟨wT_of (in1 (i := 197) rfl) rfl, fun _ h => absurd h List.not_mem_nil⟩⟩⟩⟩⟩⟩, rfl, by decide +kernel⟩
theorem kX1_9 : MV RX1 9 RX1 yX1_skipBlanks cX1_skipBlanks 2 none 0 := ⟨List.forall_mem_cons.mpr ⟨wT_of (in1 (i := 137) rfl) rfl, List.forall_mem_cons.mpr ⟨wT_of (in1 (i := 139) rfl) rfl, List.forall_mem_cons.mpr ⟨wT_of (sel (y := yX1_skipBlanks) (n := 6) (by decide +kernel)) rfl, List.forall_mem_cons.mpr ⟨wT_of (in1 (i := 6) rfl) rfl, List.forall_mem_cons.mpr ⟨wT_of (in1 (i := 140) rfl) rfl, fun _ h => absurd h List.not_mem_nil⟩⟩⟩⟩⟩, by decide +kernel⟩
theorem kX1_139 : MV RX1 139 RX1 yX1_readDigits cX1_readDigits 3 (some .boolean) 0 := ⟨List.forall_mem_cons.mpr ⟨wT_of (in2 (i := 85) rfl) rfl, List.forall_mem_cons.mpr ⟨wT_of (in2 (i := 87) rfl) rfl, List.forall_mem_cons.mpr ⟨wT_of (sel (y := yX1_readDigits) (n := 6) (by decide +kernel)) rfl, List.forall_mem_cons.mpr ⟨wT_of (in1 (i := 6) rfl) rfl, List.forall_mem_cons.mpr ⟨wT_of (in2 (i := 88) rfl) rfl, fun _ h => absurd h List.not_mem_nil⟩⟩⟩⟩⟩, by decide +kernel⟩
theorem kX1_37 : MV RX1 37 RX1 yX1_readString cX1_readString 6 (some .boolean) 0 := ⟨List.forall_mem_cons.mpr ⟨wT_of (in1 (i := 149) rfl) rfl, List.forall_mem_cons.mpr ⟨wT_of (in1 (i := 151) rfl) rfl, List.forall_mem_cons.mpr ⟨wT_of (sel (y := yX1_readString) (n := 6) (by decide +kernel)) rfl, List.forall_mem_cons.mpr ⟨wT_of (in1 (i := 6) rfl) rfl, List.forall_mem_cons.mpr ⟨wT_of (in1 (i := 152) rfl) rfl, fun _ h => absurd h List.not_mem_nil⟩⟩⟩⟩⟩, by decide +kernel⟩
theorem kX1_117 : MS0 RX1 117 yX1_signOf cX1_signOf 1 (some .int) 1 := ⟨List.forall_mem_cons.mpr ⟨wT_of (in1 (i := 223) rfl) rfl, List.forall_mem_cons.mpr ⟨wT_of (in1 (i := 224) rfl) rfl, List.forall_mem_cons.mpr ⟨wT_of (in1 (i := 6) rfl) rfl, List.forall_mem_cons.mpr ⟨wT_of (in1 (i := 225) rfl) rfl, fun _ h => absurd h List.not_mem_nil⟩⟩⟩⟩, by decide +kernel⟩
theorem kX1_142 : MV RX1 142 RX1 yX1_readFraction cX1_readFraction 1 (some .boolean) 0 := ⟨List.forall_mem_cons.mpr ⟨wT_of (in2 (i := 89) rfl) rfl, List.forall_mem_cons.mpr ⟨wT_of (in2 (i := 91) rfl) rfl, List.forall_mem_cons.mpr ⟨wT_of (sel (y := yX1_readFraction) (n := 6) (by decide +kernel)) rfl, List.forall_mem_cons.mpr ⟨wT_of (in1 (i := 6) rfl) rfl, List.forall_mem_cons.mpr ⟨wT_of (in2 (i := 92) rfl) rfl, fun _ h => absurd h List.not_mem_nil⟩⟩⟩⟩⟩, by decide +kernel⟩
theorem kX1_145 : MV RX1 145 RX1 yX1_readExponent cX1_readExponent 1 (some .boolean) 0 := ⟨List.forall_mem_cons.mpr ⟨wT_of (in2 (i := 93) rfl) rfl, List.forall_mem_cons.mpr ⟨wT_of (in2 (i := 95) rfl) rfl, List.forall_mem_cons.mpr ⟨wT_of (sel (y := yX1_readExponent) (n := 6) (by decide +kernel)) rfl, List.forall_mem_cons.mpr ⟨wT_of (in1 (i := 6) rfl) rfl, List.forall_mem_cons.mpr ⟨wT_of (in2 (i := 96) rfl) rfl, fun _ h => absurd h List.not_mem_nil⟩⟩⟩⟩⟩, by decide +kernel⟩
theorem kX1_148 : MV RX1 148 RX1 yX1_putWhole cX1_putWhole 8 (some .boolean) 3 := ⟨List.forall_mem_cons.mpr ⟨wT_of (in2 (i := 97) rfl) rfl, List.forall_mem_cons.mpr ⟨wT_of (in2 (i := 99) rfl) rfl, List.forall_mem_cons.mpr ⟨wT_of (sel (y := yX1_putWhole) (n := 6) (by decide +kernel)) rfl, List.forall_mem_cons.mpr ⟨wT_of (in1 (i := 6) rfl) rfl, List.forall_mem_cons.mpr ⟨wT_of (in2 (i := 100) rfl) rfl, fun _ h => absurd h List.not_mem_nil⟩⟩⟩⟩⟩, by decide +kernel⟩
theorem kX1_123 : MV RX1 123 RX1 yX1_codeOfEscape cX1_codeOfEscape 5 (some .int) 1 := ⟨List.forall_mem_cons.mpr ⟨wT_of (in1 (i := 198) rfl) rfl, List.forall_mem_cons.mpr ⟨wT_of (in1 (i := 200) rfl) rfl, List.forall_mem_cons.mpr ⟨wT_of (sel (y := yX1_codeOfEscape) (n := 6) (by decide +kernel)) rfl, List.forall_mem_cons.mpr ⟨wT_of (in1 (i := 6) rfl) rfl, List.forall_mem_cons.mpr ⟨wT_of (in1 (i := 201) rfl) rfl, fun _ h => absurd h List.not_mem_nil⟩⟩⟩⟩⟩, by decide +kernel⟩
theorem kX1_126 : MS0 RX1 126 yX1_isSecondHalf cX1_isSecondHalf 1 (some .boolean) 1 := ⟨List.forall_mem_cons.mpr ⟨wT_of (in1 (i := 202) rfl) rfl, List.forall_mem_cons.mpr ⟨wT_of (in1 (i := 203) rfl) rfl, List.forall_mem_cons.mpr ⟨wT_of (in1 (i := 6) rfl) rfl, List.forall_mem_cons.mpr ⟨wT_of (in1 (i := 204) rfl) rfl, fun _ h => absurd h List.not_mem_nil⟩⟩⟩⟩, by decide +kernel⟩
theorem kX1_129 : MS0 RX1 129 yX1_isFirstHalf cX1_isFirstHalf 1 (some .boolean) 1 := ⟨List.forall_mem_cons.mpr ⟨wT_of (in1 (i := 207) rfl) rfl, List.forall_mem_cons.mpr ⟨wT_of (in1 (i := 208) rfl) rfl, List.forall_mem_cons.mpr ⟨wT_of (in1 (i := 6) rfl) rfl, List.forall_mem_cons.mpr ⟨wT_of (in1 (i := 209) rfl) rfl, fun _ h => absurd h List.not_mem_nil⟩⟩⟩⟩, by decide +kernel⟩
theorem kX1_132 : MV RX1 132 RX1 yX1_putSign cX1_putSign 4 none 1 := ⟨List.forall_mem_cons.mpr ⟨wT_of (in1 (i := 212) rfl) rfl, List.forall_mem_cons.mpr ⟨wT_of (in1 (i := 214) rfl) rfl, List.forall_mem_cons.mpr ⟨wT_of (sel (y := yX1_putSign) (n := 6) (by decide +kernel)) rfl, List.forall_mem_cons.mpr ⟨wT_of (in1 (i := 6) rfl) rfl, List.forall_mem_cons.mpr ⟨wT_of (in1 (i := 215) rfl) rfl, fun _ h => absurd h List.not_mem_nil⟩⟩⟩⟩⟩, by decide +kernel⟩
theorem kX1_84 : MV RX1 84 RX3 yX3_openHead cX3_openHead 1 (some .int) 0 := ⟨List.forall_mem_cons.mpr ⟨wT_of (in1 (i := 153) rfl) rfl, List.forall_mem_cons.mpr ⟨wT_of (in1 (i := 154) rfl) rfl, List.forall_mem_cons.mpr ⟨wT_of (in1 (i := 155) rfl) rfl, List.forall_mem_cons.mpr ⟨wT_of (in1 (i := 2) rfl) rfl, List.forall_mem_cons.mpr ⟨wT_of (in1 (i := 156) rfl) rfl, fun _ h => absurd h List.not_mem_nil⟩⟩⟩⟩⟩, by decide +kernel⟩
theorem kX1_87 : MV RX1 87 RX1 yX1_closeParts cX1_closeParts 4 (some .boolean) 3 := ⟨List.forall_mem_cons.mpr ⟨wT_of (in2 (i := 8) rfl) rfl, List.forall_mem_cons.mpr ⟨wT_of (in2 (i := 10) rfl) rfl, List.forall_mem_cons.mpr ⟨wT_of (sel (y := yX1_closeParts) (n := 6) (by decide +kernel)) rfl, List.forall_mem_cons.mpr ⟨wT_of (in1 (i := 6) rfl) rfl, List.forall_mem_cons.mpr ⟨wT_of (in2 (i := 11) rfl) rfl, fun _ h => absurd h List.not_mem_nil⟩⟩⟩⟩⟩, by decide +kernel⟩
theorem kX1_90 : MV RX1 90 RX1 yX1_readKey cX1_readKey 1 (some .boolean) 0 := ⟨List.forall_mem_cons.mpr ⟨wT_of (in2 (i := 12) rfl) rfl, List.forall_mem_cons.mpr ⟨wT_of (in2 (i := 14) rfl) rfl, List.forall_mem_cons.mpr ⟨wT_of (sel (y := yX1_readKey) (n := 6) (by decide +kernel)) rfl, List.forall_mem_cons.mpr ⟨wT_of (in1 (i := 6) rfl) rfl, List.forall_mem_cons.mpr ⟨wT_of (in2 (i := 15) rfl) rfl, fun _ h => absurd h List.not_mem_nil⟩⟩⟩⟩⟩, by decide +kernel⟩
theorem kX1_93 : MV RX1 93 RX1 yX1_readValue cX1_readValue 3 (some .boolean) 1 := ⟨List.forall_mem_cons.mpr ⟨wT_of (in2 (i := 16) rfl) rfl, List.forall_mem_cons.mpr ⟨wT_of (in1 (i := 134) rfl) rfl, List.forall_mem_cons.mpr ⟨wT_of (in1 (i := 135) rfl) rfl, List.forall_mem_cons.mpr ⟨wT_of (in1 (i := 6) rfl) rfl, List.forall_mem_cons.mpr ⟨wT_of (in1 (i := 136) rfl) rfl, fun _ h => absurd h List.not_mem_nil⟩⟩⟩⟩⟩, by decide +kernel⟩
theorem kX1_109 : MN RX1 109 yX4_signLength cX4_signLength 8 (some .int) 3 := ⟨List.forall_mem_cons.mpr ⟨wT_of (in1 (i := 231) rfl) rfl, List.forall_mem_cons.mpr ⟨wT_of (in1 (i := 1) rfl) rfl, List.forall_mem_cons.mpr ⟨wT_of (in1 (i := 232) rfl) rfl, fun _ h => absurd h List.not_mem_nil⟩⟩⟩, by decide +kernel, by decide +kernel⟩
theorem kX1_100 : MV RX1 100 RX1 yX1_readNumberedSign cX1_readNumberedSign 3 (some .boolean) 0 := ⟨List.forall_mem_cons.mpr ⟨wT_of (in1 (i := 185) rfl) rfl, List.forall_mem_cons.mpr ⟨wT_of (in1 (i := 187) rfl) rfl, List.forall_mem_cons.mpr ⟨wT_of (sel (y := yX1_readNumberedSign) (n := 6) (by decide +kernel)) rfl, List.forall_mem_cons.mpr ⟨wT_of (in1 (i := 6) rfl) rfl, List.forall_mem_cons.mpr ⟨wT_of (in1 (i := 188) rfl) rfl, fun _ h => absurd h List.not_mem_nil⟩⟩⟩⟩⟩, by decide +kernel⟩
theorem kX1_103 : MV RX1 103 RX1 yX1_readLetter cX1_readLetter 2 (some .boolean) 0 := ⟨List.forall_mem_cons.mpr ⟨wT_of (in1 (i := 219) rfl) rfl, List.forall_mem_cons.mpr ⟨wT_of (in1 (i := 221) rfl) rfl, List.forall_mem_cons.mpr ⟨wT_of (sel (y := yX1_readLetter) (n := 6) (by decide +kernel)) rfl, List.forall_mem_cons.mpr ⟨wT_of (in1 (i := 6) rfl) rfl, List.forall_mem_cons.mpr ⟨wT_of (in1 (i := 222) rfl) rfl, fun _ h => absurd h List.not_mem_nil⟩⟩⟩⟩⟩, by decide +kernel⟩
theorem kX1_106 : MV RX1 106 RX1 yX1_readPlainSign cX1_readPlainSign 4 (some .boolean) 1 := ⟨List.forall_mem_cons.mpr ⟨wT_of (in1 (i := 226) rfl) rfl, List.forall_mem_cons.mpr ⟨wT_of (in1 (i := 228) rfl) rfl, List.forall_mem_cons.mpr ⟨wT_of (sel (y := yX1_readPlainSign) (n := 6) (by decide +kernel)) rfl, List.forall_mem_cons.mpr ⟨wT_of (in1 (i := 6) rfl) rfl, List.forall_mem_cons.mpr ⟨wT_of (in1 (i := 229) rfl) rfl, fun _ h => absurd h List.not_mem_nil⟩⟩⟩⟩⟩, by decide +kernel⟩
theorem kX1_41 : MV RX1 41 RX1 yX1_readParts cX1_readParts 7 (some .boolean) 3 := ⟨List.forall_mem_cons.mpr ⟨wT_of (in2 (i := 4) rfl) rfl, List.forall_mem_cons.mpr ⟨wT_of (in2 (i := 6) rfl) rfl, List.forall_mem_cons.mpr ⟨wT_of (sel (y := yX1_readParts) (n := 6) (by decide +kernel)) rfl, List.forall_mem_cons.mpr ⟨wT_of (in1 (i := 6) rfl) rfl, List.forall_mem_cons.mpr ⟨wT_of (in2 (i := 7) rfl) rfl, fun _ h => absurd h List.not_mem_nil⟩⟩⟩⟩⟩, by decide +kernel⟩
theorem kX1_47 : MV RX1 47 RX1 yX1_readWord cX1_readWord 4 (some .boolean) 2 := ⟨List.forall_mem_cons.mpr ⟨wT_of (in2 (i := 18) rfl) rfl, List.forall_mem_cons.mpr ⟨wT_of (in2 (i := 20) rfl) rfl, List.forall_mem_cons.mpr ⟨wT_of (sel (y := yX1_readWord) (n := 6) (by decide +kernel)) rfl, List.forall_mem_cons.mpr ⟨wT_of (in1 (i := 6) rfl) rfl, List.forall_mem_cons.mpr ⟨wT_of (in2 (i := 21) rfl) rfl, fun _ h => absurd h List.not_mem_nil⟩⟩⟩⟩⟩, by decide +kernel⟩
theorem kX1_59 : MV RX1 59 RX1 yX1_readNumber cX1_readNumber 5 (some .boolean) 0 := ⟨List.forall_mem_cons.mpr ⟨wT_of (in2 (i := 81) rfl) rfl, List.forall_mem_cons.mpr ⟨wT_of (in2 (i := 83) rfl) rfl, List.forall_mem_cons.mpr ⟨wT_of (sel (y := yX1_readNumber) (n := 6) (by decide +kernel)) rfl, List.forall_mem_cons.mpr ⟨wT_of (in1 (i := 6) rfl) rfl, List.forall_mem_cons.mpr ⟨wT_of (in2 (i := 84) rfl) rfl, fun _ h => absurd h List.not_mem_nil⟩⟩⟩⟩⟩, by decide +kernel⟩
theorem kX1_65 : MV RX1 65 RJ0 yJ0_length_8abf5 cJ0_length_8abf5 1 (some .int) 0 := ⟨List.forall_mem_cons.mpr ⟨wT_of (in2 (i := 22) rfl) rfl, List.forall_mem_cons.mpr ⟨wT_of (in2 (i := 23) rfl) rfl, List.forall_mem_cons.mpr ⟨wT_of (in2 (i := 24) rfl) rfl, List.forall_mem_cons.mpr ⟨wT_of (in1 (i := 8) rfl) rfl, List.forall_mem_cons.mpr ⟨wT_of (in2 (i := 25) rfl) rfl, fun _ h => absurd h List.not_mem_nil⟩⟩⟩⟩⟩, by decide +kernel⟩
theorem kX1_70 : MV RX1 70 RJ0 yJ0_charAt_5068e cJ0_charAt_5068e 2 (some .char) 1 := ⟨List.forall_mem_cons.mpr ⟨wT_of (in2 (i := 32) rfl) rfl, List.forall_mem_cons.mpr ⟨wT_of (in2 (i := 33) rfl) rfl, List.forall_mem_cons.mpr ⟨wT_of (in2 (i := 34) rfl) rfl, List.forall_mem_cons.mpr ⟨wT_of (in1 (i := 8) rfl) rfl, List.forall_mem_cons.mpr ⟨wT_of (in2 (i := 35) rfl) rfl, fun _ h => absurd h List.not_mem_nil⟩⟩⟩⟩⟩, by decide +kernel⟩
theorem kX1_62 : MS0 RX1 62 yX1_isBlank cX1_isBlank 1 (some .boolean) 1 := ⟨List.forall_mem_cons.mpr ⟨wT_of (in1 (i := 146) rfl) rfl, List.forall_mem_cons.mpr ⟨wT_of (in1 (i := 147) rfl) rfl, List.forall_mem_cons.mpr ⟨wT_of (in1 (i := 6) rfl) rfl, List.forall_mem_cons.mpr ⟨wT_of (in1 (i := 148) rfl) rfl, fun _ h => absurd h List.not_mem_nil⟩⟩⟩⟩, by decide +kernel⟩
theorem kX3_48 : MN RX3 48 yX4_shortestInfo cX4_shortestInfo 2 (some .int) 1 := ⟨List.forall_mem_cons.mpr ⟨wT_of (in1 (i := 162) rfl) rfl, List.forall_mem_cons.mpr ⟨wT_of (in1 (i := 1) rfl) rfl, List.forall_mem_cons.mpr ⟨wT_of (in1 (i := 163) rfl) rfl, fun _ h => absurd h List.not_mem_nil⟩⟩⟩, by decide +kernel, by decide +kernel⟩
theorem kX3_52 : MN RX3 52 yX4_bytesBehind cX4_bytesBehind 1 (some .int) 1 := ⟨List.forall_mem_cons.mpr ⟨wT_of (in1 (i := 169) rfl) rfl, List.forall_mem_cons.mpr ⟨wT_of (in1 (i := 1) rfl) rfl, List.forall_mem_cons.mpr ⟨wT_of (in1 (i := 170) rfl) rfl, fun _ h => absurd h List.not_mem_nil⟩⟩⟩, by decide +kernel, by decide +kernel⟩
theorem kX3_56 : MV RX3 56 RX3 yX3_makeGap cX3_makeGap 4 none 2 := ⟨List.forall_mem_cons.mpr ⟨wT_of (in1 (i := 171) rfl) rfl, List.forall_mem_cons.mpr ⟨wT_of (in1 (i := 173) rfl) rfl, List.forall_mem_cons.mpr ⟨wT_of (sel (y := yX3_makeGap) (n := 2) (by decide +kernel)) rfl, List.forall_mem_cons.mpr ⟨wT_of (in1 (i := 2) rfl) rfl, List.forall_mem_cons.mpr ⟨wT_of (in1 (i := 174) rfl) rfl, fun _ h => absurd h List.not_mem_nil⟩⟩⟩⟩⟩, by decide +kernel⟩
theorem kX3_60 : MV RX3 60 RX3 yX3_set cX3_set 3 none 2 := ⟨List.forall_mem_cons.mpr ⟨wT_of (in1 (i := 181) rfl) rfl, List.forall_mem_cons.mpr ⟨wT_of (in1 (i := 183) rfl) rfl, List.forall_mem_cons.mpr ⟨wT_of (sel (y := yX3_set) (n := 2) (by decide +kernel)) rfl, List.forall_mem_cons.mpr ⟨wT_of (in1 (i := 2) rfl) rfl, List.forall_mem_cons.mpr ⟨wT_of (in1 (i := 184) rfl) rfl, fun _ h => absurd h List.not_mem_nil⟩⟩⟩⟩⟩, by decide +kernel⟩
theorem kX3_25 : MV RX3 25 RX3 yX3_put cX3_put 2 none 1 := ⟨List.forall_mem_cons.mpr ⟨wT_of (in1 (i := 69) rfl) rfl, List.forall_mem_cons.mpr ⟨wT_of (in1 (i := 70) rfl) rfl, List.forall_mem_cons.mpr ⟨wT_of (in1 (i := 71) rfl) rfl, List.forall_mem_cons.mpr ⟨wT_of (in1 (i := 2) rfl) rfl, List.forall_mem_cons.mpr ⟨wT_of (in1 (i := 72) rfl) rfl, fun _ h => absurd h List.not_mem_nil⟩⟩⟩⟩⟩, by decide +kernel⟩
theorem kX3_63 : MV RX3 63 RX3 yX3_openHead cX3_openHead 1 (some .int) 0 := ⟨List.forall_mem_cons.mpr ⟨wT_of (in2 (i := 74) rfl) rfl, List.forall_mem_cons.mpr ⟨wT_of (in1 (i := 154) rfl) rfl, List.forall_mem_cons.mpr ⟨wT_of (in1 (i := 155) rfl) rfl, List.forall_mem_cons.mpr ⟨wT_of (in1 (i := 2) rfl) rfl, List.forall_mem_cons.mpr ⟨wT_of (in1 (i := 156) rfl) rfl, fun _ h => absurd h List.not_mem_nil⟩⟩⟩⟩⟩, by decide +kernel⟩
theorem kX3_66 : MV RX3 66 RX3 yX3_closeHead cX3_closeHead 8 none 3 := ⟨List.forall_mem_cons.mpr ⟨wT_of (in2 (i := 75) rfl) rfl, List.forall_mem_cons.mpr ⟨wT_of (in1 (i := 158) rfl) rfl, List.forall_mem_cons.mpr ⟨wT_of (in1 (i := 159) rfl) rfl, List.forall_mem_cons.mpr ⟨wT_of (in1 (i := 2) rfl) rfl, List.forall_mem_cons.mpr ⟨wT_of (in1 (i := 160) rfl) rfl, fun _ h => absurd h List.not_mem_nil⟩⟩⟩⟩⟩, by decide +kernel⟩
theorem kX3_29 : MV RX3 29 RJ0 yJ0_length_8abf5 cJ0_length_8abf5 1 (some .int) 0 := ⟨List.forall_mem_cons.mpr ⟨wT_of (in2 (i := 234) rfl) rfl, List.forall_mem_cons.mpr ⟨wT_of (in2 (i := 23) rfl) rfl, List.forall_mem_cons.mpr ⟨wT_of (in2 (i := 24) rfl) rfl, List.forall_mem_cons.mpr ⟨wT_of (in1 (i := 8) rfl) rfl, List.forall_mem_cons.mpr ⟨wT_of (in2 (i := 25) rfl) rfl, fun _ h => absurd h List.not_mem_nil⟩⟩⟩⟩⟩, by decide +kernel⟩
theorem kX3_35 : MV RX3 35 RJ0 yJ0_charAt_5068e cJ0_charAt_5068e 2 (some .char) 1 := ⟨List.forall_mem_cons.mpr ⟨wT_of (in2 (i := 235) rfl) rfl, List.forall_mem_cons.mpr ⟨wT_of (in2 (i := 33) rfl) rfl, List.forall_mem_cons.mpr ⟨wT_of (in2 (i := 34) rfl) rfl, List.forall_mem_cons.mpr ⟨wT_of (in1 (i := 8) rfl) rfl, List.forall_mem_cons.mpr ⟨wT_of (in2 (i := 35) rfl) rfl, fun _ h => absurd h List.not_mem_nil⟩⟩⟩⟩⟩, by decide +kernel⟩
theorem kX4_34 : MV RX4 34 RX3 yX3_size cX3_size 1 (some .int) 0 := ⟨List.forall_mem_cons.mpr ⟨wT_of (in1 (i := 61) rfl) rfl, List.forall_mem_cons.mpr ⟨wT_of (in1 (i := 62) rfl) rfl, List.forall_mem_cons.mpr ⟨wT_of (in1 (i := 63) rfl) rfl, List.forall_mem_cons.mpr ⟨wT_of (in1 (i := 2) rfl) rfl, List.forall_mem_cons.mpr ⟨wT_of (in1 (i := 64) rfl) rfl, fun _ h => absurd h List.not_mem_nil⟩⟩⟩⟩⟩, by decide +kernel⟩
theorem kX4_76_X1 : MU RX4 76 RX1 "TextBridge$Reader" ⟨"TextBridge$Reader", "refuse", "(II)Z"⟩ yX2_refuse cX2_refuse 3 (some .boolean) 2 := ⟨List.forall_mem_cons.mpr ⟨wT_of (in2 (i := 114) rfl) rfl, List.forall_mem_cons.mpr ⟨wT_of (in4 (i := 89) rfl) rfl, List.forall_mem_cons.mpr ⟨wT_of (in4 (i := 91) rfl) rfl, List.forall_mem_cons.mpr ⟨wT_of (in1 (i := 196) rfl) rfl, List.forall_mem_cons.mpr ⟨wT_of (in1 (i := 5) rfl) rfl, List.forall_mem_cons.mpr ⟨wT_of (in1 (i := 197) rfl) rfl, fun _ h => absurd h List.not_mem_nil⟩⟩⟩⟩⟩⟩, rfl, by decide +kernel⟩
theorem kX4_76_X0 : MU RX4 76 RX0 "TextBridge$Reader" ⟨"TextBridge$Reader", "refuse", "(II)Z"⟩ yX2_refuse cX2_refuse 3 (some .boolean) 2 := ⟨List.forall_mem_cons.mpr ⟨wT_of (in2 (i := 114) rfl) rfl, List.forall_mem_cons.mpr ⟨wT_of (in4 (i := 89) rfl) rfl, List.forall_mem_cons.mpr ⟨wT_of (in4 (i := 90) rfl) rfl, List.forall_mem_cons.mpr ⟨wT_of (in1 (i := 196) rfl) rfl, List.forall_mem_cons.mpr ⟨wT_of (in1 (i := 5) rfl) rfl, List.forall_mem_cons.mpr ⟨wT_of (in1 (i := 197) rfl) rfl, fun _ h => absurd h List.not_mem_nil⟩⟩⟩⟩⟩⟩, rfl, by decide +kernel⟩
theorem kX4_82_X1 : MU RX4 82 RX1 "TextBridge$Reader" ⟨"TextBridge$Reader", "faultPlace", "()I"⟩ yX2_faultPlace cX2_faultPlace 1 (some .int) 0 := ⟨List.forall_mem_cons.mpr ⟨wT_of (in2 (i := 115) rfl) rfl, List.forall_mem_cons.mpr ⟨wT_of (in2 (i := 117) rfl) rfl, List.forall_mem_cons.mpr ⟨wT_of (in2 (i := 119) rfl) rfl, List.forall_mem_cons.mpr ⟨wT_of (in2 (i := 116) rfl) rfl, List.forall_mem_cons.mpr ⟨wT_of (in1 (i := 5) rfl) rfl, List.forall_mem_cons.mpr ⟨wT_of (in2 (i := 120) rfl) rfl, fun _ h => absurd h List.not_mem_nil⟩⟩⟩⟩⟩⟩, rfl, by decide +kernel⟩
theorem kX4_82_X0 : MU RX4 82 RX0 "TextBridge$Reader" ⟨"TextBridge$Reader", "faultPlace", "()I"⟩ yX2_faultPlace cX2_faultPlace 1 (some .int) 0 := ⟨List.forall_mem_cons.mpr ⟨wT_of (in2 (i := 115) rfl) rfl, List.forall_mem_cons.mpr ⟨wT_of (in2 (i := 117) rfl) rfl, List.forall_mem_cons.mpr ⟨wT_of (in2 (i := 118) rfl) rfl, List.forall_mem_cons.mpr ⟨wT_of (in2 (i := 116) rfl) rfl, List.forall_mem_cons.mpr ⟨wT_of (in1 (i := 5) rfl) rfl, List.forall_mem_cons.mpr ⟨wT_of (in2 (i := 120) rfl) rfl, fun _ h => absurd h List.not_mem_nil⟩⟩⟩⟩⟩⟩, rfl, by decide +kernel⟩
theorem kX4_84_X1 : MU RX4 84 RX1 "TextBridge$Reader" ⟨"TextBridge$Reader", "faultKind", "()I"⟩ yX2_faultKind cX2_faultKind 1 (some .int) 0 := ⟨List.forall_mem_cons.mpr ⟨wT_of (in2 (i := 121) rfl) rfl, List.forall_mem_cons.mpr ⟨wT_of (in2 (i := 123) rfl) rfl, List.forall_mem_cons.mpr ⟨wT_of (in2 (i := 125) rfl) rfl, List.forall_mem_cons.mpr ⟨wT_of (in2 (i := 122) rfl) rfl, List.forall_mem_cons.mpr ⟨wT_of (in1 (i := 5) rfl) rfl, List.forall_mem_cons.mpr ⟨wT_of (in2 (i := 126) rfl) rfl, fun _ h => absurd h List.not_mem_nil⟩⟩⟩⟩⟩⟩, rfl, by decide +kernel⟩
theorem kX4_84_X0 : MU RX4 84 RX0 "TextBridge$Reader" ⟨"TextBridge$Reader", "faultKind", "()I"⟩ yX2_faultKind cX2_faultKind 1 (some .int) 0 := ⟨List.forall_mem_cons.mpr ⟨wT_of (in2 (i := 121) rfl) rfl, List.forall_mem_cons.mpr ⟨wT_of (in2 (i := 123) rfl) rfl, List.forall_mem_cons.mpr ⟨wT_of (in2 (i := 124) rfl) rfl, List.forall_mem_cons.mpr ⟨wT_of (in2 (i := 122) rfl) rfl, List.forall_mem_cons.mpr ⟨wT_of (in1 (i := 5) rfl) rfl, List.forall_mem_cons.mpr ⟨wT_of (in2 (i := 126) rfl) rfl, fun _ h => absurd h List.not_mem_nil⟩⟩⟩⟩⟩⟩, rfl, by decide +kernel⟩
theorem kX4_87 : MV RX4 87 RX4 yX4_exchangeRows cX4_exchangeRows 2 none 0 := ⟨List.forall_mem_cons.mpr ⟨wT_of (in2 (i := 127) rfl) rfl, List.forall_mem_cons.mpr ⟨wT_of (in2 (i := 129) rfl) rfl, List.forall_mem_cons.mpr ⟨wT_of (sel (y := yX4_exchangeRows) (n := 6) (by decide +kernel)) rfl, List.forall_mem_cons.mpr ⟨wT_of (in1 (i := 1) rfl) rfl, List.forall_mem_cons.mpr ⟨wT_of (in2 (i := 130) rfl) rfl, fun _ h => absurd h List.not_mem_nil⟩⟩⟩⟩⟩, by decide +kernel⟩
theorem kX4_41 : MV RX4 41 RX3 yX3_cutTo cX3_cutTo 2 none 1 := ⟨List.forall_mem_cons.mpr ⟨wT_of (in1 (i := 77) rfl) rfl, List.forall_mem_cons.mpr ⟨wT_of (in1 (i := 78) rfl) rfl, List.forall_mem_cons.mpr ⟨wT_of (in1 (i := 79) rfl) rfl, List.forall_mem_cons.mpr ⟨wT_of (in1 (i := 2) rfl) rfl, List.forall_mem_cons.mpr ⟨wT_of (in1 (i := 80) rfl) rfl, fun _ h => absurd h List.not_mem_nil⟩⟩⟩⟩⟩, by decide +kernel⟩
theorem kX4_38 : MV RX4 38 RX3 yX3_putFour cX3_putFour 2 none 1 := ⟨List.forall_mem_cons.mpr ⟨wT_of (in1 (i := 65) rfl) rfl, List.forall_mem_cons.mpr ⟨wT_of (in1 (i := 66) rfl) rfl, List.forall_mem_cons.mpr ⟨wT_of (in1 (i := 67) rfl) rfl, List.forall_mem_cons.mpr ⟨wT_of (in1 (i := 2) rfl) rfl, List.forall_mem_cons.mpr ⟨wT_of (in1 (i := 68) rfl) rfl, fun _ h => absurd h List.not_mem_nil⟩⟩⟩⟩⟩, by decide +kernel⟩
theorem kX4_68 : MV RX4 68 RX3 yX3_at cX3_at 2 (some .int) 1 := ⟨List.forall_mem_cons.mpr ⟨wT_of (in1 (i := 233) rfl) rfl, List.forall_mem_cons.mpr ⟨wT_of (in1 (i := 143) rfl) rfl, List.forall_mem_cons.mpr ⟨wT_of (in1 (i := 144) rfl) rfl, List.forall_mem_cons.mpr ⟨wT_of (in1 (i := 2) rfl) rfl, List.forall_mem_cons.mpr ⟨wT_of (in1 (i := 145) rfl) rfl, fun _ h => absurd h List.not_mem_nil⟩⟩⟩⟩⟩, by decide +kernel⟩
theorem kX4_98 : MS0 RX4 98 yX4_lengthByFirst cX4_lengthByFirst 1 (some .int) 1 := ⟨List.forall_mem_cons.mpr ⟨wT_of (in1 (i := 234) rfl) rfl, List.forall_mem_cons.mpr ⟨wT_of (in1 (i := 235) rfl) rfl, List.forall_mem_cons.mpr ⟨wT_of (in1 (i := 1) rfl) rfl, List.forall_mem_cons.mpr ⟨wT_of (in1 (i := 236) rfl) rfl, fun _ h => absurd h List.not_mem_nil⟩⟩⟩⟩, by decide +kernel⟩
theorem kX4_101 : MS0 RX4 101 yX4_isSignOf cX4_isSignOf 2 (some .boolean) 2 := ⟨List.forall_mem_cons.mpr ⟨wT_of (in1 (i := 237) rfl) rfl, List.forall_mem_cons.mpr ⟨wT_of (in1 (i := 238) rfl) rfl, List.forall_mem_cons.mpr ⟨wT_of (in1 (i := 1) rfl) rfl, List.forall_mem_cons.mpr ⟨wT_of (in1 (i := 239) rfl) rfl, fun _ h => absurd h List.not_mem_nil⟩⟩⟩⟩, by decide +kernel⟩
theorem kX4_72 : MV RX4 72 RX3 yX3_copyFrom cX3_copyFrom 3 none 1 := ⟨List.forall_mem_cons.mpr ⟨wT_of (in3 (i := 16) rfl) rfl, List.forall_mem_cons.mpr ⟨wT_of (in3 (i := 17) rfl) rfl, List.forall_mem_cons.mpr ⟨wT_of (in3 (i := 18) rfl) rfl, List.forall_mem_cons.mpr ⟨wT_of (in1 (i := 2) rfl) rfl, List.forall_mem_cons.mpr ⟨wT_of (in3 (i := 19) rfl) rfl, fun _ h => absurd h List.not_mem_nil⟩⟩⟩⟩⟩, by decide +kernel⟩
theorem kX4_49 : MV RX4 49 RX1 yX1_readValue cX1_readValue 3 (some .boolean) 1 := ⟨List.forall_mem_cons.mpr ⟨wT_of (in1 (i := 133) rfl) rfl, List.forall_mem_cons.mpr ⟨wT_of (in1 (i := 134) rfl) rfl, List.forall_mem_cons.mpr ⟨wT_of (in1 (i := 135) rfl) rfl, List.forall_mem_cons.mpr ⟨wT_of (in1 (i := 6) rfl) rfl, List.forall_mem_cons.mpr ⟨wT_of (in1 (i := 136) rfl) rfl, fun _ h => absurd h List.not_mem_nil⟩⟩⟩⟩⟩, by decide +kernel⟩
theorem kX4_53 : MV RX4 53 RX1 yX1_readEnd cX1_readEnd 1 (some .boolean) 0 := ⟨List.forall_mem_cons.mpr ⟨wT_of (in2 (i := 106) rfl) rfl, List.forall_mem_cons.mpr ⟨wT_of (in2 (i := 107) rfl) rfl, List.forall_mem_cons.mpr ⟨wT_of (in2 (i := 108) rfl) rfl, List.forall_mem_cons.mpr ⟨wT_of (in1 (i := 6) rfl) rfl, List.forall_mem_cons.mpr ⟨wT_of (in2 (i := 109) rfl) rfl, fun _ h => absurd h List.not_mem_nil⟩⟩⟩⟩⟩, by decide +kernel⟩
theorem kX4_57 : MV RX4 57 RX4 yX4_answerOf cX4_answerOf 3 (some .int) 2 := ⟨List.forall_mem_cons.mpr ⟨wT_of (in2 (i := 110) rfl) rfl, List.forall_mem_cons.mpr ⟨wT_of (in2 (i := 112) rfl) rfl, List.forall_mem_cons.mpr ⟨wT_of (sel (y := yX4_answerOf) (n := 6) (by decide +kernel)) rfl, List.forall_mem_cons.mpr ⟨wT_of (in1 (i := 1) rfl) rfl, List.forall_mem_cons.mpr ⟨wT_of (in2 (i := 113) rfl) rfl, fun _ h => absurd h List.not_mem_nil⟩⟩⟩⟩⟩, by decide +kernel⟩
theorem kX4_64 : MV RX4 64 RX0 yX0_readItem cX0_readItem 3 (some .boolean) 1 := ⟨List.forall_mem_cons.mpr ⟨wT_of (in2 (i := 154) rfl) rfl, List.forall_mem_cons.mpr ⟨wT_of (in2 (i := 155) rfl) rfl, List.forall_mem_cons.mpr ⟨wT_of (in2 (i := 156) rfl) rfl, List.forall_mem_cons.mpr ⟨wT_of (in1 (i := 12) rfl) rfl, List.forall_mem_cons.mpr ⟨wT_of (in2 (i := 157) rfl) rfl, fun _ h => absurd h List.not_mem_nil⟩⟩⟩⟩⟩, by decide +kernel⟩
theorem kX4_67 : MV RX4 67 RX0 yX0_readEnd cX0_readEnd 1 (some .boolean) 0 := ⟨List.forall_mem_cons.mpr ⟨wT_of (in2 (i := 236) rfl) rfl, List.forall_mem_cons.mpr ⟨wT_of (in2 (i := 237) rfl) rfl, List.forall_mem_cons.mpr ⟨wT_of (in2 (i := 238) rfl) rfl, List.forall_mem_cons.mpr ⟨wT_of (in1 (i := 12) rfl) rfl, List.forall_mem_cons.mpr ⟨wT_of (in2 (i := 239) rfl) rfl, fun _ h => absurd h List.not_mem_nil⟩⟩⟩⟩⟩, by decide +kernel⟩
theorem kX5_86 : MV RX5 86 RX5 yX5_here cX5_here 1 (some .int) 0 := ⟨List.forall_mem_cons.mpr ⟨wT_of (in3 (i := 139) rfl) rfl, List.forall_mem_cons.mpr ⟨wT_of (in3 (i := 141) rfl) rfl, List.forall_mem_cons.mpr ⟨wT_of (sel (y := yX5_here) (n := 22) (by decide +kernel)) rfl, List.forall_mem_cons.mpr ⟨wT_of (in1 (i := 4) rfl) rfl, List.forall_mem_cons.mpr ⟨wT_of (in3 (i := 142) rfl) rfl, fun _ h => absurd h List.not_mem_nil⟩⟩⟩⟩⟩, by decide +kernel⟩
theorem kX5_129 : MS0 RX5 129 yX5_hexOf cX5_hexOf 1 (some .int) 1 := ⟨List.forall_mem_cons.mpr ⟨wT_of (in3 (i := 179) rfl) rfl, List.forall_mem_cons.mpr ⟨wT_of (in3 (i := 180) rfl) rfl, List.forall_mem_cons.mpr ⟨wT_of (in1 (i := 4) rfl) rfl, List.forall_mem_cons.mpr ⟨wT_of (in3 (i := 181) rfl) rfl, fun _ h => absurd h List.not_mem_nil⟩⟩⟩⟩, by decide +kernel⟩
theorem kX5_98 : MV RX5 98 RX5 yX5_stuck cX5_stuck 1 (some .boolean) 0 := ⟨List.forall_mem_cons.mpr ⟨wT_of (in3 (i := 155) rfl) rfl, List.forall_mem_cons.mpr ⟨wT_of (in3 (i := 157) rfl) rfl, List.forall_mem_cons.mpr ⟨wT_of (sel (y := yX5_stuck) (n := 22) (by decide +kernel)) rfl, List.forall_mem_cons.mpr ⟨wT_of (in1 (i := 4) rfl) rfl, List.forall_mem_cons.mpr ⟨wT_of (in3 (i := 158) rfl) rfl, fun _ h => absurd h List.not_mem_nil⟩⟩⟩⟩⟩, by decide +kernel⟩
theorem kX5_133 : MV RX5 133 RX5 yX5_four cX5_four 5 (some .int) 1 := ⟨List.forall_mem_cons.mpr ⟨wT_of (in3 (i := 182) rfl) rfl, List.forall_mem_cons.mpr ⟨wT_of (in3 (i := 184) rfl) rfl, List.forall_mem_cons.mpr ⟨wT_of (sel (y := yX5_four) (n := 22) (by decide +kernel)) rfl, List.forall_mem_cons.mpr ⟨wT_of (in1 (i := 4) rfl) rfl, List.forall_mem_cons.mpr ⟨wT_of (in3 (i := 185) rfl) rfl, fun _ h => absurd h List.not_mem_nil⟩⟩⟩⟩⟩, by decide +kernel⟩
theorem kX5_90 : MV RX5 90 RX5 yX5_wrong cX5_wrong 3 (some .boolean) 2 := ⟨List.forall_mem_cons.mpr ⟨wT_of (in3 (i := 159) rfl) rfl, List.forall_mem_cons.mpr ⟨wT_of (in3 (i := 161) rfl) rfl, List.forall_mem_cons.mpr ⟨wT_of (sel (y := yX5_wrong) (n := 22) (by decide +kernel)) rfl, List.forall_mem_cons.mpr ⟨wT_of (in1 (i := 4) rfl) rfl, List.forall_mem_cons.mpr ⟨wT_of (in3 (i := 162) rfl) rfl, fun _ h => absurd h List.not_mem_nil⟩⟩⟩⟩⟩, by decide +kernel⟩
theorem kX5_140 : MV RX5 140 RX5 yX5_sign cX5_sign 2 none 1 := ⟨List.forall_mem_cons.mpr ⟨wT_of (in3 (i := 190) rfl) rfl, List.forall_mem_cons.mpr ⟨wT_of (in3 (i := 192) rfl) rfl, List.forall_mem_cons.mpr ⟨wT_of (sel (y := yX5_sign) (n := 22) (by decide +kernel)) rfl, List.forall_mem_cons.mpr ⟨wT_of (in1 (i := 4) rfl) rfl, List.forall_mem_cons.mpr ⟨wT_of (in3 (i := 193) rfl) rfl, fun _ h => absurd h List.not_mem_nil⟩⟩⟩⟩⟩, by decide +kernel⟩
theorem kX5_94 : MV RX5 94 RX5 yX5_isDigit cX5_isDigit 2 (some .boolean) 1 := ⟨List.forall_mem_cons.mpr ⟨wT_of (in3 (i := 225) rfl) rfl, List.forall_mem_cons.mpr ⟨wT_of (in3 (i := 227) rfl) rfl, List.forall_mem_cons.mpr ⟨wT_of (sel (y := yX5_isDigit) (n := 22) (by decide +kernel)) rfl, List.forall_mem_cons.mpr ⟨wT_of (in1 (i := 4) rfl) rfl, List.forall_mem_cons.mpr ⟨wT_of (in3 (i := 228) rfl) rfl, fun _ h => absurd h List.not_mem_nil⟩⟩⟩⟩⟩, by decide +kernel⟩
theorem kX5_143 : MV RX5 143 RX5 yX5_coded cX5_coded 5 (some .boolean) 1 := ⟨List.forall_mem_cons.mpr ⟨wT_of (in3 (i := 175) rfl) rfl, List.forall_mem_cons.mpr ⟨wT_of (in3 (i := 177) rfl) rfl, List.forall_mem_cons.mpr ⟨wT_of (sel (y := yX5_coded) (n := 22) (by decide +kernel)) rfl, List.forall_mem_cons.mpr ⟨wT_of (in1 (i := 4) rfl) rfl, List.forall_mem_cons.mpr ⟨wT_of (in3 (i := 178) rfl) rfl, fun _ h => absurd h List.not_mem_nil⟩⟩⟩⟩⟩, by decide +kernel⟩
theorem kX5_80 : MV RX5 80 RX5 yX5_letter cX5_letter 2 none 1 := ⟨List.forall_mem_cons.mpr ⟨wT_of (in3 (i := 194) rfl) rfl, List.forall_mem_cons.mpr ⟨wT_of (in3 (i := 196) rfl) rfl, List.forall_mem_cons.mpr ⟨wT_of (sel (y := yX5_letter) (n := 22) (by decide +kernel)) rfl, List.forall_mem_cons.mpr ⟨wT_of (in1 (i := 4) rfl) rfl, List.forall_mem_cons.mpr ⟨wT_of (in3 (i := 197) rfl) rfl, fun _ h => absurd h List.not_mem_nil⟩⟩⟩⟩⟩, by decide +kernel⟩
theorem kX5_174 : MV RX5 174 RX5 yX5_blanks cX5_blanks 1 none 0 := ⟨List.forall_mem_cons.mpr ⟨wT_of (in3 (i := 135) rfl) rfl, List.forall_mem_cons.mpr ⟨wT_of (in3 (i := 137) rfl) rfl, List.forall_mem_cons.mpr ⟨wT_of (sel (y := yX5_blanks) (n := 22) (by decide +kernel)) rfl, List.forall_mem_cons.mpr ⟨wT_of (in1 (i := 4) rfl) rfl, List.forall_mem_cons.mpr ⟨wT_of (in3 (i := 138) rfl) rfl, fun _ h => absurd h List.not_mem_nil⟩⟩⟩⟩⟩, by decide +kernel⟩
theorem kX5_186 : MV RX5 186 RX5 yX5_isCloser cX5_isCloser 1 (some .boolean) 0 := ⟨List.forall_mem_cons.mpr ⟨wT_of (in4 (i := 8) rfl) rfl, List.forall_mem_cons.mpr ⟨wT_of (in4 (i := 10) rfl) rfl, List.forall_mem_cons.mpr ⟨wT_of (sel (y := yX5_isCloser) (n := 22) (by decide +kernel)) rfl, List.forall_mem_cons.mpr ⟨wT_of (in1 (i := 4) rfl) rfl, List.forall_mem_cons.mpr ⟨wT_of (in4 (i := 11) rfl) rfl, fun _ h => absurd h List.not_mem_nil⟩⟩⟩⟩⟩, by decide +kernel⟩
theorem kX5_125 : MV RX5 125 RX5 yX5_thing cX5_thing 4 (some .int) 2 := ⟨List.forall_mem_cons.mpr ⟨wT_of (in3 (i := 167) rfl) rfl, List.forall_mem_cons.mpr ⟨wT_of (in3 (i := 169) rfl) rfl, List.forall_mem_cons.mpr ⟨wT_of (sel (y := yX5_thing) (n := 22) (by decide +kernel)) rfl, List.forall_mem_cons.mpr ⟨wT_of (in1 (i := 4) rfl) rfl, List.forall_mem_cons.mpr ⟨wT_of (in3 (i := 170) rfl) rfl, fun _ h => absurd h List.not_mem_nil⟩⟩⟩⟩⟩, by decide +kernel⟩
theorem kX5_197 : MV RX5 197 RX5 yX5_text cX5_text 6 (some .boolean) 1 := ⟨List.forall_mem_cons.mpr ⟨wT_of (in4 (i := 55) rfl) rfl, List.forall_mem_cons.mpr ⟨wT_of (in4 (i := 57) rfl) rfl, List.forall_mem_cons.mpr ⟨wT_of (sel (y := yX5_text) (n := 22) (by decide +kernel)) rfl, List.forall_mem_cons.mpr ⟨wT_of (in1 (i := 4) rfl) rfl, List.forall_mem_cons.mpr ⟨wT_of (in4 (i := 58) rfl) rfl, fun _ h => absurd h List.not_mem_nil⟩⟩⟩⟩⟩, by decide +kernel⟩
theorem kX5_177 : MV RX5 177 RX5 yX5_isMap cX5_isMap 1 (some .boolean) 0 := ⟨List.forall_mem_cons.mpr ⟨wT_of (in3 (i := 147) rfl) rfl, List.forall_mem_cons.mpr ⟨wT_of (in3 (i := 149) rfl) rfl, List.forall_mem_cons.mpr ⟨wT_of (sel (y := yX5_isMap) (n := 22) (by decide +kernel)) rfl, List.forall_mem_cons.mpr ⟨wT_of (in1 (i := 4) rfl) rfl, List.forall_mem_cons.mpr ⟨wT_of (in3 (i := 150) rfl) rfl, fun _ h => absurd h List.not_mem_nil⟩⟩⟩⟩⟩, by decide +kernel⟩
theorem kX5_180 : MV RX5 180 RX5 yX5_key cX5_key 1 (some .boolean) 0 := ⟨List.forall_mem_cons.mpr ⟨wT_of (in3 (i := 151) rfl) rfl, List.forall_mem_cons.mpr ⟨wT_of (in3 (i := 153) rfl) rfl, List.forall_mem_cons.mpr ⟨wT_of (sel (y := yX5_key) (n := 22) (by decide +kernel)) rfl, List.forall_mem_cons.mpr ⟨wT_of (in1 (i := 4) rfl) rfl, List.forall_mem_cons.mpr ⟨wT_of (in3 (i := 154) rfl) rfl, fun _ h => absurd h List.not_mem_nil⟩⟩⟩⟩⟩, by decide +kernel⟩
theorem kX5_183 : MV RX5 183 RX5 yX5_value cX5_value 2 (some .boolean) 0 := ⟨List.forall_mem_cons.mpr ⟨wT_of (in3 (i := 208) rfl) rfl, List.forall_mem_cons.mpr ⟨wT_of (in3 (i := 210) rfl) rfl, List.forall_mem_cons.mpr ⟨wT_of (sel (y := yX5_value) (n := 22) (by decide +kernel)) rfl, List.forall_mem_cons.mpr ⟨wT_of (in1 (i := 4) rfl) rfl, List.forall_mem_cons.mpr ⟨wT_of (in3 (i := 211) rfl) rfl, fun _ h => absurd h List.not_mem_nil⟩⟩⟩⟩⟩, by decide +kernel⟩
theorem kX5_155 : MV RX5 155 RX5 yX5_string cX5_string 5 (some .boolean) 0 := ⟨List.forall_mem_cons.mpr ⟨wT_of (in3 (i := 163) rfl) rfl, List.forall_mem_cons.mpr ⟨wT_of (in3 (i := 165) rfl) rfl, List.forall_mem_cons.mpr ⟨wT_of (sel (y := yX5_string) (n := 22) (by decide +kernel)) rfl, List.forall_mem_cons.mpr ⟨wT_of (in1 (i := 4) rfl) rfl, List.forall_mem_cons.mpr ⟨wT_of (in3 (i := 166) rfl) rfl, fun _ h => absurd h List.not_mem_nil⟩⟩⟩⟩⟩, by decide +kernel⟩
theorem kX5_102 : MV RX5 102 RX5 yX5_digits cX5_digits 1 (some .boolean) 0 := ⟨List.forall_mem_cons.mpr ⟨wT_of (in3 (i := 233) rfl) rfl, List.forall_mem_cons.mpr ⟨wT_of (in3 (i := 235) rfl) rfl, List.forall_mem_cons.mpr ⟨wT_of (sel (y := yX5_digits) (n := 22) (by decide +kernel)) rfl, List.forall_mem_cons.mpr ⟨wT_of (in1 (i := 4) rfl) rfl, List.forall_mem_cons.mpr ⟨wT_of (in3 (i := 236) rfl) rfl, fun _ h => absurd h List.not_mem_nil⟩⟩⟩⟩⟩, by decide +kernel⟩
theorem kX5_105 : MV RX5 105 RX5 yX5_whole cX5_whole 8 (some .boolean) 3 := ⟨List.forall_mem_cons.mpr ⟨wT_of (in3 (i := 237) rfl) rfl, List.forall_mem_cons.mpr ⟨wT_of (in3 (i := 239) rfl) rfl, List.forall_mem_cons.mpr ⟨wT_of (sel (y := yX5_whole) (n := 22) (by decide +kernel)) rfl, List.forall_mem_cons.mpr ⟨wT_of (in1 (i := 4) rfl) rfl, List.forall_mem_cons.mpr ⟨wT_of (in4 (i := 0) rfl) rfl, fun _ h => absurd h List.not_mem_nil⟩⟩⟩⟩⟩, by decide +kernel⟩
theorem kX5_111 : MV RX5 111 RJ0 yJ0_charAt_5068e cJ0_charAt_5068e 2 (some .char) 1 := ⟨List.forall_mem_cons.mpr ⟨wT_of (in3 (i := 222) rfl) rfl, List.forall_mem_cons.mpr ⟨wT_of (in2 (i := 33) rfl) rfl, List.forall_mem_cons.mpr ⟨wT_of (in2 (i := 34) rfl) rfl, List.forall_mem_cons.mpr ⟨wT_of (in1 (i := 8) rfl) rfl, List.forall_mem_cons.mpr ⟨wT_of (in2 (i := 35) rfl) rfl, fun _ h => absurd h List.not_mem_nil⟩⟩⟩⟩⟩, by decide +kernel⟩
theorem kX5_219 : MV RX5 219 RX5 yX5_put cX5_put 2 none 1 := ⟨List.forall_mem_cons.mpr ⟨wT_of (in4 (i := 27) rfl) rfl, List.forall_mem_cons.mpr ⟨wT_of (in4 (i := 29) rfl) rfl, List.forall_mem_cons.mpr ⟨wT_of (sel (y := yX5_put) (n := 22) (by decide +kernel)) rfl, List.forall_mem_cons.mpr ⟨wT_of (in1 (i := 4) rfl) rfl, List.forall_mem_cons.mpr ⟨wT_of (in4 (i := 30) rfl) rfl, fun _ h => absurd h List.not_mem_nil⟩⟩⟩⟩⟩, by decide +kernel⟩
theorem kX5_234 : MV RX5 234 RX5 yX5_putsWord cX5_putsWord 3 none 1 := ⟨List.forall_mem_cons.mpr ⟨wT_of (in4 (i := 74) rfl) rfl, List.forall_mem_cons.mpr ⟨wT_of (in4 (i := 76) rfl) rfl, List.forall_mem_cons.mpr ⟨wT_of (sel (y := yX5_putsWord) (n := 22) (by decide +kernel)) rfl, List.forall_mem_cons.mpr ⟨wT_of (in1 (i := 4) rfl) rfl, List.forall_mem_cons.mpr ⟨wT_of (in4 (i := 77) rfl) rfl, fun _ h => absurd h List.not_mem_nil⟩⟩⟩⟩⟩, by decide +kernel⟩
theorem kX5_242 : MS0 RX5 242 yX5_shown cX5_shown 1 (some .int) 1 := ⟨List.forall_mem_cons.mpr ⟨wT_of (in4 (i := 84) rfl) rfl, List.forall_mem_cons.mpr ⟨wT_of (in4 (i := 85) rfl) rfl, List.forall_mem_cons.mpr ⟨wT_of (in1 (i := 4) rfl) rfl, List.forall_mem_cons.mpr ⟨wT_of (in4 (i := 86) rfl) rfl, fun _ h => absurd h List.not_mem_nil⟩⟩⟩⟩, by decide +kernel⟩
theorem kX5_245 : MV RX5 245 RX5 yX5_putsNumber cX5_putsNumber 9 none 2 := ⟨List.forall_mem_cons.mpr ⟨wT_of (in4 (i := 69) rfl) rfl, List.forall_mem_cons.mpr ⟨wT_of (in4 (i := 71) rfl) rfl, List.forall_mem_cons.mpr ⟨wT_of (sel (y := yX5_putsNumber) (n := 22) (by decide +kernel)) rfl, List.forall_mem_cons.mpr ⟨wT_of (in1 (i := 4) rfl) rfl, List.forall_mem_cons.mpr ⟨wT_of (in4 (i := 72) rfl) rfl, fun _ h => absurd h List.not_mem_nil⟩⟩⟩⟩⟩, by decide +kernel⟩
theorem kX5_249 : MV RX5 249 RX5 yX5_putsString cX5_putsString 5 none 1 := ⟨List.forall_mem_cons.mpr ⟨wT_of (in4 (i := 79) rfl) rfl, List.forall_mem_cons.mpr ⟨wT_of (in4 (i := 81) rfl) rfl, List.forall_mem_cons.mpr ⟨wT_of (sel (y := yX5_putsString) (n := 22) (by decide +kernel)) rfl, List.forall_mem_cons.mpr ⟨wT_of (in1 (i := 4) rfl) rfl, List.forall_mem_cons.mpr ⟨wT_of (in4 (i := 82) rfl) rfl, fun _ h => absurd h List.not_mem_nil⟩⟩⟩⟩⟩, by decide +kernel⟩
theorem kX5_152 : MV RX5 152 RJ0 yJ0_length_8abf5 cJ0_length_8abf5 1 (some .int) 0 := ⟨List.forall_mem_cons.mpr ⟨wT_of (in3 (i := 221) rfl) rfl, List.forall_mem_cons.mpr ⟨wT_of (in2 (i := 23) rfl) rfl, List.forall_mem_cons.mpr ⟨wT_of (in2 (i := 24) rfl) rfl, List.forall_mem_cons.mpr ⟨wT_of (in1 (i := 8) rfl) rfl, List.forall_mem_cons.mpr ⟨wT_of (in2 (i := 25) rfl) rfl, fun _ h => absurd h List.not_mem_nil⟩⟩⟩⟩⟩, by decide +kernel⟩
theorem kX5_201 : MV RX5 201 RX5 yX5_isKey cX5_isKey 1 (some .boolean) 0 := ⟨List.forall_mem_cons.mpr ⟨wT_of (in4 (i := 47) rfl) rfl, List.forall_mem_cons.mpr ⟨wT_of (in4 (i := 49) rfl) rfl, List.forall_mem_cons.mpr ⟨wT_of (sel (y := yX5_isKey) (n := 22) (by decide +kernel)) rfl, List.forall_mem_cons.mpr ⟨wT_of (in1 (i := 4) rfl) rfl, List.forall_mem_cons.mpr ⟨wT_of (in4 (i := 50) rfl) rfl, fun _ h => absurd h List.not_mem_nil⟩⟩⟩⟩⟩, by decide +kernel⟩
theorem kX5_204 : MV RX5 204 RX5 yX5_head cX5_head 10 (some .boolean) 1 := ⟨List.forall_mem_cons.mpr ⟨wT_of (in4 (i := 51) rfl) rfl, List.forall_mem_cons.mpr ⟨wT_of (in4 (i := 53) rfl) rfl, List.forall_mem_cons.mpr ⟨wT_of (sel (y := yX5_head) (n := 22) (by decide +kernel)) rfl, List.forall_mem_cons.mpr ⟨wT_of (in1 (i := 4) rfl) rfl, List.forall_mem_cons.mpr ⟨wT_of (in4 (i := 54) rfl) rfl, fun _ h => absurd h List.not_mem_nil⟩⟩⟩⟩⟩, by decide +kernel⟩
theorem kX5_189 : MV RX5 189 RX5 yX5_item cX5_item 1 (some .boolean) 0 := ⟨List.forall_mem_cons.mpr ⟨wT_of (in3 (i := 143) rfl) rfl, List.forall_mem_cons.mpr ⟨wT_of (in3 (i := 145) rfl) rfl, List.forall_mem_cons.mpr ⟨wT_of (sel (y := yX5_item) (n := 22) (by decide +kernel)) rfl, List.forall_mem_cons.mpr ⟨wT_of (in1 (i := 4) rfl) rfl, List.forall_mem_cons.mpr ⟨wT_of (in3 (i := 146) rfl) rfl, fun _ h => absurd h List.not_mem_nil⟩⟩⟩⟩⟩, by decide +kernel⟩
theorem kX5_192 : MV RX5 192 RX5 yX5_goesOn cX5_goesOn 1 (some .boolean) 0 := ⟨List.forall_mem_cons.mpr ⟨wT_of (in4 (i := 12) rfl) rfl, List.forall_mem_cons.mpr ⟨wT_of (in4 (i := 14) rfl) rfl, List.forall_mem_cons.mpr ⟨wT_of (sel (y := yX5_goesOn) (n := 22) (by decide +kernel)) rfl, List.forall_mem_cons.mpr ⟨wT_of (in1 (i := 4) rfl) rfl, List.forall_mem_cons.mpr ⟨wT_of (in4 (i := 15) rfl) rfl, fun _ h => absurd h List.not_mem_nil⟩⟩⟩⟩⟩, by decide +kernel⟩
theorem kX5_76 : MV RX5 76 RX5 yX5_follows cX5_follows 5 (some .boolean) 4 := ⟨List.forall_mem_cons.mpr ⟨wT_of (in3 (i := 204) rfl) rfl, List.forall_mem_cons.mpr ⟨wT_of (in3 (i := 206) rfl) rfl, List.forall_mem_cons.mpr ⟨wT_of (sel (y := yX5_follows) (n := 22) (by decide +kernel)) rfl, List.forall_mem_cons.mpr ⟨wT_of (in1 (i := 4) rfl) rfl, List.forall_mem_cons.mpr ⟨wT_of (in3 (i := 207) rfl) rfl, fun _ h => absurd h List.not_mem_nil⟩⟩⟩⟩⟩, by decide +kernel⟩
theorem kX5_146 : MV RX5 146 RX5 yX5_escape cX5_escape 4 (some .boolean) 0 := ⟨List.forall_mem_cons.mpr ⟨wT_of (in3 (i := 171) rfl) rfl, List.forall_mem_cons.mpr ⟨wT_of (in3 (i := 173) rfl) rfl, List.forall_mem_cons.mpr ⟨wT_of (sel (y := yX5_escape) (n := 22) (by decide +kernel)) rfl, List.forall_mem_cons.mpr ⟨wT_of (in1 (i := 4) rfl) rfl, List.forall_mem_cons.mpr ⟨wT_of (in3 (i := 174) rfl) rfl, fun _ h => absurd h List.not_mem_nil⟩⟩⟩⟩⟩, by decide +kernel⟩
theorem kX5_149 : MV RX5 149 RX5 yX5_signSize cX5_signSize 8 (some .int) 2 := ⟨List.forall_mem_cons.mpr ⟨wT_of (in3 (i := 200) rfl) rfl, List.forall_mem_cons.mpr ⟨wT_of (in3 (i := 202) rfl) rfl, List.forall_mem_cons.mpr ⟨wT_of (sel (y := yX5_signSize) (n := 22) (by decide +kernel)) rfl, List.forall_mem_cons.mpr ⟨wT_of (in1 (i := 4) rfl) rfl, List.forall_mem_cons.mpr ⟨wT_of (in3 (i := 203) rfl) rfl, fun _ h => absurd h List.not_mem_nil⟩⟩⟩⟩⟩, by decide +kernel⟩
theorem kX5_259 : MV RX5 259 RX5 yX5_begin cX5_begin 1 none 0 := ⟨List.forall_mem_cons.mpr ⟨wT_of (in3 (i := 127) rfl) rfl, List.forall_mem_cons.mpr ⟨wT_of (in3 (i := 129) rfl) rfl, List.forall_mem_cons.mpr ⟨wT_of (sel (y := yX5_begin) (n := 22) (by decide +kernel)) rfl, List.forall_mem_cons.mpr ⟨wT_of (in1 (i := 4) rfl) rfl, List.forall_mem_cons.mpr ⟨wT_of (in3 (i := 130) rfl) rfl, fun _ h => absurd h List.not_mem_nil⟩⟩⟩⟩⟩, by decide +kernel⟩
theorem kX5_262 : MV RX5 262 RX5 yX5_readsJson cX5_readsJson 3 none 0 := ⟨List.forall_mem_cons.mpr ⟨wT_of (in3 (i := 131) rfl) rfl, List.forall_mem_cons.mpr ⟨wT_of (in3 (i := 133) rfl) rfl, List.forall_mem_cons.mpr ⟨wT_of (sel (y := yX5_readsJson) (n := 22) (by decide +kernel)) rfl, List.forall_mem_cons.mpr ⟨wT_of (in1 (i := 4) rfl) rfl, List.forall_mem_cons.mpr ⟨wT_of (in3 (i := 134) rfl) rfl, fun _ h => absurd h List.not_mem_nil⟩⟩⟩⟩⟩, by decide +kernel⟩
theorem kX5_265 : MV RX5 265 RX5 yX5_writesCbor cX5_writesCbor 2 (some .int) 0 := ⟨List.forall_mem_cons.mpr ⟨wT_of (in4 (i := 16) rfl) rfl, List.forall_mem_cons.mpr ⟨wT_of (in4 (i := 18) rfl) rfl, List.forall_mem_cons.mpr ⟨wT_of (sel (y := yX5_writesCbor) (n := 22) (by decide +kernel)) rfl, List.forall_mem_cons.mpr ⟨wT_of (in1 (i := 4) rfl) rfl, List.forall_mem_cons.mpr ⟨wT_of (in4 (i := 19) rfl) rfl, fun _ h => absurd h List.not_mem_nil⟩⟩⟩⟩⟩, by decide +kernel⟩
theorem kX5_268 : MV RX5 268 RX5 yX5_readsCbor cX5_readsCbor 5 none 0 := ⟨List.forall_mem_cons.mpr ⟨wT_of (in4 (i := 43) rfl) rfl, List.forall_mem_cons.mpr ⟨wT_of (in4 (i := 45) rfl) rfl, List.forall_mem_cons.mpr ⟨wT_of (sel (y := yX5_readsCbor) (n := 22) (by decide +kernel)) rfl, List.forall_mem_cons.mpr ⟨wT_of (in1 (i := 4) rfl) rfl, List.forall_mem_cons.mpr ⟨wT_of (in4 (i := 46) rfl) rfl, fun _ h => absurd h List.not_mem_nil⟩⟩⟩⟩⟩, by decide +kernel⟩
theorem kX5_271 : MV RX5 271 RX5 yX5_writesJson cX5_writesJson 6 (some .int) 0 := ⟨List.forall_mem_cons.mpr ⟨wT_of (in4 (i := 61) rfl) rfl, List.forall_mem_cons.mpr ⟨wT_of (in4 (i := 63) rfl) rfl, List.forall_mem_cons.mpr ⟨wT_of (sel (y := yX5_writesJson) (n := 22) (by decide +kernel)) rfl, List.forall_mem_cons.mpr ⟨wT_of (in1 (i := 4) rfl) rfl, List.forall_mem_cons.mpr ⟨wT_of (in4 (i := 64) rfl) rfl, fun _ h => absurd h List.not_mem_nil⟩⟩⟩⟩⟩, by decide +kernel⟩
theorem kX5_158 : MV RX5 158 RX5 yX5_opens cX5_opens 2 (some .boolean) 1 := ⟨List.forall_mem_cons.mpr ⟨wT_of (in3 (i := 212) rfl) rfl, List.forall_mem_cons.mpr ⟨wT_of (in3 (i := 214) rfl) rfl, List.forall_mem_cons.mpr ⟨wT_of (sel (y := yX5_opens) (n := 22) (by decide +kernel)) rfl, List.forall_mem_cons.mpr ⟨wT_of (in1 (i := 4) rfl) rfl, List.forall_mem_cons.mpr ⟨wT_of (in3 (i := 215) rfl) rfl, fun _ h => absurd h List.not_mem_nil⟩⟩⟩⟩⟩, by decide +kernel⟩
theorem kX5_163 : MV RX5 163 RX5 yX5_word cX5_word 4 (some .boolean) 2 := ⟨List.forall_mem_cons.mpr ⟨wT_of (in3 (i := 217) rfl) rfl, List.forall_mem_cons.mpr ⟨wT_of (in3 (i := 219) rfl) rfl, List.forall_mem_cons.mpr ⟨wT_of (sel (y := yX5_word) (n := 22) (by decide +kernel)) rfl, List.forall_mem_cons.mpr ⟨wT_of (in1 (i := 4) rfl) rfl, List.forall_mem_cons.mpr ⟨wT_of (in3 (i := 220) rfl) rfl, fun _ h => absurd h List.not_mem_nil⟩⟩⟩⟩⟩, by decide +kernel⟩
theorem kX5_171 : MV RX5 171 RX5 yX5_number cX5_number 6 (some .boolean) 0 := ⟨List.forall_mem_cons.mpr ⟨wT_of (in3 (i := 229) rfl) rfl, List.forall_mem_cons.mpr ⟨wT_of (in3 (i := 231) rfl) rfl, List.forall_mem_cons.mpr ⟨wT_of (sel (y := yX5_number) (n := 22) (by decide +kernel)) rfl, List.forall_mem_cons.mpr ⟨wT_of (in1 (i := 4) rfl) rfl, List.forall_mem_cons.mpr ⟨wT_of (in3 (i := 232) rfl) rfl, fun _ h => absurd h List.not_mem_nil⟩⟩⟩⟩⟩, by decide +kernel⟩
theorem kX5_117 : MV RX5 117 RX5 yX5_order cX5_order 6 (some .int) 2 := ⟨List.forall_mem_cons.mpr ⟨wT_of (in4 (i := 1) rfl) rfl, List.forall_mem_cons.mpr ⟨wT_of (in4 (i := 3) rfl) rfl, List.forall_mem_cons.mpr ⟨wT_of (sel (y := yX5_order) (n := 22) (by decide +kernel)) rfl, List.forall_mem_cons.mpr ⟨wT_of (in1 (i := 4) rfl) rfl, List.forall_mem_cons.mpr ⟨wT_of (in4 (i := 4) rfl) rfl, fun _ h => absurd h List.not_mem_nil⟩⟩⟩⟩⟩, by decide +kernel⟩
theorem kX5_222 : MV RX5 222 RX5 yX5_puts cX5_puts 6 none 2 := ⟨List.forall_mem_cons.mpr ⟨wT_of (in4 (i := 20) rfl) rfl, List.forall_mem_cons.mpr ⟨wT_of (in4 (i := 22) rfl) rfl, List.forall_mem_cons.mpr ⟨wT_of (sel (y := yX5_puts) (n := 22) (by decide +kernel)) rfl, List.forall_mem_cons.mpr ⟨wT_of (in1 (i := 4) rfl) rfl, List.forall_mem_cons.mpr ⟨wT_of (in4 (i := 23) rfl) rfl, fun _ h => absurd h List.not_mem_nil⟩⟩⟩⟩⟩, by decide +kernel⟩
theorem kX5_226 : MV RX5 226 RX5 yX5_putsLetters cX5_putsLetters 3 none 1 := ⟨List.forall_mem_cons.mpr ⟨wT_of (in4 (i := 31) rfl) rfl, List.forall_mem_cons.mpr ⟨wT_of (in4 (i := 33) rfl) rfl, List.forall_mem_cons.mpr ⟨wT_of (sel (y := yX5_putsLetters) (n := 22) (by decide +kernel)) rfl, List.forall_mem_cons.mpr ⟨wT_of (in1 (i := 4) rfl) rfl, List.forall_mem_cons.mpr ⟨wT_of (in4 (i := 34) rfl) rfl, fun _ h => absurd h List.not_mem_nil⟩⟩⟩⟩⟩, by decide +kernel⟩
theorem kX5_229 : MV RX5 229 RX5 yX5_ends cX5_ends 2 (some .int) 0 := ⟨List.forall_mem_cons.mpr ⟨wT_of (in4 (i := 35) rfl) rfl, List.forall_mem_cons.mpr ⟨wT_of (in4 (i := 37) rfl) rfl, List.forall_mem_cons.mpr ⟨wT_of (sel (y := yX5_ends) (n := 22) (by decide +kernel)) rfl, List.forall_mem_cons.mpr ⟨wT_of (in1 (i := 4) rfl) rfl, List.forall_mem_cons.mpr ⟨wT_of (in4 (i := 38) rfl) rfl, fun _ h => absurd h List.not_mem_nil⟩⟩⟩⟩⟩, by decide +kernel⟩
theorem kX5_256 : MV RX5 256 RX5 yX5_putsThing cX5_putsThing 2 none 1 := ⟨List.forall_mem_cons.mpr ⟨wT_of (in4 (i := 65) rfl) rfl, List.forall_mem_cons.mpr ⟨wT_of (in4 (i := 67) rfl) rfl, List.forall_mem_cons.mpr ⟨wT_of (sel (y := yX5_putsThing) (n := 22) (by decide +kernel)) rfl, List.forall_mem_cons.mpr ⟨wT_of (in1 (i := 4) rfl) rfl, List.forall_mem_cons.mpr ⟨wT_of (in4 (i := 68) rfl) rfl, fun _ h => absurd h List.not_mem_nil⟩⟩⟩⟩⟩, by decide +kernel⟩
theorem kJ0_335 : MV RJ0 335 RJ0 yJ0_coder_7d493 cJ0_coder_7d493 1 (some .byte) 0 := ⟨List.forall_mem_cons.mpr ⟨wT_of (in2 (i := 26) rfl) rfl, List.forall_mem_cons.mpr ⟨wT_of (in2 (i := 27) rfl) rfl, List.forall_mem_cons.mpr ⟨wT_of (in2 (i := 28) rfl) rfl, List.forall_mem_cons.mpr ⟨wT_of (in1 (i := 8) rfl) rfl, List.forall_mem_cons.mpr ⟨wT_of (in2 (i := 29) rfl) rfl, fun _ h => absurd h List.not_mem_nil⟩⟩⟩⟩⟩, by decide +kernel⟩
theorem kJ0_492 : MV RJ0 492 RJ0 yJ0_isLatin1_aae02 cJ0_isLatin1_aae02 1 (some .boolean) 0 := ⟨List.forall_mem_cons.mpr ⟨wT_of (in2 (i := 36) rfl) rfl, List.forall_mem_cons.mpr ⟨wT_of (in2 (i := 37) rfl) rfl, List.forall_mem_cons.mpr ⟨wT_of (in2 (i := 38) rfl) rfl, List.forall_mem_cons.mpr ⟨wT_of (in1 (i := 8) rfl) rfl, List.forall_mem_cons.mpr ⟨wT_of (in2 (i := 39) rfl) rfl, fun _ h => absurd h List.not_mem_nil⟩⟩⟩⟩⟩, by decide +kernel⟩
end
section
/-! WORLDS: the states, their cells, fields, arrays, calls (printed by program) -/
abbrev gTy (cB cI cJ : ClassId) : List (ClassId × FieldType) := [(cB, .byte), (cI, .int), (cJ, .long)]
abbrev RSt : Type := (Nat → Int32) × Int32
def rf_f (σ : RSt) : (Nat → Int32) := σ.1
def rf_sz (σ : RSt) : Int32 := σ.2
def rs_f (σ : RSt) (v : (Nat → Int32)) : RSt := (v, σ.2)
def rs_sz (σ : RSt) (v : Int32) : RSt := (σ.1, v)
theorem rG_f_f (σ : RSt) (v : (Nat → Int32)) : rf_f (rs_f σ v) = v := rfl
theorem rG_f_sz (σ : RSt) (v : Int32) : rf_f (rs_sz σ v) = rf_f σ := rfl
theorem rG_sz_sz (σ : RSt) (v : Int32) : rf_sz (rs_sz σ v) = v := rfl
theorem rG_sz_f (σ : RSt) (v : (Nat → Int32)) : rf_sz (rs_f σ v) = rf_sz σ := rfl
def rW (cB : ClassId) (r b N : Nat) (σ : RSt) : va_W := [(r, .inr (2, [.ref b, .int (rf_sz σ)])), (b, .inl (cB, N, .inl (rf_f σ)))]
abbrev MSt : Type := Int32 × (Nat → Int32) × Int32 × Int32 × Int32 × (Nat → Int32) × Int32 × Int32 × (Nat → Int32) × (Nat → Int64) × (Nat → Int32) × Int32 × (Nat → Int32) × Int32 × (Nat → Int32) × (Nat → Int64) × Int32 × Int32 × Int32 × (Nat → Int32) × Int32 × (Nat → Int32)
def mf_thrown (σ : MSt) : Int32 := σ.1
def mf_tape (σ : MSt) : (Nat → Int32) := σ.2.1
def mf_taped (σ : MSt) : Int32 := σ.2.2.1
def mf_depth (σ : MSt) : Int32 := σ.2.2.2.1
def mf_room (σ : MSt) : Int32 := σ.2.2.2.2.1
def mf_written (σ : MSt) : (Nat → Int32) := σ.2.2.2.2.2.1
def mf_writtenMany (σ : MSt) : Int32 := σ.2.2.2.2.2.2.1
def mf_errorPlace (σ : MSt) : Int32 := σ.2.2.2.2.2.2.2.1
def mf_sorts (σ : MSt) : (Nat → Int32) := σ.2.2.2.2.2.2.2.2.1
def mf_numbers (σ : MSt) : (Nat → Int64) := σ.2.2.2.2.2.2.2.2.2.1
def mf_places (σ : MSt) : (Nat → Int32) := σ.2.2.2.2.2.2.2.2.2.2.1
def mf_things (σ : MSt) : Int32 := σ.2.2.2.2.2.2.2.2.2.2.2.1
def mf_letters (σ : MSt) : (Nat → Int32) := σ.2.2.2.2.2.2.2.2.2.2.2.2.1
def mf_lettersMany (σ : MSt) : Int32 := σ.2.2.2.2.2.2.2.2.2.2.2.2.2.1
def mf_openThing (σ : MSt) : (Nat → Int32) := σ.2.2.2.2.2.2.2.2.2.2.2.2.2.2.1
def mf_openLeft (σ : MSt) : (Nat → Int64) := σ.2.2.2.2.2.2.2.2.2.2.2.2.2.2.2.1
def mf_open (σ : MSt) : Int32 := σ.2.2.2.2.2.2.2.2.2.2.2.2.2.2.2.2.1
def mf_at (σ : MSt) : Int32 := σ.2.2.2.2.2.2.2.2.2.2.2.2.2.2.2.2.2.1
def mf_fault (σ : MSt) : Int32 := σ.2.2.2.2.2.2.2.2.2.2.2.2.2.2.2.2.2.2.1
def mf_fresh (σ : MSt) : (Nat → Int32) := σ.2.2.2.2.2.2.2.2.2.2.2.2.2.2.2.2.2.2.2.1
def mf_freshMany (σ : MSt) : Int32 := σ.2.2.2.2.2.2.2.2.2.2.2.2.2.2.2.2.2.2.2.2.1
def mf_figures (σ : MSt) : (Nat → Int32) := σ.2.2.2.2.2.2.2.2.2.2.2.2.2.2.2.2.2.2.2.2.2
def ms_thrown (σ : MSt) (v : Int32) : MSt := (v, σ.2)
def ms_tape (σ : MSt) (v : (Nat → Int32)) : MSt := (σ.1, v, σ.2.2)
def ms_taped (σ : MSt) (v : Int32) : MSt := (σ.1, σ.2.1, v, σ.2.2.2)
def ms_depth (σ : MSt) (v : Int32) : MSt := (σ.1, σ.2.1, σ.2.2.1, v, σ.2.2.2.2)
def ms_room (σ : MSt) (v : Int32) : MSt := (σ.1, σ.2.1, σ.2.2.1, σ.2.2.2.1, v, σ.2.2.2.2.2)
def ms_written (σ : MSt) (v : (Nat → Int32)) : MSt := (σ.1, σ.2.1, σ.2.2.1, σ.2.2.2.1, σ.2.2.2.2.1, v, σ.2.2.2.2.2.2)
def ms_writtenMany (σ : MSt) (v : Int32) : MSt := (σ.1, σ.2.1, σ.2.2.1, σ.2.2.2.1, σ.2.2.2.2.1, σ.2.2.2.2.2.1, v, σ.2.2.2.2.2.2.2)
def ms_errorPlace (σ : MSt) (v : Int32) : MSt := (σ.1, σ.2.1, σ.2.2.1, σ.2.2.2.1, σ.2.2.2.2.1, σ.2.2.2.2.2.1, σ.2.2.2.2.2.2.1, v, σ.2.2.2.2.2.2.2.2)
def ms_sorts (σ : MSt) (v : (Nat → Int32)) : MSt := (σ.1, σ.2.1, σ.2.2.1, σ.2.2.2.1, σ.2.2.2.2.1, σ.2.2.2.2.2.1, σ.2.2.2.2.2.2.1, σ.2.2.2.2.2.2.2.1, v, σ.2.2.2.2.2.2.2.2.2)
def ms_numbers (σ : MSt) (v : (Nat → Int64)) : MSt := (σ.1, σ.2.1, σ.2.2.1, σ.2.2.2.1, σ.2.2.2.2.1, σ.2.2.2.2.2.1, σ.2.2.2.2.2.2.1, σ.2.2.2.2.2.2.2.1, σ.2.2.2.2.2.2.2.2.1, v, σ.2.2.2.2.2.2.2.2.2.2)
def ms_places (σ : MSt) (v : (Nat → Int32)) : MSt := (σ.1, σ.2.1, σ.2.2.1, σ.2.2.2.1, σ.2.2.2.2.1, σ.2.2.2.2.2.1, σ.2.2.2.2.2.2.1, σ.2.2.2.2.2.2.2.1, σ.2.2.2.2.2.2.2.2.1, σ.2.2.2.2.2.2.2.2.2.1, v, σ.2.2.2.2.2.2.2.2.2.2.2)
def ms_things (σ : MSt) (v : Int32) : MSt := (σ.1, σ.2.1, σ.2.2.1, σ.2.2.2.1, σ.2.2.2.2.1, σ.2.2.2.2.2.1, σ.2.2.2.2.2.2.1, σ.2.2.2.2.2.2.2.1, σ.2.2.2.2.2.2.2.2.1, σ.2.2.2.2.2.2.2.2.2.1, σ.2.2.2.2.2.2.2.2.2.2.1, v, σ.2.2.2.2.2.2.2.2.2.2.2.2)
def ms_letters (σ : MSt) (v : (Nat → Int32)) : MSt := (σ.1, σ.2.1, σ.2.2.1, σ.2.2.2.1, σ.2.2.2.2.1, σ.2.2.2.2.2.1, σ.2.2.2.2.2.2.1, σ.2.2.2.2.2.2.2.1, σ.2.2.2.2.2.2.2.2.1, σ.2.2.2.2.2.2.2.2.2.1, σ.2.2.2.2.2.2.2.2.2.2.1, σ.2.2.2.2.2.2.2.2.2.2.2.1, v, σ.2.2.2.2.2.2.2.2.2.2.2.2.2)
def ms_lettersMany (σ : MSt) (v : Int32) : MSt := (σ.1, σ.2.1, σ.2.2.1, σ.2.2.2.1, σ.2.2.2.2.1, σ.2.2.2.2.2.1, σ.2.2.2.2.2.2.1, σ.2.2.2.2.2.2.2.1, σ.2.2.2.2.2.2.2.2.1, σ.2.2.2.2.2.2.2.2.2.1, σ.2.2.2.2.2.2.2.2.2.2.1, σ.2.2.2.2.2.2.2.2.2.2.2.1, σ.2.2.2.2.2.2.2.2.2.2.2.2.1, v, σ.2.2.2.2.2.2.2.2.2.2.2.2.2.2)
def ms_openThing (σ : MSt) (v : (Nat → Int32)) : MSt := (σ.1, σ.2.1, σ.2.2.1, σ.2.2.2.1, σ.2.2.2.2.1, σ.2.2.2.2.2.1, σ.2.2.2.2.2.2.1, σ.2.2.2.2.2.2.2.1, σ.2.2.2.2.2.2.2.2.1, σ.2.2.2.2.2.2.2.2.2.1, σ.2.2.2.2.2.2.2.2.2.2.1, σ.2.2.2.2.2.2.2.2.2.2.2.1, σ.2.2.2.2.2.2.2.2.2.2.2.2.1, σ.2.2.2.2.2.2.2.2.2.2.2.2.2.1, v, σ.2.2.2.2.2.2.2.2.2.2.2.2.2.2.2)
def ms_openLeft (σ : MSt) (v : (Nat → Int64)) : MSt := (σ.1, σ.2.1, σ.2.2.1, σ.2.2.2.1, σ.2.2.2.2.1, σ.2.2.2.2.2.1, σ.2.2.2.2.2.2.1, σ.2.2.2.2.2.2.2.1, σ.2.2.2.2.2.2.2.2.1, σ.2.2.2.2.2.2.2.2.2.1, σ.2.2.2.2.2.2.2.2.2.2.1, σ.2.2.2.2.2.2.2.2.2.2.2.1, σ.2.2.2.2.2.2.2.2.2.2.2.2.1, σ.2.2.2.2.2.2.2.2.2.2.2.2.2.1, σ.2.2.2.2.2.2.2.2.2.2.2.2.2.2.1, v, σ.2.2.2.2.2.2.2.2.2.2.2.2.2.2.2.2)
def ms_open (σ : MSt) (v : Int32) : MSt := (σ.1, σ.2.1, σ.2.2.1, σ.2.2.2.1, σ.2.2.2.2.1, σ.2.2.2.2.2.1, σ.2.2.2.2.2.2.1, σ.2.2.2.2.2.2.2.1, σ.2.2.2.2.2.2.2.2.1, σ.2.2.2.2.2.2.2.2.2.1, σ.2.2.2.2.2.2.2.2.2.2.1, σ.2.2.2.2.2.2.2.2.2.2.2.1, σ.2.2.2.2.2.2.2.2.2.2.2.2.1, σ.2.2.2.2.2.2.2.2.2.2.2.2.2.1, σ.2.2.2.2.2.2.2.2.2.2.2.2.2.2.1, σ.2.2.2.2.2.2.2.2.2.2.2.2.2.2.2.1, v, σ.2.2.2.2.2.2.2.2.2.2.2.2.2.2.2.2.2)
def ms_at (σ : MSt) (v : Int32) : MSt := (σ.1, σ.2.1, σ.2.2.1, σ.2.2.2.1, σ.2.2.2.2.1, σ.2.2.2.2.2.1, σ.2.2.2.2.2.2.1, σ.2.2.2.2.2.2.2.1, σ.2.2.2.2.2.2.2.2.1, σ.2.2.2.2.2.2.2.2.2.1, σ.2.2.2.2.2.2.2.2.2.2.1, σ.2.2.2.2.2.2.2.2.2.2.2.1, σ.2.2.2.2.2.2.2.2.2.2.2.2.1, σ.2.2.2.2.2.2.2.2.2.2.2.2.2.1, σ.2.2.2.2.2.2.2.2.2.2.2.2.2.2.1, σ.2.2.2.2.2.2.2.2.2.2.2.2.2.2.2.1, σ.2.2.2.2.2.2.2.2.2.2.2.2.2.2.2.2.1, v, σ.2.2.2.2.2.2.2.2.2.2.2.2.2.2.2.2.2.2)
def ms_fault (σ : MSt) (v : Int32) : MSt := (σ.1, σ.2.1, σ.2.2.1, σ.2.2.2.1, σ.2.2.2.2.1, σ.2.2.2.2.2.1, σ.2.2.2.2.2.2.1, σ.2.2.2.2.2.2.2.1, σ.2.2.2.2.2.2.2.2.1, σ.2.2.2.2.2.2.2.2.2.1, σ.2.2.2.2.2.2.2.2.2.2.1, σ.2.2.2.2.2.2.2.2.2.2.2.1, σ.2.2.2.2.2.2.2.2.2.2.2.2.1, σ.2.2.2.2.2.2.2.2.2.2.2.2.2.1, σ.2.2.2.2.2.2.2.2.2.2.2.2.2.2.1, σ.2.2.2.2.2.2.2.2.2.2.2.2.2.2.2.1, σ.2.2.2.2.2.2.2.2.2.2.2.2.2.2.2.2.1, σ.2.2.2.2.2.2.2.2.2.2.2.2.2.2.2.2.2.1, v, σ.2.2.2.2.2.2.2.2.2.2.2.2.2.2.2.2.2.2.2)
def ms_fresh (σ : MSt) (v : (Nat → Int32)) : MSt := (σ.1, σ.2.1, σ.2.2.1, σ.2.2.2.1, σ.2.2.2.2.1, σ.2.2.2.2.2.1, σ.2.2.2.2.2.2.1, σ.2.2.2.2.2.2.2.1, σ.2.2.2.2.2.2.2.2.1, σ.2.2.2.2.2.2.2.2.2.1, σ.2.2.2.2.2.2.2.2.2.2.1, σ.2.2.2.2.2.2.2.2.2.2.2.1, σ.2.2.2.2.2.2.2.2.2.2.2.2.1, σ.2.2.2.2.2.2.2.2.2.2.2.2.2.1, σ.2.2.2.2.2.2.2.2.2.2.2.2.2.2.1, σ.2.2.2.2.2.2.2.2.2.2.2.2.2.2.2.1, σ.2.2.2.2.2.2.2.2.2.2.2.2.2.2.2.2.1, σ.2.2.2.2.2.2.2.2.2.2.2.2.2.2.2.2.2.1, σ.2.2.2.2.2.2.2.2.2.2.2.2.2.2.2.2.2.2.1, v, σ.2.2.2.2.2.2.2.2.2.2.2.2.2.2.2.2.2.2.2.2)
def ms_freshMany (σ : MSt) (v : Int32) : MSt := (σ.1, σ.2.1, σ.2.2.1, σ.2.2.2.1, σ.2.2.2.2.1, σ.2.2.2.2.2.1, σ.2.2.2.2.2.2.1, σ.2.2.2.2.2.2.2.1, σ.2.2.2.2.2.2.2.2.1, σ.2.2.2.2.2.2.2.2.2.1, σ.2.2.2.2.2.2.2.2.2.2.1, σ.2.2.2.2.2.2.2.2.2.2.2.1, σ.2.2.2.2.2.2.2.2.2.2.2.2.1, σ.2.2.2.2.2.2.2.2.2.2.2.2.2.1, σ.2.2.2.2.2.2.2.2.2.2.2.2.2.2.1, σ.2.2.2.2.2.2.2.2.2.2.2.2.2.2.2.1, σ.2.2.2.2.2.2.2.2.2.2.2.2.2.2.2.2.1, σ.2.2.2.2.2.2.2.2.2.2.2.2.2.2.2.2.2.1, σ.2.2.2.2.2.2.2.2.2.2.2.2.2.2.2.2.2.2.1, σ.2.2.2.2.2.2.2.2.2.2.2.2.2.2.2.2.2.2.2.1, v, σ.2.2.2.2.2.2.2.2.2.2.2.2.2.2.2.2.2.2.2.2.2)
def ms_figures (σ : MSt) (v : (Nat → Int32)) : MSt := (σ.1, σ.2.1, σ.2.2.1, σ.2.2.2.1, σ.2.2.2.2.1, σ.2.2.2.2.2.1, σ.2.2.2.2.2.2.1, σ.2.2.2.2.2.2.2.1, σ.2.2.2.2.2.2.2.2.1, σ.2.2.2.2.2.2.2.2.2.1, σ.2.2.2.2.2.2.2.2.2.2.1, σ.2.2.2.2.2.2.2.2.2.2.2.1, σ.2.2.2.2.2.2.2.2.2.2.2.2.1, σ.2.2.2.2.2.2.2.2.2.2.2.2.2.1, σ.2.2.2.2.2.2.2.2.2.2.2.2.2.2.1, σ.2.2.2.2.2.2.2.2.2.2.2.2.2.2.2.1, σ.2.2.2.2.2.2.2.2.2.2.2.2.2.2.2.2.1, σ.2.2.2.2.2.2.2.2.2.2.2.2.2.2.2.2.2.1, σ.2.2.2.2.2.2.2.2.2.2.2.2.2.2.2.2.2.2.1, σ.2.2.2.2.2.2.2.2.2.2.2.2.2.2.2.2.2.2.2.1, σ.2.2.2.2.2.2.2.2.2.2.2.2.2.2.2.2.2.2.2.2.1, v)
theorem mG_thrown_thrown (σ : MSt) (v : Int32) : mf_thrown (ms_thrown σ v) = v := rfl
theorem mG_thrown_tape (σ : MSt) (v : (Nat → Int32)) : mf_thrown (ms_tape σ v) = mf_thrown σ := rfl
theorem mG_thrown_taped (σ : MSt) (v : Int32) : mf_thrown (ms_taped σ v) = mf_thrown σ := rfl
theorem mG_thrown_depth (σ : MSt) (v : Int32) : mf_thrown (ms_depth σ v) = mf_thrown σ := rfl
theorem mG_thrown_room (σ : MSt) (v : Int32) : mf_thrown (ms_room σ v) = mf_thrown σ := rfl
theorem mG_thrown_written (σ : MSt) (v : (Nat → Int32)) : mf_thrown (ms_written σ v) = mf_thrown σ := rfl
theorem mG_thrown_writtenMany (σ : MSt) (v : Int32) : mf_thrown (ms_writtenMany σ v) = mf_thrown σ := rfl
theorem mG_thrown_errorPlace (σ : MSt) (v : Int32) : mf_thrown (ms_errorPlace σ v) = mf_thrown σ := rfl
theorem mG_thrown_sorts (σ : MSt) (v : (Nat → Int32)) : mf_thrown (ms_sorts σ v) = mf_thrown σ := rfl
theorem mG_thrown_numbers (σ : MSt) (v : (Nat → Int64)) : mf_thrown (ms_numbers σ v) = mf_thrown σ := rfl
theorem mG_thrown_places (σ : MSt) (v : (Nat → Int32)) : mf_thrown (ms_places σ v) = mf_thrown σ := rfl
theorem mG_thrown_things (σ : MSt) (v : Int32) : mf_thrown (ms_things σ v) = mf_thrown σ := rfl
theorem mG_thrown_letters (σ : MSt) (v : (Nat → Int32)) : mf_thrown (ms_letters σ v) = mf_thrown σ := rfl
theorem mG_thrown_lettersMany (σ : MSt) (v : Int32) : mf_thrown (ms_lettersMany σ v) = mf_thrown σ := rfl
theorem mG_thrown_openThing (σ : MSt) (v : (Nat → Int32)) : mf_thrown (ms_openThing σ v) = mf_thrown σ := rfl
theorem mG_thrown_openLeft (σ : MSt) (v : (Nat → Int64)) : mf_thrown (ms_openLeft σ v) = mf_thrown σ := rfl
theorem mG_thrown_open (σ : MSt) (v : Int32) : mf_thrown (ms_open σ v) = mf_thrown σ := rfl
theorem mG_thrown_at (σ : MSt) (v : Int32) : mf_thrown (ms_at σ v) = mf_thrown σ := rfl
theorem mG_thrown_fault (σ : MSt) (v : Int32) : mf_thrown (ms_fault σ v) = mf_thrown σ := rfl
theorem mG_thrown_fresh (σ : MSt) (v : (Nat → Int32)) : mf_thrown (ms_fresh σ v) = mf_thrown σ := rfl
theorem mG_thrown_freshMany (σ : MSt) (v : Int32) : mf_thrown (ms_freshMany σ v) = mf_thrown σ := rfl
theorem mG_thrown_figures (σ : MSt) (v : (Nat → Int32)) : mf_thrown (ms_figures σ v) = mf_thrown σ := rfl
theorem mG_tape_tape (σ : MSt) (v : (Nat → Int32)) : mf_tape (ms_tape σ v) = v := rfl
theorem mG_tape_thrown (σ : MSt) (v : Int32) : mf_tape (ms_thrown σ v) = mf_tape σ := rfl
theorem mG_tape_taped (σ : MSt) (v : Int32) : mf_tape (ms_taped σ v) = mf_tape σ := rfl
theorem mG_tape_depth (σ : MSt) (v : Int32) : mf_tape (ms_depth σ v) = mf_tape σ := rfl
theorem mG_tape_room (σ : MSt) (v : Int32) : mf_tape (ms_room σ v) = mf_tape σ := rfl
theorem mG_tape_written (σ : MSt) (v : (Nat → Int32)) : mf_tape (ms_written σ v) = mf_tape σ := rfl
theorem mG_tape_writtenMany (σ : MSt) (v : Int32) : mf_tape (ms_writtenMany σ v) = mf_tape σ := rfl
theorem mG_tape_errorPlace (σ : MSt) (v : Int32) : mf_tape (ms_errorPlace σ v) = mf_tape σ := rfl
theorem mG_tape_sorts (σ : MSt) (v : (Nat → Int32)) : mf_tape (ms_sorts σ v) = mf_tape σ := rfl
theorem mG_tape_numbers (σ : MSt) (v : (Nat → Int64)) : mf_tape (ms_numbers σ v) = mf_tape σ := rfl
theorem mG_tape_places (σ : MSt) (v : (Nat → Int32)) : mf_tape (ms_places σ v) = mf_tape σ := rfl
theorem mG_tape_things (σ : MSt) (v : Int32) : mf_tape (ms_things σ v) = mf_tape σ := rfl
theorem mG_tape_letters (σ : MSt) (v : (Nat → Int32)) : mf_tape (ms_letters σ v) = mf_tape σ := rfl
theorem mG_tape_lettersMany (σ : MSt) (v : Int32) : mf_tape (ms_lettersMany σ v) = mf_tape σ := rfl
theorem mG_tape_openThing (σ : MSt) (v : (Nat → Int32)) : mf_tape (ms_openThing σ v) = mf_tape σ := rfl
theorem mG_tape_openLeft (σ : MSt) (v : (Nat → Int64)) : mf_tape (ms_openLeft σ v) = mf_tape σ := rfl
theorem mG_tape_open (σ : MSt) (v : Int32) : mf_tape (ms_open σ v) = mf_tape σ := rfl
theorem mG_tape_at (σ : MSt) (v : Int32) : mf_tape (ms_at σ v) = mf_tape σ := rfl
theorem mG_tape_fault (σ : MSt) (v : Int32) : mf_tape (ms_fault σ v) = mf_tape σ := rfl
theorem mG_tape_fresh (σ : MSt) (v : (Nat → Int32)) : mf_tape (ms_fresh σ v) = mf_tape σ := rfl
theorem mG_tape_freshMany (σ : MSt) (v : Int32) : mf_tape (ms_freshMany σ v) = mf_tape σ := rfl
theorem mG_tape_figures (σ : MSt) (v : (Nat → Int32)) : mf_tape (ms_figures σ v) = mf_tape σ := rfl
theorem mG_taped_taped (σ : MSt) (v : Int32) : mf_taped (ms_taped σ v) = v := rfl
theorem mG_taped_thrown (σ : MSt) (v : Int32) : mf_taped (ms_thrown σ v) = mf_taped σ := rfl
theorem mG_taped_tape (σ : MSt) (v : (Nat → Int32)) : mf_taped (ms_tape σ v) = mf_taped σ := rfl
theorem mG_taped_depth (σ : MSt) (v : Int32) : mf_taped (ms_depth σ v) = mf_taped σ := rfl
theorem mG_taped_room (σ : MSt) (v : Int32) : mf_taped (ms_room σ v) = mf_taped σ := rfl
theorem mG_taped_written (σ : MSt) (v : (Nat → Int32)) : mf_taped (ms_written σ v) = mf_taped σ := rfl
theorem mG_taped_writtenMany (σ : MSt) (v : Int32) : mf_taped (ms_writtenMany σ v) = mf_taped σ := rfl
theorem mG_taped_errorPlace (σ : MSt) (v : Int32) : mf_taped (ms_errorPlace σ v) = mf_taped σ := rfl
theorem mG_taped_sorts (σ : MSt) (v : (Nat → Int32)) : mf_taped (ms_sorts σ v) = mf_taped σ := rfl
theorem mG_taped_numbers (σ : MSt) (v : (Nat → Int64)) : mf_taped (ms_numbers σ v) = mf_taped σ := rfl
theorem mG_taped_places (σ : MSt) (v : (Nat → Int32)) : mf_taped (ms_places σ v) = mf_taped σ := rfl
theorem mG_taped_things (σ : MSt) (v : Int32) : mf_taped (ms_things σ v) = mf_taped σ := rfl
theorem mG_taped_letters (σ : MSt) (v : (Nat → Int32)) : mf_taped (ms_letters σ v) = mf_taped σ := rfl
theorem mG_taped_lettersMany (σ : MSt) (v : Int32) : mf_taped (ms_lettersMany σ v) = mf_taped σ := rfl
theorem mG_taped_openThing (σ : MSt) (v : (Nat → Int32)) : mf_taped (ms_openThing σ v) = mf_taped σ := rfl
theorem mG_taped_openLeft (σ : MSt) (v : (Nat → Int64)) : mf_taped (ms_openLeft σ v) = mf_taped σ := rfl
theorem mG_taped_open (σ : MSt) (v : Int32) : mf_taped (ms_open σ v) = mf_taped σ := rfl
theorem mG_taped_at (σ : MSt) (v : Int32) : mf_taped (ms_at σ v) = mf_taped σ := rfl
theorem mG_taped_fault (σ : MSt) (v : Int32) : mf_taped (ms_fault σ v) = mf_taped σ := rfl
theorem mG_taped_fresh (σ : MSt) (v : (Nat → Int32)) : mf_taped (ms_fresh σ v) = mf_taped σ := rfl
theorem mG_taped_freshMany (σ : MSt) (v : Int32) : mf_taped (ms_freshMany σ v) = mf_taped σ := rfl
theorem mG_taped_figures (σ : MSt) (v : (Nat → Int32)) : mf_taped (ms_figures σ v) = mf_taped σ := rfl
theorem mG_depth_depth (σ : MSt) (v : Int32) : mf_depth (ms_depth σ v) = v := rfl
theorem mG_depth_thrown (σ : MSt) (v : Int32) : mf_depth (ms_thrown σ v) = mf_depth σ := rfl
theorem mG_depth_tape (σ : MSt) (v : (Nat → Int32)) : mf_depth (ms_tape σ v) = mf_depth σ := rfl
theorem mG_depth_taped (σ : MSt) (v : Int32) : mf_depth (ms_taped σ v) = mf_depth σ := rfl
theorem mG_depth_room (σ : MSt) (v : Int32) : mf_depth (ms_room σ v) = mf_depth σ := rfl
theorem mG_depth_written (σ : MSt) (v : (Nat → Int32)) : mf_depth (ms_written σ v) = mf_depth σ := rfl
theorem mG_depth_writtenMany (σ : MSt) (v : Int32) : mf_depth (ms_writtenMany σ v) = mf_depth σ := rfl
theorem mG_depth_errorPlace (σ : MSt) (v : Int32) : mf_depth (ms_errorPlace σ v) = mf_depth σ := rfl
theorem mG_depth_sorts (σ : MSt) (v : (Nat → Int32)) : mf_depth (ms_sorts σ v) = mf_depth σ := rfl
theorem mG_depth_numbers (σ : MSt) (v : (Nat → Int64)) : mf_depth (ms_numbers σ v) = mf_depth σ := rfl
theorem mG_depth_places (σ : MSt) (v : (Nat → Int32)) : mf_depth (ms_places σ v) = mf_depth σ := rfl
theorem mG_depth_things (σ : MSt) (v : Int32) : mf_depth (ms_things σ v) = mf_depth σ := rfl
theorem mG_depth_letters (σ : MSt) (v : (Nat → Int32)) : mf_depth (ms_letters σ v) = mf_depth σ := rfl
theorem mG_depth_lettersMany (σ : MSt) (v : Int32) : mf_depth (ms_lettersMany σ v) = mf_depth σ := rfl
theorem mG_depth_openThing (σ : MSt) (v : (Nat → Int32)) : mf_depth (ms_openThing σ v) = mf_depth σ := rfl
theorem mG_depth_openLeft (σ : MSt) (v : (Nat → Int64)) : mf_depth (ms_openLeft σ v) = mf_depth σ := rfl
theorem mG_depth_open (σ : MSt) (v : Int32) : mf_depth (ms_open σ v) = mf_depth σ := rfl
theorem mG_depth_at (σ : MSt) (v : Int32) : mf_depth (ms_at σ v) = mf_depth σ := rfl
theorem mG_depth_fault (σ : MSt) (v : Int32) : mf_depth (ms_fault σ v) = mf_depth σ := rfl
theorem mG_depth_fresh (σ : MSt) (v : (Nat → Int32)) : mf_depth (ms_fresh σ v) = mf_depth σ := rfl
theorem mG_depth_freshMany (σ : MSt) (v : Int32) : mf_depth (ms_freshMany σ v) = mf_depth σ := rfl
theorem mG_depth_figures (σ : MSt) (v : (Nat → Int32)) : mf_depth (ms_figures σ v) = mf_depth σ := rfl
theorem mG_room_room (σ : MSt) (v : Int32) : mf_room (ms_room σ v) = v := rfl
theorem mG_room_thrown (σ : MSt) (v : Int32) : mf_room (ms_thrown σ v) = mf_room σ := rfl
theorem mG_room_tape (σ : MSt) (v : (Nat → Int32)) : mf_room (ms_tape σ v) = mf_room σ := rfl
theorem mG_room_taped (σ : MSt) (v : Int32) : mf_room (ms_taped σ v) = mf_room σ := rfl
theorem mG_room_depth (σ : MSt) (v : Int32) : mf_room (ms_depth σ v) = mf_room σ := rfl
theorem mG_room_written (σ : MSt) (v : (Nat → Int32)) : mf_room (ms_written σ v) = mf_room σ := rfl
theorem mG_room_writtenMany (σ : MSt) (v : Int32) : mf_room (ms_writtenMany σ v) = mf_room σ := rfl
theorem mG_room_errorPlace (σ : MSt) (v : Int32) : mf_room (ms_errorPlace σ v) = mf_room σ := rfl
theorem mG_room_sorts (σ : MSt) (v : (Nat → Int32)) : mf_room (ms_sorts σ v) = mf_room σ := rfl
theorem mG_room_numbers (σ : MSt) (v : (Nat → Int64)) : mf_room (ms_numbers σ v) = mf_room σ := rfl
theorem mG_room_places (σ : MSt) (v : (Nat → Int32)) : mf_room (ms_places σ v) = mf_room σ := rfl
theorem mG_room_things (σ : MSt) (v : Int32) : mf_room (ms_things σ v) = mf_room σ := rfl
theorem mG_room_letters (σ : MSt) (v : (Nat → Int32)) : mf_room (ms_letters σ v) = mf_room σ := rfl
theorem mG_room_lettersMany (σ : MSt) (v : Int32) : mf_room (ms_lettersMany σ v) = mf_room σ := rfl
theorem mG_room_openThing (σ : MSt) (v : (Nat → Int32)) : mf_room (ms_openThing σ v) = mf_room σ := rfl
theorem mG_room_openLeft (σ : MSt) (v : (Nat → Int64)) : mf_room (ms_openLeft σ v) = mf_room σ := rfl
theorem mG_room_open (σ : MSt) (v : Int32) : mf_room (ms_open σ v) = mf_room σ := rfl
theorem mG_room_at (σ : MSt) (v : Int32) : mf_room (ms_at σ v) = mf_room σ := rfl
theorem mG_room_fault (σ : MSt) (v : Int32) : mf_room (ms_fault σ v) = mf_room σ := rfl
theorem mG_room_fresh (σ : MSt) (v : (Nat → Int32)) : mf_room (ms_fresh σ v) = mf_room σ := rfl
theorem mG_room_freshMany (σ : MSt) (v : Int32) : mf_room (ms_freshMany σ v) = mf_room σ := rfl
theorem mG_room_figures (σ : MSt) (v : (Nat → Int32)) : mf_room (ms_figures σ v) = mf_room σ := rfl
theorem mG_written_written (σ : MSt) (v : (Nat → Int32)) : mf_written (ms_written σ v) = v := rfl
theorem mG_written_thrown (σ : MSt) (v : Int32) : mf_written (ms_thrown σ v) = mf_written σ := rfl
theorem mG_written_tape (σ : MSt) (v : (Nat → Int32)) : mf_written (ms_tape σ v) = mf_written σ := rfl
theorem mG_written_taped (σ : MSt) (v : Int32) : mf_written (ms_taped σ v) = mf_written σ := rfl
theorem mG_written_depth (σ : MSt) (v : Int32) : mf_written (ms_depth σ v) = mf_written σ := rfl
theorem mG_written_room (σ : MSt) (v : Int32) : mf_written (ms_room σ v) = mf_written σ := rfl
theorem mG_written_writtenMany (σ : MSt) (v : Int32) : mf_written (ms_writtenMany σ v) = mf_written σ := rfl
theorem mG_written_errorPlace (σ : MSt) (v : Int32) : mf_written (ms_errorPlace σ v) = mf_written σ := rfl
theorem mG_written_sorts (σ : MSt) (v : (Nat → Int32)) : mf_written (ms_sorts σ v) = mf_written σ := rfl
theorem mG_written_numbers (σ : MSt) (v : (Nat → Int64)) : mf_written (ms_numbers σ v) = mf_written σ := rfl
theorem mG_written_places (σ : MSt) (v : (Nat → Int32)) : mf_written (ms_places σ v) = mf_written σ := rfl
theorem mG_written_things (σ : MSt) (v : Int32) : mf_written (ms_things σ v) = mf_written σ := rfl
theorem mG_written_letters (σ : MSt) (v : (Nat → Int32)) : mf_written (ms_letters σ v) = mf_written σ := rfl
theorem mG_written_lettersMany (σ : MSt) (v : Int32) : mf_written (ms_lettersMany σ v) = mf_written σ := rfl
theorem mG_written_openThing (σ : MSt) (v : (Nat → Int32)) : mf_written (ms_openThing σ v) = mf_written σ := rfl
theorem mG_written_openLeft (σ : MSt) (v : (Nat → Int64)) : mf_written (ms_openLeft σ v) = mf_written σ := rfl
theorem mG_written_open (σ : MSt) (v : Int32) : mf_written (ms_open σ v) = mf_written σ := rfl
theorem mG_written_at (σ : MSt) (v : Int32) : mf_written (ms_at σ v) = mf_written σ := rfl
theorem mG_written_fault (σ : MSt) (v : Int32) : mf_written (ms_fault σ v) = mf_written σ := rfl
theorem mG_written_fresh (σ : MSt) (v : (Nat → Int32)) : mf_written (ms_fresh σ v) = mf_written σ := rfl
theorem mG_written_freshMany (σ : MSt) (v : Int32) : mf_written (ms_freshMany σ v) = mf_written σ := rfl
theorem mG_written_figures (σ : MSt) (v : (Nat → Int32)) : mf_written (ms_figures σ v) = mf_written σ := rfl
theorem mG_writtenMany_writtenMany (σ : MSt) (v : Int32) : mf_writtenMany (ms_writtenMany σ v) = v := rfl
theorem mG_writtenMany_thrown (σ : MSt) (v : Int32) : mf_writtenMany (ms_thrown σ v) = mf_writtenMany σ := rfl
theorem mG_writtenMany_tape (σ : MSt) (v : (Nat → Int32)) : mf_writtenMany (ms_tape σ v) = mf_writtenMany σ := rfl
theorem mG_writtenMany_taped (σ : MSt) (v : Int32) : mf_writtenMany (ms_taped σ v) = mf_writtenMany σ := rfl
theorem mG_writtenMany_depth (σ : MSt) (v : Int32) : mf_writtenMany (ms_depth σ v) = mf_writtenMany σ := rfl
theorem mG_writtenMany_room (σ : MSt) (v : Int32) : mf_writtenMany (ms_room σ v) = mf_writtenMany σ := rfl
theorem mG_writtenMany_written (σ : MSt) (v : (Nat → Int32)) : mf_writtenMany (ms_written σ v) = mf_writtenMany σ := rfl
theorem mG_writtenMany_errorPlace (σ : MSt) (v : Int32) : mf_writtenMany (ms_errorPlace σ v) = mf_writtenMany σ := rfl
theorem mG_writtenMany_sorts (σ : MSt) (v : (Nat → Int32)) : mf_writtenMany (ms_sorts σ v) = mf_writtenMany σ := rfl
theorem mG_writtenMany_numbers (σ : MSt) (v : (Nat → Int64)) : mf_writtenMany (ms_numbers σ v) = mf_writtenMany σ := rfl
theorem mG_writtenMany_places (σ : MSt) (v : (Nat → Int32)) : mf_writtenMany (ms_places σ v) = mf_writtenMany σ := rfl
theorem mG_writtenMany_things (σ : MSt) (v : Int32) : mf_writtenMany (ms_things σ v) = mf_writtenMany σ := rfl
theorem mG_writtenMany_letters (σ : MSt) (v : (Nat → Int32)) : mf_writtenMany (ms_letters σ v) = mf_writtenMany σ := rfl
theorem mG_writtenMany_lettersMany (σ : MSt) (v : Int32) : mf_writtenMany (ms_lettersMany σ v) = mf_writtenMany σ := rfl
theorem mG_writtenMany_openThing (σ : MSt) (v : (Nat → Int32)) : mf_writtenMany (ms_openThing σ v) = mf_writtenMany σ := rfl
theorem mG_writtenMany_openLeft (σ : MSt) (v : (Nat → Int64)) : mf_writtenMany (ms_openLeft σ v) = mf_writtenMany σ := rfl
theorem mG_writtenMany_open (σ : MSt) (v : Int32) : mf_writtenMany (ms_open σ v) = mf_writtenMany σ := rfl
theorem mG_writtenMany_at (σ : MSt) (v : Int32) : mf_writtenMany (ms_at σ v) = mf_writtenMany σ := rfl
theorem mG_writtenMany_fault (σ : MSt) (v : Int32) : mf_writtenMany (ms_fault σ v) = mf_writtenMany σ := rfl
theorem mG_writtenMany_fresh (σ : MSt) (v : (Nat → Int32)) : mf_writtenMany (ms_fresh σ v) = mf_writtenMany σ := rfl
theorem mG_writtenMany_freshMany (σ : MSt) (v : Int32) : mf_writtenMany (ms_freshMany σ v) = mf_writtenMany σ := rfl
theorem mG_writtenMany_figures (σ : MSt) (v : (Nat → Int32)) : mf_writtenMany (ms_figures σ v) = mf_writtenMany σ := rfl
theorem mG_errorPlace_errorPlace (σ : MSt) (v : Int32) : mf_errorPlace (ms_errorPlace σ v) = v := rfl
theorem mG_errorPlace_thrown (σ : MSt) (v : Int32) : mf_errorPlace (ms_thrown σ v) = mf_errorPlace σ := rfl
theorem mG_errorPlace_tape (σ : MSt) (v : (Nat → Int32)) : mf_errorPlace (ms_tape σ v) = mf_errorPlace σ := rfl
theorem mG_errorPlace_taped (σ : MSt) (v : Int32) : mf_errorPlace (ms_taped σ v) = mf_errorPlace σ := rfl
theorem mG_errorPlace_depth (σ : MSt) (v : Int32) : mf_errorPlace (ms_depth σ v) = mf_errorPlace σ := rfl
theorem mG_errorPlace_room (σ : MSt) (v : Int32) : mf_errorPlace (ms_room σ v) = mf_errorPlace σ := rfl
theorem mG_errorPlace_written (σ : MSt) (v : (Nat → Int32)) : mf_errorPlace (ms_written σ v) = mf_errorPlace σ := rfl
theorem mG_errorPlace_writtenMany (σ : MSt) (v : Int32) : mf_errorPlace (ms_writtenMany σ v) = mf_errorPlace σ := rfl
theorem mG_errorPlace_sorts (σ : MSt) (v : (Nat → Int32)) : mf_errorPlace (ms_sorts σ v) = mf_errorPlace σ := rfl
theorem mG_errorPlace_numbers (σ : MSt) (v : (Nat → Int64)) : mf_errorPlace (ms_numbers σ v) = mf_errorPlace σ := rfl
theorem mG_errorPlace_places (σ : MSt) (v : (Nat → Int32)) : mf_errorPlace (ms_places σ v) = mf_errorPlace σ := rfl
theorem mG_errorPlace_things (σ : MSt) (v : Int32) : mf_errorPlace (ms_things σ v) = mf_errorPlace σ := rfl
theorem mG_errorPlace_letters (σ : MSt) (v : (Nat → Int32)) : mf_errorPlace (ms_letters σ v) = mf_errorPlace σ := rfl
theorem mG_errorPlace_lettersMany (σ : MSt) (v : Int32) : mf_errorPlace (ms_lettersMany σ v) = mf_errorPlace σ := rfl
theorem mG_errorPlace_openThing (σ : MSt) (v : (Nat → Int32)) : mf_errorPlace (ms_openThing σ v) = mf_errorPlace σ := rfl
theorem mG_errorPlace_openLeft (σ : MSt) (v : (Nat → Int64)) : mf_errorPlace (ms_openLeft σ v) = mf_errorPlace σ := rfl
theorem mG_errorPlace_open (σ : MSt) (v : Int32) : mf_errorPlace (ms_open σ v) = mf_errorPlace σ := rfl
theorem mG_errorPlace_at (σ : MSt) (v : Int32) : mf_errorPlace (ms_at σ v) = mf_errorPlace σ := rfl
theorem mG_errorPlace_fault (σ : MSt) (v : Int32) : mf_errorPlace (ms_fault σ v) = mf_errorPlace σ := rfl
theorem mG_errorPlace_fresh (σ : MSt) (v : (Nat → Int32)) : mf_errorPlace (ms_fresh σ v) = mf_errorPlace σ := rfl
theorem mG_errorPlace_freshMany (σ : MSt) (v : Int32) : mf_errorPlace (ms_freshMany σ v) = mf_errorPlace σ := rfl
theorem mG_errorPlace_figures (σ : MSt) (v : (Nat → Int32)) : mf_errorPlace (ms_figures σ v) = mf_errorPlace σ := rfl
theorem mG_sorts_sorts (σ : MSt) (v : (Nat → Int32)) : mf_sorts (ms_sorts σ v) = v := rfl
theorem mG_sorts_thrown (σ : MSt) (v : Int32) : mf_sorts (ms_thrown σ v) = mf_sorts σ := rfl
theorem mG_sorts_tape (σ : MSt) (v : (Nat → Int32)) : mf_sorts (ms_tape σ v) = mf_sorts σ := rfl
theorem mG_sorts_taped (σ : MSt) (v : Int32) : mf_sorts (ms_taped σ v) = mf_sorts σ := rfl
theorem mG_sorts_depth (σ : MSt) (v : Int32) : mf_sorts (ms_depth σ v) = mf_sorts σ := rfl
theorem mG_sorts_room (σ : MSt) (v : Int32) : mf_sorts (ms_room σ v) = mf_sorts σ := rfl
theorem mG_sorts_written (σ : MSt) (v : (Nat → Int32)) : mf_sorts (ms_written σ v) = mf_sorts σ := rfl
theorem mG_sorts_writtenMany (σ : MSt) (v : Int32) : mf_sorts (ms_writtenMany σ v) = mf_sorts σ := rfl
theorem mG_sorts_errorPlace (σ : MSt) (v : Int32) : mf_sorts (ms_errorPlace σ v) = mf_sorts σ := rfl
theorem mG_sorts_numbers (σ : MSt) (v : (Nat → Int64)) : mf_sorts (ms_numbers σ v) = mf_sorts σ := rfl
theorem mG_sorts_places (σ : MSt) (v : (Nat → Int32)) : mf_sorts (ms_places σ v) = mf_sorts σ := rfl
theorem mG_sorts_things (σ : MSt) (v : Int32) : mf_sorts (ms_things σ v) = mf_sorts σ := rfl
theorem mG_sorts_letters (σ : MSt) (v : (Nat → Int32)) : mf_sorts (ms_letters σ v) = mf_sorts σ := rfl
theorem mG_sorts_lettersMany (σ : MSt) (v : Int32) : mf_sorts (ms_lettersMany σ v) = mf_sorts σ := rfl
theorem mG_sorts_openThing (σ : MSt) (v : (Nat → Int32)) : mf_sorts (ms_openThing σ v) = mf_sorts σ := rfl
theorem mG_sorts_openLeft (σ : MSt) (v : (Nat → Int64)) : mf_sorts (ms_openLeft σ v) = mf_sorts σ := rfl
theorem mG_sorts_open (σ : MSt) (v : Int32) : mf_sorts (ms_open σ v) = mf_sorts σ := rfl
theorem mG_sorts_at (σ : MSt) (v : Int32) : mf_sorts (ms_at σ v) = mf_sorts σ := rfl
theorem mG_sorts_fault (σ : MSt) (v : Int32) : mf_sorts (ms_fault σ v) = mf_sorts σ := rfl
theorem mG_sorts_fresh (σ : MSt) (v : (Nat → Int32)) : mf_sorts (ms_fresh σ v) = mf_sorts σ := rfl
theorem mG_sorts_freshMany (σ : MSt) (v : Int32) : mf_sorts (ms_freshMany σ v) = mf_sorts σ := rfl
theorem mG_sorts_figures (σ : MSt) (v : (Nat → Int32)) : mf_sorts (ms_figures σ v) = mf_sorts σ := rfl
theorem mG_numbers_numbers (σ : MSt) (v : (Nat → Int64)) : mf_numbers (ms_numbers σ v) = v := rfl
theorem mG_numbers_thrown (σ : MSt) (v : Int32) : mf_numbers (ms_thrown σ v) = mf_numbers σ := rfl
theorem mG_numbers_tape (σ : MSt) (v : (Nat → Int32)) : mf_numbers (ms_tape σ v) = mf_numbers σ := rfl
theorem mG_numbers_taped (σ : MSt) (v : Int32) : mf_numbers (ms_taped σ v) = mf_numbers σ := rfl
theorem mG_numbers_depth (σ : MSt) (v : Int32) : mf_numbers (ms_depth σ v) = mf_numbers σ := rfl
theorem mG_numbers_room (σ : MSt) (v : Int32) : mf_numbers (ms_room σ v) = mf_numbers σ := rfl
theorem mG_numbers_written (σ : MSt) (v : (Nat → Int32)) : mf_numbers (ms_written σ v) = mf_numbers σ := rfl
theorem mG_numbers_writtenMany (σ : MSt) (v : Int32) : mf_numbers (ms_writtenMany σ v) = mf_numbers σ := rfl
theorem mG_numbers_errorPlace (σ : MSt) (v : Int32) : mf_numbers (ms_errorPlace σ v) = mf_numbers σ := rfl
theorem mG_numbers_sorts (σ : MSt) (v : (Nat → Int32)) : mf_numbers (ms_sorts σ v) = mf_numbers σ := rfl
theorem mG_numbers_places (σ : MSt) (v : (Nat → Int32)) : mf_numbers (ms_places σ v) = mf_numbers σ := rfl
theorem mG_numbers_things (σ : MSt) (v : Int32) : mf_numbers (ms_things σ v) = mf_numbers σ := rfl
theorem mG_numbers_letters (σ : MSt) (v : (Nat → Int32)) : mf_numbers (ms_letters σ v) = mf_numbers σ := rfl
theorem mG_numbers_lettersMany (σ : MSt) (v : Int32) : mf_numbers (ms_lettersMany σ v) = mf_numbers σ := rfl
theorem mG_numbers_openThing (σ : MSt) (v : (Nat → Int32)) : mf_numbers (ms_openThing σ v) = mf_numbers σ := rfl
theorem mG_numbers_openLeft (σ : MSt) (v : (Nat → Int64)) : mf_numbers (ms_openLeft σ v) = mf_numbers σ := rfl
theorem mG_numbers_open (σ : MSt) (v : Int32) : mf_numbers (ms_open σ v) = mf_numbers σ := rfl
theorem mG_numbers_at (σ : MSt) (v : Int32) : mf_numbers (ms_at σ v) = mf_numbers σ := rfl
theorem mG_numbers_fault (σ : MSt) (v : Int32) : mf_numbers (ms_fault σ v) = mf_numbers σ := rfl
theorem mG_numbers_fresh (σ : MSt) (v : (Nat → Int32)) : mf_numbers (ms_fresh σ v) = mf_numbers σ := rfl
theorem mG_numbers_freshMany (σ : MSt) (v : Int32) : mf_numbers (ms_freshMany σ v) = mf_numbers σ := rfl
theorem mG_numbers_figures (σ : MSt) (v : (Nat → Int32)) : mf_numbers (ms_figures σ v) = mf_numbers σ := rfl
theorem mG_places_places (σ : MSt) (v : (Nat → Int32)) : mf_places (ms_places σ v) = v := rfl
theorem mG_places_thrown (σ : MSt) (v : Int32) : mf_places (ms_thrown σ v) = mf_places σ := rfl
theorem mG_places_tape (σ : MSt) (v : (Nat → Int32)) : mf_places (ms_tape σ v) = mf_places σ := rfl
theorem mG_places_taped (σ : MSt) (v : Int32) : mf_places (ms_taped σ v) = mf_places σ := rfl
theorem mG_places_depth (σ : MSt) (v : Int32) : mf_places (ms_depth σ v) = mf_places σ := rfl
theorem mG_places_room (σ : MSt) (v : Int32) : mf_places (ms_room σ v) = mf_places σ := rfl
theorem mG_places_written (σ : MSt) (v : (Nat → Int32)) : mf_places (ms_written σ v) = mf_places σ := rfl
theorem mG_places_writtenMany (σ : MSt) (v : Int32) : mf_places (ms_writtenMany σ v) = mf_places σ := rfl
theorem mG_places_errorPlace (σ : MSt) (v : Int32) : mf_places (ms_errorPlace σ v) = mf_places σ := rfl
theorem mG_places_sorts (σ : MSt) (v : (Nat → Int32)) : mf_places (ms_sorts σ v) = mf_places σ := rfl
theorem mG_places_numbers (σ : MSt) (v : (Nat → Int64)) : mf_places (ms_numbers σ v) = mf_places σ := rfl
theorem mG_places_things (σ : MSt) (v : Int32) : mf_places (ms_things σ v) = mf_places σ := rfl
theorem mG_places_letters (σ : MSt) (v : (Nat → Int32)) : mf_places (ms_letters σ v) = mf_places σ := rfl
theorem mG_places_lettersMany (σ : MSt) (v : Int32) : mf_places (ms_lettersMany σ v) = mf_places σ := rfl
theorem mG_places_openThing (σ : MSt) (v : (Nat → Int32)) : mf_places (ms_openThing σ v) = mf_places σ := rfl
theorem mG_places_openLeft (σ : MSt) (v : (Nat → Int64)) : mf_places (ms_openLeft σ v) = mf_places σ := rfl
theorem mG_places_open (σ : MSt) (v : Int32) : mf_places (ms_open σ v) = mf_places σ := rfl
theorem mG_places_at (σ : MSt) (v : Int32) : mf_places (ms_at σ v) = mf_places σ := rfl
theorem mG_places_fault (σ : MSt) (v : Int32) : mf_places (ms_fault σ v) = mf_places σ := rfl
theorem mG_places_fresh (σ : MSt) (v : (Nat → Int32)) : mf_places (ms_fresh σ v) = mf_places σ := rfl
theorem mG_places_freshMany (σ : MSt) (v : Int32) : mf_places (ms_freshMany σ v) = mf_places σ := rfl
theorem mG_places_figures (σ : MSt) (v : (Nat → Int32)) : mf_places (ms_figures σ v) = mf_places σ := rfl
theorem mG_things_things (σ : MSt) (v : Int32) : mf_things (ms_things σ v) = v := rfl
theorem mG_things_thrown (σ : MSt) (v : Int32) : mf_things (ms_thrown σ v) = mf_things σ := rfl
theorem mG_things_tape (σ : MSt) (v : (Nat → Int32)) : mf_things (ms_tape σ v) = mf_things σ := rfl
theorem mG_things_taped (σ : MSt) (v : Int32) : mf_things (ms_taped σ v) = mf_things σ := rfl
theorem mG_things_depth (σ : MSt) (v : Int32) : mf_things (ms_depth σ v) = mf_things σ := rfl
theorem mG_things_room (σ : MSt) (v : Int32) : mf_things (ms_room σ v) = mf_things σ := rfl
theorem mG_things_written (σ : MSt) (v : (Nat → Int32)) : mf_things (ms_written σ v) = mf_things σ := rfl
theorem mG_things_writtenMany (σ : MSt) (v : Int32) : mf_things (ms_writtenMany σ v) = mf_things σ := rfl
theorem mG_things_errorPlace (σ : MSt) (v : Int32) : mf_things (ms_errorPlace σ v) = mf_things σ := rfl
theorem mG_things_sorts (σ : MSt) (v : (Nat → Int32)) : mf_things (ms_sorts σ v) = mf_things σ := rfl
theorem mG_things_numbers (σ : MSt) (v : (Nat → Int64)) : mf_things (ms_numbers σ v) = mf_things σ := rfl
theorem mG_things_places (σ : MSt) (v : (Nat → Int32)) : mf_things (ms_places σ v) = mf_things σ := rfl
theorem mG_things_letters (σ : MSt) (v : (Nat → Int32)) : mf_things (ms_letters σ v) = mf_things σ := rfl
theorem mG_things_lettersMany (σ : MSt) (v : Int32) : mf_things (ms_lettersMany σ v) = mf_things σ := rfl
theorem mG_things_openThing (σ : MSt) (v : (Nat → Int32)) : mf_things (ms_openThing σ v) = mf_things σ := rfl
theorem mG_things_openLeft (σ : MSt) (v : (Nat → Int64)) : mf_things (ms_openLeft σ v) = mf_things σ := rfl
theorem mG_things_open (σ : MSt) (v : Int32) : mf_things (ms_open σ v) = mf_things σ := rfl
theorem mG_things_at (σ : MSt) (v : Int32) : mf_things (ms_at σ v) = mf_things σ := rfl
theorem mG_things_fault (σ : MSt) (v : Int32) : mf_things (ms_fault σ v) = mf_things σ := rfl
theorem mG_things_fresh (σ : MSt) (v : (Nat → Int32)) : mf_things (ms_fresh σ v) = mf_things σ := rfl
theorem mG_things_freshMany (σ : MSt) (v : Int32) : mf_things (ms_freshMany σ v) = mf_things σ := rfl
theorem mG_things_figures (σ : MSt) (v : (Nat → Int32)) : mf_things (ms_figures σ v) = mf_things σ := rfl
theorem mG_letters_letters (σ : MSt) (v : (Nat → Int32)) : mf_letters (ms_letters σ v) = v := rfl
theorem mG_letters_thrown (σ : MSt) (v : Int32) : mf_letters (ms_thrown σ v) = mf_letters σ := rfl
theorem mG_letters_tape (σ : MSt) (v : (Nat → Int32)) : mf_letters (ms_tape σ v) = mf_letters σ := rfl
theorem mG_letters_taped (σ : MSt) (v : Int32) : mf_letters (ms_taped σ v) = mf_letters σ := rfl
theorem mG_letters_depth (σ : MSt) (v : Int32) : mf_letters (ms_depth σ v) = mf_letters σ := rfl
theorem mG_letters_room (σ : MSt) (v : Int32) : mf_letters (ms_room σ v) = mf_letters σ := rfl
theorem mG_letters_written (σ : MSt) (v : (Nat → Int32)) : mf_letters (ms_written σ v) = mf_letters σ := rfl
theorem mG_letters_writtenMany (σ : MSt) (v : Int32) : mf_letters (ms_writtenMany σ v) = mf_letters σ := rfl
theorem mG_letters_errorPlace (σ : MSt) (v : Int32) : mf_letters (ms_errorPlace σ v) = mf_letters σ := rfl
theorem mG_letters_sorts (σ : MSt) (v : (Nat → Int32)) : mf_letters (ms_sorts σ v) = mf_letters σ := rfl
theorem mG_letters_numbers (σ : MSt) (v : (Nat → Int64)) : mf_letters (ms_numbers σ v) = mf_letters σ := rfl
theorem mG_letters_places (σ : MSt) (v : (Nat → Int32)) : mf_letters (ms_places σ v) = mf_letters σ := rfl
theorem mG_letters_things (σ : MSt) (v : Int32) : mf_letters (ms_things σ v) = mf_letters σ := rfl
theorem mG_letters_lettersMany (σ : MSt) (v : Int32) : mf_letters (ms_lettersMany σ v) = mf_letters σ := rfl
theorem mG_letters_openThing (σ : MSt) (v : (Nat → Int32)) : mf_letters (ms_openThing σ v) = mf_letters σ := rfl
theorem mG_letters_openLeft (σ : MSt) (v : (Nat → Int64)) : mf_letters (ms_openLeft σ v) = mf_letters σ := rfl
theorem mG_letters_open (σ : MSt) (v : Int32) : mf_letters (ms_open σ v) = mf_letters σ := rfl
theorem mG_letters_at (σ : MSt) (v : Int32) : mf_letters (ms_at σ v) = mf_letters σ := rfl
theorem mG_letters_fault (σ : MSt) (v : Int32) : mf_letters (ms_fault σ v) = mf_letters σ := rfl
theorem mG_letters_fresh (σ : MSt) (v : (Nat → Int32)) : mf_letters (ms_fresh σ v) = mf_letters σ := rfl
theorem mG_letters_freshMany (σ : MSt) (v : Int32) : mf_letters (ms_freshMany σ v) = mf_letters σ := rfl
theorem mG_letters_figures (σ : MSt) (v : (Nat → Int32)) : mf_letters (ms_figures σ v) = mf_letters σ := rfl
theorem mG_lettersMany_lettersMany (σ : MSt) (v : Int32) : mf_lettersMany (ms_lettersMany σ v) = v := rfl
theorem mG_lettersMany_thrown (σ : MSt) (v : Int32) : mf_lettersMany (ms_thrown σ v) = mf_lettersMany σ := rfl
theorem mG_lettersMany_tape (σ : MSt) (v : (Nat → Int32)) : mf_lettersMany (ms_tape σ v) = mf_lettersMany σ := rfl
theorem mG_lettersMany_taped (σ : MSt) (v : Int32) : mf_lettersMany (ms_taped σ v) = mf_lettersMany σ := rfl
theorem mG_lettersMany_depth (σ : MSt) (v : Int32) : mf_lettersMany (ms_depth σ v) = mf_lettersMany σ := rfl
theorem mG_lettersMany_room (σ : MSt) (v : Int32) : mf_lettersMany (ms_room σ v) = mf_lettersMany σ := rfl
theorem mG_lettersMany_written (σ : MSt) (v : (Nat → Int32)) : mf_lettersMany (ms_written σ v) = mf_lettersMany σ := rfl
theorem mG_lettersMany_writtenMany (σ : MSt) (v : Int32) : mf_lettersMany (ms_writtenMany σ v) = mf_lettersMany σ := rfl
theorem mG_lettersMany_errorPlace (σ : MSt) (v : Int32) : mf_lettersMany (ms_errorPlace σ v) = mf_lettersMany σ := rfl
theorem mG_lettersMany_sorts (σ : MSt) (v : (Nat → Int32)) : mf_lettersMany (ms_sorts σ v) = mf_lettersMany σ := rfl
theorem mG_lettersMany_numbers (σ : MSt) (v : (Nat → Int64)) : mf_lettersMany (ms_numbers σ v) = mf_lettersMany σ := rfl
theorem mG_lettersMany_places (σ : MSt) (v : (Nat → Int32)) : mf_lettersMany (ms_places σ v) = mf_lettersMany σ := rfl
theorem mG_lettersMany_things (σ : MSt) (v : Int32) : mf_lettersMany (ms_things σ v) = mf_lettersMany σ := rfl
theorem mG_lettersMany_letters (σ : MSt) (v : (Nat → Int32)) : mf_lettersMany (ms_letters σ v) = mf_lettersMany σ := rfl
theorem mG_lettersMany_openThing (σ : MSt) (v : (Nat → Int32)) : mf_lettersMany (ms_openThing σ v) = mf_lettersMany σ := rfl
theorem mG_lettersMany_openLeft (σ : MSt) (v : (Nat → Int64)) : mf_lettersMany (ms_openLeft σ v) = mf_lettersMany σ := rfl
theorem mG_lettersMany_open (σ : MSt) (v : Int32) : mf_lettersMany (ms_open σ v) = mf_lettersMany σ := rfl
theorem mG_lettersMany_at (σ : MSt) (v : Int32) : mf_lettersMany (ms_at σ v) = mf_lettersMany σ := rfl
theorem mG_lettersMany_fault (σ : MSt) (v : Int32) : mf_lettersMany (ms_fault σ v) = mf_lettersMany σ := rfl
theorem mG_lettersMany_fresh (σ : MSt) (v : (Nat → Int32)) : mf_lettersMany (ms_fresh σ v) = mf_lettersMany σ := rfl
theorem mG_lettersMany_freshMany (σ : MSt) (v : Int32) : mf_lettersMany (ms_freshMany σ v) = mf_lettersMany σ := rfl
theorem mG_lettersMany_figures (σ : MSt) (v : (Nat → Int32)) : mf_lettersMany (ms_figures σ v) = mf_lettersMany σ := rfl
theorem mG_openThing_openThing (σ : MSt) (v : (Nat → Int32)) : mf_openThing (ms_openThing σ v) = v := rfl
theorem mG_openThing_thrown (σ : MSt) (v : Int32) : mf_openThing (ms_thrown σ v) = mf_openThing σ := rfl
theorem mG_openThing_tape (σ : MSt) (v : (Nat → Int32)) : mf_openThing (ms_tape σ v) = mf_openThing σ := rfl
theorem mG_openThing_taped (σ : MSt) (v : Int32) : mf_openThing (ms_taped σ v) = mf_openThing σ := rfl
theorem mG_openThing_depth (σ : MSt) (v : Int32) : mf_openThing (ms_depth σ v) = mf_openThing σ := rfl
theorem mG_openThing_room (σ : MSt) (v : Int32) : mf_openThing (ms_room σ v) = mf_openThing σ := rfl
theorem mG_openThing_written (σ : MSt) (v : (Nat → Int32)) : mf_openThing (ms_written σ v) = mf_openThing σ := rfl
theorem mG_openThing_writtenMany (σ : MSt) (v : Int32) : mf_openThing (ms_writtenMany σ v) = mf_openThing σ := rfl
theorem mG_openThing_errorPlace (σ : MSt) (v : Int32) : mf_openThing (ms_errorPlace σ v) = mf_openThing σ := rfl
theorem mG_openThing_sorts (σ : MSt) (v : (Nat → Int32)) : mf_openThing (ms_sorts σ v) = mf_openThing σ := rfl
theorem mG_openThing_numbers (σ : MSt) (v : (Nat → Int64)) : mf_openThing (ms_numbers σ v) = mf_openThing σ := rfl
theorem mG_openThing_places (σ : MSt) (v : (Nat → Int32)) : mf_openThing (ms_places σ v) = mf_openThing σ := rfl
theorem mG_openThing_things (σ : MSt) (v : Int32) : mf_openThing (ms_things σ v) = mf_openThing σ := rfl
theorem mG_openThing_letters (σ : MSt) (v : (Nat → Int32)) : mf_openThing (ms_letters σ v) = mf_openThing σ := rfl
theorem mG_openThing_lettersMany (σ : MSt) (v : Int32) : mf_openThing (ms_lettersMany σ v) = mf_openThing σ := rfl
theorem mG_openThing_openLeft (σ : MSt) (v : (Nat → Int64)) : mf_openThing (ms_openLeft σ v) = mf_openThing σ := rfl
theorem mG_openThing_open (σ : MSt) (v : Int32) : mf_openThing (ms_open σ v) = mf_openThing σ := rfl
theorem mG_openThing_at (σ : MSt) (v : Int32) : mf_openThing (ms_at σ v) = mf_openThing σ := rfl
theorem mG_openThing_fault (σ : MSt) (v : Int32) : mf_openThing (ms_fault σ v) = mf_openThing σ := rfl
theorem mG_openThing_fresh (σ : MSt) (v : (Nat → Int32)) : mf_openThing (ms_fresh σ v) = mf_openThing σ := rfl
theorem mG_openThing_freshMany (σ : MSt) (v : Int32) : mf_openThing (ms_freshMany σ v) = mf_openThing σ := rfl
theorem mG_openThing_figures (σ : MSt) (v : (Nat → Int32)) : mf_openThing (ms_figures σ v) = mf_openThing σ := rfl
theorem mG_openLeft_openLeft (σ : MSt) (v : (Nat → Int64)) : mf_openLeft (ms_openLeft σ v) = v := rfl
theorem mG_openLeft_thrown (σ : MSt) (v : Int32) : mf_openLeft (ms_thrown σ v) = mf_openLeft σ := rfl
theorem mG_openLeft_tape (σ : MSt) (v : (Nat → Int32)) : mf_openLeft (ms_tape σ v) = mf_openLeft σ := rfl
theorem mG_openLeft_taped (σ : MSt) (v : Int32) : mf_openLeft (ms_taped σ v) = mf_openLeft σ := rfl
theorem mG_openLeft_depth (σ : MSt) (v : Int32) : mf_openLeft (ms_depth σ v) = mf_openLeft σ := rfl
theorem mG_openLeft_room (σ : MSt) (v : Int32) : mf_openLeft (ms_room σ v) = mf_openLeft σ := rfl
theorem mG_openLeft_written (σ : MSt) (v : (Nat → Int32)) : mf_openLeft (ms_written σ v) = mf_openLeft σ := rfl
theorem mG_openLeft_writtenMany (σ : MSt) (v : Int32) : mf_openLeft (ms_writtenMany σ v) = mf_openLeft σ := rfl
theorem mG_openLeft_errorPlace (σ : MSt) (v : Int32) : mf_openLeft (ms_errorPlace σ v) = mf_openLeft σ := rfl
theorem mG_openLeft_sorts (σ : MSt) (v : (Nat → Int32)) : mf_openLeft (ms_sorts σ v) = mf_openLeft σ := rfl
theorem mG_openLeft_numbers (σ : MSt) (v : (Nat → Int64)) : mf_openLeft (ms_numbers σ v) = mf_openLeft σ := rfl
theorem mG_openLeft_places (σ : MSt) (v : (Nat → Int32)) : mf_openLeft (ms_places σ v) = mf_openLeft σ := rfl
theorem mG_openLeft_things (σ : MSt) (v : Int32) : mf_openLeft (ms_things σ v) = mf_openLeft σ := rfl
theorem mG_openLeft_letters (σ : MSt) (v : (Nat → Int32)) : mf_openLeft (ms_letters σ v) = mf_openLeft σ := rfl
theorem mG_openLeft_lettersMany (σ : MSt) (v : Int32) : mf_openLeft (ms_lettersMany σ v) = mf_openLeft σ := rfl
theorem mG_openLeft_openThing (σ : MSt) (v : (Nat → Int32)) : mf_openLeft (ms_openThing σ v) = mf_openLeft σ := rfl
theorem mG_openLeft_open (σ : MSt) (v : Int32) : mf_openLeft (ms_open σ v) = mf_openLeft σ := rfl
theorem mG_openLeft_at (σ : MSt) (v : Int32) : mf_openLeft (ms_at σ v) = mf_openLeft σ := rfl
theorem mG_openLeft_fault (σ : MSt) (v : Int32) : mf_openLeft (ms_fault σ v) = mf_openLeft σ := rfl
theorem mG_openLeft_fresh (σ : MSt) (v : (Nat → Int32)) : mf_openLeft (ms_fresh σ v) = mf_openLeft σ := rfl
theorem mG_openLeft_freshMany (σ : MSt) (v : Int32) : mf_openLeft (ms_freshMany σ v) = mf_openLeft σ := rfl
theorem mG_openLeft_figures (σ : MSt) (v : (Nat → Int32)) : mf_openLeft (ms_figures σ v) = mf_openLeft σ := rfl
theorem mG_open_open (σ : MSt) (v : Int32) : mf_open (ms_open σ v) = v := rfl
theorem mG_open_thrown (σ : MSt) (v : Int32) : mf_open (ms_thrown σ v) = mf_open σ := rfl
theorem mG_open_tape (σ : MSt) (v : (Nat → Int32)) : mf_open (ms_tape σ v) = mf_open σ := rfl
theorem mG_open_taped (σ : MSt) (v : Int32) : mf_open (ms_taped σ v) = mf_open σ := rfl
theorem mG_open_depth (σ : MSt) (v : Int32) : mf_open (ms_depth σ v) = mf_open σ := rfl
theorem mG_open_room (σ : MSt) (v : Int32) : mf_open (ms_room σ v) = mf_open σ := rfl
theorem mG_open_written (σ : MSt) (v : (Nat → Int32)) : mf_open (ms_written σ v) = mf_open σ := rfl
theorem mG_open_writtenMany (σ : MSt) (v : Int32) : mf_open (ms_writtenMany σ v) = mf_open σ := rfl
theorem mG_open_errorPlace (σ : MSt) (v : Int32) : mf_open (ms_errorPlace σ v) = mf_open σ := rfl
theorem mG_open_sorts (σ : MSt) (v : (Nat → Int32)) : mf_open (ms_sorts σ v) = mf_open σ := rfl
theorem mG_open_numbers (σ : MSt) (v : (Nat → Int64)) : mf_open (ms_numbers σ v) = mf_open σ := rfl
theorem mG_open_places (σ : MSt) (v : (Nat → Int32)) : mf_open (ms_places σ v) = mf_open σ := rfl
theorem mG_open_things (σ : MSt) (v : Int32) : mf_open (ms_things σ v) = mf_open σ := rfl
theorem mG_open_letters (σ : MSt) (v : (Nat → Int32)) : mf_open (ms_letters σ v) = mf_open σ := rfl
theorem mG_open_lettersMany (σ : MSt) (v : Int32) : mf_open (ms_lettersMany σ v) = mf_open σ := rfl
theorem mG_open_openThing (σ : MSt) (v : (Nat → Int32)) : mf_open (ms_openThing σ v) = mf_open σ := rfl
theorem mG_open_openLeft (σ : MSt) (v : (Nat → Int64)) : mf_open (ms_openLeft σ v) = mf_open σ := rfl
theorem mG_open_at (σ : MSt) (v : Int32) : mf_open (ms_at σ v) = mf_open σ := rfl
theorem mG_open_fault (σ : MSt) (v : Int32) : mf_open (ms_fault σ v) = mf_open σ := rfl
theorem mG_open_fresh (σ : MSt) (v : (Nat → Int32)) : mf_open (ms_fresh σ v) = mf_open σ := rfl
theorem mG_open_freshMany (σ : MSt) (v : Int32) : mf_open (ms_freshMany σ v) = mf_open σ := rfl
theorem mG_open_figures (σ : MSt) (v : (Nat → Int32)) : mf_open (ms_figures σ v) = mf_open σ := rfl
theorem mG_at_at (σ : MSt) (v : Int32) : mf_at (ms_at σ v) = v := rfl
theorem mG_at_thrown (σ : MSt) (v : Int32) : mf_at (ms_thrown σ v) = mf_at σ := rfl
theorem mG_at_tape (σ : MSt) (v : (Nat → Int32)) : mf_at (ms_tape σ v) = mf_at σ := rfl
theorem mG_at_taped (σ : MSt) (v : Int32) : mf_at (ms_taped σ v) = mf_at σ := rfl
theorem mG_at_depth (σ : MSt) (v : Int32) : mf_at (ms_depth σ v) = mf_at σ := rfl
theorem mG_at_room (σ : MSt) (v : Int32) : mf_at (ms_room σ v) = mf_at σ := rfl
theorem mG_at_written (σ : MSt) (v : (Nat → Int32)) : mf_at (ms_written σ v) = mf_at σ := rfl
theorem mG_at_writtenMany (σ : MSt) (v : Int32) : mf_at (ms_writtenMany σ v) = mf_at σ := rfl
theorem mG_at_errorPlace (σ : MSt) (v : Int32) : mf_at (ms_errorPlace σ v) = mf_at σ := rfl
theorem mG_at_sorts (σ : MSt) (v : (Nat → Int32)) : mf_at (ms_sorts σ v) = mf_at σ := rfl
theorem mG_at_numbers (σ : MSt) (v : (Nat → Int64)) : mf_at (ms_numbers σ v) = mf_at σ := rfl
theorem mG_at_places (σ : MSt) (v : (Nat → Int32)) : mf_at (ms_places σ v) = mf_at σ := rfl
theorem mG_at_things (σ : MSt) (v : Int32) : mf_at (ms_things σ v) = mf_at σ := rfl
theorem mG_at_letters (σ : MSt) (v : (Nat → Int32)) : mf_at (ms_letters σ v) = mf_at σ := rfl
theorem mG_at_lettersMany (σ : MSt) (v : Int32) : mf_at (ms_lettersMany σ v) = mf_at σ := rfl
theorem mG_at_openThing (σ : MSt) (v : (Nat → Int32)) : mf_at (ms_openThing σ v) = mf_at σ := rfl
theorem mG_at_openLeft (σ : MSt) (v : (Nat → Int64)) : mf_at (ms_openLeft σ v) = mf_at σ := rfl
theorem mG_at_open (σ : MSt) (v : Int32) : mf_at (ms_open σ v) = mf_at σ := rfl
theorem mG_at_fault (σ : MSt) (v : Int32) : mf_at (ms_fault σ v) = mf_at σ := rfl
theorem mG_at_fresh (σ : MSt) (v : (Nat → Int32)) : mf_at (ms_fresh σ v) = mf_at σ := rfl
theorem mG_at_freshMany (σ : MSt) (v : Int32) : mf_at (ms_freshMany σ v) = mf_at σ := rfl
theorem mG_at_figures (σ : MSt) (v : (Nat → Int32)) : mf_at (ms_figures σ v) = mf_at σ := rfl
theorem mG_fault_fault (σ : MSt) (v : Int32) : mf_fault (ms_fault σ v) = v := rfl
theorem mG_fault_thrown (σ : MSt) (v : Int32) : mf_fault (ms_thrown σ v) = mf_fault σ := rfl
theorem mG_fault_tape (σ : MSt) (v : (Nat → Int32)) : mf_fault (ms_tape σ v) = mf_fault σ := rfl
theorem mG_fault_taped (σ : MSt) (v : Int32) : mf_fault (ms_taped σ v) = mf_fault σ := rfl
theorem mG_fault_depth (σ : MSt) (v : Int32) : mf_fault (ms_depth σ v) = mf_fault σ := rfl
theorem mG_fault_room (σ : MSt) (v : Int32) : mf_fault (ms_room σ v) = mf_fault σ := rfl
theorem mG_fault_written (σ : MSt) (v : (Nat → Int32)) : mf_fault (ms_written σ v) = mf_fault σ := rfl
theorem mG_fault_writtenMany (σ : MSt) (v : Int32) : mf_fault (ms_writtenMany σ v) = mf_fault σ := rfl
theorem mG_fault_errorPlace (σ : MSt) (v : Int32) : mf_fault (ms_errorPlace σ v) = mf_fault σ := rfl
theorem mG_fault_sorts (σ : MSt) (v : (Nat → Int32)) : mf_fault (ms_sorts σ v) = mf_fault σ := rfl
theorem mG_fault_numbers (σ : MSt) (v : (Nat → Int64)) : mf_fault (ms_numbers σ v) = mf_fault σ := rfl
theorem mG_fault_places (σ : MSt) (v : (Nat → Int32)) : mf_fault (ms_places σ v) = mf_fault σ := rfl
theorem mG_fault_things (σ : MSt) (v : Int32) : mf_fault (ms_things σ v) = mf_fault σ := rfl
theorem mG_fault_letters (σ : MSt) (v : (Nat → Int32)) : mf_fault (ms_letters σ v) = mf_fault σ := rfl
theorem mG_fault_lettersMany (σ : MSt) (v : Int32) : mf_fault (ms_lettersMany σ v) = mf_fault σ := rfl
theorem mG_fault_openThing (σ : MSt) (v : (Nat → Int32)) : mf_fault (ms_openThing σ v) = mf_fault σ := rfl
theorem mG_fault_openLeft (σ : MSt) (v : (Nat → Int64)) : mf_fault (ms_openLeft σ v) = mf_fault σ := rfl
theorem mG_fault_open (σ : MSt) (v : Int32) : mf_fault (ms_open σ v) = mf_fault σ := rfl
theorem mG_fault_at (σ : MSt) (v : Int32) : mf_fault (ms_at σ v) = mf_fault σ := rfl
theorem mG_fault_fresh (σ : MSt) (v : (Nat → Int32)) : mf_fault (ms_fresh σ v) = mf_fault σ := rfl
theorem mG_fault_freshMany (σ : MSt) (v : Int32) : mf_fault (ms_freshMany σ v) = mf_fault σ := rfl
theorem mG_fault_figures (σ : MSt) (v : (Nat → Int32)) : mf_fault (ms_figures σ v) = mf_fault σ := rfl
theorem mG_fresh_fresh (σ : MSt) (v : (Nat → Int32)) : mf_fresh (ms_fresh σ v) = v := rfl
theorem mG_fresh_thrown (σ : MSt) (v : Int32) : mf_fresh (ms_thrown σ v) = mf_fresh σ := rfl
theorem mG_fresh_tape (σ : MSt) (v : (Nat → Int32)) : mf_fresh (ms_tape σ v) = mf_fresh σ := rfl
theorem mG_fresh_taped (σ : MSt) (v : Int32) : mf_fresh (ms_taped σ v) = mf_fresh σ := rfl
theorem mG_fresh_depth (σ : MSt) (v : Int32) : mf_fresh (ms_depth σ v) = mf_fresh σ := rfl
theorem mG_fresh_room (σ : MSt) (v : Int32) : mf_fresh (ms_room σ v) = mf_fresh σ := rfl
theorem mG_fresh_written (σ : MSt) (v : (Nat → Int32)) : mf_fresh (ms_written σ v) = mf_fresh σ := rfl
theorem mG_fresh_writtenMany (σ : MSt) (v : Int32) : mf_fresh (ms_writtenMany σ v) = mf_fresh σ := rfl
theorem mG_fresh_errorPlace (σ : MSt) (v : Int32) : mf_fresh (ms_errorPlace σ v) = mf_fresh σ := rfl
theorem mG_fresh_sorts (σ : MSt) (v : (Nat → Int32)) : mf_fresh (ms_sorts σ v) = mf_fresh σ := rfl
theorem mG_fresh_numbers (σ : MSt) (v : (Nat → Int64)) : mf_fresh (ms_numbers σ v) = mf_fresh σ := rfl
theorem mG_fresh_places (σ : MSt) (v : (Nat → Int32)) : mf_fresh (ms_places σ v) = mf_fresh σ := rfl
theorem mG_fresh_things (σ : MSt) (v : Int32) : mf_fresh (ms_things σ v) = mf_fresh σ := rfl
theorem mG_fresh_letters (σ : MSt) (v : (Nat → Int32)) : mf_fresh (ms_letters σ v) = mf_fresh σ := rfl
theorem mG_fresh_lettersMany (σ : MSt) (v : Int32) : mf_fresh (ms_lettersMany σ v) = mf_fresh σ := rfl
theorem mG_fresh_openThing (σ : MSt) (v : (Nat → Int32)) : mf_fresh (ms_openThing σ v) = mf_fresh σ := rfl
theorem mG_fresh_openLeft (σ : MSt) (v : (Nat → Int64)) : mf_fresh (ms_openLeft σ v) = mf_fresh σ := rfl
theorem mG_fresh_open (σ : MSt) (v : Int32) : mf_fresh (ms_open σ v) = mf_fresh σ := rfl
theorem mG_fresh_at (σ : MSt) (v : Int32) : mf_fresh (ms_at σ v) = mf_fresh σ := rfl
theorem mG_fresh_fault (σ : MSt) (v : Int32) : mf_fresh (ms_fault σ v) = mf_fresh σ := rfl
theorem mG_fresh_freshMany (σ : MSt) (v : Int32) : mf_fresh (ms_freshMany σ v) = mf_fresh σ := rfl
theorem mG_fresh_figures (σ : MSt) (v : (Nat → Int32)) : mf_fresh (ms_figures σ v) = mf_fresh σ := rfl
theorem mG_freshMany_freshMany (σ : MSt) (v : Int32) : mf_freshMany (ms_freshMany σ v) = v := rfl
theorem mG_freshMany_thrown (σ : MSt) (v : Int32) : mf_freshMany (ms_thrown σ v) = mf_freshMany σ := rfl
theorem mG_freshMany_tape (σ : MSt) (v : (Nat → Int32)) : mf_freshMany (ms_tape σ v) = mf_freshMany σ := rfl
theorem mG_freshMany_taped (σ : MSt) (v : Int32) : mf_freshMany (ms_taped σ v) = mf_freshMany σ := rfl
theorem mG_freshMany_depth (σ : MSt) (v : Int32) : mf_freshMany (ms_depth σ v) = mf_freshMany σ := rfl
theorem mG_freshMany_room (σ : MSt) (v : Int32) : mf_freshMany (ms_room σ v) = mf_freshMany σ := rfl
theorem mG_freshMany_written (σ : MSt) (v : (Nat → Int32)) : mf_freshMany (ms_written σ v) = mf_freshMany σ := rfl
theorem mG_freshMany_writtenMany (σ : MSt) (v : Int32) : mf_freshMany (ms_writtenMany σ v) = mf_freshMany σ := rfl
theorem mG_freshMany_errorPlace (σ : MSt) (v : Int32) : mf_freshMany (ms_errorPlace σ v) = mf_freshMany σ := rfl
theorem mG_freshMany_sorts (σ : MSt) (v : (Nat → Int32)) : mf_freshMany (ms_sorts σ v) = mf_freshMany σ := rfl
theorem mG_freshMany_numbers (σ : MSt) (v : (Nat → Int64)) : mf_freshMany (ms_numbers σ v) = mf_freshMany σ := rfl
theorem mG_freshMany_places (σ : MSt) (v : (Nat → Int32)) : mf_freshMany (ms_places σ v) = mf_freshMany σ := rfl
theorem mG_freshMany_things (σ : MSt) (v : Int32) : mf_freshMany (ms_things σ v) = mf_freshMany σ := rfl
theorem mG_freshMany_letters (σ : MSt) (v : (Nat → Int32)) : mf_freshMany (ms_letters σ v) = mf_freshMany σ := rfl
theorem mG_freshMany_lettersMany (σ : MSt) (v : Int32) : mf_freshMany (ms_lettersMany σ v) = mf_freshMany σ := rfl
theorem mG_freshMany_openThing (σ : MSt) (v : (Nat → Int32)) : mf_freshMany (ms_openThing σ v) = mf_freshMany σ := rfl
theorem mG_freshMany_openLeft (σ : MSt) (v : (Nat → Int64)) : mf_freshMany (ms_openLeft σ v) = mf_freshMany σ := rfl
theorem mG_freshMany_open (σ : MSt) (v : Int32) : mf_freshMany (ms_open σ v) = mf_freshMany σ := rfl
theorem mG_freshMany_at (σ : MSt) (v : Int32) : mf_freshMany (ms_at σ v) = mf_freshMany σ := rfl
theorem mG_freshMany_fault (σ : MSt) (v : Int32) : mf_freshMany (ms_fault σ v) = mf_freshMany σ := rfl
theorem mG_freshMany_fresh (σ : MSt) (v : (Nat → Int32)) : mf_freshMany (ms_fresh σ v) = mf_freshMany σ := rfl
theorem mG_freshMany_figures (σ : MSt) (v : (Nat → Int32)) : mf_freshMany (ms_figures σ v) = mf_freshMany σ := rfl
theorem mG_figures_figures (σ : MSt) (v : (Nat → Int32)) : mf_figures (ms_figures σ v) = v := rfl
theorem mG_figures_thrown (σ : MSt) (v : Int32) : mf_figures (ms_thrown σ v) = mf_figures σ := rfl
theorem mG_figures_tape (σ : MSt) (v : (Nat → Int32)) : mf_figures (ms_tape σ v) = mf_figures σ := rfl
theorem mG_figures_taped (σ : MSt) (v : Int32) : mf_figures (ms_taped σ v) = mf_figures σ := rfl
theorem mG_figures_depth (σ : MSt) (v : Int32) : mf_figures (ms_depth σ v) = mf_figures σ := rfl
theorem mG_figures_room (σ : MSt) (v : Int32) : mf_figures (ms_room σ v) = mf_figures σ := rfl
theorem mG_figures_written (σ : MSt) (v : (Nat → Int32)) : mf_figures (ms_written σ v) = mf_figures σ := rfl
theorem mG_figures_writtenMany (σ : MSt) (v : Int32) : mf_figures (ms_writtenMany σ v) = mf_figures σ := rfl
theorem mG_figures_errorPlace (σ : MSt) (v : Int32) : mf_figures (ms_errorPlace σ v) = mf_figures σ := rfl
theorem mG_figures_sorts (σ : MSt) (v : (Nat → Int32)) : mf_figures (ms_sorts σ v) = mf_figures σ := rfl
theorem mG_figures_numbers (σ : MSt) (v : (Nat → Int64)) : mf_figures (ms_numbers σ v) = mf_figures σ := rfl
theorem mG_figures_places (σ : MSt) (v : (Nat → Int32)) : mf_figures (ms_places σ v) = mf_figures σ := rfl
theorem mG_figures_things (σ : MSt) (v : Int32) : mf_figures (ms_things σ v) = mf_figures σ := rfl
theorem mG_figures_letters (σ : MSt) (v : (Nat → Int32)) : mf_figures (ms_letters σ v) = mf_figures σ := rfl
theorem mG_figures_lettersMany (σ : MSt) (v : Int32) : mf_figures (ms_lettersMany σ v) = mf_figures σ := rfl
theorem mG_figures_openThing (σ : MSt) (v : (Nat → Int32)) : mf_figures (ms_openThing σ v) = mf_figures σ := rfl
theorem mG_figures_openLeft (σ : MSt) (v : (Nat → Int64)) : mf_figures (ms_openLeft σ v) = mf_figures σ := rfl
theorem mG_figures_open (σ : MSt) (v : Int32) : mf_figures (ms_open σ v) = mf_figures σ := rfl
theorem mG_figures_at (σ : MSt) (v : Int32) : mf_figures (ms_at σ v) = mf_figures σ := rfl
theorem mG_figures_fault (σ : MSt) (v : Int32) : mf_figures (ms_fault σ v) = mf_figures σ := rfl
theorem mG_figures_fresh (σ : MSt) (v : (Nat → Int32)) : mf_figures (ms_fresh σ v) = mf_figures σ := rfl
theorem mG_figures_freshMany (σ : MSt) (v : Int32) : mf_figures (ms_freshMany σ v) = mf_figures σ := rfl
def mW (cB cI cJ : ClassId) (q : Nat → Nat) (σ : MSt) : va_W := [(q 0, .inr (4, [.int (mf_thrown σ), .ref (q 1), .int (mf_taped σ), .int (mf_depth σ), .int (mf_room σ), .ref (q 2), .int (mf_writtenMany σ), .int (mf_errorPlace σ), .ref (q 3), .ref (q 4), .ref (q 5), .int (mf_things σ), .ref (q 6), .int (mf_lettersMany σ), .ref (q 7), .ref (q 8), .int (mf_open σ), .int (mf_at σ), .int (mf_fault σ), .ref (q 9), .int (mf_freshMany σ), .ref (q 10)])), (q 1, .inl (cI, 4000, .inl (mf_tape σ))), (q 2, .inl (cB, 6000, .inl (mf_written σ))), (q 3, .inl (cI, 4200, .inl (mf_sorts σ))), (q 4, .inl (cJ, 4200, .inr (.inl (mf_numbers σ)))), (q 5, .inl (cI, 4200, .inl (mf_places σ))), (q 6, .inl (cB, 8200, .inl (mf_letters σ))), (q 7, .inl (cI, 64, .inl (mf_openThing σ))), (q 8, .inl (cJ, 64, .inr (.inl (mf_openLeft σ)))), (q 9, .inl (cB, 6000, .inl (mf_fresh σ))), (q 10, .inl (cI, 24, .inl (mf_figures σ)))]
abbrev JSt : Type := Int32 × Int32 × Int32 × Int32 × RSt × RSt
def jf_depthLimit (σ : JSt) : Int32 := σ.1
def jf_place (σ : JSt) : Int32 := σ.2.1
def jf_faultKind (σ : JSt) : Int32 := σ.2.2.1
def jf_faultPlace (σ : JSt) : Int32 := σ.2.2.2.1
def jf_tape (σ : JSt) : RSt := σ.2.2.2.2.1
def jf_target (σ : JSt) : RSt := σ.2.2.2.2.2
def js_depthLimit (σ : JSt) (v : Int32) : JSt := (v, σ.2)
def js_place (σ : JSt) (v : Int32) : JSt := (σ.1, v, σ.2.2)
def js_faultKind (σ : JSt) (v : Int32) : JSt := (σ.1, σ.2.1, v, σ.2.2.2)
def js_faultPlace (σ : JSt) (v : Int32) : JSt := (σ.1, σ.2.1, σ.2.2.1, v, σ.2.2.2.2)
def js_tape (σ : JSt) (v : RSt) : JSt := (σ.1, σ.2.1, σ.2.2.1, σ.2.2.2.1, v, σ.2.2.2.2.2)
def js_target (σ : JSt) (v : RSt) : JSt := (σ.1, σ.2.1, σ.2.2.1, σ.2.2.2.1, σ.2.2.2.2.1, v)
abbrev KSt : Type := Int32 × Int32 × Int32 × Int32 × Int32 × Int64 × RSt × RSt
def kf_depthLimit (σ : KSt) : Int32 := σ.1
def kf_place (σ : KSt) : Int32 := σ.2.1
def kf_faultKind (σ : KSt) : Int32 := σ.2.2.1
def kf_faultPlace (σ : KSt) : Int32 := σ.2.2.2.1
def kf_type (σ : KSt) : Int32 := σ.2.2.2.2.1
def kf_number (σ : KSt) : Int64 := σ.2.2.2.2.2.1
def kf_tape (σ : KSt) : RSt := σ.2.2.2.2.2.2.1
def kf_target (σ : KSt) : RSt := σ.2.2.2.2.2.2.2
def ks_depthLimit (σ : KSt) (v : Int32) : KSt := (v, σ.2)
def ks_place (σ : KSt) (v : Int32) : KSt := (σ.1, v, σ.2.2)
def ks_faultKind (σ : KSt) (v : Int32) : KSt := (σ.1, σ.2.1, v, σ.2.2.2)
def ks_faultPlace (σ : KSt) (v : Int32) : KSt := (σ.1, σ.2.1, σ.2.2.1, v, σ.2.2.2.2)
def ks_type (σ : KSt) (v : Int32) : KSt := (σ.1, σ.2.1, σ.2.2.1, σ.2.2.2.1, v, σ.2.2.2.2.2)
def ks_number (σ : KSt) (v : Int64) : KSt := (σ.1, σ.2.1, σ.2.2.1, σ.2.2.2.1, σ.2.2.2.2.1, v, σ.2.2.2.2.2.2)
def ks_tape (σ : KSt) (v : RSt) : KSt := (σ.1, σ.2.1, σ.2.2.1, σ.2.2.2.1, σ.2.2.2.2.1, σ.2.2.2.2.2.1, v, σ.2.2.2.2.2.2.2)
def ks_target (σ : KSt) (v : RSt) : KSt := (σ.1, σ.2.1, σ.2.2.1, σ.2.2.2.1, σ.2.2.2.2.1, σ.2.2.2.2.2.1, σ.2.2.2.2.2.2.1, v)
abbrev TSt : Type := Int32 × Int32 × Int32 × RSt × RSt × RSt
def tf_depth (σ : TSt) : Int32 := σ.1
def tf_room (σ : TSt) : Int32 := σ.2.1
def tf_faultPlace (σ : TSt) : Int32 := σ.2.2.1
def tf_tape (σ : TSt) : RSt := σ.2.2.2.1
def tf_written (σ : TSt) : RSt := σ.2.2.2.2.1
def tf_draft (σ : TSt) : RSt := σ.2.2.2.2.2
def ts_depth (σ : TSt) (v : Int32) : TSt := (v, σ.2)
def ts_room (σ : TSt) (v : Int32) : TSt := (σ.1, v, σ.2.2)
def ts_faultPlace (σ : TSt) (v : Int32) : TSt := (σ.1, σ.2.1, v, σ.2.2.2)
def ts_tape (σ : TSt) (v : RSt) : TSt := (σ.1, σ.2.1, σ.2.2.1, v, σ.2.2.2.2)
def ts_written (σ : TSt) (v : RSt) : TSt := (σ.1, σ.2.1, σ.2.2.1, σ.2.2.2.1, v, σ.2.2.2.2.2)
def ts_draft (σ : TSt) (v : RSt) : TSt := (σ.1, σ.2.1, σ.2.2.1, σ.2.2.2.1, σ.2.2.2.2.1, v)
theorem jG_depthLimit_depthLimit (σ : JSt) (v : Int32) : jf_depthLimit (js_depthLimit σ v) = v := rfl
theorem jG_depthLimit_place (σ : JSt) (v : Int32) : jf_depthLimit (js_place σ v) = jf_depthLimit σ := rfl
theorem jG_depthLimit_faultKind (σ : JSt) (v : Int32) : jf_depthLimit (js_faultKind σ v) = jf_depthLimit σ := rfl
theorem jG_depthLimit_faultPlace (σ : JSt) (v : Int32) : jf_depthLimit (js_faultPlace σ v) = jf_depthLimit σ := rfl
theorem jG_depthLimit_tape (σ : JSt) (v : RSt) : jf_depthLimit (js_tape σ v) = jf_depthLimit σ := rfl
theorem jG_depthLimit_target (σ : JSt) (v : RSt) : jf_depthLimit (js_target σ v) = jf_depthLimit σ := rfl
theorem jG_place_place (σ : JSt) (v : Int32) : jf_place (js_place σ v) = v := rfl
theorem jG_place_depthLimit (σ : JSt) (v : Int32) : jf_place (js_depthLimit σ v) = jf_place σ := rfl
theorem jG_place_faultKind (σ : JSt) (v : Int32) : jf_place (js_faultKind σ v) = jf_place σ := rfl
theorem jG_place_faultPlace (σ : JSt) (v : Int32) : jf_place (js_faultPlace σ v) = jf_place σ := rfl
theorem jG_place_tape (σ : JSt) (v : RSt) : jf_place (js_tape σ v) = jf_place σ := rfl
theorem jG_place_target (σ : JSt) (v : RSt) : jf_place (js_target σ v) = jf_place σ := rfl
theorem jG_faultKind_faultKind (σ : JSt) (v : Int32) : jf_faultKind (js_faultKind σ v) = v := rfl
theorem jG_faultKind_depthLimit (σ : JSt) (v : Int32) : jf_faultKind (js_depthLimit σ v) = jf_faultKind σ := rfl
theorem jG_faultKind_place (σ : JSt) (v : Int32) : jf_faultKind (js_place σ v) = jf_faultKind σ := rfl
theorem jG_faultKind_faultPlace (σ : JSt) (v : Int32) : jf_faultKind (js_faultPlace σ v) = jf_faultKind σ := rfl
theorem jG_faultKind_tape (σ : JSt) (v : RSt) : jf_faultKind (js_tape σ v) = jf_faultKind σ := rfl
theorem jG_faultKind_target (σ : JSt) (v : RSt) : jf_faultKind (js_target σ v) = jf_faultKind σ := rfl
theorem jG_faultPlace_faultPlace (σ : JSt) (v : Int32) : jf_faultPlace (js_faultPlace σ v) = v := rfl
theorem jG_faultPlace_depthLimit (σ : JSt) (v : Int32) : jf_faultPlace (js_depthLimit σ v) = jf_faultPlace σ := rfl
theorem jG_faultPlace_place (σ : JSt) (v : Int32) : jf_faultPlace (js_place σ v) = jf_faultPlace σ := rfl
theorem jG_faultPlace_faultKind (σ : JSt) (v : Int32) : jf_faultPlace (js_faultKind σ v) = jf_faultPlace σ := rfl
theorem jG_faultPlace_tape (σ : JSt) (v : RSt) : jf_faultPlace (js_tape σ v) = jf_faultPlace σ := rfl
theorem jG_faultPlace_target (σ : JSt) (v : RSt) : jf_faultPlace (js_target σ v) = jf_faultPlace σ := rfl
theorem jG_tape_tape (σ : JSt) (v : RSt) : jf_tape (js_tape σ v) = v := rfl
theorem jG_tape_depthLimit (σ : JSt) (v : Int32) : jf_tape (js_depthLimit σ v) = jf_tape σ := rfl
theorem jG_tape_place (σ : JSt) (v : Int32) : jf_tape (js_place σ v) = jf_tape σ := rfl
theorem jG_tape_faultKind (σ : JSt) (v : Int32) : jf_tape (js_faultKind σ v) = jf_tape σ := rfl
theorem jG_tape_faultPlace (σ : JSt) (v : Int32) : jf_tape (js_faultPlace σ v) = jf_tape σ := rfl
theorem jG_tape_target (σ : JSt) (v : RSt) : jf_tape (js_target σ v) = jf_tape σ := rfl
theorem jG_target_target (σ : JSt) (v : RSt) : jf_target (js_target σ v) = v := rfl
theorem jG_target_depthLimit (σ : JSt) (v : Int32) : jf_target (js_depthLimit σ v) = jf_target σ := rfl
theorem jG_target_place (σ : JSt) (v : Int32) : jf_target (js_place σ v) = jf_target σ := rfl
theorem jG_target_faultKind (σ : JSt) (v : Int32) : jf_target (js_faultKind σ v) = jf_target σ := rfl
theorem jG_target_faultPlace (σ : JSt) (v : Int32) : jf_target (js_faultPlace σ v) = jf_target σ := rfl
theorem jG_target_tape (σ : JSt) (v : RSt) : jf_target (js_tape σ v) = jf_target σ := rfl
theorem kG_depthLimit_depthLimit (σ : KSt) (v : Int32) : kf_depthLimit (ks_depthLimit σ v) = v := rfl
theorem kG_depthLimit_place (σ : KSt) (v : Int32) : kf_depthLimit (ks_place σ v) = kf_depthLimit σ := rfl
theorem kG_depthLimit_faultKind (σ : KSt) (v : Int32) : kf_depthLimit (ks_faultKind σ v) = kf_depthLimit σ := rfl
theorem kG_depthLimit_faultPlace (σ : KSt) (v : Int32) : kf_depthLimit (ks_faultPlace σ v) = kf_depthLimit σ := rfl
theorem kG_depthLimit_type (σ : KSt) (v : Int32) : kf_depthLimit (ks_type σ v) = kf_depthLimit σ := rfl
theorem kG_depthLimit_number (σ : KSt) (v : Int64) : kf_depthLimit (ks_number σ v) = kf_depthLimit σ := rfl
theorem kG_depthLimit_tape (σ : KSt) (v : RSt) : kf_depthLimit (ks_tape σ v) = kf_depthLimit σ := rfl
theorem kG_depthLimit_target (σ : KSt) (v : RSt) : kf_depthLimit (ks_target σ v) = kf_depthLimit σ := rfl
theorem kG_place_place (σ : KSt) (v : Int32) : kf_place (ks_place σ v) = v := rfl
theorem kG_place_depthLimit (σ : KSt) (v : Int32) : kf_place (ks_depthLimit σ v) = kf_place σ := rfl
theorem kG_place_faultKind (σ : KSt) (v : Int32) : kf_place (ks_faultKind σ v) = kf_place σ := rfl
theorem kG_place_faultPlace (σ : KSt) (v : Int32) : kf_place (ks_faultPlace σ v) = kf_place σ := rfl
theorem kG_place_type (σ : KSt) (v : Int32) : kf_place (ks_type σ v) = kf_place σ := rfl
theorem kG_place_number (σ : KSt) (v : Int64) : kf_place (ks_number σ v) = kf_place σ := rfl
theorem kG_place_tape (σ : KSt) (v : RSt) : kf_place (ks_tape σ v) = kf_place σ := rfl
theorem kG_place_target (σ : KSt) (v : RSt) : kf_place (ks_target σ v) = kf_place σ := rfl
theorem kG_faultKind_faultKind (σ : KSt) (v : Int32) : kf_faultKind (ks_faultKind σ v) = v := rfl
theorem kG_faultKind_depthLimit (σ : KSt) (v : Int32) : kf_faultKind (ks_depthLimit σ v) = kf_faultKind σ := rfl
theorem kG_faultKind_place (σ : KSt) (v : Int32) : kf_faultKind (ks_place σ v) = kf_faultKind σ := rfl
theorem kG_faultKind_faultPlace (σ : KSt) (v : Int32) : kf_faultKind (ks_faultPlace σ v) = kf_faultKind σ := rfl
theorem kG_faultKind_type (σ : KSt) (v : Int32) : kf_faultKind (ks_type σ v) = kf_faultKind σ := rfl
theorem kG_faultKind_number (σ : KSt) (v : Int64) : kf_faultKind (ks_number σ v) = kf_faultKind σ := rfl
theorem kG_faultKind_tape (σ : KSt) (v : RSt) : kf_faultKind (ks_tape σ v) = kf_faultKind σ := rfl
theorem kG_faultKind_target (σ : KSt) (v : RSt) : kf_faultKind (ks_target σ v) = kf_faultKind σ := rfl
theorem kG_faultPlace_faultPlace (σ : KSt) (v : Int32) : kf_faultPlace (ks_faultPlace σ v) = v := rfl
theorem kG_faultPlace_depthLimit (σ : KSt) (v : Int32) : kf_faultPlace (ks_depthLimit σ v) = kf_faultPlace σ := rfl
theorem kG_faultPlace_place (σ : KSt) (v : Int32) : kf_faultPlace (ks_place σ v) = kf_faultPlace σ := rfl
theorem kG_faultPlace_faultKind (σ : KSt) (v : Int32) : kf_faultPlace (ks_faultKind σ v) = kf_faultPlace σ := rfl
theorem kG_faultPlace_type (σ : KSt) (v : Int32) : kf_faultPlace (ks_type σ v) = kf_faultPlace σ := rfl
theorem kG_faultPlace_number (σ : KSt) (v : Int64) : kf_faultPlace (ks_number σ v) = kf_faultPlace σ := rfl
theorem kG_faultPlace_tape (σ : KSt) (v : RSt) : kf_faultPlace (ks_tape σ v) = kf_faultPlace σ := rfl
theorem kG_faultPlace_target (σ : KSt) (v : RSt) : kf_faultPlace (ks_target σ v) = kf_faultPlace σ := rfl
theorem kG_type_type (σ : KSt) (v : Int32) : kf_type (ks_type σ v) = v := rfl
theorem kG_type_depthLimit (σ : KSt) (v : Int32) : kf_type (ks_depthLimit σ v) = kf_type σ := rfl
theorem kG_type_place (σ : KSt) (v : Int32) : kf_type (ks_place σ v) = kf_type σ := rfl
theorem kG_type_faultKind (σ : KSt) (v : Int32) : kf_type (ks_faultKind σ v) = kf_type σ := rfl
theorem kG_type_faultPlace (σ : KSt) (v : Int32) : kf_type (ks_faultPlace σ v) = kf_type σ := rfl
theorem kG_type_number (σ : KSt) (v : Int64) : kf_type (ks_number σ v) = kf_type σ := rfl
theorem kG_type_tape (σ : KSt) (v : RSt) : kf_type (ks_tape σ v) = kf_type σ := rfl
theorem kG_type_target (σ : KSt) (v : RSt) : kf_type (ks_target σ v) = kf_type σ := rfl
theorem kG_number_number (σ : KSt) (v : Int64) : kf_number (ks_number σ v) = v := rfl
theorem kG_number_depthLimit (σ : KSt) (v : Int32) : kf_number (ks_depthLimit σ v) = kf_number σ := rfl
theorem kG_number_place (σ : KSt) (v : Int32) : kf_number (ks_place σ v) = kf_number σ := rfl
theorem kG_number_faultKind (σ : KSt) (v : Int32) : kf_number (ks_faultKind σ v) = kf_number σ := rfl
theorem kG_number_faultPlace (σ : KSt) (v : Int32) : kf_number (ks_faultPlace σ v) = kf_number σ := rfl
theorem kG_number_type (σ : KSt) (v : Int32) : kf_number (ks_type σ v) = kf_number σ := rfl
theorem kG_number_tape (σ : KSt) (v : RSt) : kf_number (ks_tape σ v) = kf_number σ := rfl
theorem kG_number_target (σ : KSt) (v : RSt) : kf_number (ks_target σ v) = kf_number σ := rfl
theorem kG_tape_tape (σ : KSt) (v : RSt) : kf_tape (ks_tape σ v) = v := rfl
theorem kG_tape_depthLimit (σ : KSt) (v : Int32) : kf_tape (ks_depthLimit σ v) = kf_tape σ := rfl
theorem kG_tape_place (σ : KSt) (v : Int32) : kf_tape (ks_place σ v) = kf_tape σ := rfl
theorem kG_tape_faultKind (σ : KSt) (v : Int32) : kf_tape (ks_faultKind σ v) = kf_tape σ := rfl
theorem kG_tape_faultPlace (σ : KSt) (v : Int32) : kf_tape (ks_faultPlace σ v) = kf_tape σ := rfl
theorem kG_tape_type (σ : KSt) (v : Int32) : kf_tape (ks_type σ v) = kf_tape σ := rfl
theorem kG_tape_number (σ : KSt) (v : Int64) : kf_tape (ks_number σ v) = kf_tape σ := rfl
theorem kG_tape_target (σ : KSt) (v : RSt) : kf_tape (ks_target σ v) = kf_tape σ := rfl
theorem kG_target_target (σ : KSt) (v : RSt) : kf_target (ks_target σ v) = v := rfl
theorem kG_target_depthLimit (σ : KSt) (v : Int32) : kf_target (ks_depthLimit σ v) = kf_target σ := rfl
theorem kG_target_place (σ : KSt) (v : Int32) : kf_target (ks_place σ v) = kf_target σ := rfl
theorem kG_target_faultKind (σ : KSt) (v : Int32) : kf_target (ks_faultKind σ v) = kf_target σ := rfl
theorem kG_target_faultPlace (σ : KSt) (v : Int32) : kf_target (ks_faultPlace σ v) = kf_target σ := rfl
theorem kG_target_type (σ : KSt) (v : Int32) : kf_target (ks_type σ v) = kf_target σ := rfl
theorem kG_target_number (σ : KSt) (v : Int64) : kf_target (ks_number σ v) = kf_target σ := rfl
theorem kG_target_tape (σ : KSt) (v : RSt) : kf_target (ks_tape σ v) = kf_target σ := rfl
theorem tG_depth_depth (σ : TSt) (v : Int32) : tf_depth (ts_depth σ v) = v := rfl
theorem tG_depth_room (σ : TSt) (v : Int32) : tf_depth (ts_room σ v) = tf_depth σ := rfl
theorem tG_depth_faultPlace (σ : TSt) (v : Int32) : tf_depth (ts_faultPlace σ v) = tf_depth σ := rfl
theorem tG_depth_tape (σ : TSt) (v : RSt) : tf_depth (ts_tape σ v) = tf_depth σ := rfl
theorem tG_depth_written (σ : TSt) (v : RSt) : tf_depth (ts_written σ v) = tf_depth σ := rfl
theorem tG_depth_draft (σ : TSt) (v : RSt) : tf_depth (ts_draft σ v) = tf_depth σ := rfl
theorem tG_room_room (σ : TSt) (v : Int32) : tf_room (ts_room σ v) = v := rfl
theorem tG_room_depth (σ : TSt) (v : Int32) : tf_room (ts_depth σ v) = tf_room σ := rfl
theorem tG_room_faultPlace (σ : TSt) (v : Int32) : tf_room (ts_faultPlace σ v) = tf_room σ := rfl
theorem tG_room_tape (σ : TSt) (v : RSt) : tf_room (ts_tape σ v) = tf_room σ := rfl
theorem tG_room_written (σ : TSt) (v : RSt) : tf_room (ts_written σ v) = tf_room σ := rfl
theorem tG_room_draft (σ : TSt) (v : RSt) : tf_room (ts_draft σ v) = tf_room σ := rfl
theorem tG_faultPlace_faultPlace (σ : TSt) (v : Int32) : tf_faultPlace (ts_faultPlace σ v) = v := rfl
theorem tG_faultPlace_depth (σ : TSt) (v : Int32) : tf_faultPlace (ts_depth σ v) = tf_faultPlace σ := rfl
theorem tG_faultPlace_room (σ : TSt) (v : Int32) : tf_faultPlace (ts_room σ v) = tf_faultPlace σ := rfl
theorem tG_faultPlace_tape (σ : TSt) (v : RSt) : tf_faultPlace (ts_tape σ v) = tf_faultPlace σ := rfl
theorem tG_faultPlace_written (σ : TSt) (v : RSt) : tf_faultPlace (ts_written σ v) = tf_faultPlace σ := rfl
theorem tG_faultPlace_draft (σ : TSt) (v : RSt) : tf_faultPlace (ts_draft σ v) = tf_faultPlace σ := rfl
theorem tG_tape_tape (σ : TSt) (v : RSt) : tf_tape (ts_tape σ v) = v := rfl
theorem tG_tape_depth (σ : TSt) (v : Int32) : tf_tape (ts_depth σ v) = tf_tape σ := rfl
theorem tG_tape_room (σ : TSt) (v : Int32) : tf_tape (ts_room σ v) = tf_tape σ := rfl
theorem tG_tape_faultPlace (σ : TSt) (v : Int32) : tf_tape (ts_faultPlace σ v) = tf_tape σ := rfl
theorem tG_tape_written (σ : TSt) (v : RSt) : tf_tape (ts_written σ v) = tf_tape σ := rfl
theorem tG_tape_draft (σ : TSt) (v : RSt) : tf_tape (ts_draft σ v) = tf_tape σ := rfl
theorem tG_written_written (σ : TSt) (v : RSt) : tf_written (ts_written σ v) = v := rfl
theorem tG_written_depth (σ : TSt) (v : Int32) : tf_written (ts_depth σ v) = tf_written σ := rfl
theorem tG_written_room (σ : TSt) (v : Int32) : tf_written (ts_room σ v) = tf_written σ := rfl
theorem tG_written_faultPlace (σ : TSt) (v : Int32) : tf_written (ts_faultPlace σ v) = tf_written σ := rfl
theorem tG_written_tape (σ : TSt) (v : RSt) : tf_written (ts_tape σ v) = tf_written σ := rfl
theorem tG_written_draft (σ : TSt) (v : RSt) : tf_written (ts_draft σ v) = tf_written σ := rfl
theorem tG_draft_draft (σ : TSt) (v : RSt) : tf_draft (ts_draft σ v) = v := rfl
theorem tG_draft_depth (σ : TSt) (v : Int32) : tf_draft (ts_depth σ v) = tf_draft σ := rfl
theorem tG_draft_room (σ : TSt) (v : Int32) : tf_draft (ts_room σ v) = tf_draft σ := rfl
theorem tG_draft_faultPlace (σ : TSt) (v : Int32) : tf_draft (ts_faultPlace σ v) = tf_draft σ := rfl
theorem tG_draft_tape (σ : TSt) (v : RSt) : tf_draft (ts_tape σ v) = tf_draft σ := rfl
theorem tG_draft_written (σ : TSt) (v : RSt) : tf_draft (ts_written σ v) = tf_draft σ := rfl
def jW (cB : ClassId) (q : Nat → Nat) (σ : JSt) : va_W := [(q 0, .inr (1, [.ref (q 1), .ref (q 3), .int (jf_depthLimit σ), .int (jf_place σ), .int (jf_faultKind σ), .int (jf_faultPlace σ)])), (q 1, .inr (2, [.ref (q 2), .int (rf_sz (jf_tape σ))])), (q 2, .inl (cB, 4000, .inl (rf_f (jf_tape σ)))), (q 3, .inr (2, [.ref (q 4), .int (rf_sz (jf_target σ))])), (q 4, .inl (cB, 6000, .inl (rf_f (jf_target σ))))]
def kW (cB : ClassId) (q : Nat → Nat) (σ : KSt) : va_W := [(q 0, .inr (0, [.ref (q 1), .ref (q 3), .int (kf_depthLimit σ), .int (kf_place σ), .int (kf_faultKind σ), .int (kf_faultPlace σ), .int (kf_type σ), .long (kf_number σ)])), (q 1, .inr (2, [.ref (q 2), .int (rf_sz (kf_tape σ))])), (q 2, .inl (cB, 4000, .inl (rf_f (kf_tape σ)))), (q 3, .inr (2, [.ref (q 4), .int (rf_sz (kf_target σ))])), (q 4, .inl (cB, 6000, .inl (rf_f (kf_target σ))))]
def tW (cB : ClassId) (q : Nat → Nat) (σ : TSt) : va_W := [(q 0, .inr (3, [.ref (q 1), .ref (q 3), .ref (q 5), .int (tf_depth σ), .int (tf_room σ), .int (tf_faultPlace σ)])), (q 1, .inr (2, [.ref (q 2), .int (rf_sz (tf_tape σ))])), (q 2, .inl (cB, 4000, .inl (rf_f (tf_tape σ)))), (q 3, .inr (2, [.ref (q 4), .int (rf_sz (tf_written σ))])), (q 4, .inl (cB, 6000, .inl (rf_f (tf_written σ)))), (q 5, .inr (2, [.ref (q 6), .int (rf_sz (tf_draft σ))])), (q 6, .inl (cB, 6000, .inl (rf_f (tf_draft σ))))]
theorem gm_X5_thrown {p : Program} {l : Launch} {e : Env} {R : Room} {s : State} {m : MethodId} {args : Array Value} {below : List Frame} {meth : Method} {c : Code} {H : Heap} {locs : List Loc} {cells slots : Nat} {Q : State → Prop} {D : va_G} {aK aV : Nat → Nat} {A : Nat → Prop} {cc : ByteArray} {nL : Nat} {ret : Option FieldType} {pc : Nat} {ls : Array Slot} {rest : List Value} {cB cI cJ : ClassId} {q : Nat → Nat} {σ : MSt} {v : Int32} (G : CX p s m args meth c D (gTy cB cI cJ) aK aV A RX5 cc nL ret) (hP : va_P D vwCl (mW cB cI cJ q σ) H) (hdg : decode cc pc = .ok (.getfield 52, 3)) (hv : mf_thrown σ = v) (k : W p l e R s m args below meth c H locs cells slots Q (F0 m (pc + 3) ls (.int v :: rest))) : W p l e R s m args below meth c H locs cells slots Q (F0 m pc ls (.ref (q 0) :: rest)) := by
  obtain ⟨hx, hb, hml, hown, hT, hrt, hlk, hK, hA, hG, hE⟩ := G
  subst hv
  exact va_get (ci := 4) (v := .int (mf_thrown σ)) (C := RX5) (T := TX5) (N := 22) hx hb hT i_X5 hown hK hP 0 rfl rfl 0 (by decide) (hT _ wfl_X5_52) (fun _ h9 => h9) rfl hdg k
theorem pm_X5_thrown {p : Program} {l : Launch} {e : Env} {R : Room} {s : State} {m : MethodId} {args : Array Value} {below : List Frame} {meth : Method} {c : Code} {H : Heap} {locs : List Loc} {cells slots : Nat} {Q : State → Prop} {D : va_G} {aK aV : Nat → Nat} {A : Nat → Prop} {cc : ByteArray} {nL : Nat} {ret : Option FieldType} {pc : Nat} {ls : Array Slot} {rest : List Value} {cB cI cJ : ClassId} {q : Nat → Nat} {σ : MSt} {v : Int32} (G : CX p s m args meth c D (gTy cB cI cJ) aK aV A RX5 cc nL ret) (hP : va_P D vwCl (mW cB cI cJ q σ) H) (hD : va_D A (mW cB cI cJ q σ)) (hS : va_S A s.heap H locs) (hdg : decode cc pc = .ok (.putfield 52, 3)) (k : ∀ (H1 : Heap) (locs1 : List Loc), va_P D vwCl (mW cB cI cJ q (ms_thrown σ v)) H1 → va_D A (mW cB cI cJ q (ms_thrown σ v)) → va_S A s.heap H1 locs1 → W p l e R s m args below meth c H1 locs1 cells slots Q (F0 m (pc + 3) ls rest)) : W p l e R s m args below meth c H locs cells slots Q (F0 m pc ls (.int v :: .ref (q 0) :: rest)) := by
  obtain ⟨hx, hb, hml, hown, hT, hrt, hlk, hK, hA, hG, hE⟩ := G
  exact va_put (ci := 4) (v := .int v) (ty := .int) (C := RX5) (T := TX5) (N := 22) hx hb hT i_X5 tyX5 tyX5_ok nmX5 hown hK hP hD hS 0 rfl rfl 0 (by decide) (hT _ wfl_X5_52) (fun _ h9 => h9) rfl (by decide +kernel) rfl rfl (Nat.le_of_ble_eq_true rfl) hdg k
theorem gm_X5_tape {p : Program} {l : Launch} {e : Env} {R : Room} {s : State} {m : MethodId} {args : Array Value} {below : List Frame} {meth : Method} {c : Code} {H : Heap} {locs : List Loc} {cells slots : Nat} {Q : State → Prop} {D : va_G} {aK aV : Nat → Nat} {A : Nat → Prop} {cc : ByteArray} {nL : Nat} {ret : Option FieldType} {pc : Nat} {ls : Array Slot} {rest : List Value} {cB cI cJ : ClassId} {q : Nat → Nat} {σ : MSt} (G : CX p s m args meth c D (gTy cB cI cJ) aK aV A RX5 cc nL ret) (hP : va_P D vwCl (mW cB cI cJ q σ) H) (hdg : decode cc pc = .ok (.getfield 7, 3)) (k : W p l e R s m args below meth c H locs cells slots Q (F0 m (pc + 3) ls (.ref (q 1) :: rest))) : W p l e R s m args below meth c H locs cells slots Q (F0 m pc ls (.ref (q 0) :: rest)) := by
  obtain ⟨hx, hb, hml, hown, hT, hrt, hlk, hK, hA, hG, hE⟩ := G
  exact va_get (ci := 4) (v := .ref (q 1)) (C := RX5) (T := TX5) (N := 22) hx hb hT i_X5 hown hK hP 0 rfl rfl 1 (by decide) (hT _ wfl_X5_7) (fun _ h9 => h9) rfl hdg k
theorem lm_tape {p : Program} {l : Launch} {e : Env} {R : Room} {s : State} {m : MethodId} {args : Array Value} {below : List Frame} {meth : Method} {c : Code} {H : Heap} {locs : List Loc} {cells slots : Nat} {Q : State → Prop} {D : va_G} {aK aV : Nat → Nat} {A : Nat → Prop} {cc : ByteArray} {nL : Nat} {ret : Option FieldType} {pc : Nat} {ls : Array Slot} {rest : List Value} {cB cI cJ : ClassId} {q : Nat → Nat} {σ : MSt} {i : Int32} {f : Nat → Int32} (G : CX p s m args meth c D (gTy cB cI cJ) aK aV A RX5 cc nL ret) (hP : va_P D vwCl (mW cB cI cJ q σ) H) (hin : vp_in i (4000)) (hdg : decode cc pc = .ok (.iaload, 1)) (h0 : mf_tape σ = f) (k : W p l e R s m args below meth c H locs cells slots Q (F0 m (pc + 1) ls (.int (f i.toNatClampNeg) :: rest))) : W p l e R s m args below meth c H locs cells slots Q (F0 m pc ls (.int i :: .ref (q 1) :: rest)) := by
  obtain ⟨hx, hb, hml, hown, hT, hrt, hlk, hK, hA, hG, hE⟩ := G
  subst h0
  exact va_iald hx hb hK hP 1 1 rfl rfl hin hdg k
theorem sm_tape {p : Program} {l : Launch} {e : Env} {R : Room} {s : State} {m : MethodId} {args : Array Value} {below : List Frame} {meth : Method} {c : Code} {H : Heap} {locs : List Loc} {cells slots : Nat} {Q : State → Prop} {D : va_G} {aK aV : Nat → Nat} {A : Nat → Prop} {cc : ByteArray} {nL : Nat} {ret : Option FieldType} {pc : Nat} {ls : Array Slot} {rest : List Value} {cB cI cJ : ClassId} {q : Nat → Nat} {σ : MSt} {i : Int32} {x : Int32} {f : Nat → Int32} (G : CX p s m args meth c D (gTy cB cI cJ) aK aV A RX5 cc nL ret) (hP : va_P D vwCl (mW cB cI cJ q σ) H) (hD : va_D A (mW cB cI cJ q σ)) (hS : va_S A s.heap H locs) (hin : vp_in i (4000)) (hdg : decode cc pc = .ok (.iastore, 1)) (h0 : mf_tape σ = f) (k : ∀ (H1 : Heap) (locs1 : List Loc), va_P D vwCl (mW cB cI cJ q (ms_tape σ (upd f i.toNatClampNeg x))) H1 → va_D A (mW cB cI cJ q (ms_tape σ (upd f i.toNatClampNeg x))) → va_S A s.heap H1 locs1 → W p l e R s m args below meth c H1 locs1 cells slots Q (F0 m (pc + 1) ls rest)) : W p l e R s m args below meth c H locs cells slots Q (F0 m pc ls (.int x :: .int i :: .ref (q 1) :: rest)) := by
  obtain ⟨hx, hb, hml, hown, hT, hrt, hlk, hK, hA, hG, hE⟩ := G
  subst h0
  exact va_iast hx hb hK hP hD hS 1 1 rfl rfl hin hdg k
theorem nm_tape {p : Program} {l : Launch} {e : Env} {R : Room} {s : State} {m : MethodId} {args : Array Value} {below : List Frame} {meth : Method} {c : Code} {H : Heap} {locs : List Loc} {cells slots : Nat} {Q : State → Prop} {D : va_G} {aK aV : Nat → Nat} {A : Nat → Prop} {cc : ByteArray} {nL : Nat} {ret : Option FieldType} {pc : Nat} {ls : Array Slot} {rest : List Value} {cB cI cJ : ClassId} {q : Nat → Nat} {σ : MSt} {v : Int32} (G : CX p s m args meth c D (gTy cB cI cJ) aK aV A RX5 cc nL ret) (hP : va_P D vwCl (mW cB cI cJ q σ) H) (hv : Int32.ofNat (4000) = v) (hdg : decode cc pc = .ok (.arraylength, 1)) (k : W p l e R s m args below meth c H locs cells slots Q (F0 m (pc + 1) ls (.int v :: rest))) : W p l e R s m args below meth c H locs cells slots Q (F0 m pc ls (.ref (q 1) :: rest)) := by
  obtain ⟨hx, hb, hml, hown, hT, hrt, hlk, hK, hA, hG, hE⟩ := G
  exact va_alen hx hb hK hP 1 1 rfl rfl hv hdg k
theorem gm_X5_taped {p : Program} {l : Launch} {e : Env} {R : Room} {s : State} {m : MethodId} {args : Array Value} {below : List Frame} {meth : Method} {c : Code} {H : Heap} {locs : List Loc} {cells slots : Nat} {Q : State → Prop} {D : va_G} {aK aV : Nat → Nat} {A : Nat → Prop} {cc : ByteArray} {nL : Nat} {ret : Option FieldType} {pc : Nat} {ls : Array Slot} {rest : List Value} {cB cI cJ : ClassId} {q : Nat → Nat} {σ : MSt} {v : Int32} (G : CX p s m args meth c D (gTy cB cI cJ) aK aV A RX5 cc nL ret) (hP : va_P D vwCl (mW cB cI cJ q σ) H) (hdg : decode cc pc = .ok (.getfield 55, 3)) (hv : mf_taped σ = v) (k : W p l e R s m args below meth c H locs cells slots Q (F0 m (pc + 3) ls (.int v :: rest))) : W p l e R s m args below meth c H locs cells slots Q (F0 m pc ls (.ref (q 0) :: rest)) := by
  obtain ⟨hx, hb, hml, hown, hT, hrt, hlk, hK, hA, hG, hE⟩ := G
  subst hv
  exact va_get (ci := 4) (v := .int (mf_taped σ)) (C := RX5) (T := TX5) (N := 22) hx hb hT i_X5 hown hK hP 0 rfl rfl 2 (by decide) (hT _ wfl_X5_55) (fun _ h9 => h9) rfl hdg k
theorem pm_X5_taped {p : Program} {l : Launch} {e : Env} {R : Room} {s : State} {m : MethodId} {args : Array Value} {below : List Frame} {meth : Method} {c : Code} {H : Heap} {locs : List Loc} {cells slots : Nat} {Q : State → Prop} {D : va_G} {aK aV : Nat → Nat} {A : Nat → Prop} {cc : ByteArray} {nL : Nat} {ret : Option FieldType} {pc : Nat} {ls : Array Slot} {rest : List Value} {cB cI cJ : ClassId} {q : Nat → Nat} {σ : MSt} {v : Int32} (G : CX p s m args meth c D (gTy cB cI cJ) aK aV A RX5 cc nL ret) (hP : va_P D vwCl (mW cB cI cJ q σ) H) (hD : va_D A (mW cB cI cJ q σ)) (hS : va_S A s.heap H locs) (hdg : decode cc pc = .ok (.putfield 55, 3)) (k : ∀ (H1 : Heap) (locs1 : List Loc), va_P D vwCl (mW cB cI cJ q (ms_taped σ v)) H1 → va_D A (mW cB cI cJ q (ms_taped σ v)) → va_S A s.heap H1 locs1 → W p l e R s m args below meth c H1 locs1 cells slots Q (F0 m (pc + 3) ls rest)) : W p l e R s m args below meth c H locs cells slots Q (F0 m pc ls (.int v :: .ref (q 0) :: rest)) := by
  obtain ⟨hx, hb, hml, hown, hT, hrt, hlk, hK, hA, hG, hE⟩ := G
  exact va_put (ci := 4) (v := .int v) (ty := .int) (C := RX5) (T := TX5) (N := 22) hx hb hT i_X5 tyX5 tyX5_ok nmX5 hown hK hP hD hS 0 rfl rfl 2 (by decide) (hT _ wfl_X5_55) (fun _ h9 => h9) rfl (by decide +kernel) rfl rfl (Nat.le_of_ble_eq_true rfl) hdg k
theorem gm_X5_depth {p : Program} {l : Launch} {e : Env} {R : Room} {s : State} {m : MethodId} {args : Array Value} {below : List Frame} {meth : Method} {c : Code} {H : Heap} {locs : List Loc} {cells slots : Nat} {Q : State → Prop} {D : va_G} {aK aV : Nat → Nat} {A : Nat → Prop} {cc : ByteArray} {nL : Nat} {ret : Option FieldType} {pc : Nat} {ls : Array Slot} {rest : List Value} {cB cI cJ : ClassId} {q : Nat → Nat} {σ : MSt} {v : Int32} (G : CX p s m args meth c D (gTy cB cI cJ) aK aV A RX5 cc nL ret) (hP : va_P D vwCl (mW cB cI cJ q σ) H) (hdg : decode cc pc = .ok (.getfield 13, 3)) (hv : mf_depth σ = v) (k : W p l e R s m args below meth c H locs cells slots Q (F0 m (pc + 3) ls (.int v :: rest))) : W p l e R s m args below meth c H locs cells slots Q (F0 m pc ls (.ref (q 0) :: rest)) := by
  obtain ⟨hx, hb, hml, hown, hT, hrt, hlk, hK, hA, hG, hE⟩ := G
  subst hv
  exact va_get (ci := 4) (v := .int (mf_depth σ)) (C := RX5) (T := TX5) (N := 22) hx hb hT i_X5 hown hK hP 0 rfl rfl 3 (by decide) (hT _ wfl_X5_13) (fun _ h9 => h9) rfl hdg k
theorem pm_X5_depth {p : Program} {l : Launch} {e : Env} {R : Room} {s : State} {m : MethodId} {args : Array Value} {below : List Frame} {meth : Method} {c : Code} {H : Heap} {locs : List Loc} {cells slots : Nat} {Q : State → Prop} {D : va_G} {aK aV : Nat → Nat} {A : Nat → Prop} {cc : ByteArray} {nL : Nat} {ret : Option FieldType} {pc : Nat} {ls : Array Slot} {rest : List Value} {cB cI cJ : ClassId} {q : Nat → Nat} {σ : MSt} {v : Int32} (G : CX p s m args meth c D (gTy cB cI cJ) aK aV A RX5 cc nL ret) (hP : va_P D vwCl (mW cB cI cJ q σ) H) (hD : va_D A (mW cB cI cJ q σ)) (hS : va_S A s.heap H locs) (hdg : decode cc pc = .ok (.putfield 13, 3)) (k : ∀ (H1 : Heap) (locs1 : List Loc), va_P D vwCl (mW cB cI cJ q (ms_depth σ v)) H1 → va_D A (mW cB cI cJ q (ms_depth σ v)) → va_S A s.heap H1 locs1 → W p l e R s m args below meth c H1 locs1 cells slots Q (F0 m (pc + 3) ls rest)) : W p l e R s m args below meth c H locs cells slots Q (F0 m pc ls (.int v :: .ref (q 0) :: rest)) := by
  obtain ⟨hx, hb, hml, hown, hT, hrt, hlk, hK, hA, hG, hE⟩ := G
  exact va_put (ci := 4) (v := .int v) (ty := .int) (C := RX5) (T := TX5) (N := 22) hx hb hT i_X5 tyX5 tyX5_ok nmX5 hown hK hP hD hS 0 rfl rfl 3 (by decide) (hT _ wfl_X5_13) (fun _ h9 => h9) rfl (by decide +kernel) rfl rfl (Nat.le_of_ble_eq_true rfl) hdg k
theorem gm_X5_room {p : Program} {l : Launch} {e : Env} {R : Room} {s : State} {m : MethodId} {args : Array Value} {below : List Frame} {meth : Method} {c : Code} {H : Heap} {locs : List Loc} {cells slots : Nat} {Q : State → Prop} {D : va_G} {aK aV : Nat → Nat} {A : Nat → Prop} {cc : ByteArray} {nL : Nat} {ret : Option FieldType} {pc : Nat} {ls : Array Slot} {rest : List Value} {cB cI cJ : ClassId} {q : Nat → Nat} {σ : MSt} {v : Int32} (G : CX p s m args meth c D (gTy cB cI cJ) aK aV A RX5 cc nL ret) (hP : va_P D vwCl (mW cB cI cJ q σ) H) (hdg : decode cc pc = .ok (.getfield 17, 3)) (hv : mf_room σ = v) (k : W p l e R s m args below meth c H locs cells slots Q (F0 m (pc + 3) ls (.int v :: rest))) : W p l e R s m args below meth c H locs cells slots Q (F0 m pc ls (.ref (q 0) :: rest)) := by
  obtain ⟨hx, hb, hml, hown, hT, hrt, hlk, hK, hA, hG, hE⟩ := G
  subst hv
  exact va_get (ci := 4) (v := .int (mf_room σ)) (C := RX5) (T := TX5) (N := 22) hx hb hT i_X5 hown hK hP 0 rfl rfl 4 (by decide) (hT _ wfl_X5_17) (fun _ h9 => h9) rfl hdg k
theorem pm_X5_room {p : Program} {l : Launch} {e : Env} {R : Room} {s : State} {m : MethodId} {args : Array Value} {below : List Frame} {meth : Method} {c : Code} {H : Heap} {locs : List Loc} {cells slots : Nat} {Q : State → Prop} {D : va_G} {aK aV : Nat → Nat} {A : Nat → Prop} {cc : ByteArray} {nL : Nat} {ret : Option FieldType} {pc : Nat} {ls : Array Slot} {rest : List Value} {cB cI cJ : ClassId} {q : Nat → Nat} {σ : MSt} {v : Int32} (G : CX p s m args meth c D (gTy cB cI cJ) aK aV A RX5 cc nL ret) (hP : va_P D vwCl (mW cB cI cJ q σ) H) (hD : va_D A (mW cB cI cJ q σ)) (hS : va_S A s.heap H locs) (hdg : decode cc pc = .ok (.putfield 17, 3)) (k : ∀ (H1 : Heap) (locs1 : List Loc), va_P D vwCl (mW cB cI cJ q (ms_room σ v)) H1 → va_D A (mW cB cI cJ q (ms_room σ v)) → va_S A s.heap H1 locs1 → W p l e R s m args below meth c H1 locs1 cells slots Q (F0 m (pc + 3) ls rest)) : W p l e R s m args below meth c H locs cells slots Q (F0 m pc ls (.int v :: .ref (q 0) :: rest)) := by
  obtain ⟨hx, hb, hml, hown, hT, hrt, hlk, hK, hA, hG, hE⟩ := G
  exact va_put (ci := 4) (v := .int v) (ty := .int) (C := RX5) (T := TX5) (N := 22) hx hb hT i_X5 tyX5 tyX5_ok nmX5 hown hK hP hD hS 0 rfl rfl 4 (by decide) (hT _ wfl_X5_17) (fun _ h9 => h9) rfl (by decide +kernel) rfl rfl (Nat.le_of_ble_eq_true rfl) hdg k
theorem gm_X5_written {p : Program} {l : Launch} {e : Env} {R : Room} {s : State} {m : MethodId} {args : Array Value} {below : List Frame} {meth : Method} {c : Code} {H : Heap} {locs : List Loc} {cells slots : Nat} {Q : State → Prop} {D : va_G} {aK aV : Nat → Nat} {A : Nat → Prop} {cc : ByteArray} {nL : Nat} {ret : Option FieldType} {pc : Nat} {ls : Array Slot} {rest : List Value} {cB cI cJ : ClassId} {q : Nat → Nat} {σ : MSt} (G : CX p s m args meth c D (gTy cB cI cJ) aK aV A RX5 cc nL ret) (hP : va_P D vwCl (mW cB cI cJ q σ) H) (hdg : decode cc pc = .ok (.getfield 20, 3)) (k : W p l e R s m args below meth c H locs cells slots Q (F0 m (pc + 3) ls (.ref (q 2) :: rest))) : W p l e R s m args below meth c H locs cells slots Q (F0 m pc ls (.ref (q 0) :: rest)) := by
  obtain ⟨hx, hb, hml, hown, hT, hrt, hlk, hK, hA, hG, hE⟩ := G
  exact va_get (ci := 4) (v := .ref (q 2)) (C := RX5) (T := TX5) (N := 22) hx hb hT i_X5 hown hK hP 0 rfl rfl 5 (by decide) (hT _ wfl_X5_20) (fun _ h9 => h9) rfl hdg k
theorem lm_written {p : Program} {l : Launch} {e : Env} {R : Room} {s : State} {m : MethodId} {args : Array Value} {below : List Frame} {meth : Method} {c : Code} {H : Heap} {locs : List Loc} {cells slots : Nat} {Q : State → Prop} {D : va_G} {aK aV : Nat → Nat} {A : Nat → Prop} {cc : ByteArray} {nL : Nat} {ret : Option FieldType} {pc : Nat} {ls : Array Slot} {rest : List Value} {cB cI cJ : ClassId} {q : Nat → Nat} {σ : MSt} {i : Int32} {f : Nat → Int32} (G : CX p s m args meth c D (gTy cB cI cJ) aK aV A RX5 cc nL ret) (hP : va_P D vwCl (mW cB cI cJ q σ) H) (hin : vp_in i (6000)) (hdg : decode cc pc = .ok (.baload, 1)) (h0 : mf_written σ = f) (k : W p l e R s m args below meth c H locs cells slots Q (F0 m (pc + 1) ls (.int (f i.toNatClampNeg) :: rest))) : W p l e R s m args below meth c H locs cells slots Q (F0 m pc ls (.int i :: .ref (q 2) :: rest)) := by
  obtain ⟨hx, hb, hml, hown, hT, hrt, hlk, hK, hA, hG, hE⟩ := G
  subst h0
  exact va_bald hx hb hK hP 2 0 rfl rfl hin hdg k
theorem sm_written {p : Program} {l : Launch} {e : Env} {R : Room} {s : State} {m : MethodId} {args : Array Value} {below : List Frame} {meth : Method} {c : Code} {H : Heap} {locs : List Loc} {cells slots : Nat} {Q : State → Prop} {D : va_G} {aK aV : Nat → Nat} {A : Nat → Prop} {cc : ByteArray} {nL : Nat} {ret : Option FieldType} {pc : Nat} {ls : Array Slot} {rest : List Value} {cB cI cJ : ClassId} {q : Nat → Nat} {σ : MSt} {i : Int32} {x : Int32} {f : Nat → Int32} (G : CX p s m args meth c D (gTy cB cI cJ) aK aV A RX5 cc nL ret) (hP : va_P D vwCl (mW cB cI cJ q σ) H) (hD : va_D A (mW cB cI cJ q σ)) (hS : va_S A s.heap H locs) (hin : vp_in i (6000)) (hdg : decode cc pc = .ok (.bastore, 1)) (h0 : mf_written σ = f) (k : ∀ (H1 : Heap) (locs1 : List Loc), va_P D vwCl (mW cB cI cJ q (ms_written σ (upd f i.toNatClampNeg (vp_nar .byte x)))) H1 → va_D A (mW cB cI cJ q (ms_written σ (upd f i.toNatClampNeg (vp_nar .byte x)))) → va_S A s.heap H1 locs1 → W p l e R s m args below meth c H1 locs1 cells slots Q (F0 m (pc + 1) ls rest)) : W p l e R s m args below meth c H locs cells slots Q (F0 m pc ls (.int x :: .int i :: .ref (q 2) :: rest)) := by
  obtain ⟨hx, hb, hml, hown, hT, hrt, hlk, hK, hA, hG, hE⟩ := G
  subst h0
  exact va_bast hx hb hK hP hD hS 2 0 rfl rfl hin hdg k
theorem nm_written {p : Program} {l : Launch} {e : Env} {R : Room} {s : State} {m : MethodId} {args : Array Value} {below : List Frame} {meth : Method} {c : Code} {H : Heap} {locs : List Loc} {cells slots : Nat} {Q : State → Prop} {D : va_G} {aK aV : Nat → Nat} {A : Nat → Prop} {cc : ByteArray} {nL : Nat} {ret : Option FieldType} {pc : Nat} {ls : Array Slot} {rest : List Value} {cB cI cJ : ClassId} {q : Nat → Nat} {σ : MSt} {v : Int32} (G : CX p s m args meth c D (gTy cB cI cJ) aK aV A RX5 cc nL ret) (hP : va_P D vwCl (mW cB cI cJ q σ) H) (hv : Int32.ofNat (6000) = v) (hdg : decode cc pc = .ok (.arraylength, 1)) (k : W p l e R s m args below meth c H locs cells slots Q (F0 m (pc + 1) ls (.int v :: rest))) : W p l e R s m args below meth c H locs cells slots Q (F0 m pc ls (.ref (q 2) :: rest)) := by
  obtain ⟨hx, hb, hml, hown, hT, hrt, hlk, hK, hA, hG, hE⟩ := G
  exact va_alen hx hb hK hP 2 0 rfl rfl hv hdg k
theorem gm_X5_writtenMany {p : Program} {l : Launch} {e : Env} {R : Room} {s : State} {m : MethodId} {args : Array Value} {below : List Frame} {meth : Method} {c : Code} {H : Heap} {locs : List Loc} {cells slots : Nat} {Q : State → Prop} {D : va_G} {aK aV : Nat → Nat} {A : Nat → Prop} {cc : ByteArray} {nL : Nat} {ret : Option FieldType} {pc : Nat} {ls : Array Slot} {rest : List Value} {cB cI cJ : ClassId} {q : Nat → Nat} {σ : MSt} {v : Int32} (G : CX p s m args meth c D (gTy cB cI cJ) aK aV A RX5 cc nL ret) (hP : va_P D vwCl (mW cB cI cJ q σ) H) (hdg : decode cc pc = .ok (.getfield 58, 3)) (hv : mf_writtenMany σ = v) (k : W p l e R s m args below meth c H locs cells slots Q (F0 m (pc + 3) ls (.int v :: rest))) : W p l e R s m args below meth c H locs cells slots Q (F0 m pc ls (.ref (q 0) :: rest)) := by
  obtain ⟨hx, hb, hml, hown, hT, hrt, hlk, hK, hA, hG, hE⟩ := G
  subst hv
  exact va_get (ci := 4) (v := .int (mf_writtenMany σ)) (C := RX5) (T := TX5) (N := 22) hx hb hT i_X5 hown hK hP 0 rfl rfl 6 (by decide) (hT _ wfl_X5_58) (fun _ h9 => h9) rfl hdg k
theorem pm_X5_writtenMany {p : Program} {l : Launch} {e : Env} {R : Room} {s : State} {m : MethodId} {args : Array Value} {below : List Frame} {meth : Method} {c : Code} {H : Heap} {locs : List Loc} {cells slots : Nat} {Q : State → Prop} {D : va_G} {aK aV : Nat → Nat} {A : Nat → Prop} {cc : ByteArray} {nL : Nat} {ret : Option FieldType} {pc : Nat} {ls : Array Slot} {rest : List Value} {cB cI cJ : ClassId} {q : Nat → Nat} {σ : MSt} {v : Int32} (G : CX p s m args meth c D (gTy cB cI cJ) aK aV A RX5 cc nL ret) (hP : va_P D vwCl (mW cB cI cJ q σ) H) (hD : va_D A (mW cB cI cJ q σ)) (hS : va_S A s.heap H locs) (hdg : decode cc pc = .ok (.putfield 58, 3)) (k : ∀ (H1 : Heap) (locs1 : List Loc), va_P D vwCl (mW cB cI cJ q (ms_writtenMany σ v)) H1 → va_D A (mW cB cI cJ q (ms_writtenMany σ v)) → va_S A s.heap H1 locs1 → W p l e R s m args below meth c H1 locs1 cells slots Q (F0 m (pc + 3) ls rest)) : W p l e R s m args below meth c H locs cells slots Q (F0 m pc ls (.int v :: .ref (q 0) :: rest)) := by
  obtain ⟨hx, hb, hml, hown, hT, hrt, hlk, hK, hA, hG, hE⟩ := G
  exact va_put (ci := 4) (v := .int v) (ty := .int) (C := RX5) (T := TX5) (N := 22) hx hb hT i_X5 tyX5 tyX5_ok nmX5 hown hK hP hD hS 0 rfl rfl 6 (by decide) (hT _ wfl_X5_58) (fun _ h9 => h9) rfl (by decide +kernel) rfl rfl (Nat.le_of_ble_eq_true rfl) hdg k
theorem gm_X5_errorPlace {p : Program} {l : Launch} {e : Env} {R : Room} {s : State} {m : MethodId} {args : Array Value} {below : List Frame} {meth : Method} {c : Code} {H : Heap} {locs : List Loc} {cells slots : Nat} {Q : State → Prop} {D : va_G} {aK aV : Nat → Nat} {A : Nat → Prop} {cc : ByteArray} {nL : Nat} {ret : Option FieldType} {pc : Nat} {ls : Array Slot} {rest : List Value} {cB cI cJ : ClassId} {q : Nat → Nat} {σ : MSt} {v : Int32} (G : CX p s m args meth c D (gTy cB cI cJ) aK aV A RX5 cc nL ret) (hP : va_P D vwCl (mW cB cI cJ q σ) H) (hdg : decode cc pc = .ok (.getfield 24, 3)) (hv : mf_errorPlace σ = v) (k : W p l e R s m args below meth c H locs cells slots Q (F0 m (pc + 3) ls (.int v :: rest))) : W p l e R s m args below meth c H locs cells slots Q (F0 m pc ls (.ref (q 0) :: rest)) := by
  obtain ⟨hx, hb, hml, hown, hT, hrt, hlk, hK, hA, hG, hE⟩ := G
  subst hv
  exact va_get (ci := 4) (v := .int (mf_errorPlace σ)) (C := RX5) (T := TX5) (N := 22) hx hb hT i_X5 hown hK hP 0 rfl rfl 7 (by decide) (hT _ wfl_X5_24) (fun _ h9 => h9) rfl hdg k
theorem pm_X5_errorPlace {p : Program} {l : Launch} {e : Env} {R : Room} {s : State} {m : MethodId} {args : Array Value} {below : List Frame} {meth : Method} {c : Code} {H : Heap} {locs : List Loc} {cells slots : Nat} {Q : State → Prop} {D : va_G} {aK aV : Nat → Nat} {A : Nat → Prop} {cc : ByteArray} {nL : Nat} {ret : Option FieldType} {pc : Nat} {ls : Array Slot} {rest : List Value} {cB cI cJ : ClassId} {q : Nat → Nat} {σ : MSt} {v : Int32} (G : CX p s m args meth c D (gTy cB cI cJ) aK aV A RX5 cc nL ret) (hP : va_P D vwCl (mW cB cI cJ q σ) H) (hD : va_D A (mW cB cI cJ q σ)) (hS : va_S A s.heap H locs) (hdg : decode cc pc = .ok (.putfield 24, 3)) (k : ∀ (H1 : Heap) (locs1 : List Loc), va_P D vwCl (mW cB cI cJ q (ms_errorPlace σ v)) H1 → va_D A (mW cB cI cJ q (ms_errorPlace σ v)) → va_S A s.heap H1 locs1 → W p l e R s m args below meth c H1 locs1 cells slots Q (F0 m (pc + 3) ls rest)) : W p l e R s m args below meth c H locs cells slots Q (F0 m pc ls (.int v :: .ref (q 0) :: rest)) := by
  obtain ⟨hx, hb, hml, hown, hT, hrt, hlk, hK, hA, hG, hE⟩ := G
  exact va_put (ci := 4) (v := .int v) (ty := .int) (C := RX5) (T := TX5) (N := 22) hx hb hT i_X5 tyX5 tyX5_ok nmX5 hown hK hP hD hS 0 rfl rfl 7 (by decide) (hT _ wfl_X5_24) (fun _ h9 => h9) rfl (by decide +kernel) rfl rfl (Nat.le_of_ble_eq_true rfl) hdg k
theorem gm_X5_sorts {p : Program} {l : Launch} {e : Env} {R : Room} {s : State} {m : MethodId} {args : Array Value} {below : List Frame} {meth : Method} {c : Code} {H : Heap} {locs : List Loc} {cells slots : Nat} {Q : State → Prop} {D : va_G} {aK aV : Nat → Nat} {A : Nat → Prop} {cc : ByteArray} {nL : Nat} {ret : Option FieldType} {pc : Nat} {ls : Array Slot} {rest : List Value} {cB cI cJ : ClassId} {q : Nat → Nat} {σ : MSt} (G : CX p s m args meth c D (gTy cB cI cJ) aK aV A RX5 cc nL ret) (hP : va_P D vwCl (mW cB cI cJ q σ) H) (hdg : decode cc pc = .ok (.getfield 27, 3)) (k : W p l e R s m args below meth c H locs cells slots Q (F0 m (pc + 3) ls (.ref (q 3) :: rest))) : W p l e R s m args below meth c H locs cells slots Q (F0 m pc ls (.ref (q 0) :: rest)) := by
  obtain ⟨hx, hb, hml, hown, hT, hrt, hlk, hK, hA, hG, hE⟩ := G
  exact va_get (ci := 4) (v := .ref (q 3)) (C := RX5) (T := TX5) (N := 22) hx hb hT i_X5 hown hK hP 0 rfl rfl 8 (by decide) (hT _ wfl_X5_27) (fun _ h9 => h9) rfl hdg k
theorem lm_sorts {p : Program} {l : Launch} {e : Env} {R : Room} {s : State} {m : MethodId} {args : Array Value} {below : List Frame} {meth : Method} {c : Code} {H : Heap} {locs : List Loc} {cells slots : Nat} {Q : State → Prop} {D : va_G} {aK aV : Nat → Nat} {A : Nat → Prop} {cc : ByteArray} {nL : Nat} {ret : Option FieldType} {pc : Nat} {ls : Array Slot} {rest : List Value} {cB cI cJ : ClassId} {q : Nat → Nat} {σ : MSt} {i : Int32} {f : Nat → Int32} (G : CX p s m args meth c D (gTy cB cI cJ) aK aV A RX5 cc nL ret) (hP : va_P D vwCl (mW cB cI cJ q σ) H) (hin : vp_in i (4200)) (hdg : decode cc pc = .ok (.iaload, 1)) (h0 : mf_sorts σ = f) (k : W p l e R s m args below meth c H locs cells slots Q (F0 m (pc + 1) ls (.int (f i.toNatClampNeg) :: rest))) : W p l e R s m args below meth c H locs cells slots Q (F0 m pc ls (.int i :: .ref (q 3) :: rest)) := by
  obtain ⟨hx, hb, hml, hown, hT, hrt, hlk, hK, hA, hG, hE⟩ := G
  subst h0
  exact va_iald hx hb hK hP 3 1 rfl rfl hin hdg k
theorem sm_sorts {p : Program} {l : Launch} {e : Env} {R : Room} {s : State} {m : MethodId} {args : Array Value} {below : List Frame} {meth : Method} {c : Code} {H : Heap} {locs : List Loc} {cells slots : Nat} {Q : State → Prop} {D : va_G} {aK aV : Nat → Nat} {A : Nat → Prop} {cc : ByteArray} {nL : Nat} {ret : Option FieldType} {pc : Nat} {ls : Array Slot} {rest : List Value} {cB cI cJ : ClassId} {q : Nat → Nat} {σ : MSt} {i : Int32} {x : Int32} {f : Nat → Int32} (G : CX p s m args meth c D (gTy cB cI cJ) aK aV A RX5 cc nL ret) (hP : va_P D vwCl (mW cB cI cJ q σ) H) (hD : va_D A (mW cB cI cJ q σ)) (hS : va_S A s.heap H locs) (hin : vp_in i (4200)) (hdg : decode cc pc = .ok (.iastore, 1)) (h0 : mf_sorts σ = f) (k : ∀ (H1 : Heap) (locs1 : List Loc), va_P D vwCl (mW cB cI cJ q (ms_sorts σ (upd f i.toNatClampNeg x))) H1 → va_D A (mW cB cI cJ q (ms_sorts σ (upd f i.toNatClampNeg x))) → va_S A s.heap H1 locs1 → W p l e R s m args below meth c H1 locs1 cells slots Q (F0 m (pc + 1) ls rest)) : W p l e R s m args below meth c H locs cells slots Q (F0 m pc ls (.int x :: .int i :: .ref (q 3) :: rest)) := by
  obtain ⟨hx, hb, hml, hown, hT, hrt, hlk, hK, hA, hG, hE⟩ := G
  subst h0
  exact va_iast hx hb hK hP hD hS 3 1 rfl rfl hin hdg k
theorem nm_sorts {p : Program} {l : Launch} {e : Env} {R : Room} {s : State} {m : MethodId} {args : Array Value} {below : List Frame} {meth : Method} {c : Code} {H : Heap} {locs : List Loc} {cells slots : Nat} {Q : State → Prop} {D : va_G} {aK aV : Nat → Nat} {A : Nat → Prop} {cc : ByteArray} {nL : Nat} {ret : Option FieldType} {pc : Nat} {ls : Array Slot} {rest : List Value} {cB cI cJ : ClassId} {q : Nat → Nat} {σ : MSt} {v : Int32} (G : CX p s m args meth c D (gTy cB cI cJ) aK aV A RX5 cc nL ret) (hP : va_P D vwCl (mW cB cI cJ q σ) H) (hv : Int32.ofNat (4200) = v) (hdg : decode cc pc = .ok (.arraylength, 1)) (k : W p l e R s m args below meth c H locs cells slots Q (F0 m (pc + 1) ls (.int v :: rest))) : W p l e R s m args below meth c H locs cells slots Q (F0 m pc ls (.ref (q 3) :: rest)) := by
  obtain ⟨hx, hb, hml, hown, hT, hrt, hlk, hK, hA, hG, hE⟩ := G
  exact va_alen hx hb hK hP 3 1 rfl rfl hv hdg k
theorem gm_X5_numbers {p : Program} {l : Launch} {e : Env} {R : Room} {s : State} {m : MethodId} {args : Array Value} {below : List Frame} {meth : Method} {c : Code} {H : Heap} {locs : List Loc} {cells slots : Nat} {Q : State → Prop} {D : va_G} {aK aV : Nat → Nat} {A : Nat → Prop} {cc : ByteArray} {nL : Nat} {ret : Option FieldType} {pc : Nat} {ls : Array Slot} {rest : List Value} {cB cI cJ : ClassId} {q : Nat → Nat} {σ : MSt} (G : CX p s m args meth c D (gTy cB cI cJ) aK aV A RX5 cc nL ret) (hP : va_P D vwCl (mW cB cI cJ q σ) H) (hdg : decode cc pc = .ok (.getfield 30, 3)) (k : W p l e R s m args below meth c H locs cells slots Q (F0 m (pc + 3) ls (.ref (q 4) :: rest))) : W p l e R s m args below meth c H locs cells slots Q (F0 m pc ls (.ref (q 0) :: rest)) := by
  obtain ⟨hx, hb, hml, hown, hT, hrt, hlk, hK, hA, hG, hE⟩ := G
  exact va_get (ci := 4) (v := .ref (q 4)) (C := RX5) (T := TX5) (N := 22) hx hb hT i_X5 hown hK hP 0 rfl rfl 9 (by decide) (hT _ wfl_X5_30) (fun _ h9 => h9) rfl hdg k
theorem lm_numbers {p : Program} {l : Launch} {e : Env} {R : Room} {s : State} {m : MethodId} {args : Array Value} {below : List Frame} {meth : Method} {c : Code} {H : Heap} {locs : List Loc} {cells slots : Nat} {Q : State → Prop} {D : va_G} {aK aV : Nat → Nat} {A : Nat → Prop} {cc : ByteArray} {nL : Nat} {ret : Option FieldType} {pc : Nat} {ls : Array Slot} {rest : List Value} {cB cI cJ : ClassId} {q : Nat → Nat} {σ : MSt} {i : Int32} {f : Nat → Int64} (G : CX p s m args meth c D (gTy cB cI cJ) aK aV A RX5 cc nL ret) (hP : va_P D vwCl (mW cB cI cJ q σ) H) (hin : vp_in i (4200)) (hdg : decode cc pc = .ok (.laload, 1)) (h0 : mf_numbers σ = f) (k : W p l e R s m args below meth c H locs cells slots Q (F0 m (pc + 1) ls (.long (f i.toNatClampNeg) :: rest))) : W p l e R s m args below meth c H locs cells slots Q (F0 m pc ls (.int i :: .ref (q 4) :: rest)) := by
  obtain ⟨hx, hb, hml, hown, hT, hrt, hlk, hK, hA, hG, hE⟩ := G
  subst h0
  exact va_lald hx hb hK hP 4 2 rfl rfl hin hdg k
theorem sm_numbers {p : Program} {l : Launch} {e : Env} {R : Room} {s : State} {m : MethodId} {args : Array Value} {below : List Frame} {meth : Method} {c : Code} {H : Heap} {locs : List Loc} {cells slots : Nat} {Q : State → Prop} {D : va_G} {aK aV : Nat → Nat} {A : Nat → Prop} {cc : ByteArray} {nL : Nat} {ret : Option FieldType} {pc : Nat} {ls : Array Slot} {rest : List Value} {cB cI cJ : ClassId} {q : Nat → Nat} {σ : MSt} {i : Int32} {x : Int64} {f : Nat → Int64} (G : CX p s m args meth c D (gTy cB cI cJ) aK aV A RX5 cc nL ret) (hP : va_P D vwCl (mW cB cI cJ q σ) H) (hD : va_D A (mW cB cI cJ q σ)) (hS : va_S A s.heap H locs) (hin : vp_in i (4200)) (hdg : decode cc pc = .ok (.lastore, 1)) (h0 : mf_numbers σ = f) (k : ∀ (H1 : Heap) (locs1 : List Loc), va_P D vwCl (mW cB cI cJ q (ms_numbers σ (vp_updL f i.toNatClampNeg x))) H1 → va_D A (mW cB cI cJ q (ms_numbers σ (vp_updL f i.toNatClampNeg x))) → va_S A s.heap H1 locs1 → W p l e R s m args below meth c H1 locs1 cells slots Q (F0 m (pc + 1) ls rest)) : W p l e R s m args below meth c H locs cells slots Q (F0 m pc ls (.long x :: .int i :: .ref (q 4) :: rest)) := by
  obtain ⟨hx, hb, hml, hown, hT, hrt, hlk, hK, hA, hG, hE⟩ := G
  subst h0
  exact va_last hx hb hK hP hD hS 4 2 rfl rfl hin hdg k
theorem nm_numbers {p : Program} {l : Launch} {e : Env} {R : Room} {s : State} {m : MethodId} {args : Array Value} {below : List Frame} {meth : Method} {c : Code} {H : Heap} {locs : List Loc} {cells slots : Nat} {Q : State → Prop} {D : va_G} {aK aV : Nat → Nat} {A : Nat → Prop} {cc : ByteArray} {nL : Nat} {ret : Option FieldType} {pc : Nat} {ls : Array Slot} {rest : List Value} {cB cI cJ : ClassId} {q : Nat → Nat} {σ : MSt} {v : Int32} (G : CX p s m args meth c D (gTy cB cI cJ) aK aV A RX5 cc nL ret) (hP : va_P D vwCl (mW cB cI cJ q σ) H) (hv : Int32.ofNat (4200) = v) (hdg : decode cc pc = .ok (.arraylength, 1)) (k : W p l e R s m args below meth c H locs cells slots Q (F0 m (pc + 1) ls (.int v :: rest))) : W p l e R s m args below meth c H locs cells slots Q (F0 m pc ls (.ref (q 4) :: rest)) := by
  obtain ⟨hx, hb, hml, hown, hT, hrt, hlk, hK, hA, hG, hE⟩ := G
  exact va_alen hx hb hK hP 4 2 rfl rfl hv hdg k
theorem gm_X5_places {p : Program} {l : Launch} {e : Env} {R : Room} {s : State} {m : MethodId} {args : Array Value} {below : List Frame} {meth : Method} {c : Code} {H : Heap} {locs : List Loc} {cells slots : Nat} {Q : State → Prop} {D : va_G} {aK aV : Nat → Nat} {A : Nat → Prop} {cc : ByteArray} {nL : Nat} {ret : Option FieldType} {pc : Nat} {ls : Array Slot} {rest : List Value} {cB cI cJ : ClassId} {q : Nat → Nat} {σ : MSt} (G : CX p s m args meth c D (gTy cB cI cJ) aK aV A RX5 cc nL ret) (hP : va_P D vwCl (mW cB cI cJ q σ) H) (hdg : decode cc pc = .ok (.getfield 34, 3)) (k : W p l e R s m args below meth c H locs cells slots Q (F0 m (pc + 3) ls (.ref (q 5) :: rest))) : W p l e R s m args below meth c H locs cells slots Q (F0 m pc ls (.ref (q 0) :: rest)) := by
  obtain ⟨hx, hb, hml, hown, hT, hrt, hlk, hK, hA, hG, hE⟩ := G
  exact va_get (ci := 4) (v := .ref (q 5)) (C := RX5) (T := TX5) (N := 22) hx hb hT i_X5 hown hK hP 0 rfl rfl 10 (by decide) (hT _ wfl_X5_34) (fun _ h9 => h9) rfl hdg k
theorem lm_places {p : Program} {l : Launch} {e : Env} {R : Room} {s : State} {m : MethodId} {args : Array Value} {below : List Frame} {meth : Method} {c : Code} {H : Heap} {locs : List Loc} {cells slots : Nat} {Q : State → Prop} {D : va_G} {aK aV : Nat → Nat} {A : Nat → Prop} {cc : ByteArray} {nL : Nat} {ret : Option FieldType} {pc : Nat} {ls : Array Slot} {rest : List Value} {cB cI cJ : ClassId} {q : Nat → Nat} {σ : MSt} {i : Int32} {f : Nat → Int32} (G : CX p s m args meth c D (gTy cB cI cJ) aK aV A RX5 cc nL ret) (hP : va_P D vwCl (mW cB cI cJ q σ) H) (hin : vp_in i (4200)) (hdg : decode cc pc = .ok (.iaload, 1)) (h0 : mf_places σ = f) (k : W p l e R s m args below meth c H locs cells slots Q (F0 m (pc + 1) ls (.int (f i.toNatClampNeg) :: rest))) : W p l e R s m args below meth c H locs cells slots Q (F0 m pc ls (.int i :: .ref (q 5) :: rest)) := by
  obtain ⟨hx, hb, hml, hown, hT, hrt, hlk, hK, hA, hG, hE⟩ := G
  subst h0
  exact va_iald hx hb hK hP 5 1 rfl rfl hin hdg k
theorem sm_places {p : Program} {l : Launch} {e : Env} {R : Room} {s : State} {m : MethodId} {args : Array Value} {below : List Frame} {meth : Method} {c : Code} {H : Heap} {locs : List Loc} {cells slots : Nat} {Q : State → Prop} {D : va_G} {aK aV : Nat → Nat} {A : Nat → Prop} {cc : ByteArray} {nL : Nat} {ret : Option FieldType} {pc : Nat} {ls : Array Slot} {rest : List Value} {cB cI cJ : ClassId} {q : Nat → Nat} {σ : MSt} {i : Int32} {x : Int32} {f : Nat → Int32} (G : CX p s m args meth c D (gTy cB cI cJ) aK aV A RX5 cc nL ret) (hP : va_P D vwCl (mW cB cI cJ q σ) H) (hD : va_D A (mW cB cI cJ q σ)) (hS : va_S A s.heap H locs) (hin : vp_in i (4200)) (hdg : decode cc pc = .ok (.iastore, 1)) (h0 : mf_places σ = f) (k : ∀ (H1 : Heap) (locs1 : List Loc), va_P D vwCl (mW cB cI cJ q (ms_places σ (upd f i.toNatClampNeg x))) H1 → va_D A (mW cB cI cJ q (ms_places σ (upd f i.toNatClampNeg x))) → va_S A s.heap H1 locs1 → W p l e R s m args below meth c H1 locs1 cells slots Q (F0 m (pc + 1) ls rest)) : W p l e R s m args below meth c H locs cells slots Q (F0 m pc ls (.int x :: .int i :: .ref (q 5) :: rest)) := by
  obtain ⟨hx, hb, hml, hown, hT, hrt, hlk, hK, hA, hG, hE⟩ := G
  subst h0
  exact va_iast hx hb hK hP hD hS 5 1 rfl rfl hin hdg k
theorem nm_places {p : Program} {l : Launch} {e : Env} {R : Room} {s : State} {m : MethodId} {args : Array Value} {below : List Frame} {meth : Method} {c : Code} {H : Heap} {locs : List Loc} {cells slots : Nat} {Q : State → Prop} {D : va_G} {aK aV : Nat → Nat} {A : Nat → Prop} {cc : ByteArray} {nL : Nat} {ret : Option FieldType} {pc : Nat} {ls : Array Slot} {rest : List Value} {cB cI cJ : ClassId} {q : Nat → Nat} {σ : MSt} {v : Int32} (G : CX p s m args meth c D (gTy cB cI cJ) aK aV A RX5 cc nL ret) (hP : va_P D vwCl (mW cB cI cJ q σ) H) (hv : Int32.ofNat (4200) = v) (hdg : decode cc pc = .ok (.arraylength, 1)) (k : W p l e R s m args below meth c H locs cells slots Q (F0 m (pc + 1) ls (.int v :: rest))) : W p l e R s m args below meth c H locs cells slots Q (F0 m pc ls (.ref (q 5) :: rest)) := by
  obtain ⟨hx, hb, hml, hown, hT, hrt, hlk, hK, hA, hG, hE⟩ := G
  exact va_alen hx hb hK hP 5 1 rfl rfl hv hdg k
theorem gm_X5_things {p : Program} {l : Launch} {e : Env} {R : Room} {s : State} {m : MethodId} {args : Array Value} {below : List Frame} {meth : Method} {c : Code} {H : Heap} {locs : List Loc} {cells slots : Nat} {Q : State → Prop} {D : va_G} {aK aV : Nat → Nat} {A : Nat → Prop} {cc : ByteArray} {nL : Nat} {ret : Option FieldType} {pc : Nat} {ls : Array Slot} {rest : List Value} {cB cI cJ : ClassId} {q : Nat → Nat} {σ : MSt} {v : Int32} (G : CX p s m args meth c D (gTy cB cI cJ) aK aV A RX5 cc nL ret) (hP : va_P D vwCl (mW cB cI cJ q σ) H) (hdg : decode cc pc = .ok (.getfield 67, 3)) (hv : mf_things σ = v) (k : W p l e R s m args below meth c H locs cells slots Q (F0 m (pc + 3) ls (.int v :: rest))) : W p l e R s m args below meth c H locs cells slots Q (F0 m pc ls (.ref (q 0) :: rest)) := by
  obtain ⟨hx, hb, hml, hown, hT, hrt, hlk, hK, hA, hG, hE⟩ := G
  subst hv
  exact va_get (ci := 4) (v := .int (mf_things σ)) (C := RX5) (T := TX5) (N := 22) hx hb hT i_X5 hown hK hP 0 rfl rfl 11 (by decide) (hT _ wfl_X5_67) (fun _ h9 => h9) rfl hdg k
theorem pm_X5_things {p : Program} {l : Launch} {e : Env} {R : Room} {s : State} {m : MethodId} {args : Array Value} {below : List Frame} {meth : Method} {c : Code} {H : Heap} {locs : List Loc} {cells slots : Nat} {Q : State → Prop} {D : va_G} {aK aV : Nat → Nat} {A : Nat → Prop} {cc : ByteArray} {nL : Nat} {ret : Option FieldType} {pc : Nat} {ls : Array Slot} {rest : List Value} {cB cI cJ : ClassId} {q : Nat → Nat} {σ : MSt} {v : Int32} (G : CX p s m args meth c D (gTy cB cI cJ) aK aV A RX5 cc nL ret) (hP : va_P D vwCl (mW cB cI cJ q σ) H) (hD : va_D A (mW cB cI cJ q σ)) (hS : va_S A s.heap H locs) (hdg : decode cc pc = .ok (.putfield 67, 3)) (k : ∀ (H1 : Heap) (locs1 : List Loc), va_P D vwCl (mW cB cI cJ q (ms_things σ v)) H1 → va_D A (mW cB cI cJ q (ms_things σ v)) → va_S A s.heap H1 locs1 → W p l e R s m args below meth c H1 locs1 cells slots Q (F0 m (pc + 3) ls rest)) : W p l e R s m args below meth c H locs cells slots Q (F0 m pc ls (.int v :: .ref (q 0) :: rest)) := by
  obtain ⟨hx, hb, hml, hown, hT, hrt, hlk, hK, hA, hG, hE⟩ := G
  exact va_put (ci := 4) (v := .int v) (ty := .int) (C := RX5) (T := TX5) (N := 22) hx hb hT i_X5 tyX5 tyX5_ok nmX5 hown hK hP hD hS 0 rfl rfl 11 (by decide) (hT _ wfl_X5_67) (fun _ h9 => h9) rfl (by decide +kernel) rfl rfl (Nat.le_of_ble_eq_true rfl) hdg k
theorem gm_X5_letters {p : Program} {l : Launch} {e : Env} {R : Room} {s : State} {m : MethodId} {args : Array Value} {below : List Frame} {meth : Method} {c : Code} {H : Heap} {locs : List Loc} {cells slots : Nat} {Q : State → Prop} {D : va_G} {aK aV : Nat → Nat} {A : Nat → Prop} {cc : ByteArray} {nL : Nat} {ret : Option FieldType} {pc : Nat} {ls : Array Slot} {rest : List Value} {cB cI cJ : ClassId} {q : Nat → Nat} {σ : MSt} (G : CX p s m args meth c D (gTy cB cI cJ) aK aV A RX5 cc nL ret) (hP : va_P D vwCl (mW cB cI cJ q σ) H) (hdg : decode cc pc = .ok (.getfield 37, 3)) (k : W p l e R s m args below meth c H locs cells slots Q (F0 m (pc + 3) ls (.ref (q 6) :: rest))) : W p l e R s m args below meth c H locs cells slots Q (F0 m pc ls (.ref (q 0) :: rest)) := by
  obtain ⟨hx, hb, hml, hown, hT, hrt, hlk, hK, hA, hG, hE⟩ := G
  exact va_get (ci := 4) (v := .ref (q 6)) (C := RX5) (T := TX5) (N := 22) hx hb hT i_X5 hown hK hP 0 rfl rfl 12 (by decide) (hT _ wfl_X5_37) (fun _ h9 => h9) rfl hdg k
theorem lm_letters {p : Program} {l : Launch} {e : Env} {R : Room} {s : State} {m : MethodId} {args : Array Value} {below : List Frame} {meth : Method} {c : Code} {H : Heap} {locs : List Loc} {cells slots : Nat} {Q : State → Prop} {D : va_G} {aK aV : Nat → Nat} {A : Nat → Prop} {cc : ByteArray} {nL : Nat} {ret : Option FieldType} {pc : Nat} {ls : Array Slot} {rest : List Value} {cB cI cJ : ClassId} {q : Nat → Nat} {σ : MSt} {i : Int32} {f : Nat → Int32} (G : CX p s m args meth c D (gTy cB cI cJ) aK aV A RX5 cc nL ret) (hP : va_P D vwCl (mW cB cI cJ q σ) H) (hin : vp_in i (8200)) (hdg : decode cc pc = .ok (.baload, 1)) (h0 : mf_letters σ = f) (k : W p l e R s m args below meth c H locs cells slots Q (F0 m (pc + 1) ls (.int (f i.toNatClampNeg) :: rest))) : W p l e R s m args below meth c H locs cells slots Q (F0 m pc ls (.int i :: .ref (q 6) :: rest)) := by
  obtain ⟨hx, hb, hml, hown, hT, hrt, hlk, hK, hA, hG, hE⟩ := G
  subst h0
  exact va_bald hx hb hK hP 6 0 rfl rfl hin hdg k
theorem sm_letters {p : Program} {l : Launch} {e : Env} {R : Room} {s : State} {m : MethodId} {args : Array Value} {below : List Frame} {meth : Method} {c : Code} {H : Heap} {locs : List Loc} {cells slots : Nat} {Q : State → Prop} {D : va_G} {aK aV : Nat → Nat} {A : Nat → Prop} {cc : ByteArray} {nL : Nat} {ret : Option FieldType} {pc : Nat} {ls : Array Slot} {rest : List Value} {cB cI cJ : ClassId} {q : Nat → Nat} {σ : MSt} {i : Int32} {x : Int32} {f : Nat → Int32} (G : CX p s m args meth c D (gTy cB cI cJ) aK aV A RX5 cc nL ret) (hP : va_P D vwCl (mW cB cI cJ q σ) H) (hD : va_D A (mW cB cI cJ q σ)) (hS : va_S A s.heap H locs) (hin : vp_in i (8200)) (hdg : decode cc pc = .ok (.bastore, 1)) (h0 : mf_letters σ = f) (k : ∀ (H1 : Heap) (locs1 : List Loc), va_P D vwCl (mW cB cI cJ q (ms_letters σ (upd f i.toNatClampNeg (vp_nar .byte x)))) H1 → va_D A (mW cB cI cJ q (ms_letters σ (upd f i.toNatClampNeg (vp_nar .byte x)))) → va_S A s.heap H1 locs1 → W p l e R s m args below meth c H1 locs1 cells slots Q (F0 m (pc + 1) ls rest)) : W p l e R s m args below meth c H locs cells slots Q (F0 m pc ls (.int x :: .int i :: .ref (q 6) :: rest)) := by
  obtain ⟨hx, hb, hml, hown, hT, hrt, hlk, hK, hA, hG, hE⟩ := G
  subst h0
  exact va_bast hx hb hK hP hD hS 6 0 rfl rfl hin hdg k
theorem nm_letters {p : Program} {l : Launch} {e : Env} {R : Room} {s : State} {m : MethodId} {args : Array Value} {below : List Frame} {meth : Method} {c : Code} {H : Heap} {locs : List Loc} {cells slots : Nat} {Q : State → Prop} {D : va_G} {aK aV : Nat → Nat} {A : Nat → Prop} {cc : ByteArray} {nL : Nat} {ret : Option FieldType} {pc : Nat} {ls : Array Slot} {rest : List Value} {cB cI cJ : ClassId} {q : Nat → Nat} {σ : MSt} {v : Int32} (G : CX p s m args meth c D (gTy cB cI cJ) aK aV A RX5 cc nL ret) (hP : va_P D vwCl (mW cB cI cJ q σ) H) (hv : Int32.ofNat (8200) = v) (hdg : decode cc pc = .ok (.arraylength, 1)) (k : W p l e R s m args below meth c H locs cells slots Q (F0 m (pc + 1) ls (.int v :: rest))) : W p l e R s m args below meth c H locs cells slots Q (F0 m pc ls (.ref (q 6) :: rest)) := by
  obtain ⟨hx, hb, hml, hown, hT, hrt, hlk, hK, hA, hG, hE⟩ := G
  exact va_alen hx hb hK hP 6 0 rfl rfl hv hdg k
theorem gm_X5_lettersMany {p : Program} {l : Launch} {e : Env} {R : Room} {s : State} {m : MethodId} {args : Array Value} {below : List Frame} {meth : Method} {c : Code} {H : Heap} {locs : List Loc} {cells slots : Nat} {Q : State → Prop} {D : va_G} {aK aV : Nat → Nat} {A : Nat → Prop} {cc : ByteArray} {nL : Nat} {ret : Option FieldType} {pc : Nat} {ls : Array Slot} {rest : List Value} {cB cI cJ : ClassId} {q : Nat → Nat} {σ : MSt} {v : Int32} (G : CX p s m args meth c D (gTy cB cI cJ) aK aV A RX5 cc nL ret) (hP : va_P D vwCl (mW cB cI cJ q σ) H) (hdg : decode cc pc = .ok (.getfield 70, 3)) (hv : mf_lettersMany σ = v) (k : W p l e R s m args below meth c H locs cells slots Q (F0 m (pc + 3) ls (.int v :: rest))) : W p l e R s m args below meth c H locs cells slots Q (F0 m pc ls (.ref (q 0) :: rest)) := by
  obtain ⟨hx, hb, hml, hown, hT, hrt, hlk, hK, hA, hG, hE⟩ := G
  subst hv
  exact va_get (ci := 4) (v := .int (mf_lettersMany σ)) (C := RX5) (T := TX5) (N := 22) hx hb hT i_X5 hown hK hP 0 rfl rfl 13 (by decide) (hT _ wfl_X5_70) (fun _ h9 => h9) rfl hdg k
theorem pm_X5_lettersMany {p : Program} {l : Launch} {e : Env} {R : Room} {s : State} {m : MethodId} {args : Array Value} {below : List Frame} {meth : Method} {c : Code} {H : Heap} {locs : List Loc} {cells slots : Nat} {Q : State → Prop} {D : va_G} {aK aV : Nat → Nat} {A : Nat → Prop} {cc : ByteArray} {nL : Nat} {ret : Option FieldType} {pc : Nat} {ls : Array Slot} {rest : List Value} {cB cI cJ : ClassId} {q : Nat → Nat} {σ : MSt} {v : Int32} (G : CX p s m args meth c D (gTy cB cI cJ) aK aV A RX5 cc nL ret) (hP : va_P D vwCl (mW cB cI cJ q σ) H) (hD : va_D A (mW cB cI cJ q σ)) (hS : va_S A s.heap H locs) (hdg : decode cc pc = .ok (.putfield 70, 3)) (k : ∀ (H1 : Heap) (locs1 : List Loc), va_P D vwCl (mW cB cI cJ q (ms_lettersMany σ v)) H1 → va_D A (mW cB cI cJ q (ms_lettersMany σ v)) → va_S A s.heap H1 locs1 → W p l e R s m args below meth c H1 locs1 cells slots Q (F0 m (pc + 3) ls rest)) : W p l e R s m args below meth c H locs cells slots Q (F0 m pc ls (.int v :: .ref (q 0) :: rest)) := by
  obtain ⟨hx, hb, hml, hown, hT, hrt, hlk, hK, hA, hG, hE⟩ := G
  exact va_put (ci := 4) (v := .int v) (ty := .int) (C := RX5) (T := TX5) (N := 22) hx hb hT i_X5 tyX5 tyX5_ok nmX5 hown hK hP hD hS 0 rfl rfl 13 (by decide) (hT _ wfl_X5_70) (fun _ h9 => h9) rfl (by decide +kernel) rfl rfl (Nat.le_of_ble_eq_true rfl) hdg k
theorem gm_X5_openThing {p : Program} {l : Launch} {e : Env} {R : Room} {s : State} {m : MethodId} {args : Array Value} {below : List Frame} {meth : Method} {c : Code} {H : Heap} {locs : List Loc} {cells slots : Nat} {Q : State → Prop} {D : va_G} {aK aV : Nat → Nat} {A : Nat → Prop} {cc : ByteArray} {nL : Nat} {ret : Option FieldType} {pc : Nat} {ls : Array Slot} {rest : List Value} {cB cI cJ : ClassId} {q : Nat → Nat} {σ : MSt} (G : CX p s m args meth c D (gTy cB cI cJ) aK aV A RX5 cc nL ret) (hP : va_P D vwCl (mW cB cI cJ q σ) H) (hdg : decode cc pc = .ok (.getfield 40, 3)) (k : W p l e R s m args below meth c H locs cells slots Q (F0 m (pc + 3) ls (.ref (q 7) :: rest))) : W p l e R s m args below meth c H locs cells slots Q (F0 m pc ls (.ref (q 0) :: rest)) := by
  obtain ⟨hx, hb, hml, hown, hT, hrt, hlk, hK, hA, hG, hE⟩ := G
  exact va_get (ci := 4) (v := .ref (q 7)) (C := RX5) (T := TX5) (N := 22) hx hb hT i_X5 hown hK hP 0 rfl rfl 14 (by decide) (hT _ wfl_X5_40) (fun _ h9 => h9) rfl hdg k
theorem lm_openThing {p : Program} {l : Launch} {e : Env} {R : Room} {s : State} {m : MethodId} {args : Array Value} {below : List Frame} {meth : Method} {c : Code} {H : Heap} {locs : List Loc} {cells slots : Nat} {Q : State → Prop} {D : va_G} {aK aV : Nat → Nat} {A : Nat → Prop} {cc : ByteArray} {nL : Nat} {ret : Option FieldType} {pc : Nat} {ls : Array Slot} {rest : List Value} {cB cI cJ : ClassId} {q : Nat → Nat} {σ : MSt} {i : Int32} {f : Nat → Int32} (G : CX p s m args meth c D (gTy cB cI cJ) aK aV A RX5 cc nL ret) (hP : va_P D vwCl (mW cB cI cJ q σ) H) (hin : vp_in i (64)) (hdg : decode cc pc = .ok (.iaload, 1)) (h0 : mf_openThing σ = f) (k : W p l e R s m args below meth c H locs cells slots Q (F0 m (pc + 1) ls (.int (f i.toNatClampNeg) :: rest))) : W p l e R s m args below meth c H locs cells slots Q (F0 m pc ls (.int i :: .ref (q 7) :: rest)) := by
  obtain ⟨hx, hb, hml, hown, hT, hrt, hlk, hK, hA, hG, hE⟩ := G
  subst h0
  exact va_iald hx hb hK hP 7 1 rfl rfl hin hdg k
theorem sm_openThing {p : Program} {l : Launch} {e : Env} {R : Room} {s : State} {m : MethodId} {args : Array Value} {below : List Frame} {meth : Method} {c : Code} {H : Heap} {locs : List Loc} {cells slots : Nat} {Q : State → Prop} {D : va_G} {aK aV : Nat → Nat} {A : Nat → Prop} {cc : ByteArray} {nL : Nat} {ret : Option FieldType} {pc : Nat} {ls : Array Slot} {rest : List Value} {cB cI cJ : ClassId} {q : Nat → Nat} {σ : MSt} {i : Int32} {x : Int32} {f : Nat → Int32} (G : CX p s m args meth c D (gTy cB cI cJ) aK aV A RX5 cc nL ret) (hP : va_P D vwCl (mW cB cI cJ q σ) H) (hD : va_D A (mW cB cI cJ q σ)) (hS : va_S A s.heap H locs) (hin : vp_in i (64)) (hdg : decode cc pc = .ok (.iastore, 1)) (h0 : mf_openThing σ = f) (k : ∀ (H1 : Heap) (locs1 : List Loc), va_P D vwCl (mW cB cI cJ q (ms_openThing σ (upd f i.toNatClampNeg x))) H1 → va_D A (mW cB cI cJ q (ms_openThing σ (upd f i.toNatClampNeg x))) → va_S A s.heap H1 locs1 → W p l e R s m args below meth c H1 locs1 cells slots Q (F0 m (pc + 1) ls rest)) : W p l e R s m args below meth c H locs cells slots Q (F0 m pc ls (.int x :: .int i :: .ref (q 7) :: rest)) := by
  obtain ⟨hx, hb, hml, hown, hT, hrt, hlk, hK, hA, hG, hE⟩ := G
  subst h0
  exact va_iast hx hb hK hP hD hS 7 1 rfl rfl hin hdg k
theorem nm_openThing {p : Program} {l : Launch} {e : Env} {R : Room} {s : State} {m : MethodId} {args : Array Value} {below : List Frame} {meth : Method} {c : Code} {H : Heap} {locs : List Loc} {cells slots : Nat} {Q : State → Prop} {D : va_G} {aK aV : Nat → Nat} {A : Nat → Prop} {cc : ByteArray} {nL : Nat} {ret : Option FieldType} {pc : Nat} {ls : Array Slot} {rest : List Value} {cB cI cJ : ClassId} {q : Nat → Nat} {σ : MSt} {v : Int32} (G : CX p s m args meth c D (gTy cB cI cJ) aK aV A RX5 cc nL ret) (hP : va_P D vwCl (mW cB cI cJ q σ) H) (hv : Int32.ofNat (64) = v) (hdg : decode cc pc = .ok (.arraylength, 1)) (k : W p l e R s m args below meth c H locs cells slots Q (F0 m (pc + 1) ls (.int v :: rest))) : W p l e R s m args below meth c H locs cells slots Q (F0 m pc ls (.ref (q 7) :: rest)) := by
  obtain ⟨hx, hb, hml, hown, hT, hrt, hlk, hK, hA, hG, hE⟩ := G
  exact va_alen hx hb hK hP 7 1 rfl rfl hv hdg k
theorem gm_X5_openLeft {p : Program} {l : Launch} {e : Env} {R : Room} {s : State} {m : MethodId} {args : Array Value} {below : List Frame} {meth : Method} {c : Code} {H : Heap} {locs : List Loc} {cells slots : Nat} {Q : State → Prop} {D : va_G} {aK aV : Nat → Nat} {A : Nat → Prop} {cc : ByteArray} {nL : Nat} {ret : Option FieldType} {pc : Nat} {ls : Array Slot} {rest : List Value} {cB cI cJ : ClassId} {q : Nat → Nat} {σ : MSt} (G : CX p s m args meth c D (gTy cB cI cJ) aK aV A RX5 cc nL ret) (hP : va_P D vwCl (mW cB cI cJ q σ) H) (hdg : decode cc pc = .ok (.getfield 43, 3)) (k : W p l e R s m args below meth c H locs cells slots Q (F0 m (pc + 3) ls (.ref (q 8) :: rest))) : W p l e R s m args below meth c H locs cells slots Q (F0 m pc ls (.ref (q 0) :: rest)) := by
  obtain ⟨hx, hb, hml, hown, hT, hrt, hlk, hK, hA, hG, hE⟩ := G
  exact va_get (ci := 4) (v := .ref (q 8)) (C := RX5) (T := TX5) (N := 22) hx hb hT i_X5 hown hK hP 0 rfl rfl 15 (by decide) (hT _ wfl_X5_43) (fun _ h9 => h9) rfl hdg k
theorem lm_openLeft {p : Program} {l : Launch} {e : Env} {R : Room} {s : State} {m : MethodId} {args : Array Value} {below : List Frame} {meth : Method} {c : Code} {H : Heap} {locs : List Loc} {cells slots : Nat} {Q : State → Prop} {D : va_G} {aK aV : Nat → Nat} {A : Nat → Prop} {cc : ByteArray} {nL : Nat} {ret : Option FieldType} {pc : Nat} {ls : Array Slot} {rest : List Value} {cB cI cJ : ClassId} {q : Nat → Nat} {σ : MSt} {i : Int32} {f : Nat → Int64} (G : CX p s m args meth c D (gTy cB cI cJ) aK aV A RX5 cc nL ret) (hP : va_P D vwCl (mW cB cI cJ q σ) H) (hin : vp_in i (64)) (hdg : decode cc pc = .ok (.laload, 1)) (h0 : mf_openLeft σ = f) (k : W p l e R s m args below meth c H locs cells slots Q (F0 m (pc + 1) ls (.long (f i.toNatClampNeg) :: rest))) : W p l e R s m args below meth c H locs cells slots Q (F0 m pc ls (.int i :: .ref (q 8) :: rest)) := by
  obtain ⟨hx, hb, hml, hown, hT, hrt, hlk, hK, hA, hG, hE⟩ := G
  subst h0
  exact va_lald hx hb hK hP 8 2 rfl rfl hin hdg k
theorem sm_openLeft {p : Program} {l : Launch} {e : Env} {R : Room} {s : State} {m : MethodId} {args : Array Value} {below : List Frame} {meth : Method} {c : Code} {H : Heap} {locs : List Loc} {cells slots : Nat} {Q : State → Prop} {D : va_G} {aK aV : Nat → Nat} {A : Nat → Prop} {cc : ByteArray} {nL : Nat} {ret : Option FieldType} {pc : Nat} {ls : Array Slot} {rest : List Value} {cB cI cJ : ClassId} {q : Nat → Nat} {σ : MSt} {i : Int32} {x : Int64} {f : Nat → Int64} (G : CX p s m args meth c D (gTy cB cI cJ) aK aV A RX5 cc nL ret) (hP : va_P D vwCl (mW cB cI cJ q σ) H) (hD : va_D A (mW cB cI cJ q σ)) (hS : va_S A s.heap H locs) (hin : vp_in i (64)) (hdg : decode cc pc = .ok (.lastore, 1)) (h0 : mf_openLeft σ = f) (k : ∀ (H1 : Heap) (locs1 : List Loc), va_P D vwCl (mW cB cI cJ q (ms_openLeft σ (vp_updL f i.toNatClampNeg x))) H1 → va_D A (mW cB cI cJ q (ms_openLeft σ (vp_updL f i.toNatClampNeg x))) → va_S A s.heap H1 locs1 → W p l e R s m args below meth c H1 locs1 cells slots Q (F0 m (pc + 1) ls rest)) : W p l e R s m args below meth c H locs cells slots Q (F0 m pc ls (.long x :: .int i :: .ref (q 8) :: rest)) := by
  obtain ⟨hx, hb, hml, hown, hT, hrt, hlk, hK, hA, hG, hE⟩ := G
  subst h0
  exact va_last hx hb hK hP hD hS 8 2 rfl rfl hin hdg k
theorem nm_openLeft {p : Program} {l : Launch} {e : Env} {R : Room} {s : State} {m : MethodId} {args : Array Value} {below : List Frame} {meth : Method} {c : Code} {H : Heap} {locs : List Loc} {cells slots : Nat} {Q : State → Prop} {D : va_G} {aK aV : Nat → Nat} {A : Nat → Prop} {cc : ByteArray} {nL : Nat} {ret : Option FieldType} {pc : Nat} {ls : Array Slot} {rest : List Value} {cB cI cJ : ClassId} {q : Nat → Nat} {σ : MSt} {v : Int32} (G : CX p s m args meth c D (gTy cB cI cJ) aK aV A RX5 cc nL ret) (hP : va_P D vwCl (mW cB cI cJ q σ) H) (hv : Int32.ofNat (64) = v) (hdg : decode cc pc = .ok (.arraylength, 1)) (k : W p l e R s m args below meth c H locs cells slots Q (F0 m (pc + 1) ls (.int v :: rest))) : W p l e R s m args below meth c H locs cells slots Q (F0 m pc ls (.ref (q 8) :: rest)) := by
  obtain ⟨hx, hb, hml, hown, hT, hrt, hlk, hK, hA, hG, hE⟩ := G
  exact va_alen hx hb hK hP 8 2 rfl rfl hv hdg k
theorem gm_X5_open {p : Program} {l : Launch} {e : Env} {R : Room} {s : State} {m : MethodId} {args : Array Value} {below : List Frame} {meth : Method} {c : Code} {H : Heap} {locs : List Loc} {cells slots : Nat} {Q : State → Prop} {D : va_G} {aK aV : Nat → Nat} {A : Nat → Prop} {cc : ByteArray} {nL : Nat} {ret : Option FieldType} {pc : Nat} {ls : Array Slot} {rest : List Value} {cB cI cJ : ClassId} {q : Nat → Nat} {σ : MSt} {v : Int32} (G : CX p s m args meth c D (gTy cB cI cJ) aK aV A RX5 cc nL ret) (hP : va_P D vwCl (mW cB cI cJ q σ) H) (hdg : decode cc pc = .ok (.getfield 73, 3)) (hv : mf_open σ = v) (k : W p l e R s m args below meth c H locs cells slots Q (F0 m (pc + 3) ls (.int v :: rest))) : W p l e R s m args below meth c H locs cells slots Q (F0 m pc ls (.ref (q 0) :: rest)) := by
  obtain ⟨hx, hb, hml, hown, hT, hrt, hlk, hK, hA, hG, hE⟩ := G
  subst hv
  exact va_get (ci := 4) (v := .int (mf_open σ)) (C := RX5) (T := TX5) (N := 22) hx hb hT i_X5 hown hK hP 0 rfl rfl 16 (by decide) (hT _ wfl_X5_73) (fun _ h9 => h9) rfl hdg k
theorem pm_X5_open {p : Program} {l : Launch} {e : Env} {R : Room} {s : State} {m : MethodId} {args : Array Value} {below : List Frame} {meth : Method} {c : Code} {H : Heap} {locs : List Loc} {cells slots : Nat} {Q : State → Prop} {D : va_G} {aK aV : Nat → Nat} {A : Nat → Prop} {cc : ByteArray} {nL : Nat} {ret : Option FieldType} {pc : Nat} {ls : Array Slot} {rest : List Value} {cB cI cJ : ClassId} {q : Nat → Nat} {σ : MSt} {v : Int32} (G : CX p s m args meth c D (gTy cB cI cJ) aK aV A RX5 cc nL ret) (hP : va_P D vwCl (mW cB cI cJ q σ) H) (hD : va_D A (mW cB cI cJ q σ)) (hS : va_S A s.heap H locs) (hdg : decode cc pc = .ok (.putfield 73, 3)) (k : ∀ (H1 : Heap) (locs1 : List Loc), va_P D vwCl (mW cB cI cJ q (ms_open σ v)) H1 → va_D A (mW cB cI cJ q (ms_open σ v)) → va_S A s.heap H1 locs1 → W p l e R s m args below meth c H1 locs1 cells slots Q (F0 m (pc + 3) ls rest)) : W p l e R s m args below meth c H locs cells slots Q (F0 m pc ls (.int v :: .ref (q 0) :: rest)) := by
  obtain ⟨hx, hb, hml, hown, hT, hrt, hlk, hK, hA, hG, hE⟩ := G
  exact va_put (ci := 4) (v := .int v) (ty := .int) (C := RX5) (T := TX5) (N := 22) hx hb hT i_X5 tyX5 tyX5_ok nmX5 hown hK hP hD hS 0 rfl rfl 16 (by decide) (hT _ wfl_X5_73) (fun _ h9 => h9) rfl (by decide +kernel) rfl rfl (Nat.le_of_ble_eq_true rfl) hdg k
theorem gm_X5_at {p : Program} {l : Launch} {e : Env} {R : Room} {s : State} {m : MethodId} {args : Array Value} {below : List Frame} {meth : Method} {c : Code} {H : Heap} {locs : List Loc} {cells slots : Nat} {Q : State → Prop} {D : va_G} {aK aV : Nat → Nat} {A : Nat → Prop} {cc : ByteArray} {nL : Nat} {ret : Option FieldType} {pc : Nat} {ls : Array Slot} {rest : List Value} {cB cI cJ : ClassId} {q : Nat → Nat} {σ : MSt} {v : Int32} (G : CX p s m args meth c D (gTy cB cI cJ) aK aV A RX5 cc nL ret) (hP : va_P D vwCl (mW cB cI cJ q σ) H) (hdg : decode cc pc = .ok (.getfield 64, 3)) (hv : mf_at σ = v) (k : W p l e R s m args below meth c H locs cells slots Q (F0 m (pc + 3) ls (.int v :: rest))) : W p l e R s m args below meth c H locs cells slots Q (F0 m pc ls (.ref (q 0) :: rest)) := by
  obtain ⟨hx, hb, hml, hown, hT, hrt, hlk, hK, hA, hG, hE⟩ := G
  subst hv
  exact va_get (ci := 4) (v := .int (mf_at σ)) (C := RX5) (T := TX5) (N := 22) hx hb hT i_X5 hown hK hP 0 rfl rfl 17 (by decide) (hT _ wfl_X5_64) (fun _ h9 => h9) rfl hdg k
theorem pm_X5_at {p : Program} {l : Launch} {e : Env} {R : Room} {s : State} {m : MethodId} {args : Array Value} {below : List Frame} {meth : Method} {c : Code} {H : Heap} {locs : List Loc} {cells slots : Nat} {Q : State → Prop} {D : va_G} {aK aV : Nat → Nat} {A : Nat → Prop} {cc : ByteArray} {nL : Nat} {ret : Option FieldType} {pc : Nat} {ls : Array Slot} {rest : List Value} {cB cI cJ : ClassId} {q : Nat → Nat} {σ : MSt} {v : Int32} (G : CX p s m args meth c D (gTy cB cI cJ) aK aV A RX5 cc nL ret) (hP : va_P D vwCl (mW cB cI cJ q σ) H) (hD : va_D A (mW cB cI cJ q σ)) (hS : va_S A s.heap H locs) (hdg : decode cc pc = .ok (.putfield 64, 3)) (k : ∀ (H1 : Heap) (locs1 : List Loc), va_P D vwCl (mW cB cI cJ q (ms_at σ v)) H1 → va_D A (mW cB cI cJ q (ms_at σ v)) → va_S A s.heap H1 locs1 → W p l e R s m args below meth c H1 locs1 cells slots Q (F0 m (pc + 3) ls rest)) : W p l e R s m args below meth c H locs cells slots Q (F0 m pc ls (.int v :: .ref (q 0) :: rest)) := by
  obtain ⟨hx, hb, hml, hown, hT, hrt, hlk, hK, hA, hG, hE⟩ := G
  exact va_put (ci := 4) (v := .int v) (ty := .int) (C := RX5) (T := TX5) (N := 22) hx hb hT i_X5 tyX5 tyX5_ok nmX5 hown hK hP hD hS 0 rfl rfl 17 (by decide) (hT _ wfl_X5_64) (fun _ h9 => h9) rfl (by decide +kernel) rfl rfl (Nat.le_of_ble_eq_true rfl) hdg k
theorem gm_X5_fault {p : Program} {l : Launch} {e : Env} {R : Room} {s : State} {m : MethodId} {args : Array Value} {below : List Frame} {meth : Method} {c : Code} {H : Heap} {locs : List Loc} {cells slots : Nat} {Q : State → Prop} {D : va_G} {aK aV : Nat → Nat} {A : Nat → Prop} {cc : ByteArray} {nL : Nat} {ret : Option FieldType} {pc : Nat} {ls : Array Slot} {rest : List Value} {cB cI cJ : ClassId} {q : Nat → Nat} {σ : MSt} {v : Int32} (G : CX p s m args meth c D (gTy cB cI cJ) aK aV A RX5 cc nL ret) (hP : va_P D vwCl (mW cB cI cJ q σ) H) (hdg : decode cc pc = .ok (.getfield 61, 3)) (hv : mf_fault σ = v) (k : W p l e R s m args below meth c H locs cells slots Q (F0 m (pc + 3) ls (.int v :: rest))) : W p l e R s m args below meth c H locs cells slots Q (F0 m pc ls (.ref (q 0) :: rest)) := by
  obtain ⟨hx, hb, hml, hown, hT, hrt, hlk, hK, hA, hG, hE⟩ := G
  subst hv
  exact va_get (ci := 4) (v := .int (mf_fault σ)) (C := RX5) (T := TX5) (N := 22) hx hb hT i_X5 hown hK hP 0 rfl rfl 18 (by decide) (hT _ wfl_X5_61) (fun _ h9 => h9) rfl hdg k
theorem pm_X5_fault {p : Program} {l : Launch} {e : Env} {R : Room} {s : State} {m : MethodId} {args : Array Value} {below : List Frame} {meth : Method} {c : Code} {H : Heap} {locs : List Loc} {cells slots : Nat} {Q : State → Prop} {D : va_G} {aK aV : Nat → Nat} {A : Nat → Prop} {cc : ByteArray} {nL : Nat} {ret : Option FieldType} {pc : Nat} {ls : Array Slot} {rest : List Value} {cB cI cJ : ClassId} {q : Nat → Nat} {σ : MSt} {v : Int32} (G : CX p s m args meth c D (gTy cB cI cJ) aK aV A RX5 cc nL ret) (hP : va_P D vwCl (mW cB cI cJ q σ) H) (hD : va_D A (mW cB cI cJ q σ)) (hS : va_S A s.heap H locs) (hdg : decode cc pc = .ok (.putfield 61, 3)) (k : ∀ (H1 : Heap) (locs1 : List Loc), va_P D vwCl (mW cB cI cJ q (ms_fault σ v)) H1 → va_D A (mW cB cI cJ q (ms_fault σ v)) → va_S A s.heap H1 locs1 → W p l e R s m args below meth c H1 locs1 cells slots Q (F0 m (pc + 3) ls rest)) : W p l e R s m args below meth c H locs cells slots Q (F0 m pc ls (.int v :: .ref (q 0) :: rest)) := by
  obtain ⟨hx, hb, hml, hown, hT, hrt, hlk, hK, hA, hG, hE⟩ := G
  exact va_put (ci := 4) (v := .int v) (ty := .int) (C := RX5) (T := TX5) (N := 22) hx hb hT i_X5 tyX5 tyX5_ok nmX5 hown hK hP hD hS 0 rfl rfl 18 (by decide) (hT _ wfl_X5_61) (fun _ h9 => h9) rfl (by decide +kernel) rfl rfl (Nat.le_of_ble_eq_true rfl) hdg k
theorem gm_X5_fresh {p : Program} {l : Launch} {e : Env} {R : Room} {s : State} {m : MethodId} {args : Array Value} {below : List Frame} {meth : Method} {c : Code} {H : Heap} {locs : List Loc} {cells slots : Nat} {Q : State → Prop} {D : va_G} {aK aV : Nat → Nat} {A : Nat → Prop} {cc : ByteArray} {nL : Nat} {ret : Option FieldType} {pc : Nat} {ls : Array Slot} {rest : List Value} {cB cI cJ : ClassId} {q : Nat → Nat} {σ : MSt} (G : CX p s m args meth c D (gTy cB cI cJ) aK aV A RX5 cc nL ret) (hP : va_P D vwCl (mW cB cI cJ q σ) H) (hdg : decode cc pc = .ok (.getfield 46, 3)) (k : W p l e R s m args below meth c H locs cells slots Q (F0 m (pc + 3) ls (.ref (q 9) :: rest))) : W p l e R s m args below meth c H locs cells slots Q (F0 m pc ls (.ref (q 0) :: rest)) := by
  obtain ⟨hx, hb, hml, hown, hT, hrt, hlk, hK, hA, hG, hE⟩ := G
  exact va_get (ci := 4) (v := .ref (q 9)) (C := RX5) (T := TX5) (N := 22) hx hb hT i_X5 hown hK hP 0 rfl rfl 19 (by decide) (hT _ wfl_X5_46) (fun _ h9 => h9) rfl hdg k
theorem lm_fresh {p : Program} {l : Launch} {e : Env} {R : Room} {s : State} {m : MethodId} {args : Array Value} {below : List Frame} {meth : Method} {c : Code} {H : Heap} {locs : List Loc} {cells slots : Nat} {Q : State → Prop} {D : va_G} {aK aV : Nat → Nat} {A : Nat → Prop} {cc : ByteArray} {nL : Nat} {ret : Option FieldType} {pc : Nat} {ls : Array Slot} {rest : List Value} {cB cI cJ : ClassId} {q : Nat → Nat} {σ : MSt} {i : Int32} {f : Nat → Int32} (G : CX p s m args meth c D (gTy cB cI cJ) aK aV A RX5 cc nL ret) (hP : va_P D vwCl (mW cB cI cJ q σ) H) (hin : vp_in i (6000)) (hdg : decode cc pc = .ok (.baload, 1)) (h0 : mf_fresh σ = f) (k : W p l e R s m args below meth c H locs cells slots Q (F0 m (pc + 1) ls (.int (f i.toNatClampNeg) :: rest))) : W p l e R s m args below meth c H locs cells slots Q (F0 m pc ls (.int i :: .ref (q 9) :: rest)) := by
  obtain ⟨hx, hb, hml, hown, hT, hrt, hlk, hK, hA, hG, hE⟩ := G
  subst h0
  exact va_bald hx hb hK hP 9 0 rfl rfl hin hdg k
theorem sm_fresh {p : Program} {l : Launch} {e : Env} {R : Room} {s : State} {m : MethodId} {args : Array Value} {below : List Frame} {meth : Method} {c : Code} {H : Heap} {locs : List Loc} {cells slots : Nat} {Q : State → Prop} {D : va_G} {aK aV : Nat → Nat} {A : Nat → Prop} {cc : ByteArray} {nL : Nat} {ret : Option FieldType} {pc : Nat} {ls : Array Slot} {rest : List Value} {cB cI cJ : ClassId} {q : Nat → Nat} {σ : MSt} {i : Int32} {x : Int32} {f : Nat → Int32} (G : CX p s m args meth c D (gTy cB cI cJ) aK aV A RX5 cc nL ret) (hP : va_P D vwCl (mW cB cI cJ q σ) H) (hD : va_D A (mW cB cI cJ q σ)) (hS : va_S A s.heap H locs) (hin : vp_in i (6000)) (hdg : decode cc pc = .ok (.bastore, 1)) (h0 : mf_fresh σ = f) (k : ∀ (H1 : Heap) (locs1 : List Loc), va_P D vwCl (mW cB cI cJ q (ms_fresh σ (upd f i.toNatClampNeg (vp_nar .byte x)))) H1 → va_D A (mW cB cI cJ q (ms_fresh σ (upd f i.toNatClampNeg (vp_nar .byte x)))) → va_S A s.heap H1 locs1 → W p l e R s m args below meth c H1 locs1 cells slots Q (F0 m (pc + 1) ls rest)) : W p l e R s m args below meth c H locs cells slots Q (F0 m pc ls (.int x :: .int i :: .ref (q 9) :: rest)) := by
  obtain ⟨hx, hb, hml, hown, hT, hrt, hlk, hK, hA, hG, hE⟩ := G
  subst h0
  exact va_bast hx hb hK hP hD hS 9 0 rfl rfl hin hdg k
theorem nm_fresh {p : Program} {l : Launch} {e : Env} {R : Room} {s : State} {m : MethodId} {args : Array Value} {below : List Frame} {meth : Method} {c : Code} {H : Heap} {locs : List Loc} {cells slots : Nat} {Q : State → Prop} {D : va_G} {aK aV : Nat → Nat} {A : Nat → Prop} {cc : ByteArray} {nL : Nat} {ret : Option FieldType} {pc : Nat} {ls : Array Slot} {rest : List Value} {cB cI cJ : ClassId} {q : Nat → Nat} {σ : MSt} {v : Int32} (G : CX p s m args meth c D (gTy cB cI cJ) aK aV A RX5 cc nL ret) (hP : va_P D vwCl (mW cB cI cJ q σ) H) (hv : Int32.ofNat (6000) = v) (hdg : decode cc pc = .ok (.arraylength, 1)) (k : W p l e R s m args below meth c H locs cells slots Q (F0 m (pc + 1) ls (.int v :: rest))) : W p l e R s m args below meth c H locs cells slots Q (F0 m pc ls (.ref (q 9) :: rest)) := by
  obtain ⟨hx, hb, hml, hown, hT, hrt, hlk, hK, hA, hG, hE⟩ := G
  exact va_alen hx hb hK hP 9 0 rfl rfl hv hdg k
theorem gm_X5_freshMany {p : Program} {l : Launch} {e : Env} {R : Room} {s : State} {m : MethodId} {args : Array Value} {below : List Frame} {meth : Method} {c : Code} {H : Heap} {locs : List Loc} {cells slots : Nat} {Q : State → Prop} {D : va_G} {aK aV : Nat → Nat} {A : Nat → Prop} {cc : ByteArray} {nL : Nat} {ret : Option FieldType} {pc : Nat} {ls : Array Slot} {rest : List Value} {cB cI cJ : ClassId} {q : Nat → Nat} {σ : MSt} {v : Int32} (G : CX p s m args meth c D (gTy cB cI cJ) aK aV A RX5 cc nL ret) (hP : va_P D vwCl (mW cB cI cJ q σ) H) (hdg : decode cc pc = .ok (.getfield 212, 3)) (hv : mf_freshMany σ = v) (k : W p l e R s m args below meth c H locs cells slots Q (F0 m (pc + 3) ls (.int v :: rest))) : W p l e R s m args below meth c H locs cells slots Q (F0 m pc ls (.ref (q 0) :: rest)) := by
  obtain ⟨hx, hb, hml, hown, hT, hrt, hlk, hK, hA, hG, hE⟩ := G
  subst hv
  exact va_get (ci := 4) (v := .int (mf_freshMany σ)) (C := RX5) (T := TX5) (N := 22) hx hb hT i_X5 hown hK hP 0 rfl rfl 20 (by decide) (hT _ wfl_X5_212) (fun _ h9 => h9) rfl hdg k
theorem pm_X5_freshMany {p : Program} {l : Launch} {e : Env} {R : Room} {s : State} {m : MethodId} {args : Array Value} {below : List Frame} {meth : Method} {c : Code} {H : Heap} {locs : List Loc} {cells slots : Nat} {Q : State → Prop} {D : va_G} {aK aV : Nat → Nat} {A : Nat → Prop} {cc : ByteArray} {nL : Nat} {ret : Option FieldType} {pc : Nat} {ls : Array Slot} {rest : List Value} {cB cI cJ : ClassId} {q : Nat → Nat} {σ : MSt} {v : Int32} (G : CX p s m args meth c D (gTy cB cI cJ) aK aV A RX5 cc nL ret) (hP : va_P D vwCl (mW cB cI cJ q σ) H) (hD : va_D A (mW cB cI cJ q σ)) (hS : va_S A s.heap H locs) (hdg : decode cc pc = .ok (.putfield 212, 3)) (k : ∀ (H1 : Heap) (locs1 : List Loc), va_P D vwCl (mW cB cI cJ q (ms_freshMany σ v)) H1 → va_D A (mW cB cI cJ q (ms_freshMany σ v)) → va_S A s.heap H1 locs1 → W p l e R s m args below meth c H1 locs1 cells slots Q (F0 m (pc + 3) ls rest)) : W p l e R s m args below meth c H locs cells slots Q (F0 m pc ls (.int v :: .ref (q 0) :: rest)) := by
  obtain ⟨hx, hb, hml, hown, hT, hrt, hlk, hK, hA, hG, hE⟩ := G
  exact va_put (ci := 4) (v := .int v) (ty := .int) (C := RX5) (T := TX5) (N := 22) hx hb hT i_X5 tyX5 tyX5_ok nmX5 hown hK hP hD hS 0 rfl rfl 20 (by decide) (hT _ wfl_X5_212) (fun _ h9 => h9) rfl (by decide +kernel) rfl rfl (Nat.le_of_ble_eq_true rfl) hdg k
theorem gm_X5_figures {p : Program} {l : Launch} {e : Env} {R : Room} {s : State} {m : MethodId} {args : Array Value} {below : List Frame} {meth : Method} {c : Code} {H : Heap} {locs : List Loc} {cells slots : Nat} {Q : State → Prop} {D : va_G} {aK aV : Nat → Nat} {A : Nat → Prop} {cc : ByteArray} {nL : Nat} {ret : Option FieldType} {pc : Nat} {ls : Array Slot} {rest : List Value} {cB cI cJ : ClassId} {q : Nat → Nat} {σ : MSt} (G : CX p s m args meth c D (gTy cB cI cJ) aK aV A RX5 cc nL ret) (hP : va_P D vwCl (mW cB cI cJ q σ) H) (hdg : decode cc pc = .ok (.getfield 49, 3)) (k : W p l e R s m args below meth c H locs cells slots Q (F0 m (pc + 3) ls (.ref (q 10) :: rest))) : W p l e R s m args below meth c H locs cells slots Q (F0 m pc ls (.ref (q 0) :: rest)) := by
  obtain ⟨hx, hb, hml, hown, hT, hrt, hlk, hK, hA, hG, hE⟩ := G
  exact va_get (ci := 4) (v := .ref (q 10)) (C := RX5) (T := TX5) (N := 22) hx hb hT i_X5 hown hK hP 0 rfl rfl 21 (by decide) (hT _ wfl_X5_49) (fun _ h9 => h9) rfl hdg k
theorem lm_figures {p : Program} {l : Launch} {e : Env} {R : Room} {s : State} {m : MethodId} {args : Array Value} {below : List Frame} {meth : Method} {c : Code} {H : Heap} {locs : List Loc} {cells slots : Nat} {Q : State → Prop} {D : va_G} {aK aV : Nat → Nat} {A : Nat → Prop} {cc : ByteArray} {nL : Nat} {ret : Option FieldType} {pc : Nat} {ls : Array Slot} {rest : List Value} {cB cI cJ : ClassId} {q : Nat → Nat} {σ : MSt} {i : Int32} {f : Nat → Int32} (G : CX p s m args meth c D (gTy cB cI cJ) aK aV A RX5 cc nL ret) (hP : va_P D vwCl (mW cB cI cJ q σ) H) (hin : vp_in i (24)) (hdg : decode cc pc = .ok (.iaload, 1)) (h0 : mf_figures σ = f) (k : W p l e R s m args below meth c H locs cells slots Q (F0 m (pc + 1) ls (.int (f i.toNatClampNeg) :: rest))) : W p l e R s m args below meth c H locs cells slots Q (F0 m pc ls (.int i :: .ref (q 10) :: rest)) := by
  obtain ⟨hx, hb, hml, hown, hT, hrt, hlk, hK, hA, hG, hE⟩ := G
  subst h0
  exact va_iald hx hb hK hP 10 1 rfl rfl hin hdg k
theorem sm_figures {p : Program} {l : Launch} {e : Env} {R : Room} {s : State} {m : MethodId} {args : Array Value} {below : List Frame} {meth : Method} {c : Code} {H : Heap} {locs : List Loc} {cells slots : Nat} {Q : State → Prop} {D : va_G} {aK aV : Nat → Nat} {A : Nat → Prop} {cc : ByteArray} {nL : Nat} {ret : Option FieldType} {pc : Nat} {ls : Array Slot} {rest : List Value} {cB cI cJ : ClassId} {q : Nat → Nat} {σ : MSt} {i : Int32} {x : Int32} {f : Nat → Int32} (G : CX p s m args meth c D (gTy cB cI cJ) aK aV A RX5 cc nL ret) (hP : va_P D vwCl (mW cB cI cJ q σ) H) (hD : va_D A (mW cB cI cJ q σ)) (hS : va_S A s.heap H locs) (hin : vp_in i (24)) (hdg : decode cc pc = .ok (.iastore, 1)) (h0 : mf_figures σ = f) (k : ∀ (H1 : Heap) (locs1 : List Loc), va_P D vwCl (mW cB cI cJ q (ms_figures σ (upd f i.toNatClampNeg x))) H1 → va_D A (mW cB cI cJ q (ms_figures σ (upd f i.toNatClampNeg x))) → va_S A s.heap H1 locs1 → W p l e R s m args below meth c H1 locs1 cells slots Q (F0 m (pc + 1) ls rest)) : W p l e R s m args below meth c H locs cells slots Q (F0 m pc ls (.int x :: .int i :: .ref (q 10) :: rest)) := by
  obtain ⟨hx, hb, hml, hown, hT, hrt, hlk, hK, hA, hG, hE⟩ := G
  subst h0
  exact va_iast hx hb hK hP hD hS 10 1 rfl rfl hin hdg k
theorem nm_figures {p : Program} {l : Launch} {e : Env} {R : Room} {s : State} {m : MethodId} {args : Array Value} {below : List Frame} {meth : Method} {c : Code} {H : Heap} {locs : List Loc} {cells slots : Nat} {Q : State → Prop} {D : va_G} {aK aV : Nat → Nat} {A : Nat → Prop} {cc : ByteArray} {nL : Nat} {ret : Option FieldType} {pc : Nat} {ls : Array Slot} {rest : List Value} {cB cI cJ : ClassId} {q : Nat → Nat} {σ : MSt} {v : Int32} (G : CX p s m args meth c D (gTy cB cI cJ) aK aV A RX5 cc nL ret) (hP : va_P D vwCl (mW cB cI cJ q σ) H) (hv : Int32.ofNat (24) = v) (hdg : decode cc pc = .ok (.arraylength, 1)) (k : W p l e R s m args below meth c H locs cells slots Q (F0 m (pc + 1) ls (.int v :: rest))) : W p l e R s m args below meth c H locs cells slots Q (F0 m pc ls (.ref (q 10) :: rest)) := by
  obtain ⟨hx, hb, hml, hown, hT, hrt, hlk, hK, hA, hG, hE⟩ := G
  exact va_alen hx hb hK hP 10 1 rfl rfl hv hdg k
theorem vM {p : Program} {l : Launch} {e : Env} {R : Room} {s : State} {m : MethodId} {args : Array Value} {below : List Frame} {meth : Method} {c : Code} {H : Heap} {locs : List Loc} {cells slots : Nat} {Q : State → Prop} {D : va_G} {aK aV : Nat → Nat} {A : Nat → Prop} {cc : ByteArray} {nL : Nat} {ret : Option FieldType} {pc : Nat} {ls : Array Slot} {rest : List Value} {cB cI cJ : ClassId} {q : Nat → Nat} {σ : MSt} {ov : Option Value} {y : MethodName} {bytes : ByteArray} {maxL n index : Nat} {ret' : Option FieldType} {rm : Room} {As : List Value} {τ : MSt} (G : CX p s m args meth c D (gTy cB cI cJ) aK aV A RX5 cc nL ret) (M : MV RX5 index RX5 y bytes maxL ret' n) (hM : CT l D (gTy cB cI cJ) aK aV y (wM y bytes maxL ret') rm 0 0 (.ref (q 0) :: As) (mW cB cI cJ q σ) ov (mW cB cI cJ q τ)) (hP : va_P D vwCl (mW cB cI cJ q σ) H) (hD : va_D A (mW cB cI cJ q σ)) (hS : va_S A s.heap H locs) (hrm : rm.cells = 0 ∧ rm.slots = 0 ∧ rm.frames + 1 ≤ R.frames ∧ 8 + (maxL + 11) + rm.locals ≤ R.locals) (hc : cells ≤ R.cells ∧ slots ≤ R.slots) (hA : As.length = n) (hls : ls.size = nL) (hst : (rest.map fun v => v.category).sum ≤ 8) (hdg : decode cc pc = .ok (.invokevirtual index, 3)) (k : ∀ (H1 : Heap) (locs1 : List Loc), va_P D vwCl (mW cB cI cJ q τ) H1 → va_D A (mW cB cI cJ q τ) → va_S A s.heap H1 locs1 → W p l e R s m args below meth c H1 locs1 cells slots Q (F0 m (pc + 3) ls (ov.toList ++ rest))) : W p l e R s m args below meth c H locs cells slots Q (F0 m pc ls (As.reverse ++ .ref (q 0) :: rest)) :=
  ct_v (wr := []) G M hM hP hD hS [0, 1, 2, 3, 4, 5, 6, 7, 8, 9, 10] [] rfl rfl rfl rfl (fun _ h => absurd h List.not_mem_nil) (ci := 4) (q0 := 0) rfl rfl rfl hrm hA hls hst hdg hc k
theorem gr_X3_bytes {p : Program} {l : Launch} {e : Env} {R : Room} {s : State} {m : MethodId} {args : Array Value} {below : List Frame} {meth : Method} {c : Code} {H : Heap} {locs : List Loc} {cells slots : Nat} {Q : State → Prop} {D : va_G} {aK aV : Nat → Nat} {A : Nat → Prop} {cc : ByteArray} {nL : Nat} {ret : Option FieldType} {pc : Nat} {ls : Array Slot} {rest : List Value} {cB cI cJ : ClassId} {r b N : Nat} {σ : RSt} (G : CX p s m args meth c D (gTy cB cI cJ) aK aV A RX3 cc nL ret) (hP : va_P D vwCl (rW cB r b N σ) H) (hdg : decode cc pc = .ok (.getfield 15, 3)) (k : W p l e R s m args below meth c H locs cells slots Q (F0 m (pc + 3) ls (.ref (b) :: rest))) : W p l e R s m args below meth c H locs cells slots Q (F0 m pc ls (.ref (r) :: rest)) := by
  obtain ⟨hx, hb, hml, hown, hT, hrt, hlk, hK, hA, hG, hE⟩ := G
  exact va_get (ci := 2) (v := .ref (b)) (C := RX3) (T := TX3) (N := 2) hx hb hT i_X3 hown hK hP 0 rfl rfl 0 (by decide) (hT _ wfl_X3_15) (fun _ h9 => h9) rfl hdg k
theorem gr_X3_sz {p : Program} {l : Launch} {e : Env} {R : Room} {s : State} {m : MethodId} {args : Array Value} {below : List Frame} {meth : Method} {c : Code} {H : Heap} {locs : List Loc} {cells slots : Nat} {Q : State → Prop} {D : va_G} {aK aV : Nat → Nat} {A : Nat → Prop} {cc : ByteArray} {nL : Nat} {ret : Option FieldType} {pc : Nat} {ls : Array Slot} {rest : List Value} {cB cI cJ : ClassId} {r b N : Nat} {σ : RSt} {v : Int32} (G : CX p s m args meth c D (gTy cB cI cJ) aK aV A RX3 cc nL ret) (hP : va_P D vwCl (rW cB r b N σ) H) (hdg : decode cc pc = .ok (.getfield 21, 3)) (hv : rf_sz σ = v) (k : W p l e R s m args below meth c H locs cells slots Q (F0 m (pc + 3) ls (.int v :: rest))) : W p l e R s m args below meth c H locs cells slots Q (F0 m pc ls (.ref (r) :: rest)) := by
  obtain ⟨hx, hb, hml, hown, hT, hrt, hlk, hK, hA, hG, hE⟩ := G
  subst hv
  exact va_get (ci := 2) (v := .int (rf_sz σ)) (C := RX3) (T := TX3) (N := 2) hx hb hT i_X3 hown hK hP 0 rfl rfl 1 (by decide) (hT _ wfl_X3_21) (fun _ h9 => h9) rfl hdg k
theorem pr_X3_sz {p : Program} {l : Launch} {e : Env} {R : Room} {s : State} {m : MethodId} {args : Array Value} {below : List Frame} {meth : Method} {c : Code} {H : Heap} {locs : List Loc} {cells slots : Nat} {Q : State → Prop} {D : va_G} {aK aV : Nat → Nat} {A : Nat → Prop} {cc : ByteArray} {nL : Nat} {ret : Option FieldType} {pc : Nat} {ls : Array Slot} {rest : List Value} {cB cI cJ : ClassId} {r b N : Nat} {σ : RSt} {v : Int32} (G : CX p s m args meth c D (gTy cB cI cJ) aK aV A RX3 cc nL ret) (hP : va_P D vwCl (rW cB r b N σ) H) (hD : va_D A (rW cB r b N σ)) (hS : va_S A s.heap H locs) (hdg : decode cc pc = .ok (.putfield 21, 3)) (k : ∀ (H1 : Heap) (locs1 : List Loc), va_P D vwCl (rW cB r b N (rs_sz σ v)) H1 → va_D A (rW cB r b N (rs_sz σ v)) → va_S A s.heap H1 locs1 → W p l e R s m args below meth c H1 locs1 cells slots Q (F0 m (pc + 3) ls rest)) : W p l e R s m args below meth c H locs cells slots Q (F0 m pc ls (.int v :: .ref (r) :: rest)) := by
  obtain ⟨hx, hb, hml, hown, hT, hrt, hlk, hK, hA, hG, hE⟩ := G
  exact va_put (ci := 2) (v := .int v) (ty := .int) (C := RX3) (T := TX3) (N := 2) hx hb hT i_X3 tyX3 tyX3_ok nmX3 hown hK hP hD hS 0 rfl rfl 1 (by decide) (hT _ wfl_X3_21) (fun _ h9 => h9) rfl (by decide +kernel) rfl rfl (Nat.le_of_ble_eq_true rfl) hdg k
theorem lr_f {p : Program} {l : Launch} {e : Env} {R : Room} {s : State} {m : MethodId} {args : Array Value} {below : List Frame} {meth : Method} {c : Code} {H : Heap} {locs : List Loc} {cells slots : Nat} {Q : State → Prop} {D : va_G} {aK aV : Nat → Nat} {A : Nat → Prop} {cc : ByteArray} {nL : Nat} {ret : Option FieldType} {pc : Nat} {ls : Array Slot} {rest : List Value} {cB cI cJ : ClassId} {r b N : Nat} {σ : RSt} {i : Int32} {f : Nat → Int32} (G : CX p s m args meth c D (gTy cB cI cJ) aK aV A RX3 cc nL ret) (hP : va_P D vwCl (rW cB r b N σ) H) (hin : vp_in i (N)) (hdg : decode cc pc = .ok (.baload, 1)) (h0 : rf_f σ = f) (k : W p l e R s m args below meth c H locs cells slots Q (F0 m (pc + 1) ls (.int (f i.toNatClampNeg) :: rest))) : W p l e R s m args below meth c H locs cells slots Q (F0 m pc ls (.int i :: .ref (b) :: rest)) := by
  obtain ⟨hx, hb, hml, hown, hT, hrt, hlk, hK, hA, hG, hE⟩ := G
  subst h0
  exact va_bald hx hb hK hP 1 0 rfl rfl hin hdg k
theorem sr_f {p : Program} {l : Launch} {e : Env} {R : Room} {s : State} {m : MethodId} {args : Array Value} {below : List Frame} {meth : Method} {c : Code} {H : Heap} {locs : List Loc} {cells slots : Nat} {Q : State → Prop} {D : va_G} {aK aV : Nat → Nat} {A : Nat → Prop} {cc : ByteArray} {nL : Nat} {ret : Option FieldType} {pc : Nat} {ls : Array Slot} {rest : List Value} {cB cI cJ : ClassId} {r b N : Nat} {σ : RSt} {i : Int32} {x : Int32} {f : Nat → Int32} (G : CX p s m args meth c D (gTy cB cI cJ) aK aV A RX3 cc nL ret) (hP : va_P D vwCl (rW cB r b N σ) H) (hD : va_D A (rW cB r b N σ)) (hS : va_S A s.heap H locs) (hin : vp_in i (N)) (hdg : decode cc pc = .ok (.bastore, 1)) (h0 : rf_f σ = f) (k : ∀ (H1 : Heap) (locs1 : List Loc), va_P D vwCl (rW cB r b N (rs_f σ (upd f i.toNatClampNeg (vp_nar .byte x)))) H1 → va_D A (rW cB r b N (rs_f σ (upd f i.toNatClampNeg (vp_nar .byte x)))) → va_S A s.heap H1 locs1 → W p l e R s m args below meth c H1 locs1 cells slots Q (F0 m (pc + 1) ls rest)) : W p l e R s m args below meth c H locs cells slots Q (F0 m pc ls (.int x :: .int i :: .ref (b) :: rest)) := by
  obtain ⟨hx, hb, hml, hown, hT, hrt, hlk, hK, hA, hG, hE⟩ := G
  subst h0
  exact va_bast hx hb hK hP hD hS 1 0 rfl rfl hin hdg k
theorem nr_f {p : Program} {l : Launch} {e : Env} {R : Room} {s : State} {m : MethodId} {args : Array Value} {below : List Frame} {meth : Method} {c : Code} {H : Heap} {locs : List Loc} {cells slots : Nat} {Q : State → Prop} {D : va_G} {aK aV : Nat → Nat} {A : Nat → Prop} {cc : ByteArray} {nL : Nat} {ret : Option FieldType} {pc : Nat} {ls : Array Slot} {rest : List Value} {cB cI cJ : ClassId} {r b N : Nat} {σ : RSt} {v : Int32} (G : CX p s m args meth c D (gTy cB cI cJ) aK aV A RX3 cc nL ret) (hP : va_P D vwCl (rW cB r b N σ) H) (hv : Int32.ofNat (N) = v) (hdg : decode cc pc = .ok (.arraylength, 1)) (k : W p l e R s m args below meth c H locs cells slots Q (F0 m (pc + 1) ls (.int v :: rest))) : W p l e R s m args below meth c H locs cells slots Q (F0 m pc ls (.ref (b) :: rest)) := by
  obtain ⟨hx, hb, hml, hown, hT, hrt, hlk, hK, hA, hG, hE⟩ := G
  exact va_alen hx hb hK hP 1 0 rfl rfl hv hdg k
theorem vR {p : Program} {l : Launch} {e : Env} {R : Room} {s : State} {m : MethodId} {args : Array Value} {below : List Frame} {meth : Method} {c : Code} {H : Heap} {locs : List Loc} {cells slots : Nat} {Q : State → Prop} {D : va_G} {aK aV : Nat → Nat} {A : Nat → Prop} {cc : ByteArray} {nL : Nat} {ret : Option FieldType} {pc : Nat} {ls : Array Slot} {rest : List Value} {cB cI cJ : ClassId} {r b N : Nat} {σ : RSt} {ov : Option Value} {y : MethodName} {bytes : ByteArray} {maxL n index : Nat} {ret' : Option FieldType} {rm : Room} {As : List Value} {τ : RSt} {own : String} (G : CX p s m args meth c D (gTy cB cI cJ) aK aV A own cc nL ret) (M : MV own index RX3 y bytes maxL ret' n) (hM : CT l D (gTy cB cI cJ) aK aV y (wM y bytes maxL ret') rm 0 0 (.ref r :: As) (rW cB r b N σ) ov (rW cB r b N τ)) (hP : va_P D vwCl (rW cB r b N σ) H) (hD : va_D A (rW cB r b N σ)) (hS : va_S A s.heap H locs) (hrm : rm.cells = 0 ∧ rm.slots = 0 ∧ rm.frames + 1 ≤ R.frames ∧ 8 + (maxL + 11) + rm.locals ≤ R.locals) (hc : cells ≤ R.cells ∧ slots ≤ R.slots) (hA : As.length = n) (hls : ls.size = nL) (hst : (rest.map fun v => v.category).sum ≤ 8) (hdg : decode cc pc = .ok (.invokevirtual index, 3)) (k : ∀ (H1 : Heap) (locs1 : List Loc), va_P D vwCl (rW cB r b N τ) H1 → va_D A (rW cB r b N τ) → va_S A s.heap H1 locs1 → W p l e R s m args below meth c H1 locs1 cells slots Q (F0 m (pc + 3) ls (ov.toList ++ rest))) : W p l e R s m args below meth c H locs cells slots Q (F0 m pc ls (As.reverse ++ .ref r :: rest)) :=
  ct_v (wr := []) G M hM hP hD hS [0, 1] [] rfl rfl rfl rfl (fun _ h => absurd h List.not_mem_nil) (ci := 2) (q0 := 0) rfl rfl rfl hrm hA hls hst hdg hc k
theorem gj_X1_tape {p : Program} {l : Launch} {e : Env} {R : Room} {s : State} {m : MethodId} {args : Array Value} {below : List Frame} {meth : Method} {c : Code} {H : Heap} {locs : List Loc} {cells slots : Nat} {Q : State → Prop} {D : va_G} {aK aV : Nat → Nat} {A : Nat → Prop} {cc : ByteArray} {nL : Nat} {ret : Option FieldType} {pc : Nat} {ls : Array Slot} {rest : List Value} {cB cI cJ : ClassId} {q : Nat → Nat} {σ : JSt} (G : CX p s m args meth c D (gTy cB cI cJ) aK aV A RX1 cc nL ret) (hP : va_P D vwCl (jW cB q σ) H) (hdg : decode cc pc = .ok (.getfield 19, 3)) (k : W p l e R s m args below meth c H locs cells slots Q (F0 m (pc + 3) ls (.ref (q 1) :: rest))) : W p l e R s m args below meth c H locs cells slots Q (F0 m pc ls (.ref (q 0) :: rest)) := by
  obtain ⟨hx, hb, hml, hown, hT, hrt, hlk, hK, hA, hG, hE⟩ := G
  exact va_get (ci := 1) (v := .ref (q 1)) (C := RX1) (T := TX1) (N := 6) hx hb hT i_X1 hown hK hP 0 rfl rfl 0 (by decide) (hT _ wfl_X1_19) (fun x h9 => u_same (hT _ wsf_X1_tape) x h9) rfl hdg k
theorem gj_X1_target {p : Program} {l : Launch} {e : Env} {R : Room} {s : State} {m : MethodId} {args : Array Value} {below : List Frame} {meth : Method} {c : Code} {H : Heap} {locs : List Loc} {cells slots : Nat} {Q : State → Prop} {D : va_G} {aK aV : Nat → Nat} {A : Nat → Prop} {cc : ByteArray} {nL : Nat} {ret : Option FieldType} {pc : Nat} {ls : Array Slot} {rest : List Value} {cB cI cJ : ClassId} {q : Nat → Nat} {σ : JSt} (G : CX p s m args meth c D (gTy cB cI cJ) aK aV A RX1 cc nL ret) (hP : va_P D vwCl (jW cB q σ) H) (hdg : decode cc pc = .ok (.getfield 74, 3)) (k : W p l e R s m args below meth c H locs cells slots Q (F0 m (pc + 3) ls (.ref (q 3) :: rest))) : W p l e R s m args below meth c H locs cells slots Q (F0 m pc ls (.ref (q 0) :: rest)) := by
  obtain ⟨hx, hb, hml, hown, hT, hrt, hlk, hK, hA, hG, hE⟩ := G
  exact va_get (ci := 1) (v := .ref (q 3)) (C := RX1) (T := TX1) (N := 6) hx hb hT i_X1 hown hK hP 0 rfl rfl 1 (by decide) (hT _ wfl_X1_74) (fun x h9 => u_same (hT _ wsf_X1_target) x h9) rfl hdg k
theorem gj_X1_depthLimit {p : Program} {l : Launch} {e : Env} {R : Room} {s : State} {m : MethodId} {args : Array Value} {below : List Frame} {meth : Method} {c : Code} {H : Heap} {locs : List Loc} {cells slots : Nat} {Q : State → Prop} {D : va_G} {aK aV : Nat → Nat} {A : Nat → Prop} {cc : ByteArray} {nL : Nat} {ret : Option FieldType} {pc : Nat} {ls : Array Slot} {rest : List Value} {cB cI cJ : ClassId} {q : Nat → Nat} {σ : JSt} {v : Int32} (G : CX p s m args meth c D (gTy cB cI cJ) aK aV A RX1 cc nL ret) (hP : va_P D vwCl (jW cB q σ) H) (hdg : decode cc pc = .ok (.getfield 81, 3)) (hv : jf_depthLimit σ = v) (k : W p l e R s m args below meth c H locs cells slots Q (F0 m (pc + 3) ls (.int v :: rest))) : W p l e R s m args below meth c H locs cells slots Q (F0 m pc ls (.ref (q 0) :: rest)) := by
  obtain ⟨hx, hb, hml, hown, hT, hrt, hlk, hK, hA, hG, hE⟩ := G
  subst hv
  exact va_get (ci := 1) (v := .int (jf_depthLimit σ)) (C := RX1) (T := TX1) (N := 6) hx hb hT i_X1 hown hK hP 0 rfl rfl 2 (by decide) (hT _ wfl_X1_81) (fun x h9 => u_same (hT _ wsf_X1_depthLimit) x h9) rfl hdg k
theorem gj_X1_place {p : Program} {l : Launch} {e : Env} {R : Room} {s : State} {m : MethodId} {args : Array Value} {below : List Frame} {meth : Method} {c : Code} {H : Heap} {locs : List Loc} {cells slots : Nat} {Q : State → Prop} {D : va_G} {aK aV : Nat → Nat} {A : Nat → Prop} {cc : ByteArray} {nL : Nat} {ret : Option FieldType} {pc : Nat} {ls : Array Slot} {rest : List Value} {cB cI cJ : ClassId} {q : Nat → Nat} {σ : JSt} {v : Int32} (G : CX p s m args meth c D (gTy cB cI cJ) aK aV A RX1 cc nL ret) (hP : va_P D vwCl (jW cB q σ) H) (hdg : decode cc pc = .ok (.getfield 15, 3)) (hv : jf_place σ = v) (k : W p l e R s m args below meth c H locs cells slots Q (F0 m (pc + 3) ls (.int v :: rest))) : W p l e R s m args below meth c H locs cells slots Q (F0 m pc ls (.ref (q 0) :: rest)) := by
  obtain ⟨hx, hb, hml, hown, hT, hrt, hlk, hK, hA, hG, hE⟩ := G
  subst hv
  exact va_get (ci := 1) (v := .int (jf_place σ)) (C := RX1) (T := TX1) (N := 6) hx hb hT i_X1 hown hK hP 0 rfl rfl 3 (by decide) (hT _ wfl_X1_15) (fun x h9 => u_same (hT _ wsf_X1_place) x h9) rfl hdg k
theorem pj_X1_place {p : Program} {l : Launch} {e : Env} {R : Room} {s : State} {m : MethodId} {args : Array Value} {below : List Frame} {meth : Method} {c : Code} {H : Heap} {locs : List Loc} {cells slots : Nat} {Q : State → Prop} {D : va_G} {aK aV : Nat → Nat} {A : Nat → Prop} {cc : ByteArray} {nL : Nat} {ret : Option FieldType} {pc : Nat} {ls : Array Slot} {rest : List Value} {cB cI cJ : ClassId} {q : Nat → Nat} {σ : JSt} {v : Int32} (G : CX p s m args meth c D (gTy cB cI cJ) aK aV A RX1 cc nL ret) (hP : va_P D vwCl (jW cB q σ) H) (hD : va_D A (jW cB q σ)) (hS : va_S A s.heap H locs) (hdg : decode cc pc = .ok (.putfield 15, 3)) (k : ∀ (H1 : Heap) (locs1 : List Loc), va_P D vwCl (jW cB q (js_place σ v)) H1 → va_D A (jW cB q (js_place σ v)) → va_S A s.heap H1 locs1 → W p l e R s m args below meth c H1 locs1 cells slots Q (F0 m (pc + 3) ls rest)) : W p l e R s m args below meth c H locs cells slots Q (F0 m pc ls (.int v :: .ref (q 0) :: rest)) := by
  obtain ⟨hx, hb, hml, hown, hT, hrt, hlk, hK, hA, hG, hE⟩ := G
  exact va_put (ci := 1) (v := .int v) (ty := .int) (C := RX1) (T := TX1) (N := 6) hx hb hT i_X1 tyX1 tyX1_ok nmX1 hown hK hP hD hS 0 rfl rfl 3 (by decide) (hT _ wfl_X1_15) (fun x h9 => u_same (hT _ wsf_X1_place) x h9) rfl (by decide +kernel) rfl rfl (Nat.le_of_ble_eq_true rfl) hdg k
theorem gj_X2_tape {p : Program} {l : Launch} {e : Env} {R : Room} {s : State} {m : MethodId} {args : Array Value} {below : List Frame} {meth : Method} {c : Code} {H : Heap} {locs : List Loc} {cells slots : Nat} {Q : State → Prop} {D : va_G} {aK aV : Nat → Nat} {A : Nat → Prop} {cc : ByteArray} {nL : Nat} {ret : Option FieldType} {pc : Nat} {ls : Array Slot} {rest : List Value} {cB cI cJ : ClassId} {q : Nat → Nat} {σ : JSt} (G : CX p s m args meth c D (gTy cB cI cJ) aK aV A RX2 cc nL ret) (hP : va_P D vwCl (jW cB q σ) H) (hdg : decode cc pc = .ok (.getfield 9, 3)) (k : W p l e R s m args below meth c H locs cells slots Q (F0 m (pc + 3) ls (.ref (q 1) :: rest))) : W p l e R s m args below meth c H locs cells slots Q (F0 m pc ls (.ref (q 0) :: rest)) := by
  obtain ⟨hx, hb, hml, hown, hT, hrt, hlk, hK, hA, hG, hE⟩ := G
  exact va_get (ci := 1) (v := .ref (q 1)) (C := RX1) (T := TX1) (N := 6) hx hb hT i_X1 hown hK hP 0 rfl rfl 0 (by decide) (hT _ wfl_X2_9) (fun _ h9 => h9) rfl hdg k
theorem gj_X2_target {p : Program} {l : Launch} {e : Env} {R : Room} {s : State} {m : MethodId} {args : Array Value} {below : List Frame} {meth : Method} {c : Code} {H : Heap} {locs : List Loc} {cells slots : Nat} {Q : State → Prop} {D : va_G} {aK aV : Nat → Nat} {A : Nat → Prop} {cc : ByteArray} {nL : Nat} {ret : Option FieldType} {pc : Nat} {ls : Array Slot} {rest : List Value} {cB cI cJ : ClassId} {q : Nat → Nat} {σ : JSt} (G : CX p s m args meth c D (gTy cB cI cJ) aK aV A RX2 cc nL ret) (hP : va_P D vwCl (jW cB q σ) H) (hdg : decode cc pc = .ok (.getfield 15, 3)) (k : W p l e R s m args below meth c H locs cells slots Q (F0 m (pc + 3) ls (.ref (q 3) :: rest))) : W p l e R s m args below meth c H locs cells slots Q (F0 m pc ls (.ref (q 0) :: rest)) := by
  obtain ⟨hx, hb, hml, hown, hT, hrt, hlk, hK, hA, hG, hE⟩ := G
  exact va_get (ci := 1) (v := .ref (q 3)) (C := RX1) (T := TX1) (N := 6) hx hb hT i_X1 hown hK hP 0 rfl rfl 1 (by decide) (hT _ wfl_X2_15) (fun _ h9 => h9) rfl hdg k
theorem gj_X2_depthLimit {p : Program} {l : Launch} {e : Env} {R : Room} {s : State} {m : MethodId} {args : Array Value} {below : List Frame} {meth : Method} {c : Code} {H : Heap} {locs : List Loc} {cells slots : Nat} {Q : State → Prop} {D : va_G} {aK aV : Nat → Nat} {A : Nat → Prop} {cc : ByteArray} {nL : Nat} {ret : Option FieldType} {pc : Nat} {ls : Array Slot} {rest : List Value} {cB cI cJ : ClassId} {q : Nat → Nat} {σ : JSt} {v : Int32} (G : CX p s m args meth c D (gTy cB cI cJ) aK aV A RX2 cc nL ret) (hP : va_P D vwCl (jW cB q σ) H) (hdg : decode cc pc = .ok (.getfield 18, 3)) (hv : jf_depthLimit σ = v) (k : W p l e R s m args below meth c H locs cells slots Q (F0 m (pc + 3) ls (.int v :: rest))) : W p l e R s m args below meth c H locs cells slots Q (F0 m pc ls (.ref (q 0) :: rest)) := by
  obtain ⟨hx, hb, hml, hown, hT, hrt, hlk, hK, hA, hG, hE⟩ := G
  subst hv
  exact va_get (ci := 1) (v := .int (jf_depthLimit σ)) (C := RX1) (T := TX1) (N := 6) hx hb hT i_X1 hown hK hP 0 rfl rfl 2 (by decide) (hT _ wfl_X2_18) (fun _ h9 => h9) rfl hdg k
theorem gj_X2_place {p : Program} {l : Launch} {e : Env} {R : Room} {s : State} {m : MethodId} {args : Array Value} {below : List Frame} {meth : Method} {c : Code} {H : Heap} {locs : List Loc} {cells slots : Nat} {Q : State → Prop} {D : va_G} {aK aV : Nat → Nat} {A : Nat → Prop} {cc : ByteArray} {nL : Nat} {ret : Option FieldType} {pc : Nat} {ls : Array Slot} {rest : List Value} {cB cI cJ : ClassId} {q : Nat → Nat} {σ : JSt} {v : Int32} (G : CX p s m args meth c D (gTy cB cI cJ) aK aV A RX2 cc nL ret) (hP : va_P D vwCl (jW cB q σ) H) (hdg : decode cc pc = .ok (.getfield 22, 3)) (hv : jf_place σ = v) (k : W p l e R s m args below meth c H locs cells slots Q (F0 m (pc + 3) ls (.int v :: rest))) : W p l e R s m args below meth c H locs cells slots Q (F0 m pc ls (.ref (q 0) :: rest)) := by
  obtain ⟨hx, hb, hml, hown, hT, hrt, hlk, hK, hA, hG, hE⟩ := G
  subst hv
  exact va_get (ci := 1) (v := .int (jf_place σ)) (C := RX1) (T := TX1) (N := 6) hx hb hT i_X1 hown hK hP 0 rfl rfl 3 (by decide) (hT _ wfl_X2_22) (fun _ h9 => h9) rfl hdg k
theorem pj_X2_place {p : Program} {l : Launch} {e : Env} {R : Room} {s : State} {m : MethodId} {args : Array Value} {below : List Frame} {meth : Method} {c : Code} {H : Heap} {locs : List Loc} {cells slots : Nat} {Q : State → Prop} {D : va_G} {aK aV : Nat → Nat} {A : Nat → Prop} {cc : ByteArray} {nL : Nat} {ret : Option FieldType} {pc : Nat} {ls : Array Slot} {rest : List Value} {cB cI cJ : ClassId} {q : Nat → Nat} {σ : JSt} {v : Int32} (G : CX p s m args meth c D (gTy cB cI cJ) aK aV A RX2 cc nL ret) (hP : va_P D vwCl (jW cB q σ) H) (hD : va_D A (jW cB q σ)) (hS : va_S A s.heap H locs) (hdg : decode cc pc = .ok (.putfield 22, 3)) (k : ∀ (H1 : Heap) (locs1 : List Loc), va_P D vwCl (jW cB q (js_place σ v)) H1 → va_D A (jW cB q (js_place σ v)) → va_S A s.heap H1 locs1 → W p l e R s m args below meth c H1 locs1 cells slots Q (F0 m (pc + 3) ls rest)) : W p l e R s m args below meth c H locs cells slots Q (F0 m pc ls (.int v :: .ref (q 0) :: rest)) := by
  obtain ⟨hx, hb, hml, hown, hT, hrt, hlk, hK, hA, hG, hE⟩ := G
  exact va_put (ci := 1) (v := .int v) (ty := .int) (C := RX1) (T := TX1) (N := 6) hx hb hT i_X1 tyX1 tyX1_ok nmX1 hown hK hP hD hS 0 rfl rfl 3 (by decide) (hT _ wfl_X2_22) (fun _ h9 => h9) rfl (by decide +kernel) rfl rfl (Nat.le_of_ble_eq_true rfl) hdg k
theorem gj_X2_faultKind {p : Program} {l : Launch} {e : Env} {R : Room} {s : State} {m : MethodId} {args : Array Value} {below : List Frame} {meth : Method} {c : Code} {H : Heap} {locs : List Loc} {cells slots : Nat} {Q : State → Prop} {D : va_G} {aK aV : Nat → Nat} {A : Nat → Prop} {cc : ByteArray} {nL : Nat} {ret : Option FieldType} {pc : Nat} {ls : Array Slot} {rest : List Value} {cB cI cJ : ClassId} {q : Nat → Nat} {σ : JSt} {v : Int32} (G : CX p s m args meth c D (gTy cB cI cJ) aK aV A RX2 cc nL ret) (hP : va_P D vwCl (jW cB q σ) H) (hdg : decode cc pc = .ok (.getfield 25, 3)) (hv : jf_faultKind σ = v) (k : W p l e R s m args below meth c H locs cells slots Q (F0 m (pc + 3) ls (.int v :: rest))) : W p l e R s m args below meth c H locs cells slots Q (F0 m pc ls (.ref (q 0) :: rest)) := by
  obtain ⟨hx, hb, hml, hown, hT, hrt, hlk, hK, hA, hG, hE⟩ := G
  subst hv
  exact va_get (ci := 1) (v := .int (jf_faultKind σ)) (C := RX1) (T := TX1) (N := 6) hx hb hT i_X1 hown hK hP 0 rfl rfl 4 (by decide) (hT _ wfl_X2_25) (fun _ h9 => h9) rfl hdg k
theorem pj_X2_faultKind {p : Program} {l : Launch} {e : Env} {R : Room} {s : State} {m : MethodId} {args : Array Value} {below : List Frame} {meth : Method} {c : Code} {H : Heap} {locs : List Loc} {cells slots : Nat} {Q : State → Prop} {D : va_G} {aK aV : Nat → Nat} {A : Nat → Prop} {cc : ByteArray} {nL : Nat} {ret : Option FieldType} {pc : Nat} {ls : Array Slot} {rest : List Value} {cB cI cJ : ClassId} {q : Nat → Nat} {σ : JSt} {v : Int32} (G : CX p s m args meth c D (gTy cB cI cJ) aK aV A RX2 cc nL ret) (hP : va_P D vwCl (jW cB q σ) H) (hD : va_D A (jW cB q σ)) (hS : va_S A s.heap H locs) (hdg : decode cc pc = .ok (.putfield 25, 3)) (k : ∀ (H1 : Heap) (locs1 : List Loc), va_P D vwCl (jW cB q (js_faultKind σ v)) H1 → va_D A (jW cB q (js_faultKind σ v)) → va_S A s.heap H1 locs1 → W p l e R s m args below meth c H1 locs1 cells slots Q (F0 m (pc + 3) ls rest)) : W p l e R s m args below meth c H locs cells slots Q (F0 m pc ls (.int v :: .ref (q 0) :: rest)) := by
  obtain ⟨hx, hb, hml, hown, hT, hrt, hlk, hK, hA, hG, hE⟩ := G
  exact va_put (ci := 1) (v := .int v) (ty := .int) (C := RX1) (T := TX1) (N := 6) hx hb hT i_X1 tyX1 tyX1_ok nmX1 hown hK hP hD hS 0 rfl rfl 4 (by decide) (hT _ wfl_X2_25) (fun _ h9 => h9) rfl (by decide +kernel) rfl rfl (Nat.le_of_ble_eq_true rfl) hdg k
theorem gj_X2_faultPlace {p : Program} {l : Launch} {e : Env} {R : Room} {s : State} {m : MethodId} {args : Array Value} {below : List Frame} {meth : Method} {c : Code} {H : Heap} {locs : List Loc} {cells slots : Nat} {Q : State → Prop} {D : va_G} {aK aV : Nat → Nat} {A : Nat → Prop} {cc : ByteArray} {nL : Nat} {ret : Option FieldType} {pc : Nat} {ls : Array Slot} {rest : List Value} {cB cI cJ : ClassId} {q : Nat → Nat} {σ : JSt} {v : Int32} (G : CX p s m args meth c D (gTy cB cI cJ) aK aV A RX2 cc nL ret) (hP : va_P D vwCl (jW cB q σ) H) (hdg : decode cc pc = .ok (.getfield 28, 3)) (hv : jf_faultPlace σ = v) (k : W p l e R s m args below meth c H locs cells slots Q (F0 m (pc + 3) ls (.int v :: rest))) : W p l e R s m args below meth c H locs cells slots Q (F0 m pc ls (.ref (q 0) :: rest)) := by
  obtain ⟨hx, hb, hml, hown, hT, hrt, hlk, hK, hA, hG, hE⟩ := G
  subst hv
  exact va_get (ci := 1) (v := .int (jf_faultPlace σ)) (C := RX1) (T := TX1) (N := 6) hx hb hT i_X1 hown hK hP 0 rfl rfl 5 (by decide) (hT _ wfl_X2_28) (fun _ h9 => h9) rfl hdg k
theorem pj_X2_faultPlace {p : Program} {l : Launch} {e : Env} {R : Room} {s : State} {m : MethodId} {args : Array Value} {below : List Frame} {meth : Method} {c : Code} {H : Heap} {locs : List Loc} {cells slots : Nat} {Q : State → Prop} {D : va_G} {aK aV : Nat → Nat} {A : Nat → Prop} {cc : ByteArray} {nL : Nat} {ret : Option FieldType} {pc : Nat} {ls : Array Slot} {rest : List Value} {cB cI cJ : ClassId} {q : Nat → Nat} {σ : JSt} {v : Int32} (G : CX p s m args meth c D (gTy cB cI cJ) aK aV A RX2 cc nL ret) (hP : va_P D vwCl (jW cB q σ) H) (hD : va_D A (jW cB q σ)) (hS : va_S A s.heap H locs) (hdg : decode cc pc = .ok (.putfield 28, 3)) (k : ∀ (H1 : Heap) (locs1 : List Loc), va_P D vwCl (jW cB q (js_faultPlace σ v)) H1 → va_D A (jW cB q (js_faultPlace σ v)) → va_S A s.heap H1 locs1 → W p l e R s m args below meth c H1 locs1 cells slots Q (F0 m (pc + 3) ls rest)) : W p l e R s m args below meth c H locs cells slots Q (F0 m pc ls (.int v :: .ref (q 0) :: rest)) := by
  obtain ⟨hx, hb, hml, hown, hT, hrt, hlk, hK, hA, hG, hE⟩ := G
  exact va_put (ci := 1) (v := .int v) (ty := .int) (C := RX1) (T := TX1) (N := 6) hx hb hT i_X1 tyX1 tyX1_ok nmX1 hown hK hP hD hS 0 rfl rfl 5 (by decide) (hT _ wfl_X2_28) (fun _ h9 => h9) rfl (by decide +kernel) rfl rfl (Nat.le_of_ble_eq_true rfl) hdg k
theorem vJ {p : Program} {l : Launch} {e : Env} {R : Room} {s : State} {m : MethodId} {args : Array Value} {below : List Frame} {meth : Method} {c : Code} {H : Heap} {locs : List Loc} {cells slots : Nat} {Q : State → Prop} {D : va_G} {aK aV : Nat → Nat} {A : Nat → Prop} {cc : ByteArray} {nL : Nat} {ret : Option FieldType} {pc : Nat} {ls : Array Slot} {rest : List Value} {cB cI cJ : ClassId} {q : Nat → Nat} {σ : JSt} {ov : Option Value} {y : MethodName} {bytes : ByteArray} {maxL n index : Nat} {ret' : Option FieldType} {rm : Room} {As : List Value} {τ : JSt} (G : CX p s m args meth c D (gTy cB cI cJ) aK aV A RX1 cc nL ret) (M : MV RX1 index RX1 y bytes maxL ret' n) (hM : CT l D (gTy cB cI cJ) aK aV y (wM y bytes maxL ret') rm 0 0 (.ref (q 0) :: As) (jW cB q σ) ov (jW cB q τ)) (hP : va_P D vwCl (jW cB q σ) H) (hD : va_D A (jW cB q σ)) (hS : va_S A s.heap H locs) (hrm : rm.cells = 0 ∧ rm.slots = 0 ∧ rm.frames + 1 ≤ R.frames ∧ 8 + (maxL + 11) + rm.locals ≤ R.locals) (hc : cells ≤ R.cells ∧ slots ≤ R.slots) (hA : As.length = n) (hls : ls.size = nL) (hst : (rest.map fun v => v.category).sum ≤ 8) (hdg : decode cc pc = .ok (.invokevirtual index, 3)) (k : ∀ (H1 : Heap) (locs1 : List Loc), va_P D vwCl (jW cB q τ) H1 → va_D A (jW cB q τ) → va_S A s.heap H1 locs1 → W p l e R s m args below meth c H1 locs1 cells slots Q (F0 m (pc + 3) ls (ov.toList ++ rest))) : W p l e R s m args below meth c H locs cells slots Q (F0 m pc ls (As.reverse ++ .ref (q 0) :: rest)) :=
  ct_v (wr := []) G M hM hP hD hS [0, 1, 2, 3, 4] [] rfl rfl rfl rfl (fun _ h => absurd h List.not_mem_nil) (ci := 1) (q0 := 0) rfl rfl rfl hrm hA hls hst hdg hc k
theorem uJ {p : Program} {l : Launch} {e : Env} {R : Room} {s : State} {m : MethodId} {args : Array Value} {below : List Frame} {meth : Method} {c : Code} {H : Heap} {locs : List Loc} {cells slots : Nat} {Q : State → Prop} {D : va_G} {aK aV : Nat → Nat} {A : Nat → Prop} {cc : ByteArray} {nL : Nat} {ret : Option FieldType} {pc : Nat} {ls : Array Slot} {rest : List Value} {cB cI cJ : ClassId} {q : Nat → Nat} {σ : JSt} {ov : Option Value} {y : MethodName} {bytes : ByteArray} {maxL n index : Nat} {ret' : Option FieldType} {rm : Room} {As : List Value} {τ : JSt} (G : CX p s m args meth c D (gTy cB cI cJ) aK aV A RX1 cc nL ret) {x : MethodName} (M : MU RX1 index RX1 "TextBridge$Reader" x y bytes maxL ret' n) (hM : CT l D (gTy cB cI cJ) aK aV y (wM y bytes maxL ret') rm 0 0 (.ref (q 0) :: As) (jW cB q σ) ov (jW cB q τ)) (hP : va_P D vwCl (jW cB q σ) H) (hD : va_D A (jW cB q σ)) (hS : va_S A s.heap H locs) (hrm : rm.cells = 0 ∧ rm.slots = 0 ∧ rm.frames + 1 ≤ R.frames ∧ 8 + (maxL + 11) + rm.locals ≤ R.locals) (hc : cells ≤ R.cells ∧ slots ≤ R.slots) (hA : As.length = n) (hls : ls.size = nL) (hst : (rest.map fun v => v.category).sum ≤ 8) (hdg : decode cc pc = .ok (.invokevirtual index, 3)) (k : ∀ (H1 : Heap) (locs1 : List Loc), va_P D vwCl (jW cB q τ) H1 → va_D A (jW cB q τ) → va_S A s.heap H1 locs1 → W p l e R s m args below meth c H1 locs1 cells slots Q (F0 m (pc + 3) ls (ov.toList ++ rest))) : W p l e R s m args below meth c H locs cells slots Q (F0 m pc ls (As.reverse ++ .ref (q 0) :: rest)) :=
  ct_u (wr := []) G M hM hP hD hS [0, 1, 2, 3, 4] [] rfl rfl rfl rfl (fun _ h => absurd h List.not_mem_nil) (ci := 1) (q0 := 0) rfl rfl rfl hrm hA hls hst hdg hc k
theorem vJ_tape {p : Program} {l : Launch} {e : Env} {R : Room} {s : State} {m : MethodId} {args : Array Value} {below : List Frame} {meth : Method} {c : Code} {H : Heap} {locs : List Loc} {cells slots : Nat} {Q : State → Prop} {D : va_G} {aK aV : Nat → Nat} {A : Nat → Prop} {cc : ByteArray} {nL : Nat} {ret : Option FieldType} {pc : Nat} {ls : Array Slot} {rest : List Value} {cB cI cJ : ClassId} {q : Nat → Nat} {σ : JSt} {ov : Option Value} {y : MethodName} {bytes : ByteArray} {maxL n index : Nat} {ret' : Option FieldType} {rm : Room} {As : List Value} {τ τ0 : RSt} (G : CX p s m args meth c D (gTy cB cI cJ) aK aV A RX1 cc nL ret) (M : MV RX1 index RX3 y bytes maxL ret' n) (h0 : jf_tape σ = τ0) (hM : CT l D (gTy cB cI cJ) aK aV y (wM y bytes maxL ret') rm 0 0 (.ref (q 1) :: As) (rW cB (q 1) (q 2) 4000 τ0) ov (rW cB (q 1) (q 2) 4000 τ)) (hP : va_P D vwCl (jW cB q σ) H) (hD : va_D A (jW cB q σ)) (hS : va_S A s.heap H locs) (hrm : rm.cells = 0 ∧ rm.slots = 0 ∧ rm.frames + 1 ≤ R.frames ∧ 8 + (maxL + 11) + rm.locals ≤ R.locals) (hc : cells ≤ R.cells ∧ slots ≤ R.slots) (hA : As.length = n) (hls : ls.size = nL) (hst : (rest.map fun v => v.category).sum ≤ 8) (hdg : decode cc pc = .ok (.invokevirtual index, 3)) (k : ∀ (H1 : Heap) (locs1 : List Loc), va_P D vwCl (jW cB q (js_tape σ τ)) H1 → va_D A (jW cB q (js_tape σ τ)) → va_S A s.heap H1 locs1 → W p l e R s m args below meth c H1 locs1 cells slots Q (F0 m (pc + 3) ls (ov.toList ++ rest))) : W p l e R s m args below meth c H locs cells slots Q (F0 m pc ls (As.reverse ++ .ref (q 1) :: rest)) := by
  subst h0
  exact ct_v (wr := [(jW cB q σ).getD 0 (0, .inr (0, [])), (jW cB q σ).getD 3 (0, .inr (0, [])), (jW cB q σ).getD 4 (0, .inr (0, []))]) G M hM hP hD hS [1, 2] [0, 3, 4] rfl rfl rfl rfl (by decide) (ci := 2) (q0 := 1) rfl rfl rfl hrm hA hls hst hdg hc (fun H1 l1 hP hD hS => k H1 l1 (hP.sub [0, 3, 4, 1, 2] rfl) (hD.sub [0, 3, 4, 1, 2] rfl rfl) hS)
theorem vJ_target {p : Program} {l : Launch} {e : Env} {R : Room} {s : State} {m : MethodId} {args : Array Value} {below : List Frame} {meth : Method} {c : Code} {H : Heap} {locs : List Loc} {cells slots : Nat} {Q : State → Prop} {D : va_G} {aK aV : Nat → Nat} {A : Nat → Prop} {cc : ByteArray} {nL : Nat} {ret : Option FieldType} {pc : Nat} {ls : Array Slot} {rest : List Value} {cB cI cJ : ClassId} {q : Nat → Nat} {σ : JSt} {ov : Option Value} {y : MethodName} {bytes : ByteArray} {maxL n index : Nat} {ret' : Option FieldType} {rm : Room} {As : List Value} {τ τ0 : RSt} (G : CX p s m args meth c D (gTy cB cI cJ) aK aV A RX1 cc nL ret) (M : MV RX1 index RX3 y bytes maxL ret' n) (h0 : jf_target σ = τ0) (hM : CT l D (gTy cB cI cJ) aK aV y (wM y bytes maxL ret') rm 0 0 (.ref (q 3) :: As) (rW cB (q 3) (q 4) 6000 τ0) ov (rW cB (q 3) (q 4) 6000 τ)) (hP : va_P D vwCl (jW cB q σ) H) (hD : va_D A (jW cB q σ)) (hS : va_S A s.heap H locs) (hrm : rm.cells = 0 ∧ rm.slots = 0 ∧ rm.frames + 1 ≤ R.frames ∧ 8 + (maxL + 11) + rm.locals ≤ R.locals) (hc : cells ≤ R.cells ∧ slots ≤ R.slots) (hA : As.length = n) (hls : ls.size = nL) (hst : (rest.map fun v => v.category).sum ≤ 8) (hdg : decode cc pc = .ok (.invokevirtual index, 3)) (k : ∀ (H1 : Heap) (locs1 : List Loc), va_P D vwCl (jW cB q (js_target σ τ)) H1 → va_D A (jW cB q (js_target σ τ)) → va_S A s.heap H1 locs1 → W p l e R s m args below meth c H1 locs1 cells slots Q (F0 m (pc + 3) ls (ov.toList ++ rest))) : W p l e R s m args below meth c H locs cells slots Q (F0 m pc ls (As.reverse ++ .ref (q 3) :: rest)) := by
  subst h0
  exact ct_v (wr := [(jW cB q σ).getD 0 (0, .inr (0, [])), (jW cB q σ).getD 1 (0, .inr (0, [])), (jW cB q σ).getD 2 (0, .inr (0, []))]) G M hM hP hD hS [3, 4] [0, 1, 2] rfl rfl rfl rfl (by decide) (ci := 2) (q0 := 3) rfl rfl rfl hrm hA hls hst hdg hc (fun H1 l1 hP hD hS => k H1 l1 (hP.sub [0, 1, 2, 3, 4] rfl) (hD.sub [0, 1, 2, 3, 4] rfl rfl) hS)
theorem nJ_tape {p : Program} {l : Launch} {e : Env} {R : Room} {s : State} {m : MethodId} {args : Array Value} {below : List Frame} {meth : Method} {c : Code} {H : Heap} {locs : List Loc} {cells slots : Nat} {Q : State → Prop} {D : va_G} {aK aV : Nat → Nat} {A : Nat → Prop} {cc : ByteArray} {nL : Nat} {ret : Option FieldType} {pc : Nat} {ls : Array Slot} {rest : List Value} {cB cI cJ : ClassId} {q : Nat → Nat} {σ : JSt} {ov : Option Value} {y : MethodName} {bytes : ByteArray} {maxL n index : Nat} {ret' : Option FieldType} {rm : Room} {As : List Value} {τ τ0 : RSt} (G : CX p s m args meth c D (gTy cB cI cJ) aK aV A RX1 cc nL ret) (M : MN RX1 index y bytes maxL ret' n) (h0 : jf_tape σ = τ0) (hM : CT l D (gTy cB cI cJ) aK aV y (wM y bytes maxL ret') rm 0 0 (.ref (q 1) :: As) (rW cB (q 1) (q 2) 4000 τ0) ov (rW cB (q 1) (q 2) 4000 τ)) (hP : va_P D vwCl (jW cB q σ) H) (hD : va_D A (jW cB q σ)) (hS : va_S A s.heap H locs) (hrm : rm.cells = 0 ∧ rm.slots = 0 ∧ rm.frames + 1 ≤ R.frames ∧ 8 + (maxL + 11) + rm.locals ≤ R.locals) (hc : cells ≤ R.cells ∧ slots ≤ R.slots) (hA : (Value.ref (q 1) :: As).length = n) (hls : ls.size = nL) (hst : (rest.map fun v => v.category).sum ≤ 8) (hdg : decode cc pc = .ok (.invokestatic index, 3)) (k : ∀ (H1 : Heap) (locs1 : List Loc), va_P D vwCl (jW cB q (js_tape σ τ)) H1 → va_D A (jW cB q (js_tape σ τ)) → va_S A s.heap H1 locs1 → W p l e R s m args below meth c H1 locs1 cells slots Q (F0 m (pc + 3) ls (ov.toList ++ rest))) : W p l e R s m args below meth c H locs cells slots Q (F0 m pc ls ((Value.ref (q 1) :: As).reverse ++ rest)) := by
  subst h0
  exact ct_sn (wr := [(jW cB q σ).getD 0 (0, .inr (0, [])), (jW cB q σ).getD 3 (0, .inr (0, [])), (jW cB q σ).getD 4 (0, .inr (0, []))]) G M hM hP hD hS [1, 2] [0, 3, 4] rfl rfl rfl rfl (by decide) hrm hA hls hst hdg hc (fun H1 l1 hP hD hS => k H1 l1 (hP.sub [0, 3, 4, 1, 2] rfl) (hD.sub [0, 3, 4, 1, 2] rfl rfl) hS)
theorem gk_X0_tape {p : Program} {l : Launch} {e : Env} {R : Room} {s : State} {m : MethodId} {args : Array Value} {below : List Frame} {meth : Method} {c : Code} {H : Heap} {locs : List Loc} {cells slots : Nat} {Q : State → Prop} {D : va_G} {aK aV : Nat → Nat} {A : Nat → Prop} {cc : ByteArray} {nL : Nat} {ret : Option FieldType} {pc : Nat} {ls : Array Slot} {rest : List Value} {cB cI cJ : ClassId} {q : Nat → Nat} {σ : KSt} (G : CX p s m args meth c D (gTy cB cI cJ) aK aV A RX0 cc nL ret) (hP : va_P D vwCl (kW cB q σ) H) (hdg : decode cc pc = .ok (.getfield 22, 3)) (k : W p l e R s m args below meth c H locs cells slots Q (F0 m (pc + 3) ls (.ref (q 1) :: rest))) : W p l e R s m args below meth c H locs cells slots Q (F0 m pc ls (.ref (q 0) :: rest)) := by
  obtain ⟨hx, hb, hml, hown, hT, hrt, hlk, hK, hA, hG, hE⟩ := G
  exact va_get (ci := 0) (v := .ref (q 1)) (C := RX0) (T := TX0) (N := 8) hx hb hT i_X0 hown hK hP 0 rfl rfl 0 (by decide) (hT _ wfl_X0_22) (fun x h9 => u_same (hT _ wsf_X0_tape) x h9) rfl hdg k
theorem gk_X0_target {p : Program} {l : Launch} {e : Env} {R : Room} {s : State} {m : MethodId} {args : Array Value} {below : List Frame} {meth : Method} {c : Code} {H : Heap} {locs : List Loc} {cells slots : Nat} {Q : State → Prop} {D : va_G} {aK aV : Nat → Nat} {A : Nat → Prop} {cc : ByteArray} {nL : Nat} {ret : Option FieldType} {pc : Nat} {ls : Array Slot} {rest : List Value} {cB cI cJ : ClassId} {q : Nat → Nat} {σ : KSt} (G : CX p s m args meth c D (gTy cB cI cJ) aK aV A RX0 cc nL ret) (hP : va_P D vwCl (kW cB q σ) H) (hdg : decode cc pc = .ok (.getfield 58, 3)) (k : W p l e R s m args below meth c H locs cells slots Q (F0 m (pc + 3) ls (.ref (q 3) :: rest))) : W p l e R s m args below meth c H locs cells slots Q (F0 m pc ls (.ref (q 0) :: rest)) := by
  obtain ⟨hx, hb, hml, hown, hT, hrt, hlk, hK, hA, hG, hE⟩ := G
  exact va_get (ci := 0) (v := .ref (q 3)) (C := RX0) (T := TX0) (N := 8) hx hb hT i_X0 hown hK hP 0 rfl rfl 1 (by decide) (hT _ wfl_X0_58) (fun x h9 => u_same (hT _ wsf_X0_target) x h9) rfl hdg k
theorem gk_X0_depthLimit {p : Program} {l : Launch} {e : Env} {R : Room} {s : State} {m : MethodId} {args : Array Value} {below : List Frame} {meth : Method} {c : Code} {H : Heap} {locs : List Loc} {cells slots : Nat} {Q : State → Prop} {D : va_G} {aK aV : Nat → Nat} {A : Nat → Prop} {cc : ByteArray} {nL : Nat} {ret : Option FieldType} {pc : Nat} {ls : Array Slot} {rest : List Value} {cB cI cJ : ClassId} {q : Nat → Nat} {σ : KSt} {v : Int32} (G : CX p s m args meth c D (gTy cB cI cJ) aK aV A RX0 cc nL ret) (hP : va_P D vwCl (kW cB q σ) H) (hdg : decode cc pc = .ok (.getfield 51, 3)) (hv : kf_depthLimit σ = v) (k : W p l e R s m args below meth c H locs cells slots Q (F0 m (pc + 3) ls (.int v :: rest))) : W p l e R s m args below meth c H locs cells slots Q (F0 m pc ls (.ref (q 0) :: rest)) := by
  obtain ⟨hx, hb, hml, hown, hT, hrt, hlk, hK, hA, hG, hE⟩ := G
  subst hv
  exact va_get (ci := 0) (v := .int (kf_depthLimit σ)) (C := RX0) (T := TX0) (N := 8) hx hb hT i_X0 hown hK hP 0 rfl rfl 2 (by decide) (hT _ wfl_X0_51) (fun x h9 => u_same (hT _ wsf_X0_depthLimit) x h9) rfl hdg k
theorem gk_X0_place {p : Program} {l : Launch} {e : Env} {R : Room} {s : State} {m : MethodId} {args : Array Value} {below : List Frame} {meth : Method} {c : Code} {H : Heap} {locs : List Loc} {cells slots : Nat} {Q : State → Prop} {D : va_G} {aK aV : Nat → Nat} {A : Nat → Prop} {cc : ByteArray} {nL : Nat} {ret : Option FieldType} {pc : Nat} {ls : Array Slot} {rest : List Value} {cB cI cJ : ClassId} {q : Nat → Nat} {σ : KSt} {v : Int32} (G : CX p s m args meth c D (gTy cB cI cJ) aK aV A RX0 cc nL ret) (hP : va_P D vwCl (kW cB q σ) H) (hdg : decode cc pc = .ok (.getfield 19, 3)) (hv : kf_place σ = v) (k : W p l e R s m args below meth c H locs cells slots Q (F0 m (pc + 3) ls (.int v :: rest))) : W p l e R s m args below meth c H locs cells slots Q (F0 m pc ls (.ref (q 0) :: rest)) := by
  obtain ⟨hx, hb, hml, hown, hT, hrt, hlk, hK, hA, hG, hE⟩ := G
  subst hv
  exact va_get (ci := 0) (v := .int (kf_place σ)) (C := RX0) (T := TX0) (N := 8) hx hb hT i_X0 hown hK hP 0 rfl rfl 3 (by decide) (hT _ wfl_X0_19) (fun x h9 => u_same (hT _ wsf_X0_place) x h9) rfl hdg k
theorem pk_X0_place {p : Program} {l : Launch} {e : Env} {R : Room} {s : State} {m : MethodId} {args : Array Value} {below : List Frame} {meth : Method} {c : Code} {H : Heap} {locs : List Loc} {cells slots : Nat} {Q : State → Prop} {D : va_G} {aK aV : Nat → Nat} {A : Nat → Prop} {cc : ByteArray} {nL : Nat} {ret : Option FieldType} {pc : Nat} {ls : Array Slot} {rest : List Value} {cB cI cJ : ClassId} {q : Nat → Nat} {σ : KSt} {v : Int32} (G : CX p s m args meth c D (gTy cB cI cJ) aK aV A RX0 cc nL ret) (hP : va_P D vwCl (kW cB q σ) H) (hD : va_D A (kW cB q σ)) (hS : va_S A s.heap H locs) (hdg : decode cc pc = .ok (.putfield 19, 3)) (k : ∀ (H1 : Heap) (locs1 : List Loc), va_P D vwCl (kW cB q (ks_place σ v)) H1 → va_D A (kW cB q (ks_place σ v)) → va_S A s.heap H1 locs1 → W p l e R s m args below meth c H1 locs1 cells slots Q (F0 m (pc + 3) ls rest)) : W p l e R s m args below meth c H locs cells slots Q (F0 m pc ls (.int v :: .ref (q 0) :: rest)) := by
  obtain ⟨hx, hb, hml, hown, hT, hrt, hlk, hK, hA, hG, hE⟩ := G
  exact va_put (ci := 0) (v := .int v) (ty := .int) (C := RX0) (T := TX0) (N := 8) hx hb hT i_X0 tyX0 tyX0_ok nmX0 hown hK hP hD hS 0 rfl rfl 3 (by decide) (hT _ wfl_X0_19) (fun x h9 => u_same (hT _ wsf_X0_place) x h9) rfl (by decide +kernel) rfl rfl (Nat.le_of_ble_eq_true rfl) hdg k
theorem gk_X0_type {p : Program} {l : Launch} {e : Env} {R : Room} {s : State} {m : MethodId} {args : Array Value} {below : List Frame} {meth : Method} {c : Code} {H : Heap} {locs : List Loc} {cells slots : Nat} {Q : State → Prop} {D : va_G} {aK aV : Nat → Nat} {A : Nat → Prop} {cc : ByteArray} {nL : Nat} {ret : Option FieldType} {pc : Nat} {ls : Array Slot} {rest : List Value} {cB cI cJ : ClassId} {q : Nat → Nat} {σ : KSt} {v : Int32} (G : CX p s m args meth c D (gTy cB cI cJ) aK aV A RX0 cc nL ret) (hP : va_P D vwCl (kW cB q σ) H) (hdg : decode cc pc = .ok (.getfield 9, 3)) (hv : kf_type σ = v) (k : W p l e R s m args below meth c H locs cells slots Q (F0 m (pc + 3) ls (.int v :: rest))) : W p l e R s m args below meth c H locs cells slots Q (F0 m pc ls (.ref (q 0) :: rest)) := by
  obtain ⟨hx, hb, hml, hown, hT, hrt, hlk, hK, hA, hG, hE⟩ := G
  subst hv
  exact va_get (ci := 0) (v := .int (kf_type σ)) (C := RX0) (T := TX0) (N := 8) hx hb hT i_X0 hown hK hP 0 rfl rfl 6 (by decide) (hT _ wfl_X0_9) (fun _ h9 => h9) rfl hdg k
theorem pk_X0_type {p : Program} {l : Launch} {e : Env} {R : Room} {s : State} {m : MethodId} {args : Array Value} {below : List Frame} {meth : Method} {c : Code} {H : Heap} {locs : List Loc} {cells slots : Nat} {Q : State → Prop} {D : va_G} {aK aV : Nat → Nat} {A : Nat → Prop} {cc : ByteArray} {nL : Nat} {ret : Option FieldType} {pc : Nat} {ls : Array Slot} {rest : List Value} {cB cI cJ : ClassId} {q : Nat → Nat} {σ : KSt} {v : Int32} (G : CX p s m args meth c D (gTy cB cI cJ) aK aV A RX0 cc nL ret) (hP : va_P D vwCl (kW cB q σ) H) (hD : va_D A (kW cB q σ)) (hS : va_S A s.heap H locs) (hdg : decode cc pc = .ok (.putfield 9, 3)) (k : ∀ (H1 : Heap) (locs1 : List Loc), va_P D vwCl (kW cB q (ks_type σ v)) H1 → va_D A (kW cB q (ks_type σ v)) → va_S A s.heap H1 locs1 → W p l e R s m args below meth c H1 locs1 cells slots Q (F0 m (pc + 3) ls rest)) : W p l e R s m args below meth c H locs cells slots Q (F0 m pc ls (.int v :: .ref (q 0) :: rest)) := by
  obtain ⟨hx, hb, hml, hown, hT, hrt, hlk, hK, hA, hG, hE⟩ := G
  exact va_put (ci := 0) (v := .int v) (ty := .int) (C := RX0) (T := TX0) (N := 8) hx hb hT i_X0 tyX0 tyX0_ok nmX0 hown hK hP hD hS 0 rfl rfl 6 (by decide) (hT _ wfl_X0_9) (fun _ h9 => h9) rfl (by decide +kernel) rfl rfl (Nat.le_of_ble_eq_true rfl) hdg k
theorem gk_X0_number {p : Program} {l : Launch} {e : Env} {R : Room} {s : State} {m : MethodId} {args : Array Value} {below : List Frame} {meth : Method} {c : Code} {H : Heap} {locs : List Loc} {cells slots : Nat} {Q : State → Prop} {D : va_G} {aK aV : Nat → Nat} {A : Nat → Prop} {cc : ByteArray} {nL : Nat} {ret : Option FieldType} {pc : Nat} {ls : Array Slot} {rest : List Value} {cB cI cJ : ClassId} {q : Nat → Nat} {σ : KSt} {v : Int64} (G : CX p s m args meth c D (gTy cB cI cJ) aK aV A RX0 cc nL ret) (hP : va_P D vwCl (kW cB q σ) H) (hdg : decode cc pc = .ok (.getfield 15, 3)) (hv : kf_number σ = v) (k : W p l e R s m args below meth c H locs cells slots Q (F0 m (pc + 3) ls (.long v :: rest))) : W p l e R s m args below meth c H locs cells slots Q (F0 m pc ls (.ref (q 0) :: rest)) := by
  obtain ⟨hx, hb, hml, hown, hT, hrt, hlk, hK, hA, hG, hE⟩ := G
  subst hv
  exact va_get (ci := 0) (v := .long (kf_number σ)) (C := RX0) (T := TX0) (N := 8) hx hb hT i_X0 hown hK hP 0 rfl rfl 7 (by decide) (hT _ wfl_X0_15) (fun _ h9 => h9) rfl hdg k
theorem pk_X0_number {p : Program} {l : Launch} {e : Env} {R : Room} {s : State} {m : MethodId} {args : Array Value} {below : List Frame} {meth : Method} {c : Code} {H : Heap} {locs : List Loc} {cells slots : Nat} {Q : State → Prop} {D : va_G} {aK aV : Nat → Nat} {A : Nat → Prop} {cc : ByteArray} {nL : Nat} {ret : Option FieldType} {pc : Nat} {ls : Array Slot} {rest : List Value} {cB cI cJ : ClassId} {q : Nat → Nat} {σ : KSt} {v : Int64} (G : CX p s m args meth c D (gTy cB cI cJ) aK aV A RX0 cc nL ret) (hP : va_P D vwCl (kW cB q σ) H) (hD : va_D A (kW cB q σ)) (hS : va_S A s.heap H locs) (hdg : decode cc pc = .ok (.putfield 15, 3)) (k : ∀ (H1 : Heap) (locs1 : List Loc), va_P D vwCl (kW cB q (ks_number σ v)) H1 → va_D A (kW cB q (ks_number σ v)) → va_S A s.heap H1 locs1 → W p l e R s m args below meth c H1 locs1 cells slots Q (F0 m (pc + 3) ls rest)) : W p l e R s m args below meth c H locs cells slots Q (F0 m pc ls (.long v :: .ref (q 0) :: rest)) := by
  obtain ⟨hx, hb, hml, hown, hT, hrt, hlk, hK, hA, hG, hE⟩ := G
  exact va_put (ci := 0) (v := .long v) (ty := .long) (C := RX0) (T := TX0) (N := 8) hx hb hT i_X0 tyX0 tyX0_ok nmX0 hown hK hP hD hS 0 rfl rfl 7 (by decide) (hT _ wfl_X0_15) (fun _ h9 => h9) rfl (by decide +kernel) rfl rfl (Nat.le_of_ble_eq_true rfl) hdg k
theorem gk_X2_tape {p : Program} {l : Launch} {e : Env} {R : Room} {s : State} {m : MethodId} {args : Array Value} {below : List Frame} {meth : Method} {c : Code} {H : Heap} {locs : List Loc} {cells slots : Nat} {Q : State → Prop} {D : va_G} {aK aV : Nat → Nat} {A : Nat → Prop} {cc : ByteArray} {nL : Nat} {ret : Option FieldType} {pc : Nat} {ls : Array Slot} {rest : List Value} {cB cI cJ : ClassId} {q : Nat → Nat} {σ : KSt} (G : CX p s m args meth c D (gTy cB cI cJ) aK aV A RX2 cc nL ret) (hP : va_P D vwCl (kW cB q σ) H) (hdg : decode cc pc = .ok (.getfield 9, 3)) (k : W p l e R s m args below meth c H locs cells slots Q (F0 m (pc + 3) ls (.ref (q 1) :: rest))) : W p l e R s m args below meth c H locs cells slots Q (F0 m pc ls (.ref (q 0) :: rest)) := by
  obtain ⟨hx, hb, hml, hown, hT, hrt, hlk, hK, hA, hG, hE⟩ := G
  exact va_get (ci := 0) (v := .ref (q 1)) (C := RX0) (T := TX0) (N := 8) hx hb hT i_X0 hown hK hP 0 rfl rfl 0 (by decide) (hT _ wfl_X2_9) (fun _ h9 => h9) rfl hdg k
theorem gk_X2_target {p : Program} {l : Launch} {e : Env} {R : Room} {s : State} {m : MethodId} {args : Array Value} {below : List Frame} {meth : Method} {c : Code} {H : Heap} {locs : List Loc} {cells slots : Nat} {Q : State → Prop} {D : va_G} {aK aV : Nat → Nat} {A : Nat → Prop} {cc : ByteArray} {nL : Nat} {ret : Option FieldType} {pc : Nat} {ls : Array Slot} {rest : List Value} {cB cI cJ : ClassId} {q : Nat → Nat} {σ : KSt} (G : CX p s m args meth c D (gTy cB cI cJ) aK aV A RX2 cc nL ret) (hP : va_P D vwCl (kW cB q σ) H) (hdg : decode cc pc = .ok (.getfield 15, 3)) (k : W p l e R s m args below meth c H locs cells slots Q (F0 m (pc + 3) ls (.ref (q 3) :: rest))) : W p l e R s m args below meth c H locs cells slots Q (F0 m pc ls (.ref (q 0) :: rest)) := by
  obtain ⟨hx, hb, hml, hown, hT, hrt, hlk, hK, hA, hG, hE⟩ := G
  exact va_get (ci := 0) (v := .ref (q 3)) (C := RX0) (T := TX0) (N := 8) hx hb hT i_X0 hown hK hP 0 rfl rfl 1 (by decide) (hT _ wfl_X2_15) (fun _ h9 => h9) rfl hdg k
theorem gk_X2_depthLimit {p : Program} {l : Launch} {e : Env} {R : Room} {s : State} {m : MethodId} {args : Array Value} {below : List Frame} {meth : Method} {c : Code} {H : Heap} {locs : List Loc} {cells slots : Nat} {Q : State → Prop} {D : va_G} {aK aV : Nat → Nat} {A : Nat → Prop} {cc : ByteArray} {nL : Nat} {ret : Option FieldType} {pc : Nat} {ls : Array Slot} {rest : List Value} {cB cI cJ : ClassId} {q : Nat → Nat} {σ : KSt} {v : Int32} (G : CX p s m args meth c D (gTy cB cI cJ) aK aV A RX2 cc nL ret) (hP : va_P D vwCl (kW cB q σ) H) (hdg : decode cc pc = .ok (.getfield 18, 3)) (hv : kf_depthLimit σ = v) (k : W p l e R s m args below meth c H locs cells slots Q (F0 m (pc + 3) ls (.int v :: rest))) : W p l e R s m args below meth c H locs cells slots Q (F0 m pc ls (.ref (q 0) :: rest)) := by
  obtain ⟨hx, hb, hml, hown, hT, hrt, hlk, hK, hA, hG, hE⟩ := G
  subst hv
  exact va_get (ci := 0) (v := .int (kf_depthLimit σ)) (C := RX0) (T := TX0) (N := 8) hx hb hT i_X0 hown hK hP 0 rfl rfl 2 (by decide) (hT _ wfl_X2_18) (fun _ h9 => h9) rfl hdg k
theorem gk_X2_place {p : Program} {l : Launch} {e : Env} {R : Room} {s : State} {m : MethodId} {args : Array Value} {below : List Frame} {meth : Method} {c : Code} {H : Heap} {locs : List Loc} {cells slots : Nat} {Q : State → Prop} {D : va_G} {aK aV : Nat → Nat} {A : Nat → Prop} {cc : ByteArray} {nL : Nat} {ret : Option FieldType} {pc : Nat} {ls : Array Slot} {rest : List Value} {cB cI cJ : ClassId} {q : Nat → Nat} {σ : KSt} {v : Int32} (G : CX p s m args meth c D (gTy cB cI cJ) aK aV A RX2 cc nL ret) (hP : va_P D vwCl (kW cB q σ) H) (hdg : decode cc pc = .ok (.getfield 22, 3)) (hv : kf_place σ = v) (k : W p l e R s m args below meth c H locs cells slots Q (F0 m (pc + 3) ls (.int v :: rest))) : W p l e R s m args below meth c H locs cells slots Q (F0 m pc ls (.ref (q 0) :: rest)) := by
  obtain ⟨hx, hb, hml, hown, hT, hrt, hlk, hK, hA, hG, hE⟩ := G
  subst hv
  exact va_get (ci := 0) (v := .int (kf_place σ)) (C := RX0) (T := TX0) (N := 8) hx hb hT i_X0 hown hK hP 0 rfl rfl 3 (by decide) (hT _ wfl_X2_22) (fun _ h9 => h9) rfl hdg k
theorem pk_X2_place {p : Program} {l : Launch} {e : Env} {R : Room} {s : State} {m : MethodId} {args : Array Value} {below : List Frame} {meth : Method} {c : Code} {H : Heap} {locs : List Loc} {cells slots : Nat} {Q : State → Prop} {D : va_G} {aK aV : Nat → Nat} {A : Nat → Prop} {cc : ByteArray} {nL : Nat} {ret : Option FieldType} {pc : Nat} {ls : Array Slot} {rest : List Value} {cB cI cJ : ClassId} {q : Nat → Nat} {σ : KSt} {v : Int32} (G : CX p s m args meth c D (gTy cB cI cJ) aK aV A RX2 cc nL ret) (hP : va_P D vwCl (kW cB q σ) H) (hD : va_D A (kW cB q σ)) (hS : va_S A s.heap H locs) (hdg : decode cc pc = .ok (.putfield 22, 3)) (k : ∀ (H1 : Heap) (locs1 : List Loc), va_P D vwCl (kW cB q (ks_place σ v)) H1 → va_D A (kW cB q (ks_place σ v)) → va_S A s.heap H1 locs1 → W p l e R s m args below meth c H1 locs1 cells slots Q (F0 m (pc + 3) ls rest)) : W p l e R s m args below meth c H locs cells slots Q (F0 m pc ls (.int v :: .ref (q 0) :: rest)) := by
  obtain ⟨hx, hb, hml, hown, hT, hrt, hlk, hK, hA, hG, hE⟩ := G
  exact va_put (ci := 0) (v := .int v) (ty := .int) (C := RX0) (T := TX0) (N := 8) hx hb hT i_X0 tyX0 tyX0_ok nmX0 hown hK hP hD hS 0 rfl rfl 3 (by decide) (hT _ wfl_X2_22) (fun _ h9 => h9) rfl (by decide +kernel) rfl rfl (Nat.le_of_ble_eq_true rfl) hdg k
theorem gk_X2_faultKind {p : Program} {l : Launch} {e : Env} {R : Room} {s : State} {m : MethodId} {args : Array Value} {below : List Frame} {meth : Method} {c : Code} {H : Heap} {locs : List Loc} {cells slots : Nat} {Q : State → Prop} {D : va_G} {aK aV : Nat → Nat} {A : Nat → Prop} {cc : ByteArray} {nL : Nat} {ret : Option FieldType} {pc : Nat} {ls : Array Slot} {rest : List Value} {cB cI cJ : ClassId} {q : Nat → Nat} {σ : KSt} {v : Int32} (G : CX p s m args meth c D (gTy cB cI cJ) aK aV A RX2 cc nL ret) (hP : va_P D vwCl (kW cB q σ) H) (hdg : decode cc pc = .ok (.getfield 25, 3)) (hv : kf_faultKind σ = v) (k : W p l e R s m args below meth c H locs cells slots Q (F0 m (pc + 3) ls (.int v :: rest))) : W p l e R s m args below meth c H locs cells slots Q (F0 m pc ls (.ref (q 0) :: rest)) := by
  obtain ⟨hx, hb, hml, hown, hT, hrt, hlk, hK, hA, hG, hE⟩ := G
  subst hv
  exact va_get (ci := 0) (v := .int (kf_faultKind σ)) (C := RX0) (T := TX0) (N := 8) hx hb hT i_X0 hown hK hP 0 rfl rfl 4 (by decide) (hT _ wfl_X2_25) (fun _ h9 => h9) rfl hdg k
theorem pk_X2_faultKind {p : Program} {l : Launch} {e : Env} {R : Room} {s : State} {m : MethodId} {args : Array Value} {below : List Frame} {meth : Method} {c : Code} {H : Heap} {locs : List Loc} {cells slots : Nat} {Q : State → Prop} {D : va_G} {aK aV : Nat → Nat} {A : Nat → Prop} {cc : ByteArray} {nL : Nat} {ret : Option FieldType} {pc : Nat} {ls : Array Slot} {rest : List Value} {cB cI cJ : ClassId} {q : Nat → Nat} {σ : KSt} {v : Int32} (G : CX p s m args meth c D (gTy cB cI cJ) aK aV A RX2 cc nL ret) (hP : va_P D vwCl (kW cB q σ) H) (hD : va_D A (kW cB q σ)) (hS : va_S A s.heap H locs) (hdg : decode cc pc = .ok (.putfield 25, 3)) (k : ∀ (H1 : Heap) (locs1 : List Loc), va_P D vwCl (kW cB q (ks_faultKind σ v)) H1 → va_D A (kW cB q (ks_faultKind σ v)) → va_S A s.heap H1 locs1 → W p l e R s m args below meth c H1 locs1 cells slots Q (F0 m (pc + 3) ls rest)) : W p l e R s m args below meth c H locs cells slots Q (F0 m pc ls (.int v :: .ref (q 0) :: rest)) := by
  obtain ⟨hx, hb, hml, hown, hT, hrt, hlk, hK, hA, hG, hE⟩ := G
  exact va_put (ci := 0) (v := .int v) (ty := .int) (C := RX0) (T := TX0) (N := 8) hx hb hT i_X0 tyX0 tyX0_ok nmX0 hown hK hP hD hS 0 rfl rfl 4 (by decide) (hT _ wfl_X2_25) (fun _ h9 => h9) rfl (by decide +kernel) rfl rfl (Nat.le_of_ble_eq_true rfl) hdg k
theorem gk_X2_faultPlace {p : Program} {l : Launch} {e : Env} {R : Room} {s : State} {m : MethodId} {args : Array Value} {below : List Frame} {meth : Method} {c : Code} {H : Heap} {locs : List Loc} {cells slots : Nat} {Q : State → Prop} {D : va_G} {aK aV : Nat → Nat} {A : Nat → Prop} {cc : ByteArray} {nL : Nat} {ret : Option FieldType} {pc : Nat} {ls : Array Slot} {rest : List Value} {cB cI cJ : ClassId} {q : Nat → Nat} {σ : KSt} {v : Int32} (G : CX p s m args meth c D (gTy cB cI cJ) aK aV A RX2 cc nL ret) (hP : va_P D vwCl (kW cB q σ) H) (hdg : decode cc pc = .ok (.getfield 28, 3)) (hv : kf_faultPlace σ = v) (k : W p l e R s m args below meth c H locs cells slots Q (F0 m (pc + 3) ls (.int v :: rest))) : W p l e R s m args below meth c H locs cells slots Q (F0 m pc ls (.ref (q 0) :: rest)) := by
  obtain ⟨hx, hb, hml, hown, hT, hrt, hlk, hK, hA, hG, hE⟩ := G
  subst hv
  exact va_get (ci := 0) (v := .int (kf_faultPlace σ)) (C := RX0) (T := TX0) (N := 8) hx hb hT i_X0 hown hK hP 0 rfl rfl 5 (by decide) (hT _ wfl_X2_28) (fun _ h9 => h9) rfl hdg k
theorem pk_X2_faultPlace {p : Program} {l : Launch} {e : Env} {R : Room} {s : State} {m : MethodId} {args : Array Value} {below : List Frame} {meth : Method} {c : Code} {H : Heap} {locs : List Loc} {cells slots : Nat} {Q : State → Prop} {D : va_G} {aK aV : Nat → Nat} {A : Nat → Prop} {cc : ByteArray} {nL : Nat} {ret : Option FieldType} {pc : Nat} {ls : Array Slot} {rest : List Value} {cB cI cJ : ClassId} {q : Nat → Nat} {σ : KSt} {v : Int32} (G : CX p s m args meth c D (gTy cB cI cJ) aK aV A RX2 cc nL ret) (hP : va_P D vwCl (kW cB q σ) H) (hD : va_D A (kW cB q σ)) (hS : va_S A s.heap H locs) (hdg : decode cc pc = .ok (.putfield 28, 3)) (k : ∀ (H1 : Heap) (locs1 : List Loc), va_P D vwCl (kW cB q (ks_faultPlace σ v)) H1 → va_D A (kW cB q (ks_faultPlace σ v)) → va_S A s.heap H1 locs1 → W p l e R s m args below meth c H1 locs1 cells slots Q (F0 m (pc + 3) ls rest)) : W p l e R s m args below meth c H locs cells slots Q (F0 m pc ls (.int v :: .ref (q 0) :: rest)) := by
  obtain ⟨hx, hb, hml, hown, hT, hrt, hlk, hK, hA, hG, hE⟩ := G
  exact va_put (ci := 0) (v := .int v) (ty := .int) (C := RX0) (T := TX0) (N := 8) hx hb hT i_X0 tyX0 tyX0_ok nmX0 hown hK hP hD hS 0 rfl rfl 5 (by decide) (hT _ wfl_X2_28) (fun _ h9 => h9) rfl (by decide +kernel) rfl rfl (Nat.le_of_ble_eq_true rfl) hdg k
theorem vK {p : Program} {l : Launch} {e : Env} {R : Room} {s : State} {m : MethodId} {args : Array Value} {below : List Frame} {meth : Method} {c : Code} {H : Heap} {locs : List Loc} {cells slots : Nat} {Q : State → Prop} {D : va_G} {aK aV : Nat → Nat} {A : Nat → Prop} {cc : ByteArray} {nL : Nat} {ret : Option FieldType} {pc : Nat} {ls : Array Slot} {rest : List Value} {cB cI cJ : ClassId} {q : Nat → Nat} {σ : KSt} {ov : Option Value} {y : MethodName} {bytes : ByteArray} {maxL n index : Nat} {ret' : Option FieldType} {rm : Room} {As : List Value} {τ : KSt} (G : CX p s m args meth c D (gTy cB cI cJ) aK aV A RX0 cc nL ret) (M : MV RX0 index RX0 y bytes maxL ret' n) (hM : CT l D (gTy cB cI cJ) aK aV y (wM y bytes maxL ret') rm 0 0 (.ref (q 0) :: As) (kW cB q σ) ov (kW cB q τ)) (hP : va_P D vwCl (kW cB q σ) H) (hD : va_D A (kW cB q σ)) (hS : va_S A s.heap H locs) (hrm : rm.cells = 0 ∧ rm.slots = 0 ∧ rm.frames + 1 ≤ R.frames ∧ 8 + (maxL + 11) + rm.locals ≤ R.locals) (hc : cells ≤ R.cells ∧ slots ≤ R.slots) (hA : As.length = n) (hls : ls.size = nL) (hst : (rest.map fun v => v.category).sum ≤ 8) (hdg : decode cc pc = .ok (.invokevirtual index, 3)) (k : ∀ (H1 : Heap) (locs1 : List Loc), va_P D vwCl (kW cB q τ) H1 → va_D A (kW cB q τ) → va_S A s.heap H1 locs1 → W p l e R s m args below meth c H1 locs1 cells slots Q (F0 m (pc + 3) ls (ov.toList ++ rest))) : W p l e R s m args below meth c H locs cells slots Q (F0 m pc ls (As.reverse ++ .ref (q 0) :: rest)) :=
  ct_v (wr := []) G M hM hP hD hS [0, 1, 2, 3, 4] [] rfl rfl rfl rfl (fun _ h => absurd h List.not_mem_nil) (ci := 0) (q0 := 0) rfl rfl rfl hrm hA hls hst hdg hc k
theorem uK {p : Program} {l : Launch} {e : Env} {R : Room} {s : State} {m : MethodId} {args : Array Value} {below : List Frame} {meth : Method} {c : Code} {H : Heap} {locs : List Loc} {cells slots : Nat} {Q : State → Prop} {D : va_G} {aK aV : Nat → Nat} {A : Nat → Prop} {cc : ByteArray} {nL : Nat} {ret : Option FieldType} {pc : Nat} {ls : Array Slot} {rest : List Value} {cB cI cJ : ClassId} {q : Nat → Nat} {σ : KSt} {ov : Option Value} {y : MethodName} {bytes : ByteArray} {maxL n index : Nat} {ret' : Option FieldType} {rm : Room} {As : List Value} {τ : KSt} (G : CX p s m args meth c D (gTy cB cI cJ) aK aV A RX0 cc nL ret) {x : MethodName} (M : MU RX0 index RX0 "TextBridge$Reader" x y bytes maxL ret' n) (hM : CT l D (gTy cB cI cJ) aK aV y (wM y bytes maxL ret') rm 0 0 (.ref (q 0) :: As) (kW cB q σ) ov (kW cB q τ)) (hP : va_P D vwCl (kW cB q σ) H) (hD : va_D A (kW cB q σ)) (hS : va_S A s.heap H locs) (hrm : rm.cells = 0 ∧ rm.slots = 0 ∧ rm.frames + 1 ≤ R.frames ∧ 8 + (maxL + 11) + rm.locals ≤ R.locals) (hc : cells ≤ R.cells ∧ slots ≤ R.slots) (hA : As.length = n) (hls : ls.size = nL) (hst : (rest.map fun v => v.category).sum ≤ 8) (hdg : decode cc pc = .ok (.invokevirtual index, 3)) (k : ∀ (H1 : Heap) (locs1 : List Loc), va_P D vwCl (kW cB q τ) H1 → va_D A (kW cB q τ) → va_S A s.heap H1 locs1 → W p l e R s m args below meth c H1 locs1 cells slots Q (F0 m (pc + 3) ls (ov.toList ++ rest))) : W p l e R s m args below meth c H locs cells slots Q (F0 m pc ls (As.reverse ++ .ref (q 0) :: rest)) :=
  ct_u (wr := []) G M hM hP hD hS [0, 1, 2, 3, 4] [] rfl rfl rfl rfl (fun _ h => absurd h List.not_mem_nil) (ci := 0) (q0 := 0) rfl rfl rfl hrm hA hls hst hdg hc k
theorem vK_tape {p : Program} {l : Launch} {e : Env} {R : Room} {s : State} {m : MethodId} {args : Array Value} {below : List Frame} {meth : Method} {c : Code} {H : Heap} {locs : List Loc} {cells slots : Nat} {Q : State → Prop} {D : va_G} {aK aV : Nat → Nat} {A : Nat → Prop} {cc : ByteArray} {nL : Nat} {ret : Option FieldType} {pc : Nat} {ls : Array Slot} {rest : List Value} {cB cI cJ : ClassId} {q : Nat → Nat} {σ : KSt} {ov : Option Value} {y : MethodName} {bytes : ByteArray} {maxL n index : Nat} {ret' : Option FieldType} {rm : Room} {As : List Value} {τ τ0 : RSt} (G : CX p s m args meth c D (gTy cB cI cJ) aK aV A RX0 cc nL ret) (M : MV RX0 index RX3 y bytes maxL ret' n) (h0 : kf_tape σ = τ0) (hM : CT l D (gTy cB cI cJ) aK aV y (wM y bytes maxL ret') rm 0 0 (.ref (q 1) :: As) (rW cB (q 1) (q 2) 4000 τ0) ov (rW cB (q 1) (q 2) 4000 τ)) (hP : va_P D vwCl (kW cB q σ) H) (hD : va_D A (kW cB q σ)) (hS : va_S A s.heap H locs) (hrm : rm.cells = 0 ∧ rm.slots = 0 ∧ rm.frames + 1 ≤ R.frames ∧ 8 + (maxL + 11) + rm.locals ≤ R.locals) (hc : cells ≤ R.cells ∧ slots ≤ R.slots) (hA : As.length = n) (hls : ls.size = nL) (hst : (rest.map fun v => v.category).sum ≤ 8) (hdg : decode cc pc = .ok (.invokevirtual index, 3)) (k : ∀ (H1 : Heap) (locs1 : List Loc), va_P D vwCl (kW cB q (ks_tape σ τ)) H1 → va_D A (kW cB q (ks_tape σ τ)) → va_S A s.heap H1 locs1 → W p l e R s m args below meth c H1 locs1 cells slots Q (F0 m (pc + 3) ls (ov.toList ++ rest))) : W p l e R s m args below meth c H locs cells slots Q (F0 m pc ls (As.reverse ++ .ref (q 1) :: rest)) := by
  subst h0
  exact ct_v (wr := [(kW cB q σ).getD 0 (0, .inr (0, [])), (kW cB q σ).getD 3 (0, .inr (0, [])), (kW cB q σ).getD 4 (0, .inr (0, []))]) G M hM hP hD hS [1, 2] [0, 3, 4] rfl rfl rfl rfl (by decide) (ci := 2) (q0 := 1) rfl rfl rfl hrm hA hls hst hdg hc (fun H1 l1 hP hD hS => k H1 l1 (hP.sub [0, 3, 4, 1, 2] rfl) (hD.sub [0, 3, 4, 1, 2] rfl rfl) hS)
theorem vK_target {p : Program} {l : Launch} {e : Env} {R : Room} {s : State} {m : MethodId} {args : Array Value} {below : List Frame} {meth : Method} {c : Code} {H : Heap} {locs : List Loc} {cells slots : Nat} {Q : State → Prop} {D : va_G} {aK aV : Nat → Nat} {A : Nat → Prop} {cc : ByteArray} {nL : Nat} {ret : Option FieldType} {pc : Nat} {ls : Array Slot} {rest : List Value} {cB cI cJ : ClassId} {q : Nat → Nat} {σ : KSt} {ov : Option Value} {y : MethodName} {bytes : ByteArray} {maxL n index : Nat} {ret' : Option FieldType} {rm : Room} {As : List Value} {τ τ0 : RSt} (G : CX p s m args meth c D (gTy cB cI cJ) aK aV A RX0 cc nL ret) (M : MV RX0 index RX3 y bytes maxL ret' n) (h0 : kf_target σ = τ0) (hM : CT l D (gTy cB cI cJ) aK aV y (wM y bytes maxL ret') rm 0 0 (.ref (q 3) :: As) (rW cB (q 3) (q 4) 6000 τ0) ov (rW cB (q 3) (q 4) 6000 τ)) (hP : va_P D vwCl (kW cB q σ) H) (hD : va_D A (kW cB q σ)) (hS : va_S A s.heap H locs) (hrm : rm.cells = 0 ∧ rm.slots = 0 ∧ rm.frames + 1 ≤ R.frames ∧ 8 + (maxL + 11) + rm.locals ≤ R.locals) (hc : cells ≤ R.cells ∧ slots ≤ R.slots) (hA : As.length = n) (hls : ls.size = nL) (hst : (rest.map fun v => v.category).sum ≤ 8) (hdg : decode cc pc = .ok (.invokevirtual index, 3)) (k : ∀ (H1 : Heap) (locs1 : List Loc), va_P D vwCl (kW cB q (ks_target σ τ)) H1 → va_D A (kW cB q (ks_target σ τ)) → va_S A s.heap H1 locs1 → W p l e R s m args below meth c H1 locs1 cells slots Q (F0 m (pc + 3) ls (ov.toList ++ rest))) : W p l e R s m args below meth c H locs cells slots Q (F0 m pc ls (As.reverse ++ .ref (q 3) :: rest)) := by
  subst h0
  exact ct_v (wr := [(kW cB q σ).getD 0 (0, .inr (0, [])), (kW cB q σ).getD 1 (0, .inr (0, [])), (kW cB q σ).getD 2 (0, .inr (0, []))]) G M hM hP hD hS [3, 4] [0, 1, 2] rfl rfl rfl rfl (by decide) (ci := 2) (q0 := 3) rfl rfl rfl hrm hA hls hst hdg hc (fun H1 l1 hP hD hS => k H1 l1 (hP.sub [0, 1, 2, 3, 4] rfl) (hD.sub [0, 1, 2, 3, 4] rfl rfl) hS)
theorem nK_tape {p : Program} {l : Launch} {e : Env} {R : Room} {s : State} {m : MethodId} {args : Array Value} {below : List Frame} {meth : Method} {c : Code} {H : Heap} {locs : List Loc} {cells slots : Nat} {Q : State → Prop} {D : va_G} {aK aV : Nat → Nat} {A : Nat → Prop} {cc : ByteArray} {nL : Nat} {ret : Option FieldType} {pc : Nat} {ls : Array Slot} {rest : List Value} {cB cI cJ : ClassId} {q : Nat → Nat} {σ : KSt} {ov : Option Value} {y : MethodName} {bytes : ByteArray} {maxL n index : Nat} {ret' : Option FieldType} {rm : Room} {As : List Value} {τ τ0 : RSt} (G : CX p s m args meth c D (gTy cB cI cJ) aK aV A RX0 cc nL ret) (M : MN RX0 index y bytes maxL ret' n) (h0 : kf_tape σ = τ0) (hM : CT l D (gTy cB cI cJ) aK aV y (wM y bytes maxL ret') rm 0 0 (.ref (q 1) :: As) (rW cB (q 1) (q 2) 4000 τ0) ov (rW cB (q 1) (q 2) 4000 τ)) (hP : va_P D vwCl (kW cB q σ) H) (hD : va_D A (kW cB q σ)) (hS : va_S A s.heap H locs) (hrm : rm.cells = 0 ∧ rm.slots = 0 ∧ rm.frames + 1 ≤ R.frames ∧ 8 + (maxL + 11) + rm.locals ≤ R.locals) (hc : cells ≤ R.cells ∧ slots ≤ R.slots) (hA : (Value.ref (q 1) :: As).length = n) (hls : ls.size = nL) (hst : (rest.map fun v => v.category).sum ≤ 8) (hdg : decode cc pc = .ok (.invokestatic index, 3)) (k : ∀ (H1 : Heap) (locs1 : List Loc), va_P D vwCl (kW cB q (ks_tape σ τ)) H1 → va_D A (kW cB q (ks_tape σ τ)) → va_S A s.heap H1 locs1 → W p l e R s m args below meth c H1 locs1 cells slots Q (F0 m (pc + 3) ls (ov.toList ++ rest))) : W p l e R s m args below meth c H locs cells slots Q (F0 m pc ls ((Value.ref (q 1) :: As).reverse ++ rest)) := by
  subst h0
  exact ct_sn (wr := [(kW cB q σ).getD 0 (0, .inr (0, [])), (kW cB q σ).getD 3 (0, .inr (0, [])), (kW cB q σ).getD 4 (0, .inr (0, []))]) G M hM hP hD hS [1, 2] [0, 3, 4] rfl rfl rfl rfl (by decide) hrm hA hls hst hdg hc (fun H1 l1 hP hD hS => k H1 l1 (hP.sub [0, 3, 4, 1, 2] rfl) (hD.sub [0, 3, 4, 1, 2] rfl rfl) hS)
theorem gt_X4_tape {p : Program} {l : Launch} {e : Env} {R : Room} {s : State} {m : MethodId} {args : Array Value} {below : List Frame} {meth : Method} {c : Code} {H : Heap} {locs : List Loc} {cells slots : Nat} {Q : State → Prop} {D : va_G} {aK aV : Nat → Nat} {A : Nat → Prop} {cc : ByteArray} {nL : Nat} {ret : Option FieldType} {pc : Nat} {ls : Array Slot} {rest : List Value} {cB cI cJ : ClassId} {q : Nat → Nat} {σ : TSt} (G : CX p s m args meth c D (gTy cB cI cJ) aK aV A RX4 cc nL ret) (hP : va_P D vwCl (tW cB q σ) H) (hdg : decode cc pc = .ok (.getfield 14, 3)) (k : W p l e R s m args below meth c H locs cells slots Q (F0 m (pc + 3) ls (.ref (q 1) :: rest))) : W p l e R s m args below meth c H locs cells slots Q (F0 m pc ls (.ref (q 0) :: rest)) := by
  obtain ⟨hx, hb, hml, hown, hT, hrt, hlk, hK, hA, hG, hE⟩ := G
  exact va_get (ci := 3) (v := .ref (q 1)) (C := RX4) (T := TX4) (N := 6) hx hb hT i_X4 hown hK hP 0 rfl rfl 0 (by decide) (hT _ wfl_X4_14) (fun _ h9 => h9) rfl hdg k
theorem gt_X4_written {p : Program} {l : Launch} {e : Env} {R : Room} {s : State} {m : MethodId} {args : Array Value} {below : List Frame} {meth : Method} {c : Code} {H : Heap} {locs : List Loc} {cells slots : Nat} {Q : State → Prop} {D : va_G} {aK aV : Nat → Nat} {A : Nat → Prop} {cc : ByteArray} {nL : Nat} {ret : Option FieldType} {pc : Nat} {ls : Array Slot} {rest : List Value} {cB cI cJ : ClassId} {q : Nat → Nat} {σ : TSt} (G : CX p s m args meth c D (gTy cB cI cJ) aK aV A RX4 cc nL ret) (hP : va_P D vwCl (tW cB q σ) H) (hdg : decode cc pc = .ok (.getfield 18, 3)) (k : W p l e R s m args below meth c H locs cells slots Q (F0 m (pc + 3) ls (.ref (q 3) :: rest))) : W p l e R s m args below meth c H locs cells slots Q (F0 m pc ls (.ref (q 0) :: rest)) := by
  obtain ⟨hx, hb, hml, hown, hT, hrt, hlk, hK, hA, hG, hE⟩ := G
  exact va_get (ci := 3) (v := .ref (q 3)) (C := RX4) (T := TX4) (N := 6) hx hb hT i_X4 hown hK hP 0 rfl rfl 1 (by decide) (hT _ wfl_X4_18) (fun _ h9 => h9) rfl hdg k
theorem gt_X4_draft {p : Program} {l : Launch} {e : Env} {R : Room} {s : State} {m : MethodId} {args : Array Value} {below : List Frame} {meth : Method} {c : Code} {H : Heap} {locs : List Loc} {cells slots : Nat} {Q : State → Prop} {D : va_G} {aK aV : Nat → Nat} {A : Nat → Prop} {cc : ByteArray} {nL : Nat} {ret : Option FieldType} {pc : Nat} {ls : Array Slot} {rest : List Value} {cB cI cJ : ClassId} {q : Nat → Nat} {σ : TSt} (G : CX p s m args meth c D (gTy cB cI cJ) aK aV A RX4 cc nL ret) (hP : va_P D vwCl (tW cB q σ) H) (hdg : decode cc pc = .ok (.getfield 21, 3)) (k : W p l e R s m args below meth c H locs cells slots Q (F0 m (pc + 3) ls (.ref (q 5) :: rest))) : W p l e R s m args below meth c H locs cells slots Q (F0 m pc ls (.ref (q 0) :: rest)) := by
  obtain ⟨hx, hb, hml, hown, hT, hrt, hlk, hK, hA, hG, hE⟩ := G
  exact va_get (ci := 3) (v := .ref (q 5)) (C := RX4) (T := TX4) (N := 6) hx hb hT i_X4 hown hK hP 0 rfl rfl 2 (by decide) (hT _ wfl_X4_21) (fun _ h9 => h9) rfl hdg k
theorem gt_X4_depth {p : Program} {l : Launch} {e : Env} {R : Room} {s : State} {m : MethodId} {args : Array Value} {below : List Frame} {meth : Method} {c : Code} {H : Heap} {locs : List Loc} {cells slots : Nat} {Q : State → Prop} {D : va_G} {aK aV : Nat → Nat} {A : Nat → Prop} {cc : ByteArray} {nL : Nat} {ret : Option FieldType} {pc : Nat} {ls : Array Slot} {rest : List Value} {cB cI cJ : ClassId} {q : Nat → Nat} {σ : TSt} {v : Int32} (G : CX p s m args meth c D (gTy cB cI cJ) aK aV A RX4 cc nL ret) (hP : va_P D vwCl (tW cB q σ) H) (hdg : decode cc pc = .ok (.getfield 24, 3)) (hv : tf_depth σ = v) (k : W p l e R s m args below meth c H locs cells slots Q (F0 m (pc + 3) ls (.int v :: rest))) : W p l e R s m args below meth c H locs cells slots Q (F0 m pc ls (.ref (q 0) :: rest)) := by
  obtain ⟨hx, hb, hml, hown, hT, hrt, hlk, hK, hA, hG, hE⟩ := G
  subst hv
  exact va_get (ci := 3) (v := .int (tf_depth σ)) (C := RX4) (T := TX4) (N := 6) hx hb hT i_X4 hown hK hP 0 rfl rfl 3 (by decide) (hT _ wfl_X4_24) (fun _ h9 => h9) rfl hdg k
theorem pt_X4_depth {p : Program} {l : Launch} {e : Env} {R : Room} {s : State} {m : MethodId} {args : Array Value} {below : List Frame} {meth : Method} {c : Code} {H : Heap} {locs : List Loc} {cells slots : Nat} {Q : State → Prop} {D : va_G} {aK aV : Nat → Nat} {A : Nat → Prop} {cc : ByteArray} {nL : Nat} {ret : Option FieldType} {pc : Nat} {ls : Array Slot} {rest : List Value} {cB cI cJ : ClassId} {q : Nat → Nat} {σ : TSt} {v : Int32} (G : CX p s m args meth c D (gTy cB cI cJ) aK aV A RX4 cc nL ret) (hP : va_P D vwCl (tW cB q σ) H) (hD : va_D A (tW cB q σ)) (hS : va_S A s.heap H locs) (hdg : decode cc pc = .ok (.putfield 24, 3)) (k : ∀ (H1 : Heap) (locs1 : List Loc), va_P D vwCl (tW cB q (ts_depth σ v)) H1 → va_D A (tW cB q (ts_depth σ v)) → va_S A s.heap H1 locs1 → W p l e R s m args below meth c H1 locs1 cells slots Q (F0 m (pc + 3) ls rest)) : W p l e R s m args below meth c H locs cells slots Q (F0 m pc ls (.int v :: .ref (q 0) :: rest)) := by
  obtain ⟨hx, hb, hml, hown, hT, hrt, hlk, hK, hA, hG, hE⟩ := G
  exact va_put (ci := 3) (v := .int v) (ty := .int) (C := RX4) (T := TX4) (N := 6) hx hb hT i_X4 tyX4 tyX4_ok nmX4 hown hK hP hD hS 0 rfl rfl 3 (by decide) (hT _ wfl_X4_24) (fun _ h9 => h9) rfl (by decide +kernel) rfl rfl (Nat.le_of_ble_eq_true rfl) hdg k
theorem gt_X4_room {p : Program} {l : Launch} {e : Env} {R : Room} {s : State} {m : MethodId} {args : Array Value} {below : List Frame} {meth : Method} {c : Code} {H : Heap} {locs : List Loc} {cells slots : Nat} {Q : State → Prop} {D : va_G} {aK aV : Nat → Nat} {A : Nat → Prop} {cc : ByteArray} {nL : Nat} {ret : Option FieldType} {pc : Nat} {ls : Array Slot} {rest : List Value} {cB cI cJ : ClassId} {q : Nat → Nat} {σ : TSt} {v : Int32} (G : CX p s m args meth c D (gTy cB cI cJ) aK aV A RX4 cc nL ret) (hP : va_P D vwCl (tW cB q σ) H) (hdg : decode cc pc = .ok (.getfield 28, 3)) (hv : tf_room σ = v) (k : W p l e R s m args below meth c H locs cells slots Q (F0 m (pc + 3) ls (.int v :: rest))) : W p l e R s m args below meth c H locs cells slots Q (F0 m pc ls (.ref (q 0) :: rest)) := by
  obtain ⟨hx, hb, hml, hown, hT, hrt, hlk, hK, hA, hG, hE⟩ := G
  subst hv
  exact va_get (ci := 3) (v := .int (tf_room σ)) (C := RX4) (T := TX4) (N := 6) hx hb hT i_X4 hown hK hP 0 rfl rfl 4 (by decide) (hT _ wfl_X4_28) (fun _ h9 => h9) rfl hdg k
theorem pt_X4_room {p : Program} {l : Launch} {e : Env} {R : Room} {s : State} {m : MethodId} {args : Array Value} {below : List Frame} {meth : Method} {c : Code} {H : Heap} {locs : List Loc} {cells slots : Nat} {Q : State → Prop} {D : va_G} {aK aV : Nat → Nat} {A : Nat → Prop} {cc : ByteArray} {nL : Nat} {ret : Option FieldType} {pc : Nat} {ls : Array Slot} {rest : List Value} {cB cI cJ : ClassId} {q : Nat → Nat} {σ : TSt} {v : Int32} (G : CX p s m args meth c D (gTy cB cI cJ) aK aV A RX4 cc nL ret) (hP : va_P D vwCl (tW cB q σ) H) (hD : va_D A (tW cB q σ)) (hS : va_S A s.heap H locs) (hdg : decode cc pc = .ok (.putfield 28, 3)) (k : ∀ (H1 : Heap) (locs1 : List Loc), va_P D vwCl (tW cB q (ts_room σ v)) H1 → va_D A (tW cB q (ts_room σ v)) → va_S A s.heap H1 locs1 → W p l e R s m args below meth c H1 locs1 cells slots Q (F0 m (pc + 3) ls rest)) : W p l e R s m args below meth c H locs cells slots Q (F0 m pc ls (.int v :: .ref (q 0) :: rest)) := by
  obtain ⟨hx, hb, hml, hown, hT, hrt, hlk, hK, hA, hG, hE⟩ := G
  exact va_put (ci := 3) (v := .int v) (ty := .int) (C := RX4) (T := TX4) (N := 6) hx hb hT i_X4 tyX4 tyX4_ok nmX4 hown hK hP hD hS 0 rfl rfl 4 (by decide) (hT _ wfl_X4_28) (fun _ h9 => h9) rfl (by decide +kernel) rfl rfl (Nat.le_of_ble_eq_true rfl) hdg k
theorem gt_X4_faultPlace {p : Program} {l : Launch} {e : Env} {R : Room} {s : State} {m : MethodId} {args : Array Value} {below : List Frame} {meth : Method} {c : Code} {H : Heap} {locs : List Loc} {cells slots : Nat} {Q : State → Prop} {D : va_G} {aK aV : Nat → Nat} {A : Nat → Prop} {cc : ByteArray} {nL : Nat} {ret : Option FieldType} {pc : Nat} {ls : Array Slot} {rest : List Value} {cB cI cJ : ClassId} {q : Nat → Nat} {σ : TSt} {v : Int32} (G : CX p s m args meth c D (gTy cB cI cJ) aK aV A RX4 cc nL ret) (hP : va_P D vwCl (tW cB q σ) H) (hdg : decode cc pc = .ok (.getfield 31, 3)) (hv : tf_faultPlace σ = v) (k : W p l e R s m args below meth c H locs cells slots Q (F0 m (pc + 3) ls (.int v :: rest))) : W p l e R s m args below meth c H locs cells slots Q (F0 m pc ls (.ref (q 0) :: rest)) := by
  obtain ⟨hx, hb, hml, hown, hT, hrt, hlk, hK, hA, hG, hE⟩ := G
  subst hv
  exact va_get (ci := 3) (v := .int (tf_faultPlace σ)) (C := RX4) (T := TX4) (N := 6) hx hb hT i_X4 hown hK hP 0 rfl rfl 5 (by decide) (hT _ wfl_X4_31) (fun _ h9 => h9) rfl hdg k
theorem pt_X4_faultPlace {p : Program} {l : Launch} {e : Env} {R : Room} {s : State} {m : MethodId} {args : Array Value} {below : List Frame} {meth : Method} {c : Code} {H : Heap} {locs : List Loc} {cells slots : Nat} {Q : State → Prop} {D : va_G} {aK aV : Nat → Nat} {A : Nat → Prop} {cc : ByteArray} {nL : Nat} {ret : Option FieldType} {pc : Nat} {ls : Array Slot} {rest : List Value} {cB cI cJ : ClassId} {q : Nat → Nat} {σ : TSt} {v : Int32} (G : CX p s m args meth c D (gTy cB cI cJ) aK aV A RX4 cc nL ret) (hP : va_P D vwCl (tW cB q σ) H) (hD : va_D A (tW cB q σ)) (hS : va_S A s.heap H locs) (hdg : decode cc pc = .ok (.putfield 31, 3)) (k : ∀ (H1 : Heap) (locs1 : List Loc), va_P D vwCl (tW cB q (ts_faultPlace σ v)) H1 → va_D A (tW cB q (ts_faultPlace σ v)) → va_S A s.heap H1 locs1 → W p l e R s m args below meth c H1 locs1 cells slots Q (F0 m (pc + 3) ls rest)) : W p l e R s m args below meth c H locs cells slots Q (F0 m pc ls (.int v :: .ref (q 0) :: rest)) := by
  obtain ⟨hx, hb, hml, hown, hT, hrt, hlk, hK, hA, hG, hE⟩ := G
  exact va_put (ci := 3) (v := .int v) (ty := .int) (C := RX4) (T := TX4) (N := 6) hx hb hT i_X4 tyX4 tyX4_ok nmX4 hown hK hP hD hS 0 rfl rfl 5 (by decide) (hT _ wfl_X4_31) (fun _ h9 => h9) rfl (by decide +kernel) rfl rfl (Nat.le_of_ble_eq_true rfl) hdg k
theorem vT {p : Program} {l : Launch} {e : Env} {R : Room} {s : State} {m : MethodId} {args : Array Value} {below : List Frame} {meth : Method} {c : Code} {H : Heap} {locs : List Loc} {cells slots : Nat} {Q : State → Prop} {D : va_G} {aK aV : Nat → Nat} {A : Nat → Prop} {cc : ByteArray} {nL : Nat} {ret : Option FieldType} {pc : Nat} {ls : Array Slot} {rest : List Value} {cB cI cJ : ClassId} {q : Nat → Nat} {σ : TSt} {ov : Option Value} {y : MethodName} {bytes : ByteArray} {maxL n index : Nat} {ret' : Option FieldType} {rm : Room} {As : List Value} {τ : TSt} (G : CX p s m args meth c D (gTy cB cI cJ) aK aV A RX4 cc nL ret) (M : MV RX4 index RX4 y bytes maxL ret' n) (hM : CT l D (gTy cB cI cJ) aK aV y (wM y bytes maxL ret') rm 0 0 (.ref (q 0) :: As) (tW cB q σ) ov (tW cB q τ)) (hP : va_P D vwCl (tW cB q σ) H) (hD : va_D A (tW cB q σ)) (hS : va_S A s.heap H locs) (hrm : rm.cells = 0 ∧ rm.slots = 0 ∧ rm.frames + 1 ≤ R.frames ∧ 8 + (maxL + 11) + rm.locals ≤ R.locals) (hc : cells ≤ R.cells ∧ slots ≤ R.slots) (hA : As.length = n) (hls : ls.size = nL) (hst : (rest.map fun v => v.category).sum ≤ 8) (hdg : decode cc pc = .ok (.invokevirtual index, 3)) (k : ∀ (H1 : Heap) (locs1 : List Loc), va_P D vwCl (tW cB q τ) H1 → va_D A (tW cB q τ) → va_S A s.heap H1 locs1 → W p l e R s m args below meth c H1 locs1 cells slots Q (F0 m (pc + 3) ls (ov.toList ++ rest))) : W p l e R s m args below meth c H locs cells slots Q (F0 m pc ls (As.reverse ++ .ref (q 0) :: rest)) :=
  ct_v (wr := []) G M hM hP hD hS [0, 1, 2, 3, 4, 5, 6] [] rfl rfl rfl rfl (fun _ h => absurd h List.not_mem_nil) (ci := 3) (q0 := 0) rfl rfl rfl hrm hA hls hst hdg hc k
theorem vT_tape {p : Program} {l : Launch} {e : Env} {R : Room} {s : State} {m : MethodId} {args : Array Value} {below : List Frame} {meth : Method} {c : Code} {H : Heap} {locs : List Loc} {cells slots : Nat} {Q : State → Prop} {D : va_G} {aK aV : Nat → Nat} {A : Nat → Prop} {cc : ByteArray} {nL : Nat} {ret : Option FieldType} {pc : Nat} {ls : Array Slot} {rest : List Value} {cB cI cJ : ClassId} {q : Nat → Nat} {σ : TSt} {ov : Option Value} {y : MethodName} {bytes : ByteArray} {maxL n index : Nat} {ret' : Option FieldType} {rm : Room} {As : List Value} {τ τ0 : RSt} (G : CX p s m args meth c D (gTy cB cI cJ) aK aV A RX4 cc nL ret) (M : MV RX4 index RX3 y bytes maxL ret' n) (h0 : tf_tape σ = τ0) (hM : CT l D (gTy cB cI cJ) aK aV y (wM y bytes maxL ret') rm 0 0 (.ref (q 1) :: As) (rW cB (q 1) (q 2) 4000 τ0) ov (rW cB (q 1) (q 2) 4000 τ)) (hP : va_P D vwCl (tW cB q σ) H) (hD : va_D A (tW cB q σ)) (hS : va_S A s.heap H locs) (hrm : rm.cells = 0 ∧ rm.slots = 0 ∧ rm.frames + 1 ≤ R.frames ∧ 8 + (maxL + 11) + rm.locals ≤ R.locals) (hc : cells ≤ R.cells ∧ slots ≤ R.slots) (hA : As.length = n) (hls : ls.size = nL) (hst : (rest.map fun v => v.category).sum ≤ 8) (hdg : decode cc pc = .ok (.invokevirtual index, 3)) (k : ∀ (H1 : Heap) (locs1 : List Loc), va_P D vwCl (tW cB q (ts_tape σ τ)) H1 → va_D A (tW cB q (ts_tape σ τ)) → va_S A s.heap H1 locs1 → W p l e R s m args below meth c H1 locs1 cells slots Q (F0 m (pc + 3) ls (ov.toList ++ rest))) : W p l e R s m args below meth c H locs cells slots Q (F0 m pc ls (As.reverse ++ .ref (q 1) :: rest)) := by
  subst h0
  exact ct_v (wr := [(tW cB q σ).getD 0 (0, .inr (0, [])), (tW cB q σ).getD 3 (0, .inr (0, [])), (tW cB q σ).getD 4 (0, .inr (0, [])), (tW cB q σ).getD 5 (0, .inr (0, [])), (tW cB q σ).getD 6 (0, .inr (0, []))]) G M hM hP hD hS [1, 2] [0, 3, 4, 5, 6] rfl rfl rfl rfl (by decide) (ci := 2) (q0 := 1) rfl rfl rfl hrm hA hls hst hdg hc (fun H1 l1 hP hD hS => k H1 l1 (hP.sub [0, 5, 6, 1, 2, 3, 4] rfl) (hD.sub [0, 5, 6, 1, 2, 3, 4] rfl rfl) hS)
theorem vT_written {p : Program} {l : Launch} {e : Env} {R : Room} {s : State} {m : MethodId} {args : Array Value} {below : List Frame} {meth : Method} {c : Code} {H : Heap} {locs : List Loc} {cells slots : Nat} {Q : State → Prop} {D : va_G} {aK aV : Nat → Nat} {A : Nat → Prop} {cc : ByteArray} {nL : Nat} {ret : Option FieldType} {pc : Nat} {ls : Array Slot} {rest : List Value} {cB cI cJ : ClassId} {q : Nat → Nat} {σ : TSt} {ov : Option Value} {y : MethodName} {bytes : ByteArray} {maxL n index : Nat} {ret' : Option FieldType} {rm : Room} {As : List Value} {τ τ0 : RSt} (G : CX p s m args meth c D (gTy cB cI cJ) aK aV A RX4 cc nL ret) (M : MV RX4 index RX3 y bytes maxL ret' n) (h0 : tf_written σ = τ0) (hM : CT l D (gTy cB cI cJ) aK aV y (wM y bytes maxL ret') rm 0 0 (.ref (q 3) :: As) (rW cB (q 3) (q 4) 6000 τ0) ov (rW cB (q 3) (q 4) 6000 τ)) (hP : va_P D vwCl (tW cB q σ) H) (hD : va_D A (tW cB q σ)) (hS : va_S A s.heap H locs) (hrm : rm.cells = 0 ∧ rm.slots = 0 ∧ rm.frames + 1 ≤ R.frames ∧ 8 + (maxL + 11) + rm.locals ≤ R.locals) (hc : cells ≤ R.cells ∧ slots ≤ R.slots) (hA : As.length = n) (hls : ls.size = nL) (hst : (rest.map fun v => v.category).sum ≤ 8) (hdg : decode cc pc = .ok (.invokevirtual index, 3)) (k : ∀ (H1 : Heap) (locs1 : List Loc), va_P D vwCl (tW cB q (ts_written σ τ)) H1 → va_D A (tW cB q (ts_written σ τ)) → va_S A s.heap H1 locs1 → W p l e R s m args below meth c H1 locs1 cells slots Q (F0 m (pc + 3) ls (ov.toList ++ rest))) : W p l e R s m args below meth c H locs cells slots Q (F0 m pc ls (As.reverse ++ .ref (q 3) :: rest)) := by
  subst h0
  exact ct_v (wr := [(tW cB q σ).getD 0 (0, .inr (0, [])), (tW cB q σ).getD 1 (0, .inr (0, [])), (tW cB q σ).getD 2 (0, .inr (0, [])), (tW cB q σ).getD 5 (0, .inr (0, [])), (tW cB q σ).getD 6 (0, .inr (0, []))]) G M hM hP hD hS [3, 4] [0, 1, 2, 5, 6] rfl rfl rfl rfl (by decide) (ci := 2) (q0 := 3) rfl rfl rfl hrm hA hls hst hdg hc (fun H1 l1 hP hD hS => k H1 l1 (hP.sub [0, 1, 2, 5, 6, 3, 4] rfl) (hD.sub [0, 1, 2, 5, 6, 3, 4] rfl rfl) hS)
theorem vT_draft {p : Program} {l : Launch} {e : Env} {R : Room} {s : State} {m : MethodId} {args : Array Value} {below : List Frame} {meth : Method} {c : Code} {H : Heap} {locs : List Loc} {cells slots : Nat} {Q : State → Prop} {D : va_G} {aK aV : Nat → Nat} {A : Nat → Prop} {cc : ByteArray} {nL : Nat} {ret : Option FieldType} {pc : Nat} {ls : Array Slot} {rest : List Value} {cB cI cJ : ClassId} {q : Nat → Nat} {σ : TSt} {ov : Option Value} {y : MethodName} {bytes : ByteArray} {maxL n index : Nat} {ret' : Option FieldType} {rm : Room} {As : List Value} {τ τ0 : RSt} (G : CX p s m args meth c D (gTy cB cI cJ) aK aV A RX4 cc nL ret) (M : MV RX4 index RX3 y bytes maxL ret' n) (h0 : tf_draft σ = τ0) (hM : CT l D (gTy cB cI cJ) aK aV y (wM y bytes maxL ret') rm 0 0 (.ref (q 5) :: As) (rW cB (q 5) (q 6) 6000 τ0) ov (rW cB (q 5) (q 6) 6000 τ)) (hP : va_P D vwCl (tW cB q σ) H) (hD : va_D A (tW cB q σ)) (hS : va_S A s.heap H locs) (hrm : rm.cells = 0 ∧ rm.slots = 0 ∧ rm.frames + 1 ≤ R.frames ∧ 8 + (maxL + 11) + rm.locals ≤ R.locals) (hc : cells ≤ R.cells ∧ slots ≤ R.slots) (hA : As.length = n) (hls : ls.size = nL) (hst : (rest.map fun v => v.category).sum ≤ 8) (hdg : decode cc pc = .ok (.invokevirtual index, 3)) (k : ∀ (H1 : Heap) (locs1 : List Loc), va_P D vwCl (tW cB q (ts_draft σ τ)) H1 → va_D A (tW cB q (ts_draft σ τ)) → va_S A s.heap H1 locs1 → W p l e R s m args below meth c H1 locs1 cells slots Q (F0 m (pc + 3) ls (ov.toList ++ rest))) : W p l e R s m args below meth c H locs cells slots Q (F0 m pc ls (As.reverse ++ .ref (q 5) :: rest)) := by
  subst h0
  exact ct_v (wr := [(tW cB q σ).getD 0 (0, .inr (0, [])), (tW cB q σ).getD 1 (0, .inr (0, [])), (tW cB q σ).getD 2 (0, .inr (0, [])), (tW cB q σ).getD 3 (0, .inr (0, [])), (tW cB q σ).getD 4 (0, .inr (0, []))]) G M hM hP hD hS [5, 6] [0, 1, 2, 3, 4] rfl rfl rfl rfl (by decide) (ci := 2) (q0 := 5) rfl rfl rfl hrm hA hls hst hdg hc (fun H1 l1 hP hD hS => k H1 l1 (hP.sub [0, 1, 2, 3, 4, 5, 6] rfl) (hD.sub [0, 1, 2, 3, 4, 5, 6] rfl rfl) hS)

def cz {α : Type} (y : Int64) (k : Option α) : Option α := if y = 0 then none else k
theorem cz_some {α : Type} {y : Int64} {k : Option α} {r : α} (h : cz y k = some r) : ¬ y = 0 ∧ k = some r := by
  unfold cz at h
  by_cases c : y = 0
  · rw [if_pos c] at h; cases h
  · rw [if_neg c] at h; exact ⟨c, h⟩
section G0
variable {p : Program} {l : Launch} {e : Env} {R : Room} {s : State} {m : MethodId} {args : Array Value} {below : List Frame} {meth : Method} {c : Code} {H : Heap} {locs : List Loc} {cells slots : Nat} {Q : State → Prop}
variable {D : va_G} {tys : List (ClassId × FieldType)} {aK aV : Nat → Nat} {A : Nat → Prop} {own : String} {cc : ByteArray} {nL : Nat} {ret : Option FieldType} {pc : Nat} {ls : Array Slot} {w : va_W} {ov : Option Value} {y : MethodName} {bytes : ByteArray} {maxL n index : Nat} {ret' : Option FieldType} {rm : Room} {As rest : List Value} {b : Nat}
/-- behind a call of a method that has no world: nothing has changed -/
theorem ct_go0 {av : Array Value} {st0 : List Value} (G : CX p s m args meth c D tys aK aV A own cc nL ret) (hP : va_P D vwCl w H) (hS : va_S A s.heap H locs)
    (hr : va_Run p l e R s m args below meth c H locs cells slots 0 0 (F0 m pc ls st0) rest (cQ D tys (va_A [] H.size) [] ov av) (va_A [] H.size))
    (kk : ∀ (H1 : Heap) (locs1 : List Loc), va_P D vwCl w H1 → va_S A s.heap H1 locs1 → W p l e R s m args below meth c H1 locs1 cells slots Q (F0 m (pc + 3) ls (ov.toList ++ rest))) : W p l e R s m args below meth c H locs cells slots Q (F0 m pc ls st0) := by
  obtain ⟨hx, hb, hml, hown, hT, hrt, hlk, hK, hA, hG, hE⟩ := G
  have hnA : ∀ q : Nat, q < H.size → ¬ va_A [] H.size q := by
    intro q hq h
    rcases h with ⟨k, e, h⟩ | h
    · simp at h
    · omega
  intro T hT X
  obtain ⟨v, st₀, t, T', L, h0, X', hL, e1, e2, ⟨⟨hv, hP1, hK1, hD1⟩, hz, hk⟩, st⟩ := hr T hT X
  cases hv
  rw [h0] at hz hk
  rw [← e1] at hz hk
  obtain ⟨t2, a1, b1⟩ := kk T'.heap (locs ++ L) (fun k q hq => (hP k q hq).kept (hk q.1 (hP k q hq).lt (hnA _ (hP k q hq).lt))) ⟨Nat.le_trans hS.1 hz, fun q h1 h2 => by rw [hk q (Nat.lt_of_lt_of_le h1 hS.1) (hnA q (Nat.lt_of_lt_of_le h1 hS.1))]; exact hS.2.1 q h1 h2, fun q hq => by
      rcases List.mem_append.mp hq with h | h
      · exact hS.2.2 q h
      · rcases hL q h with ⟨k, e, h⟩ | h
        · simp at h
        · exact hA _ (Nat.le_trans hS.1 h)⟩ T' rfl X'
  exact ⟨t2, st t2 a1, b1⟩
theorem ct_s0 (G : CX p s m args meth c D tys aK aV A own cc nL ret) (M : MS0 own index y bytes maxL ret' n) (hM : CT l D tys aK aV y (wM y bytes maxL ret') rm 0 0 As [] ov []) (hP : va_P D vwCl w H) (hD : va_D A w) (hS : va_S A s.heap H locs)
    (hrm : rm.cells = 0 ∧ rm.slots = 0 ∧ rm.frames + 1 ≤ R.frames ∧ 8 + (maxL + 11) + rm.locals ≤ R.locals) (hc : cells ≤ R.cells ∧ slots ≤ R.slots) (hA : As.length = n) (hls : ls.size = nL) (hst : (rest.map fun v => v.category).sum ≤ 8) (hdg : decode cc pc = .ok (.invokestatic index, 3))
    (kk : ∀ (H1 : Heap) (locs1 : List Loc), va_P D vwCl w H1 → va_S A s.heap H1 locs1 → W p l e R s m args below meth c H1 locs1 cells slots Q (F0 m (pc + 3) ls (ov.toList ++ rest))) : W p l e R s m args below meth c H locs cells slots Q (F0 m pc ls (As.reverse ++ rest)) := by
  have hp := ct_pre (wc := []) G hP hD hS [] rfl rfl As
  obtain ⟨hx, hb, hml, hown, hT, hrt, hlk, hK, hAA, hG, hE⟩ := id G
  have cw : CallB R s args own index y bytes maxL ret' (wM y bytes maxL ret') rm 0 0 n ∧ (Cond.static y).before args s = true := by
    obtain ⟨M1, M2⟩ := M
    refine cwS (Ts := wT) n hT ?_ rfl hrm.1 hrm.2.1 M2 hrm.2.2
    intro w hw
    have hw1 : w ∈ wT := by
      rcases List.mem_append.mp hw with h | h
      · exact M1 w (by simp only [List.mem_cons, List.not_mem_nil, or_false] at h ⊢; rcases h with h | h | h <;> simp [h])
      · rcases List.mem_cons.mp h with h | h
        · exact M1 w (by simp [h])
        · exact h
    exact ⟨hw1, wT_self w hw1⟩
  exact ct_go0 G hP hS (va_runS (Ts := wT) (g := F0 m pc ls (As.reverse ++ rest)) (rest := rest) ⟨hx, hb, hml, hown, hT⟩ (hM H.size) cw hp rfl hA hls rfl (lv_room hst) hdg hc) kk
theorem ct_sn0 (G : CX p s m args meth c D tys aK aV A own cc nL ret) (M : MN own index y bytes maxL ret' n) (hM : CT l D tys aK aV y (wM y bytes maxL ret') rm 0 0 As [] ov []) (hP : va_P D vwCl w H) (hD : va_D A w) (hS : va_S A s.heap H locs)
    (hrm : rm.cells = 0 ∧ rm.slots = 0 ∧ rm.frames + 1 ≤ R.frames ∧ 8 + (maxL + 11) + rm.locals ≤ R.locals) (hc : cells ≤ R.cells ∧ slots ≤ R.slots) (hA : As.length = n) (hls : ls.size = nL) (hst : (rest.map fun v => v.category).sum ≤ 8) (hdg : decode cc pc = .ok (.invokestatic index, 3))
    (kk : ∀ (H1 : Heap) (locs1 : List Loc), va_P D vwCl w H1 → va_S A s.heap H1 locs1 → W p l e R s m args below meth c H1 locs1 cells slots Q (F0 m (pc + 3) ls (ov.toList ++ rest))) : W p l e R s m args below meth c H locs cells slots Q (F0 m pc ls (As.reverse ++ rest)) := by
  have hp := ct_pre (wc := []) G hP hD hS [] rfl rfl As
  obtain ⟨hx, hb, hml, hown, hT, hrt, hlk, hK, hAA, hG, hE⟩ := id G
  obtain ⟨M1, M2, M3⟩ := M
  have cw : va_CN R s args own index y "TextBridge" bytes maxL ret' (wM y bytes maxL ret') rm 0 0 n := by
    refine va_cnB (Ts := wT) n hT ?_ rfl hrm.1 hrm.2.1 (hG.2 _ M3) (hT _ (M1 _ (by simp))) M2 hrm.2.2
    intro w hw
    have hw1 : w ∈ wT := by
      rcases List.mem_cons.mp hw with h | h
      · exact M1 w (by simp [h])
      · exact h
    exact ⟨hw1, wT_self w hw1⟩
  exact ct_go0 G hP hS (va_runSN (Ts := wT) (g := F0 m pc ls (As.reverse ++ rest)) (rest := rest) ⟨hx, hb, hml, hown, hT⟩ (hM H.size) ⟨cw, hT _ (M1 _ (by simp)), trivial⟩ hp rfl hA hls rfl (lv_room hst) hdg hc) kk
end G0
end
section
/-! STRINGS: length and charAt of the system's constants, over the JDK's own code -/
def sLn (i : Nat) : Nat := gLn.getD i 0
def sLen (i : Nat) : Int32 := Int32.ofNat (gLn.getD i 0)
def sCh (i : Nat) (k : Int32) : Int32 := (gTx.getD i []).getD k.toNatClampNeg 0 &&& 255
theorem sCh_char (x : Int32) : ((x &&& 255).toUInt32 % 65536).toInt32 = x &&& 255 ∧ narrow .char (.int (x &&& 255)) = .int (x &&& 255) := by
  obtain ⟨j, hj, e⟩ := pk_andE x (m := 255) 8 (by decide)
  rw [e]
  have h1 : j < 65536 := by omega
  refine ⟨?_, (pk_charN h1).1⟩
  rw [pk_char, pk_tn (by omega), Nat.mod_eq_of_lt h1]
theorem sLen_shr : ∀ i, i < 6 → (Int32.ofNat (gLn.getD i 0) >>> ((0 : Int32) &&& 31)) = sLen i := by decide +kernel
theorem sLn_lt : ∀ i, i < 6 → gLn.getD i 0 < 2 ^ 31 := by decide +kernel
section STR
variable {p : Program} {l : Launch} {e : Env} {R : Room} {s : State} {m : MethodId} {args : Array Value} {below : List Frame} {meth : Method} {c : Code} {H : Heap} {locs : List Loc} {cells slots : Nat} {Q : State → Prop}
variable {D : va_G} {tys : List (ClassId × FieldType)} {aK aV : Nat → Nat} {A : Nat → Prop} {own : String} {cc : ByteArray} {nL : Nat} {ret : Option FieldType} {pc : Nat} {ls : Array Slot} {w : va_W} {ov : Option Value} {y : MethodName} {bytes : ByteArray} {maxL n index : Nat} {ret' : Option FieldType} {rm : Room} {As rest : List Value} {b : Nat}
def MS1 (own : String) (index : Nat) (y : MethodName) (bytes : ByteArray) (maxL : Nat) (ret' : Option FieldType) (n : Nat) : Prop := (∀ w ∈ ([.methodLink own index y, .static y, .initialized y.cls, .code y bytes maxL ret'] : List Cond), w ∈ wT) ∧ (y.cls ≠ "java/lang/invoke/MethodHandle" ∧ y.cls ≠ "java/lang/invoke/VarHandle" ∧ (parseMethodDescriptor y.desc).map (fun d => d.parameters.length) = some n)
/-- invokestatic of another class's method without a world -/
theorem ct_s1 (G : CX p s m args meth c D tys aK aV A own cc nL ret) (M : MS1 own index y bytes maxL ret' n) (hM : CT l D tys aK aV y (wM y bytes maxL ret') rm 0 0 As [] ov []) (hP : va_P D vwCl w H) (hD : va_D A w) (hS : va_S A s.heap H locs)
    (hrm : rm.cells = 0 ∧ rm.slots = 0 ∧ rm.frames + 1 ≤ R.frames ∧ 8 + (maxL + 11) + rm.locals ≤ R.locals) (hc : cells ≤ R.cells ∧ slots ≤ R.slots) (hA : As.length = n) (hls : ls.size = nL) (hst : (rest.map fun v => v.category).sum ≤ 8) (hdg : decode cc pc = .ok (.invokestatic index, 3))
    (kk : ∀ (H1 : Heap) (locs1 : List Loc), va_P D vwCl w H1 → va_S A s.heap H1 locs1 → W p l e R s m args below meth c H1 locs1 cells slots Q (F0 m (pc + 3) ls (ov.toList ++ rest))) : W p l e R s m args below meth c H locs cells slots Q (F0 m pc ls (As.reverse ++ rest)) := by
  have hp := ct_pre (wc := []) G hP hD hS [] rfl rfl As
  obtain ⟨hx, hb, hml, hown, hT, hrt, hlk, hK, hAA, hG, hE⟩ := id G
  have cw : CallB R s args own index y bytes maxL ret' (wM y bytes maxL ret') rm 0 0 n ∧ (Cond.static y).before args s = true := by
    obtain ⟨M1, M2⟩ := M
    refine va_cwS (Ts := wT) n hT ?_ rfl hrm.1 hrm.2.1 M2 hrm.2.2
    intro w hw
    have hw1 : w ∈ wT := by
      rcases List.mem_append.mp hw with h | h
      · exact M1 w (by simp only [List.mem_cons, List.not_mem_nil, or_false] at h ⊢; rcases h with h | h | h <;> simp [h])
      · rcases List.mem_cons.mp h with h | h
        · exact M1 w (by simp [h])
        · exact h
    exact ⟨hw1, wT_self w hw1⟩
  exact ct_go0 G hP hS (va_runS (Ts := wT) (g := F0 m pc ls (As.reverse ++ rest)) (rest := rest) ⟨hx, hb, hml, hown, hT⟩ (hM H.size) cw hp rfl hA hls rfl (lv_room hst) hdg hc) kk
/-- invokevirtual on a receiver outside the world, of a method without a world -/
theorem ct_v0 {C : String} (G : CX p s m args meth c D tys aK aV A own cc nL ret) (M : MV own index C y bytes maxL ret' n) (hM : CT l D tys aK aV y (wM y bytes maxL ret') rm 0 0 (.ref b :: As) [] ov []) (hrecv : ∃ cell : Cell, H[b]? = some cell ∧ cell.vm.isStatics = false ∧ s.vm.findClass C = some cell.cls) (hP : va_P D vwCl w H) (hD : va_D A w) (hS : va_S A s.heap H locs)
    (hrm : rm.cells = 0 ∧ rm.slots = 0 ∧ rm.frames + 1 ≤ R.frames ∧ 8 + (maxL + 11) + rm.locals ≤ R.locals) (hc : cells ≤ R.cells ∧ slots ≤ R.slots) (hA : As.length = n) (hls : ls.size = nL) (hst : (rest.map fun v => v.category).sum ≤ 8) (hdg : decode cc pc = .ok (.invokevirtual index, 3))
    (kk : ∀ (H1 : Heap) (locs1 : List Loc), va_P D vwCl w H1 → va_S A s.heap H1 locs1 → W p l e R s m args below meth c H1 locs1 cells slots Q (F0 m (pc + 3) ls (ov.toList ++ rest))) : W p l e R s m args below meth c H locs cells slots Q (F0 m pc ls (As.reverse ++ .ref b :: rest)) := by
  have hp := ct_pre (wc := []) G hP hD hS [] rfl rfl (.ref b :: As)
  obtain ⟨hx, hb, hml, hown, hT, hrt, hlk, hK, hAA, hG, hE⟩ := id G
  have cw : CallW R s args own C index y bytes maxL ret' (wM y bytes maxL ret') rm 0 0 n := by
    obtain ⟨M1, M2⟩ := M
    refine cwV (Ts := wT) n hT ?_ rfl hrm.1 hrm.2.1 M2 hrm.2.2
    intro w hw
    have hw1 : w ∈ wT := by
      rcases List.mem_append.mp hw with h | h
      · exact M1 w (by simp only [List.mem_cons, List.not_mem_nil, or_false] at h ⊢; rcases h with h | h | h | h <;> simp [h])
      · rcases List.mem_cons.mp h with h | h
        · exact M1 w (by simp [h])
        · exact h
    exact ⟨hw1, wT_self w hw1⟩
  exact ct_go0 G hP hS (va_runV (Ts := wT) (g := F0 m pc ls (As.reverse ++ .ref b :: rest)) (rest := rest) ⟨hx, hb, hml, hown, hT⟩ (hM H.size) cw ⟨hp.1, hrecv, hp.2⟩ rfl hA hls rfl (lv_room hst) hdg hc) kk
end STR
theorem kJ0_1059 : MS1 RJ0 1059 yJ3_checkIndex_8e157 cJ3_checkIndex_8e157 3 (some .int) 3 := ⟨List.forall_mem_cons.mpr ⟨wT_of (in2 (i := 48) rfl) rfl, List.forall_mem_cons.mpr ⟨wT_of (in2 (i := 49) rfl) rfl, List.forall_mem_cons.mpr ⟨wT_of (in1 (i := 10) rfl) rfl, List.forall_mem_cons.mpr ⟨wT_of (in2 (i := 50) rfl) rfl, fun _ h => absurd h List.not_mem_nil⟩⟩⟩⟩, by decide +kernel⟩
theorem kJ1_9 : MS1 RJ1 9 yJ0_checkIndex_df160 cJ0_checkIndex_df160 2 none 2 := ⟨List.forall_mem_cons.mpr ⟨wT_of (in2 (i := 43) rfl) rfl, List.forall_mem_cons.mpr ⟨wT_of (in2 (i := 44) rfl) rfl, List.forall_mem_cons.mpr ⟨wT_of (in1 (i := 8) rfl) rfl, List.forall_mem_cons.mpr ⟨wT_of (in2 (i := 45) rfl) rfl, fun _ h => absurd h List.not_mem_nil⟩⟩⟩⟩, by decide +kernel⟩
theorem kJ0_495 : MS1 RJ0 495 yJ1_charAt_3b067 cJ1_charAt_3b067 2 (some .char) 2 := ⟨List.forall_mem_cons.mpr ⟨wT_of (in2 (i := 40) rfl) rfl, List.forall_mem_cons.mpr ⟨wT_of (in2 (i := 41) rfl) rfl, List.forall_mem_cons.mpr ⟨wT_of (in1 (i := 9) rfl) rfl, List.forall_mem_cons.mpr ⟨wT_of (in2 (i := 42) rfl) rfl, fun _ h => absurd h List.not_mem_nil⟩⟩⟩⟩, by decide +kernel⟩
abbrev rmS0 : Room := { frames := 0, cells := 0, slots := 0, locals := 0 }
abbrev rmS1 : Room := { frames := 1, cells := 0, slots := 0, locals := 20 }
abbrev rmS2 : Room := { frames := 1, cells := 0, slots := 0, locals := 22 }
abbrev rmS3 : Room := { frames := 2, cells := 0, slots := 0, locals := 43 }
abbrev rmS4 : Room := { frames := 3, cells := 0, slots := 0, locals := 64 }
set_option maxHeartbeats 4000000 in
theorem c_coder {l : Launch} {D : va_G} {aK aV : Nat → Nat} {tys : List (ClassId × FieldType)} {i : Nat} (hi : i < 6) : CT l D tys aK aV yJ0_coder_7d493 (wM yJ0_coder_7d493 cJ0_coder_7d493 1 (some .byte)) rmS0 0 0 [.ref (aK i)] [] (some (.int 0)) [] := by
  refine CT.of (by decide) rfl ?_
  intro p e s m below meth c A G hnm hP hD hS
  obtain ⟨hx, hb, hml, hown, hT, hrt, hlk, hK, hA, hG, hE⟩ := id G
  have hl := lv_entry [.ref (aK i)] (n := 1) (Nat.le_of_ble_eq_true rfl)
  rw [lg_entry_eq]
  generalize (lg_sl [.ref (aK i)] ++ List.replicate (1 - (lg_sl [.ref (aK i)]).length) Slot.unset).toArray = ls at hl ⊢
  have hl : lv_has ls 1 [(0, .ref (aK i))] := hl
  refine va_gets hx hb hE.2.1 hS hown (hT _ wfl_J0_38) (fun _ h => h) dJ0_coder_7d493_0 ?_
  refine lv_if_eq (tgt := 13) hx hb dJ0_coder_7d493_3 (by decide) (fun h => absurd h (by decide)) (fun _ => ?_)
  refine lv_aload_n hx hb dJ0_coder_7d493_6 rfl (lv_at hl 0 rfl) ?_
  refine vk_getf hx hb (hE.1.1 i hi).2.1 hS hown (hT _ wfl_J0_15) (fun _ h => h) dJ0_coder_7d493_7 ?_
  refine lv_goto (tgt := 14) hx hb dJ0_coder_7d493_10 (by decide) ?_
  exact ct_iret G rfl hP hD hS dJ0_coder_7d493_14
set_option maxHeartbeats 4000000 in
theorem c_isLatin1 {l : Launch} {D : va_G} {aK aV : Nat → Nat} {tys : List (ClassId × FieldType)} {i : Nat} (hi : i < 6) : CT l D tys aK aV yJ0_isLatin1_aae02 (wM yJ0_isLatin1_aae02 cJ0_isLatin1_aae02 1 (some .boolean)) rmS0 0 0 [.ref (aK i)] [] (some (.int 1)) [] := by
  refine CT.of (by decide) rfl ?_
  intro p e s m below meth c A G hnm hP hD hS
  obtain ⟨hx, hb, hml, hown, hT, hrt, hlk, hK, hA, hG, hE⟩ := id G
  have hl := lv_entry [.ref (aK i)] (n := 1) (Nat.le_of_ble_eq_true rfl)
  rw [lg_entry_eq]
  generalize (lg_sl [.ref (aK i)] ++ List.replicate (1 - (lg_sl [.ref (aK i)]).length) Slot.unset).toArray = ls at hl ⊢
  have hl : lv_has ls 1 [(0, .ref (aK i))] := hl
  refine va_gets hx hb hE.2.1 hS hown (hT _ wfl_J0_38) (fun _ h => h) dJ0_isLatin1_aae02_0 ?_
  refine lv_if_eq (tgt := 17) hx hb dJ0_isLatin1_aae02_3 (by decide) (fun h => absurd h (by decide)) (fun _ => ?_)
  refine lv_aload_n hx hb dJ0_isLatin1_aae02_6 rfl (lv_at hl 0 rfl) ?_
  refine vk_getf hx hb (hE.1.1 i hi).2.1 hS hown (hT _ wfl_J0_15) (fun _ h => h) dJ0_isLatin1_aae02_7 ?_
  refine lv_if_ne (tgt := 17) hx hb dJ0_isLatin1_aae02_10 (by decide) (fun h => absurd rfl h) (fun _ => ?_)
  refine lv_iconst (v := 1) hx hb dJ0_isLatin1_aae02_13 (by decide) ?_
  refine lv_goto (tgt := 18) hx hb dJ0_isLatin1_aae02_14 (by decide) ?_
  exact ct_iret G rfl hP hD hS dJ0_isLatin1_aae02_18
set_option maxHeartbeats 4000000 in
theorem c_strLen {l : Launch} {D : va_G} {aK aV : Nat → Nat} {tys : List (ClassId × FieldType)} {i : Nat} (hi : i < 6) : CT l D tys aK aV yJ0_length_8abf5 (wM yJ0_length_8abf5 cJ0_length_8abf5 1 (some .int)) rmS1 0 0 [.ref (aK i)] [] (some (.int (sLen i))) [] := by
  refine CT.of (by decide) rfl ?_
  intro p e s m below meth c A G hnm hP hD hS
  obtain ⟨hx, hb, hml, hown, hT, hrt, hlk, hK, hA, hG, hE⟩ := id G
  have hl := lv_entry [.ref (aK i)] (n := 1) (Nat.le_of_ble_eq_true rfl)
  rw [lg_entry_eq]
  generalize (lg_sl [.ref (aK i)] ++ List.replicate (1 - (lg_sl [.ref (aK i)]).length) Slot.unset).toArray = ls at hl ⊢
  have hl : lv_has ls 1 [(0, .ref (aK i))] := hl
  refine lv_aload_n hx hb dJ0_length_8abf5_0 rfl (lv_at hl 0 rfl) ?_
  refine vk_getf hx hb (hE.1.1 i hi).2.2.1 hS hown (hT _ wfl_J0_9) (fun _ h => h) dJ0_length_8abf5_1 ?_
  refine va_tlen hx hb (hE.1.1 i hi).2.2.2 hS rfl dJ0_length_8abf5_4 ?_
  refine lv_aload_n hx hb dJ0_length_8abf5_5 rfl (lv_at hl 0 rfl) ?_
  refine ct_v0 (As := []) (rest := [.int (Int32.ofNat (gLn.getD i 0))]) G kJ0_335 (c_coder hi) (vk_recv hE.1 hi hS) hP hD hS ⟨rfl, rfl, Nat.le_of_ble_eq_true rfl, Nat.le_of_ble_eq_true rfl⟩ ⟨Nat.zero_le _, Nat.zero_le _⟩ rfl hl.1 (Nat.le_of_ble_eq_true rfl) dJ0_length_8abf5_6 (fun H locs hP hS => ?_)
  refine W.eq (g2 := F0 m 9 ls [.int 0, .int (Int32.ofNat (gLn.getD i 0))]) rfl ?_
  refine lv_ishr hx hb dJ0_length_8abf5_9 ?_
  rw [sLen_shr i hi]
  exact ct_iret G rfl hP hD hS dJ0_length_8abf5_10
set_option maxHeartbeats 4000000 in
theorem c_pre {l : Launch} {D : va_G} {aK aV : Nat → Nat} {tys : List (ClassId × FieldType)} {k n : Int32} {v : Value} (hv : v.category = 1) (h0 : ¬ k < 0) (h1 : k < n) : CT l D tys aK aV yJ3_checkIndex_8e157 (wM yJ3_checkIndex_8e157 cJ3_checkIndex_8e157 3 (some .int)) rmS0 0 0 [.int k, .int n, v] [] (some (.int k)) [] := by
  refine CT.of (by decide) rfl ?_
  intro p e s m below meth c A G hnm hP hD hS
  obtain ⟨hx, hb, hml, hown, hT, hrt, hlk, hK, hA, hG, hE⟩ := id G
  have hsl : (lg_sl [.int k, .int n, v]).length ≤ 3 := by
    cases v <;> first | exact Nat.le_of_ble_eq_true rfl | (simp [Value.category] at hv)
  have hl0 := lv_entry [.int k, .int n, v] (n := 3) hsl
  rw [lg_entry_eq]
  generalize (lg_sl [.int k, .int n, v] ++ List.replicate (3 - (lg_sl [.int k, .int n, v]).length) Slot.unset).toArray = ls at hl0 ⊢
  have hl : lv_has ls 3 [(0, .int k), (1, .int n)] := ⟨hl0.1, hl0.2.1, fun q hq => hl0.2.2 q (by
    simp only [List.mem_cons, List.not_mem_nil, or_false] at hq
    rcases hq with rfl | rfl <;> simp [lv_args, Value.category])⟩
  refine lv_iload_n hx hb dJ3_checkIndex_8e157_0 rfl (lv_at hl 0 rfl) ?_
  refine lv_if_lt (tgt := 9) hx hb dJ3_checkIndex_8e157_1 (by decide) (fun h => absurd h h0) (fun _ => ?_)
  refine lv_iload_n hx hb dJ3_checkIndex_8e157_4 rfl (lv_at hl 0 rfl) ?_
  refine lv_iload_n hx hb dJ3_checkIndex_8e157_5 rfl (lv_at hl 1 rfl) ?_
  refine lv_icmp_lt (tgt := 16) hx hb dJ3_checkIndex_8e157_6 (by decide) (fun _ => ?_) (fun h => absurd h1 h)
  refine lv_iload_n hx hb dJ3_checkIndex_8e157_16 rfl (lv_at hl 0 rfl) ?_
  exact ct_iret G rfl hP hD hS dJ3_checkIndex_8e157_17
set_option maxHeartbeats 4000000 in
theorem c_strChk {l : Launch} {D : va_G} {aK aV : Nat → Nat} {tys : List (ClassId × FieldType)} {k n : Int32} (h0 : ¬ k < 0) (h1 : k < n) : CT l D tys aK aV yJ0_checkIndex_df160 (wM yJ0_checkIndex_df160 cJ0_checkIndex_df160 2 none) rmS2 0 0 [.int k, .int n] [] none [] := by
  refine CT.of (by decide) rfl ?_
  intro p e s m below meth c A G hnm hP hD hS
  obtain ⟨hx, hb, hml, hown, hT, hrt, hlk, hK, hA, hG, hE⟩ := id G
  have hl := lv_entry [.int k, .int n] (n := 2) (Nat.le_of_ble_eq_true rfl)
  rw [lg_entry_eq]
  generalize (lg_sl [.int k, .int n] ++ List.replicate (2 - (lg_sl [.int k, .int n]).length) Slot.unset).toArray = ls at hl ⊢
  have hl : lv_has ls 2 [(0, .int k), (1, .int n)] := hl
  refine lv_iload_n hx hb dJ0_checkIndex_df160_0 rfl (lv_at hl 0 rfl) ?_
  refine lv_iload_n hx hb dJ0_checkIndex_df160_1 rfl (lv_at hl 1 rfl) ?_
  have go : ∀ v : Value, v.category = 1 → va_Z "jdk/internal/util/Preconditions" "SIOOBE_FORMATTER" "Ljava/util/function/BiFunction;" v A s s.heap → W p l e rmS2 s m [Value.int k, Value.int n].toArray below meth c s.heap [] 0 0 (MQ below (cQ D tys A [] none) [Value.int k, Value.int n].toArray s 0 0 A) (F0 m (0 + 1 + 1) ls [.int n, .int k]) := by
    intro v hv hz
    refine va_gets hx hb hz hS hown (hT _ wfl_J0_1053) (fun _ h => h) dJ0_checkIndex_df160_2 ?_
    refine ct_s1 (As := [.int k, .int n, v]) (rest := []) G kJ0_1059 (c_pre hv h0 h1) hP hD hS ⟨rfl, rfl, Nat.le_of_ble_eq_true rfl, Nat.le_of_ble_eq_true rfl⟩ ⟨Nat.zero_le _, Nat.zero_le _⟩ rfl hl.1 (Nat.le_of_ble_eq_true rfl) dJ0_checkIndex_df160_5 (fun H locs hP hS => ?_)
    refine W.eq (g2 := F0 m 8 ls [.int k]) rfl ?_
    refine lv_pop hx hb dJ0_checkIndex_df160_8 rfl ?_
    exact ct_vret G hP hD hS dJ0_checkIndex_df160_9
  rcases hE.2.2 with hz | ⟨t, hz⟩
  · exact go .null rfl hz
  · exact go (.ref t) rfl hz
set_option maxHeartbeats 4000000 in
theorem c_l1Cha {l : Launch} {D : va_G} {aK aV : Nat → Nat} {tys : List (ClassId × FieldType)} {i : Nat} (hi : i < 6) {k : Int32} (hk : vp_in k (sLn i)) : CT l D tys aK aV yJ1_charAt_3b067 (wM yJ1_charAt_3b067 cJ1_charAt_3b067 2 (some .char)) rmS3 0 0 [.ref (aV i), .int k] [] (some (.int (sCh i k))) [] := by
  refine CT.of (by decide) rfl ?_
  intro p e s m below meth c A G hnm hP hD hS
  obtain ⟨hx, hb, hml, hown, hT, hrt, hlk, hK, hA, hG, hE⟩ := id G
  have hl := lv_entry [.ref (aV i), .int k] (n := 2) (Nat.le_of_ble_eq_true rfl)
  rw [lg_entry_eq]
  generalize (lg_sl [.ref (aV i), .int k] ++ List.replicate (2 - (lg_sl [.ref (aV i), .int k]).length) Slot.unset).toArray = ls at hl ⊢
  have hl : lv_has ls 2 [(0, .ref (aV i)), (1, .int k)] := hl
  obtain ⟨j, hj, ek⟩ := vp_in_of hk (sLn_lt i hi)
  have h0 : ¬ k < 0 := by rw [ek]; exact nI_pos (Nat.lt_trans hj (sLn_lt i hi))
  have h1 : k < Int32.ofNat (gLn.getD i 0) := by rw [ek]; exact nI_lt hj (sLn_lt i hi)
  refine lv_iload_n hx hb dJ1_charAt_3b067_0 rfl (lv_at hl 1 rfl) ?_
  refine lv_aload_n hx hb dJ1_charAt_3b067_1 rfl (lv_at hl 0 rfl) ?_
  refine va_tlen hx hb (hE.1.1 i hi).2.2.2 hS rfl dJ1_charAt_3b067_2 ?_
  refine ct_s1 (As := [.int k, .int (Int32.ofNat (gLn.getD i 0))]) (rest := []) G kJ1_9 (c_strChk h0 h1) hP hD hS ⟨rfl, rfl, Nat.le_of_ble_eq_true rfl, Nat.le_of_ble_eq_true rfl⟩ ⟨Nat.zero_le _, Nat.zero_le _⟩ rfl hl.1 (Nat.le_of_ble_eq_true rfl) dJ1_charAt_3b067_3 (fun H locs hP hS => ?_)
  refine W.eq (g2 := F0 m 6 ls []) rfl ?_
  refine lv_aload_n hx hb dJ1_charAt_3b067_6 rfl (lv_at hl 0 rfl) ?_
  refine lv_iload_n hx hb dJ1_charAt_3b067_7 rfl (lv_at hl 1 rfl) ?_
  refine va_tb hx hb (hE.1.1 i hi).2.2.2 hS hk rfl dJ1_charAt_3b067_8 ?_
  refine lv_sipush (v := 255) hx hb dJ1_charAt_3b067_9 (by decide) ?_
  refine lv_iand hx hb dJ1_charAt_3b067_12 ?_
  refine lv_i2c (v := sCh i k) hx hb dJ1_charAt_3b067_13 (sCh_char _).1 ?_
  exact ct_iret G (sCh_char _).2 hP hD hS dJ1_charAt_3b067_14
set_option maxHeartbeats 4000000 in
theorem c_strCha {l : Launch} {D : va_G} {aK aV : Nat → Nat} {tys : List (ClassId × FieldType)} {i : Nat} (hi : i < 6) {k : Int32} (hk : vp_in k (sLn i)) : CT l D tys aK aV yJ0_charAt_5068e (wM yJ0_charAt_5068e cJ0_charAt_5068e 2 (some .char)) rmS4 0 0 [.ref (aK i), .int k] [] (some (.int (sCh i k))) [] := by
  refine CT.of (by decide) rfl ?_
  intro p e s m below meth c A G hnm hP hD hS
  obtain ⟨hx, hb, hml, hown, hT, hrt, hlk, hK, hA, hG, hE⟩ := id G
  have hl := lv_entry [.ref (aK i), .int k] (n := 2) (Nat.le_of_ble_eq_true rfl)
  rw [lg_entry_eq]
  generalize (lg_sl [.ref (aK i), .int k] ++ List.replicate (2 - (lg_sl [.ref (aK i), .int k]).length) Slot.unset).toArray = ls at hl ⊢
  have hl : lv_has ls 2 [(0, .ref (aK i)), (1, .int k)] := hl
  refine lv_aload_n hx hb dJ0_charAt_5068e_0 rfl (lv_at hl 0 rfl) ?_
  refine ct_v0 (As := []) (rest := []) G kJ0_492 (c_isLatin1 hi) (vk_recv hE.1 hi hS) hP hD hS ⟨rfl, rfl, Nat.le_of_ble_eq_true rfl, Nat.le_of_ble_eq_true rfl⟩ ⟨Nat.zero_le _, Nat.zero_le _⟩ rfl hl.1 (Nat.le_of_ble_eq_true rfl) dJ0_charAt_5068e_1 (fun H locs hP hS => ?_)
  refine W.eq (g2 := F0 m 4 ls [.int 1]) rfl ?_
  refine lv_if_eq (tgt := 16) hx hb dJ0_charAt_5068e_4 (by decide) (fun h => absurd h (by decide)) (fun _ => ?_)
  refine lv_aload_n hx hb dJ0_charAt_5068e_7 rfl (lv_at hl 0 rfl) ?_
  refine vk_getf hx hb (hE.1.1 i hi).2.2.1 hS hown (hT _ wfl_J0_9) (fun _ h => h) dJ0_charAt_5068e_8 ?_
  refine lv_iload_n hx hb dJ0_charAt_5068e_11 rfl (lv_at hl 1 rfl) ?_
  refine ct_s1 (As := [.ref (aV i), .int k]) (rest := []) G kJ0_495 (c_l1Cha hi hk) hP hD hS ⟨rfl, rfl, Nat.le_of_ble_eq_true rfl, Nat.le_of_ble_eq_true rfl⟩ ⟨Nat.zero_le _, Nat.zero_le _⟩ rfl hl.1 (Nat.le_of_ble_eq_true rfl) dJ0_charAt_5068e_12 (fun H locs hP hS => ?_)
  refine W.eq (g2 := F0 m 15 ls [.int (sCh i k)]) rfl ?_
  exact ct_iret G (sCh_char _).2 hP hD hS dJ0_charAt_5068e_15
section STR2
variable {p : Program} {l : Launch} {e : Env} {R : Room} {s : State} {m : MethodId} {args : Array Value} {below : List Frame} {meth : Method} {c : Code} {H : Heap} {locs : List Loc} {cells slots : Nat} {Q : State → Prop}
variable {D : va_G} {tys : List (ClassId × FieldType)} {aK aV : Nat → Nat} {A : Nat → Prop} {own : String} {cc : ByteArray} {nL : Nat} {ret : Option FieldType} {pc : Nat} {ls : Array Slot} {w : va_W} {index : Nat} {rest : List Value}
theorem ct_len {i : Nat} (G : CX p s m args meth c D tys aK aV A own cc nL ret) (M : MV own index RJ0 yJ0_length_8abf5 cJ0_length_8abf5 1 (some .int) 0) (hi : i < 6) (hP : va_P D vwCl w H) (hD : va_D A w) (hS : va_S A s.heap H locs) (hrm : 2 ≤ R.frames ∧ 40 ≤ R.locals) (hc : cells ≤ R.cells ∧ slots ≤ R.slots) (hls : ls.size = nL) (hst : (rest.map fun v => v.category).sum ≤ 8) (hdg : decode cc pc = .ok (.invokevirtual index, 3))
    (kk : ∀ (H1 : Heap) (locs1 : List Loc), va_P D vwCl w H1 → va_S A s.heap H1 locs1 → W p l e R s m args below meth c H1 locs1 cells slots Q (F0 m (pc + 3) ls (.int (sLen i) :: rest))) : W p l e R s m args below meth c H locs cells slots Q (F0 m pc ls (.ref (aK i) :: rest)) :=
  ct_v0 (As := []) G M (c_strLen hi) (vk_recv G.2.2.2.2.2.2.2.2.2.2.1 hi hS) hP hD hS ⟨rfl, rfl, hrm.1, hrm.2⟩ hc rfl hls hst hdg kk
theorem ct_cha {i : Nat} {k : Int32} (G : CX p s m args meth c D tys aK aV A own cc nL ret) (M : MV own index RJ0 yJ0_charAt_5068e cJ0_charAt_5068e 2 (some .char) 1) (hi : i < 6) (hk : vp_in k (sLn i)) (hP : va_P D vwCl w H) (hD : va_D A w) (hS : va_S A s.heap H locs) (hrm : 4 ≤ R.frames ∧ 85 ≤ R.locals) (hc : cells ≤ R.cells ∧ slots ≤ R.slots) (hls : ls.size = nL) (hst : (rest.map fun v => v.category).sum ≤ 8) (hdg : decode cc pc = .ok (.invokevirtual index, 3))
    (kk : ∀ (H1 : Heap) (locs1 : List Loc), va_P D vwCl w H1 → va_S A s.heap H1 locs1 → W p l e R s m args below meth c H1 locs1 cells slots Q (F0 m (pc + 3) ls (.int (sCh i k) :: rest))) : W p l e R s m args below meth c H locs cells slots Q (F0 m pc ls (.int k :: .ref (aK i) :: rest)) :=
  ct_v0 (As := [.int k]) G M (c_strCha hi hk) (vk_recv G.2.2.2.2.2.2.2.2.2.2.1 hi hS) hP hD hS ⟨rfl, rfl, hrm.1, hrm.2⟩ hc rfl hls hst hdg kk
end STR2
end
section
/-! STATIC METHODS without a world (printed by program wip/gen) -/
theorem sw_n {x v : Int32} {n : Int} (h : ¬ x = v) (hv : v.toInt = n) : ¬ x.toInt = n := fun e => h (Int32.toInt_inj.mp (e.trans hv.symm))
theorem sw_X1_signOf {x : Int32} (h34 : ¬ x = (34 : Int32)) (h47 : ¬ x = (47 : Int32)) (h92 : ¬ x = (92 : Int32)) (h98 : ¬ x = (98 : Int32)) (h102 : ¬ x = (102 : Int32)) (h110 : ¬ x = (110 : Int32)) (h114 : ¬ x = (114 : Int32)) (h116 : ¬ x = (116 : Int32)) : Op.lookupswitch.offset [(34, 75), (47, 75), (92, 75), (98, 77), (102, 80), (110, 83), (114, 86), (116, 89)] 92 x.toInt = 92 := by
  rw [Op.lookupswitch.offset_cons, if_neg (fun z => sw_n h34 (by decide : (34 : Int32).toInt = 34) z.symm), Op.lookupswitch.offset_cons, if_neg (fun z => sw_n h47 (by decide : (47 : Int32).toInt = 47) z.symm), Op.lookupswitch.offset_cons, if_neg (fun z => sw_n h92 (by decide : (92 : Int32).toInt = 92) z.symm), Op.lookupswitch.offset_cons, if_neg (fun z => sw_n h98 (by decide : (98 : Int32).toInt = 98) z.symm), Op.lookupswitch.offset_cons, if_neg (fun z => sw_n h102 (by decide : (102 : Int32).toInt = 102) z.symm), Op.lookupswitch.offset_cons, if_neg (fun z => sw_n h110 (by decide : (110 : Int32).toInt = 110) z.symm), Op.lookupswitch.offset_cons, if_neg (fun z => sw_n h114 (by decide : (114 : Int32).toInt = 114) z.symm), Op.lookupswitch.offset_cons, if_neg (fun z => sw_n h116 (by decide : (116 : Int32).toInt = 116) z.symm)]
  rfl
theorem sw_X0_letterOf {x : Int32} (h8 : ¬ x = (8 : Int32)) (h9 : ¬ x = (9 : Int32)) (h10 : ¬ x = (10 : Int32)) (h12 : ¬ x = (12 : Int32)) (h13 : ¬ x = (13 : Int32)) (h34 : ¬ x = (34 : Int32)) (h92 : ¬ x = (92 : Int32)) : Op.lookupswitch.offset [(8, 69), (9, 72), (10, 75), (12, 78), (13, 81), (34, 67), (92, 67)] 84 x.toInt = 84 := by
  rw [Op.lookupswitch.offset_cons, if_neg (fun z => sw_n h8 (by decide : (8 : Int32).toInt = 8) z.symm), Op.lookupswitch.offset_cons, if_neg (fun z => sw_n h9 (by decide : (9 : Int32).toInt = 9) z.symm), Op.lookupswitch.offset_cons, if_neg (fun z => sw_n h10 (by decide : (10 : Int32).toInt = 10) z.symm), Op.lookupswitch.offset_cons, if_neg (fun z => sw_n h12 (by decide : (12 : Int32).toInt = 12) z.symm), Op.lookupswitch.offset_cons, if_neg (fun z => sw_n h13 (by decide : (13 : Int32).toInt = 13) z.symm), Op.lookupswitch.offset_cons, if_neg (fun z => sw_n h34 (by decide : (34 : Int32).toInt = 34) z.symm), Op.lookupswitch.offset_cons, if_neg (fun z => sw_n h92 (by decide : (92 : Int32).toInt = 92) z.symm)]
  rfl
def eX5_hexOf_b41 (a0 : Int32) : Int32 := (if a0 < (65 : Int32) then (-1 : Int32) else (if (70 : Int32) < a0 then (-1 : Int32) else ((a0 - (65 : Int32)) + (10 : Int32))))
def eX5_hexOf_b19 (a0 : Int32) : Int32 := (if a0 < (97 : Int32) then eX5_hexOf_b41 a0 else (if (102 : Int32) < a0 then eX5_hexOf_b41 a0 else ((a0 - (97 : Int32)) + (10 : Int32))))
def eX5_hexOf (p0 : Int32) : Int32 := (if p0 < (48 : Int32) then eX5_hexOf_b19 p0 else (if (57 : Int32) < p0 then eX5_hexOf_b19 p0 else (p0 - (48 : Int32))))
abbrev rm_eX5_hexOf : Room := { frames := 0, cells := 0, slots := 0, locals := 0 }
set_option maxHeartbeats 4000000 in
set_option maxRecDepth 100000 in
theorem eX5_hexOf_t41 {p : Program} {l : Launch} {e : Env} {s : State} {m : MethodId} {args : Array Value} {below : List Frame} {meth : Method} {c : Code} {D : va_G} {aK aV : Nat → Nat} {A : Nat → Prop} {cB cI cJ : ClassId}  {H : Heap} {locs : List Loc} {ls : Array Slot} {ρ : Int32} {a0 : Int32} (G : CX p s m args meth c D (gTy cB cI cJ) aK aV A RX5 cX5_hexOf 1 (some .int)) (hl : lv_has ls 1 [(0, .int a0)]) (hP : va_P D vwCl ([]) H) (hD : va_D A ([])) (hS : va_S A s.heap H locs) (hf : eX5_hexOf_b41 a0 = ρ) : W p l e (rm_eX5_hexOf) s m args below meth c H locs 0 0 (MQ below (cQ D (gTy cB cI cJ) A ([]) (some (.int ρ))) args s 0 0 A) (F0 m 41 ls []) := by
  unfold eX5_hexOf_b41 at hf
  obtain ⟨hx, hb, hml, hown, hT, hrt, hlk, hK, hA, hG, hE⟩ := id G
  refine lv_iload_n hx hb dX5_hexOf_41 rfl (lv_at hl 0 rfl) ?_
  refine lv_bipush (v := (65 : Int32)) hx hb dX5_hexOf_42 (by decide) ?_
  refine lv_icmp_lt (tgt := 63) hx hb dX5_hexOf_44 (by decide) (fun c5 => ?_) (fun c5 => ?_)
  · have hf := (if_pos c5).symm.trans hf
    refine lv_iconst (v := (-1 : Int32)) hx hb dX5_hexOf_63 (by decide) ?_
    subst hf
    exact ct_iret G rfl hP hD hS dX5_hexOf_64
  · have hf := (if_neg c5).symm.trans hf
    refine lv_iload_n hx hb dX5_hexOf_47 rfl (lv_at hl 0 rfl) ?_
    refine lv_bipush (v := (70 : Int32)) hx hb dX5_hexOf_48 (by decide) ?_
    refine lv_icmp_gt (tgt := 63) hx hb dX5_hexOf_50 (by decide) (fun c6 => ?_) (fun c6 => ?_)
    · have hf := (if_pos c6).symm.trans hf
      refine lv_iconst (v := (-1 : Int32)) hx hb dX5_hexOf_63 (by decide) ?_
      subst hf
      exact ct_iret G rfl hP hD hS dX5_hexOf_64
    · have hf := (if_neg c6).symm.trans hf
      refine lv_iload_n hx hb dX5_hexOf_53 rfl (lv_at hl 0 rfl) ?_
      refine lv_bipush (v := (65 : Int32)) hx hb dX5_hexOf_54 (by decide) ?_
      refine lv_isub hx hb dX5_hexOf_56 ?_
      refine lv_bipush (v := (10 : Int32)) hx hb dX5_hexOf_57 (by decide) ?_
      refine lv_iadd hx hb dX5_hexOf_59 ?_
      refine lv_goto (tgt := 64) hx hb dX5_hexOf_60 (by decide) ?_
      subst hf
      exact ct_iret G rfl hP hD hS dX5_hexOf_64
set_option maxHeartbeats 4000000 in
set_option maxRecDepth 100000 in
theorem eX5_hexOf_t19 {p : Program} {l : Launch} {e : Env} {s : State} {m : MethodId} {args : Array Value} {below : List Frame} {meth : Method} {c : Code} {D : va_G} {aK aV : Nat → Nat} {A : Nat → Prop} {cB cI cJ : ClassId}  {H : Heap} {locs : List Loc} {ls : Array Slot} {ρ : Int32} {a0 : Int32} (G : CX p s m args meth c D (gTy cB cI cJ) aK aV A RX5 cX5_hexOf 1 (some .int)) (hl : lv_has ls 1 [(0, .int a0)]) (hP : va_P D vwCl ([]) H) (hD : va_D A ([])) (hS : va_S A s.heap H locs) (hf : eX5_hexOf_b19 a0 = ρ) : W p l e (rm_eX5_hexOf) s m args below meth c H locs 0 0 (MQ below (cQ D (gTy cB cI cJ) A ([]) (some (.int ρ))) args s 0 0 A) (F0 m 19 ls []) := by
  unfold eX5_hexOf_b19 at hf
  obtain ⟨hx, hb, hml, hown, hT, hrt, hlk, hK, hA, hG, hE⟩ := id G
  refine lv_iload_n hx hb dX5_hexOf_19 rfl (lv_at hl 0 rfl) ?_
  refine lv_bipush (v := (97 : Int32)) hx hb dX5_hexOf_20 (by decide) ?_
  refine lv_icmp_lt (tgt := 41) hx hb dX5_hexOf_22 (by decide) (fun c3 => ?_) (fun c3 => ?_)
  · have hf := (if_pos c3).symm.trans hf
    exact W.eq (g2 := F0 m 41 ls []) rfl (eX5_hexOf_t41 G (lv_sub hl [0] rfl) hP hD hS hf)
  · have hf := (if_neg c3).symm.trans hf
    refine lv_iload_n hx hb dX5_hexOf_25 rfl (lv_at hl 0 rfl) ?_
    refine lv_bipush (v := (102 : Int32)) hx hb dX5_hexOf_26 (by decide) ?_
    refine lv_icmp_gt (tgt := 41) hx hb dX5_hexOf_28 (by decide) (fun c4 => ?_) (fun c4 => ?_)
    · have hf := (if_pos c4).symm.trans hf
      exact W.eq (g2 := F0 m 41 ls []) rfl (eX5_hexOf_t41 G (lv_sub hl [0] rfl) hP hD hS hf)
    · have hf := (if_neg c4).symm.trans hf
      refine lv_iload_n hx hb dX5_hexOf_31 rfl (lv_at hl 0 rfl) ?_
      refine lv_bipush (v := (97 : Int32)) hx hb dX5_hexOf_32 (by decide) ?_
      refine lv_isub hx hb dX5_hexOf_34 ?_
      refine lv_bipush (v := (10 : Int32)) hx hb dX5_hexOf_35 (by decide) ?_
      refine lv_iadd hx hb dX5_hexOf_37 ?_
      refine lv_goto (tgt := 64) hx hb dX5_hexOf_38 (by decide) ?_
      subst hf
      exact ct_iret G rfl hP hD hS dX5_hexOf_64
set_option maxHeartbeats 4000000 in
set_option maxRecDepth 100000 in
theorem eX5_hexOf_t0e {p : Program} {l : Launch} {e : Env} {s : State} {m : MethodId} {args : Array Value} {below : List Frame} {meth : Method} {c : Code} {D : va_G} {aK aV : Nat → Nat} {A : Nat → Prop} {cB cI cJ : ClassId}  {H : Heap} {locs : List Loc} {ls : Array Slot} {ρ : Int32} {p0 : Int32} (G : CX p s m args meth c D (gTy cB cI cJ) aK aV A RX5 cX5_hexOf 1 (some .int)) (hl : lv_has ls 1 [(0, .int p0)]) (hP : va_P D vwCl ([]) H) (hD : va_D A ([])) (hS : va_S A s.heap H locs) (hf : eX5_hexOf p0 = ρ) : W p l e (rm_eX5_hexOf) s m args below meth c H locs 0 0 (MQ below (cQ D (gTy cB cI cJ) A ([]) (some (.int ρ))) args s 0 0 A) (F0 m 0 ls []) := by
  unfold eX5_hexOf at hf
  obtain ⟨hx, hb, hml, hown, hT, hrt, hlk, hK, hA, hG, hE⟩ := id G
  refine lv_iload_n hx hb dX5_hexOf_0 rfl (lv_at hl 0 rfl) ?_
  refine lv_bipush (v := (48 : Int32)) hx hb dX5_hexOf_1 (by decide) ?_
  refine lv_icmp_lt (tgt := 19) hx hb dX5_hexOf_3 (by decide) (fun c1 => ?_) (fun c1 => ?_)
  · have hf := (if_pos c1).symm.trans hf
    exact W.eq (g2 := F0 m 19 ls []) rfl (eX5_hexOf_t19 G (lv_sub hl [0] rfl) hP hD hS hf)
  · have hf := (if_neg c1).symm.trans hf
    refine lv_iload_n hx hb dX5_hexOf_6 rfl (lv_at hl 0 rfl) ?_
    refine lv_bipush (v := (57 : Int32)) hx hb dX5_hexOf_7 (by decide) ?_
    refine lv_icmp_gt (tgt := 19) hx hb dX5_hexOf_9 (by decide) (fun c2 => ?_) (fun c2 => ?_)
    · have hf := (if_pos c2).symm.trans hf
      exact W.eq (g2 := F0 m 19 ls []) rfl (eX5_hexOf_t19 G (lv_sub hl [0] rfl) hP hD hS hf)
    · have hf := (if_neg c2).symm.trans hf
      refine lv_iload_n hx hb dX5_hexOf_12 rfl (lv_at hl 0 rfl) ?_
      refine lv_bipush (v := (48 : Int32)) hx hb dX5_hexOf_13 (by decide) ?_
      refine lv_isub hx hb dX5_hexOf_15 ?_
      refine lv_goto (tgt := 64) hx hb dX5_hexOf_16 (by decide) ?_
      subst hf
      exact ct_iret G rfl hP hD hS dX5_hexOf_64
set_option maxHeartbeats 4000000 in
set_option maxRecDepth 100000 in
theorem c_eX5_hexOf {l : Launch} {D : va_G} {aK aV : Nat → Nat} {cB cI cJ : ClassId}  (p0 : Int32) : CT l D (gTy cB cI cJ) aK aV yX5_hexOf (wM yX5_hexOf cX5_hexOf 1 (some .int)) (rm_eX5_hexOf) 0 0 [.int p0] [] (some (.int (eX5_hexOf p0))) [] := by
  refine CT.of (by decide) rfl ?_
  intro p e s m below meth c A G hnm hP hD hS
  have hl := lv_entry [.int p0] (n := 1) (Nat.le_of_ble_eq_true rfl)
  rw [lg_entry_eq]
  generalize (lg_sl [.int p0] ++ List.replicate (1 - (lg_sl [.int p0]).length) Slot.unset).toArray = ls at hl ⊢
  exact eX5_hexOf_t0e G hl hP hD hS rfl
def eX5_shown (p0 : Int32) : Int32 := (if (10 : Int32) ≤ p0 then (((97 : Int32) + p0) - (10 : Int32)) else ((48 : Int32) + p0))
abbrev rm_eX5_shown : Room := { frames := 0, cells := 0, slots := 0, locals := 0 }
set_option maxHeartbeats 4000000 in
set_option maxRecDepth 100000 in
theorem eX5_shown_t0e {p : Program} {l : Launch} {e : Env} {s : State} {m : MethodId} {args : Array Value} {below : List Frame} {meth : Method} {c : Code} {D : va_G} {aK aV : Nat → Nat} {A : Nat → Prop} {cB cI cJ : ClassId}  {H : Heap} {locs : List Loc} {ls : Array Slot} {ρ : Int32} {p0 : Int32} (G : CX p s m args meth c D (gTy cB cI cJ) aK aV A RX5 cX5_shown 1 (some .int)) (hl : lv_has ls 1 [(0, .int p0)]) (hP : va_P D vwCl ([]) H) (hD : va_D A ([])) (hS : va_S A s.heap H locs) (hf : eX5_shown p0 = ρ) : W p l e (rm_eX5_shown) s m args below meth c H locs 0 0 (MQ below (cQ D (gTy cB cI cJ) A ([]) (some (.int ρ))) args s 0 0 A) (F0 m 0 ls []) := by
  unfold eX5_shown at hf
  obtain ⟨hx, hb, hml, hown, hT, hrt, hlk, hK, hA, hG, hE⟩ := id G
  refine lv_iload_n hx hb dX5_shown_0 rfl (lv_at hl 0 rfl) ?_
  refine lv_bipush (v := (10 : Int32)) hx hb dX5_shown_1 (by decide) ?_
  refine lv_icmp_ge (tgt := 13) hx hb dX5_shown_3 (by decide) (fun c1 => ?_) (fun c1 => ?_)
  · have hf := (if_pos c1).symm.trans hf
    refine lv_bipush (v := (97 : Int32)) hx hb dX5_shown_13 (by decide) ?_
    refine lv_iload_n hx hb dX5_shown_15 rfl (lv_at hl 0 rfl) ?_
    refine lv_iadd hx hb dX5_shown_16 ?_
    refine lv_bipush (v := (10 : Int32)) hx hb dX5_shown_17 (by decide) ?_
    refine lv_isub hx hb dX5_shown_19 ?_
    subst hf
    exact ct_iret G rfl hP hD hS dX5_shown_20
  · have hf := (if_neg c1).symm.trans hf
    refine lv_bipush (v := (48 : Int32)) hx hb dX5_shown_6 (by decide) ?_
    refine lv_iload_n hx hb dX5_shown_8 rfl (lv_at hl 0 rfl) ?_
    refine lv_iadd hx hb dX5_shown_9 ?_
    refine lv_goto (tgt := 20) hx hb dX5_shown_10 (by decide) ?_
    subst hf
    exact ct_iret G rfl hP hD hS dX5_shown_20
set_option maxHeartbeats 4000000 in
set_option maxRecDepth 100000 in
theorem c_eX5_shown {l : Launch} {D : va_G} {aK aV : Nat → Nat} {cB cI cJ : ClassId}  (p0 : Int32) : CT l D (gTy cB cI cJ) aK aV yX5_shown (wM yX5_shown cX5_shown 1 (some .int)) (rm_eX5_shown) 0 0 [.int p0] [] (some (.int (eX5_shown p0))) [] := by
  refine CT.of (by decide) rfl ?_
  intro p e s m below meth c A G hnm hP hD hS
  have hl := lv_entry [.int p0] (n := 1) (Nat.le_of_ble_eq_true rfl)
  rw [lg_entry_eq]
  generalize (lg_sl [.int p0] ++ List.replicate (1 - (lg_sl [.int p0]).length) Slot.unset).toArray = ls at hl ⊢
  exact eX5_shown_t0e G hl hP hD hS rfl
def eX4_shortestInfo (p0 : Int64) : Int32 := (if p0 < (0 : Int64) then (27 : Int32) else (if p0 ≤ (4294967295 : Int64) then (if (24 : Int64) ≤ p0 then (if (256 : Int64) ≤ p0 then (if (65536 : Int64) ≤ p0 then (26 : Int32) else (25 : Int32)) else (24 : Int32)) else (Int64.toInt32 p0)) else (27 : Int32)))
abbrev rm_eX4_shortestInfo : Room := { frames := 0, cells := 0, slots := 0, locals := 0 }
set_option maxHeartbeats 4000000 in
set_option maxRecDepth 100000 in
theorem eX4_shortestInfo_t0e {p : Program} {l : Launch} {e : Env} {s : State} {m : MethodId} {args : Array Value} {below : List Frame} {meth : Method} {c : Code} {D : va_G} {aK aV : Nat → Nat} {A : Nat → Prop} {cB cI cJ : ClassId}  {H : Heap} {locs : List Loc} {ls : Array Slot} {ρ : Int32} {p0 : Int64} (G : CX p s m args meth c D (gTy cB cI cJ) aK aV A RX4 cX4_shortestInfo 2 (some .int)) (hl : lv_has ls 2 [(0, .long p0)]) (hP : va_P D vwCl ([]) H) (hD : va_D A ([])) (hS : va_S A s.heap H locs) (hf : eX4_shortestInfo p0 = ρ) : W p l e (rm_eX4_shortestInfo) s m args below meth c H locs 0 0 (MQ below (cQ D (gTy cB cI cJ) A ([]) (some (.int ρ))) args s 0 0 A) (F0 m 0 ls []) := by
  unfold eX4_shortestInfo at hf
  obtain ⟨hx, hb, hml, hown, hT, hrt, hlk, hK, hA, hG, hE⟩ := id G
  refine lv_lload_n hx hb dX4_shortestInfo_0 rfl (lv_at hl 0 rfl) ?_
  refine lv_lconst (v := (0 : Int64)) hx hb dX4_shortestInfo_1 (by decide) ?_
  refine W.lcmp hx hb dX4_shortestInfo_2 ?_
  refine lv_if_lt (tgt := 14) hx hb dX4_shortestInfo_3 (by decide) (fun c1 => ?_) (fun c1 => ?_)
  · have hf := (if_pos ((lg_cmp_lt _ _).mp c1)).symm.trans hf
    refine lv_bipush (v := (27 : Int32)) hx hb dX4_shortestInfo_14 (by decide) ?_
    subst hf
    exact ct_iret G rfl hP hD hS dX4_shortestInfo_16
  · have hf := (if_neg (fun z => c1 ((lg_cmp_lt _ _).mpr z))).symm.trans hf
    refine lv_lload_n hx hb dX4_shortestInfo_6 rfl (lv_at hl 0 rfl) ?_
    refine lv_ldc2 (v := (4294967295 : Int64)) hx hb hown (hT _ wc_X4_90) dX4_shortestInfo_7 ?_
    refine W.lcmp hx hb dX4_shortestInfo_10 ?_
    refine lv_if_le (tgt := 17) hx hb dX4_shortestInfo_11 (by decide) (fun c2 => ?_) (fun c2 => ?_)
    · have hf := (if_pos ((lg_cmp_le _ _).mp c2)).symm.trans hf
      refine lv_lload_n hx hb dX4_shortestInfo_17 rfl (lv_at hl 0 rfl) ?_
      refine lv_ldc2 (v := (24 : Int64)) hx hb hown (hT _ wc_X4_92) dX4_shortestInfo_18 ?_
      refine W.lcmp hx hb dX4_shortestInfo_21 ?_
      refine lv_if_ge (tgt := 28) hx hb dX4_shortestInfo_22 (by decide) (fun c3 => ?_) (fun c3 => ?_)
      · have hf := (if_pos ((lg_cmp_ge _ _).mp c3)).symm.trans hf
        refine lv_lload_n hx hb dX4_shortestInfo_28 rfl (lv_at hl 0 rfl) ?_
        refine lv_ldc2 (v := (256 : Int64)) hx hb hown (hT _ wc_X4_94) dX4_shortestInfo_29 ?_
        refine W.lcmp hx hb dX4_shortestInfo_32 ?_
        refine lv_if_ge (tgt := 39) hx hb dX4_shortestInfo_33 (by decide) (fun c4 => ?_) (fun c4 => ?_)
        · have hf := (if_pos ((lg_cmp_ge _ _).mp c4)).symm.trans hf
          refine lv_lload_n hx hb dX4_shortestInfo_39 rfl (lv_at hl 0 rfl) ?_
          refine lv_ldc2 (v := (65536 : Int64)) hx hb hown (hT _ wc_X4_96) dX4_shortestInfo_40 ?_
          refine W.lcmp hx hb dX4_shortestInfo_43 ?_
          refine lv_if_ge (tgt := 52) hx hb dX4_shortestInfo_44 (by decide) (fun c5 => ?_) (fun c5 => ?_)
          · have hf := (if_pos ((lg_cmp_ge _ _).mp c5)).symm.trans hf
            refine lv_bipush (v := (26 : Int32)) hx hb dX4_shortestInfo_52 (by decide) ?_
            subst hf
            exact ct_iret G rfl hP hD hS dX4_shortestInfo_54
          · have hf := (if_neg (fun z => c5 ((lg_cmp_ge _ _).mpr z))).symm.trans hf
            refine lv_bipush (v := (25 : Int32)) hx hb dX4_shortestInfo_47 (by decide) ?_
            refine lv_goto (tgt := 54) hx hb dX4_shortestInfo_49 (by decide) ?_
            subst hf
            exact ct_iret G rfl hP hD hS dX4_shortestInfo_54
        · have hf := (if_neg (fun z => c4 ((lg_cmp_ge _ _).mpr z))).symm.trans hf
          refine lv_bipush (v := (24 : Int32)) hx hb dX4_shortestInfo_36 (by decide) ?_
          subst hf
          exact ct_iret G rfl hP hD hS dX4_shortestInfo_38
      · have hf := (if_neg (fun z => c3 ((lg_cmp_ge _ _).mpr z))).symm.trans hf
        refine lv_lload_n hx hb dX4_shortestInfo_25 rfl (lv_at hl 0 rfl) ?_
        refine lv_l2i (v := (Int64.toInt32 p0)) hx hb dX4_shortestInfo_26 rfl ?_
        subst hf
        exact ct_iret G rfl hP hD hS dX4_shortestInfo_27
    · have hf := (if_neg (fun z => c2 ((lg_cmp_le _ _).mpr z))).symm.trans hf
      refine lv_bipush (v := (27 : Int32)) hx hb dX4_shortestInfo_14 (by decide) ?_
      subst hf
      exact ct_iret G rfl hP hD hS dX4_shortestInfo_16
set_option maxHeartbeats 4000000 in
set_option maxRecDepth 100000 in
theorem c_eX4_shortestInfo {l : Launch} {D : va_G} {aK aV : Nat → Nat} {cB cI cJ : ClassId}  (p0 : Int64) : CT l D (gTy cB cI cJ) aK aV yX4_shortestInfo (wM yX4_shortestInfo cX4_shortestInfo 2 (some .int)) (rm_eX4_shortestInfo) 0 0 [.long p0] [] (some (.int (eX4_shortestInfo p0))) [] := by
  refine CT.of (by decide) rfl ?_
  intro p e s m below meth c A G hnm hP hD hS
  have hl := lv_entry [.long p0] (n := 2) (Nat.le_of_ble_eq_true rfl)
  rw [lg_entry_eq]
  generalize (lg_sl [.long p0] ++ List.replicate (2 - (lg_sl [.long p0]).length) Slot.unset).toArray = ls at hl ⊢
  exact eX4_shortestInfo_t0e G hl hP hD hS rfl
def eX4_bytesBehind (p0 : Int32) : Int32 := (if p0 < (24 : Int32) then (0 : Int32) else (if p0 ≤ (27 : Int32) then ((1 : Int32) <<< ((p0 - (24 : Int32)) &&& 31)) else (0 : Int32)))
abbrev rm_eX4_bytesBehind : Room := { frames := 0, cells := 0, slots := 0, locals := 0 }
set_option maxHeartbeats 4000000 in
set_option maxRecDepth 100000 in
theorem eX4_bytesBehind_t0e {p : Program} {l : Launch} {e : Env} {s : State} {m : MethodId} {args : Array Value} {below : List Frame} {meth : Method} {c : Code} {D : va_G} {aK aV : Nat → Nat} {A : Nat → Prop} {cB cI cJ : ClassId}  {H : Heap} {locs : List Loc} {ls : Array Slot} {ρ : Int32} {p0 : Int32} (G : CX p s m args meth c D (gTy cB cI cJ) aK aV A RX4 cX4_bytesBehind 1 (some .int)) (hl : lv_has ls 1 [(0, .int p0)]) (hP : va_P D vwCl ([]) H) (hD : va_D A ([])) (hS : va_S A s.heap H locs) (hf : eX4_bytesBehind p0 = ρ) : W p l e (rm_eX4_bytesBehind) s m args below meth c H locs 0 0 (MQ below (cQ D (gTy cB cI cJ) A ([]) (some (.int ρ))) args s 0 0 A) (F0 m 0 ls []) := by
  unfold eX4_bytesBehind at hf
  obtain ⟨hx, hb, hml, hown, hT, hrt, hlk, hK, hA, hG, hE⟩ := id G
  refine lv_iload_n hx hb dX4_bytesBehind_0 rfl (lv_at hl 0 rfl) ?_
  refine lv_bipush (v := (24 : Int32)) hx hb dX4_bytesBehind_1 (by decide) ?_
  refine lv_icmp_lt (tgt := 12) hx hb dX4_bytesBehind_3 (by decide) (fun c1 => ?_) (fun c1 => ?_)
  · have hf := (if_pos c1).symm.trans hf
    refine lv_iconst (v := (0 : Int32)) hx hb dX4_bytesBehind_12 (by decide) ?_
    refine lv_goto (tgt := 22) hx hb dX4_bytesBehind_13 (by decide) ?_
    subst hf
    exact ct_iret G rfl hP hD hS dX4_bytesBehind_22
  · have hf := (if_neg c1).symm.trans hf
    refine lv_iload_n hx hb dX4_bytesBehind_6 rfl (lv_at hl 0 rfl) ?_
    refine lv_bipush (v := (27 : Int32)) hx hb dX4_bytesBehind_7 (by decide) ?_
    refine lv_icmp_le (tgt := 16) hx hb dX4_bytesBehind_9 (by decide) (fun c2 => ?_) (fun c2 => ?_)
    · have hf := (if_pos c2).symm.trans hf
      refine lv_iconst (v := (1 : Int32)) hx hb dX4_bytesBehind_16 (by decide) ?_
      refine lv_iload_n hx hb dX4_bytesBehind_17 rfl (lv_at hl 0 rfl) ?_
      refine lv_bipush (v := (24 : Int32)) hx hb dX4_bytesBehind_18 (by decide) ?_
      refine lv_isub hx hb dX4_bytesBehind_20 ?_
      refine lv_ishl hx hb dX4_bytesBehind_21 ?_
      subst hf
      exact ct_iret G rfl hP hD hS dX4_bytesBehind_22
    · have hf := (if_neg c2).symm.trans hf
      refine lv_iconst (v := (0 : Int32)) hx hb dX4_bytesBehind_12 (by decide) ?_
      refine lv_goto (tgt := 22) hx hb dX4_bytesBehind_13 (by decide) ?_
      subst hf
      exact ct_iret G rfl hP hD hS dX4_bytesBehind_22
set_option maxHeartbeats 4000000 in
set_option maxRecDepth 100000 in
theorem c_eX4_bytesBehind {l : Launch} {D : va_G} {aK aV : Nat → Nat} {cB cI cJ : ClassId}  (p0 : Int32) : CT l D (gTy cB cI cJ) aK aV yX4_bytesBehind (wM yX4_bytesBehind cX4_bytesBehind 1 (some .int)) (rm_eX4_bytesBehind) 0 0 [.int p0] [] (some (.int (eX4_bytesBehind p0))) [] := by
  refine CT.of (by decide) rfl ?_
  intro p e s m below meth c A G hnm hP hD hS
  have hl := lv_entry [.int p0] (n := 1) (Nat.le_of_ble_eq_true rfl)
  rw [lg_entry_eq]
  generalize (lg_sl [.int p0] ++ List.replicate (1 - (lg_sl [.int p0]).length) Slot.unset).toArray = ls at hl ⊢
  exact eX4_bytesBehind_t0e G hl hP hD hS rfl
def eX4_lengthByFirst (p0 : Int32) : Int32 := (if p0 < 0 then (0 : Int32) else (if p0 ≤ (244 : Int32) then (if (128 : Int32) ≤ p0 then (if (194 : Int32) ≤ p0 then (if (224 : Int32) ≤ p0 then (if (240 : Int32) ≤ p0 then (4 : Int32) else (3 : Int32)) else (2 : Int32)) else (0 : Int32)) else (1 : Int32)) else (0 : Int32)))
abbrev rm_eX4_lengthByFirst : Room := { frames := 0, cells := 0, slots := 0, locals := 0 }
set_option maxHeartbeats 4000000 in
set_option maxRecDepth 100000 in
theorem eX4_lengthByFirst_t0e {p : Program} {l : Launch} {e : Env} {s : State} {m : MethodId} {args : Array Value} {below : List Frame} {meth : Method} {c : Code} {D : va_G} {aK aV : Nat → Nat} {A : Nat → Prop} {cB cI cJ : ClassId}  {H : Heap} {locs : List Loc} {ls : Array Slot} {ρ : Int32} {p0 : Int32} (G : CX p s m args meth c D (gTy cB cI cJ) aK aV A RX4 cX4_lengthByFirst 1 (some .int)) (hl : lv_has ls 1 [(0, .int p0)]) (hP : va_P D vwCl ([]) H) (hD : va_D A ([])) (hS : va_S A s.heap H locs) (hf : eX4_lengthByFirst p0 = ρ) : W p l e (rm_eX4_lengthByFirst) s m args below meth c H locs 0 0 (MQ below (cQ D (gTy cB cI cJ) A ([]) (some (.int ρ))) args s 0 0 A) (F0 m 0 ls []) := by
  unfold eX4_lengthByFirst at hf
  obtain ⟨hx, hb, hml, hown, hT, hrt, hlk, hK, hA, hG, hE⟩ := id G
  refine lv_iload_n hx hb dX4_lengthByFirst_0 rfl (lv_at hl 0 rfl) ?_
  refine lv_if_lt (tgt := 11) hx hb dX4_lengthByFirst_1 (by decide) (fun c1 => ?_) (fun c1 => ?_)
  · have hf := (if_pos c1).symm.trans hf
    refine lv_iconst (v := (0 : Int32)) hx hb dX4_lengthByFirst_11 (by decide) ?_
    subst hf
    exact ct_iret G rfl hP hD hS dX4_lengthByFirst_12
  · have hf := (if_neg c1).symm.trans hf
    refine lv_iload_n hx hb dX4_lengthByFirst_4 rfl (lv_at hl 0 rfl) ?_
    refine lv_sipush (v := (244 : Int32)) hx hb dX4_lengthByFirst_5 (by decide) ?_
    refine lv_icmp_le (tgt := 13) hx hb dX4_lengthByFirst_8 (by decide) (fun c2 => ?_) (fun c2 => ?_)
    · have hf := (if_pos c2).symm.trans hf
      refine lv_iload_n hx hb dX4_lengthByFirst_13 rfl (lv_at hl 0 rfl) ?_
      refine lv_sipush (v := (128 : Int32)) hx hb dX4_lengthByFirst_14 (by decide) ?_
      refine lv_icmp_ge (tgt := 22) hx hb dX4_lengthByFirst_17 (by decide) (fun c3 => ?_) (fun c3 => ?_)
      · have hf := (if_pos c3).symm.trans hf
        refine lv_iload_n hx hb dX4_lengthByFirst_22 rfl (lv_at hl 0 rfl) ?_
        refine lv_sipush (v := (194 : Int32)) hx hb dX4_lengthByFirst_23 (by decide) ?_
        refine lv_icmp_ge (tgt := 31) hx hb dX4_lengthByFirst_26 (by decide) (fun c4 => ?_) (fun c4 => ?_)
        · have hf := (if_pos c4).symm.trans hf
          refine lv_iload_n hx hb dX4_lengthByFirst_31 rfl (lv_at hl 0 rfl) ?_
          refine lv_sipush (v := (224 : Int32)) hx hb dX4_lengthByFirst_32 (by decide) ?_
          refine lv_icmp_ge (tgt := 40) hx hb dX4_lengthByFirst_35 (by decide) (fun c5 => ?_) (fun c5 => ?_)
          · have hf := (if_pos c5).symm.trans hf
            refine lv_iload_n hx hb dX4_lengthByFirst_40 rfl (lv_at hl 0 rfl) ?_
            refine lv_sipush (v := (240 : Int32)) hx hb dX4_lengthByFirst_41 (by decide) ?_
            refine lv_icmp_ge (tgt := 51) hx hb dX4_lengthByFirst_44 (by decide) (fun c6 => ?_) (fun c6 => ?_)
            · have hf := (if_pos c6).symm.trans hf
              refine lv_iconst (v := (4 : Int32)) hx hb dX4_lengthByFirst_51 (by decide) ?_
              subst hf
              exact ct_iret G rfl hP hD hS dX4_lengthByFirst_52
            · have hf := (if_neg c6).symm.trans hf
              refine lv_iconst (v := (3 : Int32)) hx hb dX4_lengthByFirst_47 (by decide) ?_
              refine lv_goto (tgt := 52) hx hb dX4_lengthByFirst_48 (by decide) ?_
              subst hf
              exact ct_iret G rfl hP hD hS dX4_lengthByFirst_52
          · have hf := (if_neg c5).symm.trans hf
            refine lv_iconst (v := (2 : Int32)) hx hb dX4_lengthByFirst_38 (by decide) ?_
            subst hf
            exact ct_iret G rfl hP hD hS dX4_lengthByFirst_39
        · have hf := (if_neg c4).symm.trans hf
          refine lv_iconst (v := (0 : Int32)) hx hb dX4_lengthByFirst_29 (by decide) ?_
          subst hf
          exact ct_iret G rfl hP hD hS dX4_lengthByFirst_30
      · have hf := (if_neg c3).symm.trans hf
        refine lv_iconst (v := (1 : Int32)) hx hb dX4_lengthByFirst_20 (by decide) ?_
        subst hf
        exact ct_iret G rfl hP hD hS dX4_lengthByFirst_21
    · have hf := (if_neg c2).symm.trans hf
      refine lv_iconst (v := (0 : Int32)) hx hb dX4_lengthByFirst_11 (by decide) ?_
      subst hf
      exact ct_iret G rfl hP hD hS dX4_lengthByFirst_12
set_option maxHeartbeats 4000000 in
set_option maxRecDepth 100000 in
theorem c_eX4_lengthByFirst {l : Launch} {D : va_G} {aK aV : Nat → Nat} {cB cI cJ : ClassId}  (p0 : Int32) : CT l D (gTy cB cI cJ) aK aV yX4_lengthByFirst (wM yX4_lengthByFirst cX4_lengthByFirst 1 (some .int)) (rm_eX4_lengthByFirst) 0 0 [.int p0] [] (some (.int (eX4_lengthByFirst p0))) [] := by
  refine CT.of (by decide) rfl ?_
  intro p e s m below meth c A G hnm hP hD hS
  have hl := lv_entry [.int p0] (n := 1) (Nat.le_of_ble_eq_true rfl)
  rw [lg_entry_eq]
  generalize (lg_sl [.int p0] ++ List.replicate (1 - (lg_sl [.int p0]).length) Slot.unset).toArray = ls at hl ⊢
  exact eX4_lengthByFirst_t0e G hl hP hD hS rfl
def eX4_isSignOf (p0 : Int32) (p1 : Int32) : Bool := (if p1 = (3 : Int32) then (if p0 < (2048 : Int32) then false else (if p0 < (55296 : Int32) then true else (if p0 ≤ (57343 : Int32) then false else true))) else (if p1 = (4 : Int32) then (if p0 < (65536 : Int32) then false else (if (1114111 : Int32) < p0 then false else true)) else true))
abbrev rm_eX4_isSignOf : Room := { frames := 0, cells := 0, slots := 0, locals := 0 }
set_option maxHeartbeats 4000000 in
set_option maxRecDepth 100000 in
theorem eX4_isSignOf_t0e {p : Program} {l : Launch} {e : Env} {s : State} {m : MethodId} {args : Array Value} {below : List Frame} {meth : Method} {c : Code} {D : va_G} {aK aV : Nat → Nat} {A : Nat → Prop} {cB cI cJ : ClassId}  {H : Heap} {locs : List Loc} {ls : Array Slot} {ρ : Bool} {p0 : Int32} {p1 : Int32} (G : CX p s m args meth c D (gTy cB cI cJ) aK aV A RX4 cX4_isSignOf 2 (some .boolean)) (hl : lv_has ls 2 [(0, .int p0), (1, .int p1)]) (hP : va_P D vwCl ([]) H) (hD : va_D A ([])) (hS : va_S A s.heap H locs) (hf : eX4_isSignOf p0 p1 = ρ) : W p l e (rm_eX4_isSignOf) s m args below meth c H locs 0 0 (MQ below (cQ D (gTy cB cI cJ) A ([]) (some (.int (bI ρ)))) args s 0 0 A) (F0 m 0 ls []) := by
  unfold eX4_isSignOf at hf
  obtain ⟨hx, hb, hml, hown, hT, hrt, hlk, hK, hA, hG, hE⟩ := id G
  refine lv_iload_n hx hb dX4_isSignOf_0 rfl (lv_at hl 1 rfl) ?_
  refine lv_iconst (v := (3 : Int32)) hx hb dX4_isSignOf_1 (by decide) ?_
  refine lv_icmp_ne (tgt := 30) hx hb dX4_isSignOf_2 (by decide) (fun c1 => ?_) (fun c1 => ?_)
  · have hf := (if_neg c1).symm.trans hf
    refine lv_iload_n hx hb dX4_isSignOf_30 rfl (lv_at hl 1 rfl) ?_
    refine lv_iconst (v := (4 : Int32)) hx hb dX4_isSignOf_31 (by decide) ?_
    refine lv_icmp_ne (tgt := 53) hx hb dX4_isSignOf_32 (by decide) (fun c2 => ?_) (fun c2 => ?_)
    · have hf := (if_neg c2).symm.trans hf
      refine lv_iconst (v := (1 : Int32)) hx hb dX4_isSignOf_53 (by decide) ?_
      subst hf
      exact ct_iret G (bI_nar true) hP hD hS dX4_isSignOf_54
    · have hf := (if_pos c2).symm.trans hf
      refine lv_iload_n hx hb dX4_isSignOf_35 rfl (lv_at hl 0 rfl) ?_
      refine lv_ldc (v := (65536 : Int32)) hx hb hown (hT _ wc_X4_106) dX4_isSignOf_36 ?_
      refine lv_icmp_lt (tgt := 51) hx hb dX4_isSignOf_38 (by decide) (fun c3 => ?_) (fun c3 => ?_)
      · have hf := (if_pos c3).symm.trans hf
        refine lv_iconst (v := (0 : Int32)) hx hb dX4_isSignOf_51 (by decide) ?_
        subst hf
        exact ct_iret G (bI_nar false) hP hD hS dX4_isSignOf_52
      · have hf := (if_neg c3).symm.trans hf
        refine lv_iload_n hx hb dX4_isSignOf_41 rfl (lv_at hl 0 rfl) ?_
        refine lv_ldc (v := (1114111 : Int32)) hx hb hown (hT _ wc_X4_107) dX4_isSignOf_42 ?_
        refine lv_icmp_gt (tgt := 51) hx hb dX4_isSignOf_44 (by decide) (fun c4 => ?_) (fun c4 => ?_)
        · have hf := (if_pos c4).symm.trans hf
          refine lv_iconst (v := (0 : Int32)) hx hb dX4_isSignOf_51 (by decide) ?_
          subst hf
          exact ct_iret G (bI_nar false) hP hD hS dX4_isSignOf_52
        · have hf := (if_neg c4).symm.trans hf
          refine lv_iconst (v := (1 : Int32)) hx hb dX4_isSignOf_47 (by decide) ?_
          refine lv_goto (tgt := 52) hx hb dX4_isSignOf_48 (by decide) ?_
          subst hf
          exact ct_iret G (bI_nar true) hP hD hS dX4_isSignOf_52
  · have hf := (if_pos c1).symm.trans hf
    refine lv_iload_n hx hb dX4_isSignOf_5 rfl (lv_at hl 0 rfl) ?_
    refine lv_sipush (v := (2048 : Int32)) hx hb dX4_isSignOf_6 (by decide) ?_
    refine lv_icmp_lt (tgt := 28) hx hb dX4_isSignOf_9 (by decide) (fun c5 => ?_) (fun c5 => ?_)
    · have hf := (if_pos c5).symm.trans hf
      refine lv_iconst (v := (0 : Int32)) hx hb dX4_isSignOf_28 (by decide) ?_
      subst hf
      exact ct_iret G (bI_nar false) hP hD hS dX4_isSignOf_29
    · have hf := (if_neg c5).symm.trans hf
      refine lv_iload_n hx hb dX4_isSignOf_12 rfl (lv_at hl 0 rfl) ?_
      refine lv_ldc (v := (55296 : Int32)) hx hb hown (hT _ wc_X4_104) dX4_isSignOf_13 ?_
      refine lv_icmp_lt (tgt := 24) hx hb dX4_isSignOf_15 (by decide) (fun c6 => ?_) (fun c6 => ?_)
      · have hf := (if_pos c6).symm.trans hf
        refine lv_iconst (v := (1 : Int32)) hx hb dX4_isSignOf_24 (by decide) ?_
        refine lv_goto (tgt := 29) hx hb dX4_isSignOf_25 (by decide) ?_
        subst hf
        exact ct_iret G (bI_nar true) hP hD hS dX4_isSignOf_29
      · have hf := (if_neg c6).symm.trans hf
        refine lv_iload_n hx hb dX4_isSignOf_18 rfl (lv_at hl 0 rfl) ?_
        refine lv_ldc (v := (57343 : Int32)) hx hb hown (hT _ wc_X4_105) dX4_isSignOf_19 ?_
        refine lv_icmp_le (tgt := 28) hx hb dX4_isSignOf_21 (by decide) (fun c7 => ?_) (fun c7 => ?_)
        · have hf := (if_pos c7).symm.trans hf
          refine lv_iconst (v := (0 : Int32)) hx hb dX4_isSignOf_28 (by decide) ?_
          subst hf
          exact ct_iret G (bI_nar false) hP hD hS dX4_isSignOf_29
        · have hf := (if_neg c7).symm.trans hf
          refine lv_iconst (v := (1 : Int32)) hx hb dX4_isSignOf_24 (by decide) ?_
          refine lv_goto (tgt := 29) hx hb dX4_isSignOf_25 (by decide) ?_
          subst hf
          exact ct_iret G (bI_nar true) hP hD hS dX4_isSignOf_29
set_option maxHeartbeats 4000000 in
set_option maxRecDepth 100000 in
theorem c_eX4_isSignOf {l : Launch} {D : va_G} {aK aV : Nat → Nat} {cB cI cJ : ClassId}  (p0 : Int32) (p1 : Int32) : CT l D (gTy cB cI cJ) aK aV yX4_isSignOf (wM yX4_isSignOf cX4_isSignOf 2 (some .boolean)) (rm_eX4_isSignOf) 0 0 [.int p0, .int p1] [] (some (.int (bI (eX4_isSignOf p0 p1)))) [] := by
  refine CT.of (by decide) rfl ?_
  intro p e s m below meth c A G hnm hP hD hS
  have hl := lv_entry [.int p0, .int p1] (n := 2) (Nat.le_of_ble_eq_true rfl)
  rw [lg_entry_eq]
  generalize (lg_sl [.int p0, .int p1] ++ List.replicate (2 - (lg_sl [.int p0, .int p1]).length) Slot.unset).toArray = ls at hl ⊢
  exact eX4_isSignOf_t0e G hl hP hD hS rfl
def eX1_isBeyond_b50 (s0 : Int32) (s1 : Int32) : Bool := (if s1 ≤ s0 then false else true)
def eX1_isBeyond (p0 : Int64) (p1 : Int32) (p2 : Int32) (p3 : Int32) : Bool := (if (19 : Int32) ≤ p1 then (if (20 : Int32) ≤ p1 then true else (if p0 < (0 : Int64) then true else (if p0 ≤ (1844674407370955161 : Int64) then (if p0 = (1844674407370955161 : Int64) then (if p3 = 0 then eX1_isBeyond_b50 (5 : Int32) p2 else eX1_isBeyond_b50 (6 : Int32) p2) else false) else true))) else false)
abbrev rm_eX1_isBeyond : Room := { frames := 0, cells := 0, slots := 0, locals := 0 }
set_option maxHeartbeats 4000000 in
set_option maxRecDepth 100000 in
theorem eX1_isBeyond_t50 {p : Program} {l : Launch} {e : Env} {s : State} {m : MethodId} {args : Array Value} {below : List Frame} {meth : Method} {c : Code} {D : va_G} {aK aV : Nat → Nat} {A : Nat → Prop} {cB cI cJ : ClassId}  {H : Heap} {locs : List Loc} {ls : Array Slot} {ρ : Bool} {s0 : Int32} {s1 : Int32} (G : CX p s m args meth c D (gTy cB cI cJ) aK aV A RX1 cX1_isBeyond 5 (some .boolean)) (hl : lv_has ls 5 []) (hP : va_P D vwCl ([]) H) (hD : va_D A ([])) (hS : va_S A s.heap H locs) (hf : eX1_isBeyond_b50 s0 s1 = ρ) : W p l e (rm_eX1_isBeyond) s m args below meth c H locs 0 0 (MQ below (cQ D (gTy cB cI cJ) A ([]) (some (.int (bI ρ)))) args s 0 0 A) (F0 m 50 ls [.int s0, .int s1]) := by
  unfold eX1_isBeyond_b50 at hf
  obtain ⟨hx, hb, hml, hown, hT, hrt, hlk, hK, hA, hG, hE⟩ := id G
  refine lv_icmp_le (tgt := 57) hx hb dX1_isBeyond_50 (by decide) (fun c7 => ?_) (fun c7 => ?_)
  · have hf := (if_pos c7).symm.trans hf
    refine lv_iconst (v := (0 : Int32)) hx hb dX1_isBeyond_57 (by decide) ?_
    subst hf
    exact ct_iret G (bI_nar false) hP hD hS dX1_isBeyond_58
  · have hf := (if_neg c7).symm.trans hf
    refine lv_iconst (v := (1 : Int32)) hx hb dX1_isBeyond_53 (by decide) ?_
    refine lv_goto (tgt := 58) hx hb dX1_isBeyond_54 (by decide) ?_
    subst hf
    exact ct_iret G (bI_nar true) hP hD hS dX1_isBeyond_58
set_option maxHeartbeats 4000000 in
set_option maxRecDepth 100000 in
theorem eX1_isBeyond_t0e {p : Program} {l : Launch} {e : Env} {s : State} {m : MethodId} {args : Array Value} {below : List Frame} {meth : Method} {c : Code} {D : va_G} {aK aV : Nat → Nat} {A : Nat → Prop} {cB cI cJ : ClassId}  {H : Heap} {locs : List Loc} {ls : Array Slot} {ρ : Bool} {p0 : Int64} {p1 : Int32} {p2 : Int32} {p3 : Int32} (G : CX p s m args meth c D (gTy cB cI cJ) aK aV A RX1 cX1_isBeyond 5 (some .boolean)) (hl : lv_has ls 5 [(0, .long p0), (2, .int p1), (3, .int p2), (4, .int p3)]) (hP : va_P D vwCl ([]) H) (hD : va_D A ([])) (hS : va_S A s.heap H locs) (hf : eX1_isBeyond p0 p1 p2 p3 = ρ) : W p l e (rm_eX1_isBeyond) s m args below meth c H locs 0 0 (MQ below (cQ D (gTy cB cI cJ) A ([]) (some (.int (bI ρ)))) args s 0 0 A) (F0 m 0 ls []) := by
  unfold eX1_isBeyond at hf
  obtain ⟨hx, hb, hml, hown, hT, hrt, hlk, hK, hA, hG, hE⟩ := id G
  refine lv_iload_n hx hb dX1_isBeyond_0 rfl (lv_at hl 1 rfl) ?_
  refine lv_bipush (v := (19 : Int32)) hx hb dX1_isBeyond_1 (by decide) ?_
  refine lv_icmp_ge (tgt := 8) hx hb dX1_isBeyond_3 (by decide) (fun c1 => ?_) (fun c1 => ?_)
  · have hf := (if_pos c1).symm.trans hf
    refine lv_iload_n hx hb dX1_isBeyond_8 rfl (lv_at hl 1 rfl) ?_
    refine lv_bipush (v := (20 : Int32)) hx hb dX1_isBeyond_9 (by decide) ?_
    refine lv_icmp_ge (tgt := 28) hx hb dX1_isBeyond_11 (by decide) (fun c2 => ?_) (fun c2 => ?_)
    · have hf := (if_pos c2).symm.trans hf
      refine lv_iconst (v := (1 : Int32)) hx hb dX1_isBeyond_28 (by decide) ?_
      subst hf
      exact ct_iret G (bI_nar true) hP hD hS dX1_isBeyond_29
    · have hf := (if_neg c2).symm.trans hf
      refine lv_lload_n hx hb dX1_isBeyond_14 rfl (lv_at hl 0 rfl) ?_
      refine lv_lconst (v := (0 : Int64)) hx hb dX1_isBeyond_15 (by decide) ?_
      refine W.lcmp hx hb dX1_isBeyond_16 ?_
      refine lv_if_lt (tgt := 28) hx hb dX1_isBeyond_17 (by decide) (fun c3 => ?_) (fun c3 => ?_)
      · have hf := (if_pos ((lg_cmp_lt _ _).mp c3)).symm.trans hf
        refine lv_iconst (v := (1 : Int32)) hx hb dX1_isBeyond_28 (by decide) ?_
        subst hf
        exact ct_iret G (bI_nar true) hP hD hS dX1_isBeyond_29
      · have hf := (if_neg (fun z => c3 ((lg_cmp_lt _ _).mpr z))).symm.trans hf
        refine lv_lload_n hx hb dX1_isBeyond_20 rfl (lv_at hl 0 rfl) ?_
        refine lv_ldc2 (v := (1844674407370955161 : Int64)) hx hb hown (hT _ wc_X1_158) dX1_isBeyond_21 ?_
        refine W.lcmp hx hb dX1_isBeyond_24 ?_
        refine lv_if_le (tgt := 30) hx hb dX1_isBeyond_25 (by decide) (fun c4 => ?_) (fun c4 => ?_)
        · have hf := (if_pos ((lg_cmp_le _ _).mp c4)).symm.trans hf
          refine lv_lload_n hx hb dX1_isBeyond_30 rfl (lv_at hl 0 rfl) ?_
          refine lv_ldc2 (v := (1844674407370955161 : Int64)) hx hb hown (hT _ wc_X1_158) dX1_isBeyond_31 ?_
          refine W.lcmp hx hb dX1_isBeyond_34 ?_
          refine lv_if_ne (tgt := 57) hx hb dX1_isBeyond_35 (by decide) (fun c5 => ?_) (fun c5 => ?_)
          · have hf := (if_neg (fun z => c5 ((lg_cmp_eq _ _).mpr z))).symm.trans hf
            refine lv_iconst (v := (0 : Int32)) hx hb dX1_isBeyond_57 (by decide) ?_
            subst hf
            exact ct_iret G (bI_nar false) hP hD hS dX1_isBeyond_58
          · have hf := (if_pos ((lg_cmp_eq _ _).mp c5)).symm.trans hf
            refine lv_iload_n hx hb dX1_isBeyond_38 rfl (lv_at hl 2 rfl) ?_
            refine lv_iload hx hb dX1_isBeyond_39 (lv_at hl 3 rfl) ?_
            refine lv_if_eq (tgt := 49) hx hb dX1_isBeyond_41 (by decide) (fun c6 => ?_) (fun c6 => ?_)
            · have hf := (if_pos c6).symm.trans hf
              refine lv_iconst (v := (5 : Int32)) hx hb dX1_isBeyond_49 (by decide) ?_
              exact W.eq (g2 := F0 m 50 ls [.int (5 : Int32), .int p2]) rfl (eX1_isBeyond_t50 G (lv_sub hl [] rfl) hP hD hS hf)
            · have hf := (if_neg c6).symm.trans hf
              refine lv_bipush (v := (6 : Int32)) hx hb dX1_isBeyond_44 (by decide) ?_
              refine lv_goto (tgt := 50) hx hb dX1_isBeyond_46 (by decide) ?_
              exact W.eq (g2 := F0 m 50 ls [.int (6 : Int32), .int p2]) rfl (eX1_isBeyond_t50 G (lv_sub hl [] rfl) hP hD hS hf)
        · have hf := (if_neg (fun z => c4 ((lg_cmp_le _ _).mpr z))).symm.trans hf
          refine lv_iconst (v := (1 : Int32)) hx hb dX1_isBeyond_28 (by decide) ?_
          subst hf
          exact ct_iret G (bI_nar true) hP hD hS dX1_isBeyond_29
  · have hf := (if_neg c1).symm.trans hf
    refine lv_iconst (v := (0 : Int32)) hx hb dX1_isBeyond_6 (by decide) ?_
    subst hf
    exact ct_iret G (bI_nar false) hP hD hS dX1_isBeyond_7
set_option maxHeartbeats 4000000 in
set_option maxRecDepth 100000 in
theorem c_eX1_isBeyond {l : Launch} {D : va_G} {aK aV : Nat → Nat} {cB cI cJ : ClassId}  (p0 : Int64) (p1 : Int32) (p2 : Int32) (p3 : Int32) : CT l D (gTy cB cI cJ) aK aV yX1_isBeyond (wM yX1_isBeyond cX1_isBeyond 5 (some .boolean)) (rm_eX1_isBeyond) 0 0 [.long p0, .int p1, .int p2, .int p3] [] (some (.int (bI (eX1_isBeyond p0 p1 p2 p3)))) [] := by
  refine CT.of (by decide) rfl ?_
  intro p e s m below meth c A G hnm hP hD hS
  have hl := lv_entry [.long p0, .int p1, .int p2, .int p3] (n := 5) (Nat.le_of_ble_eq_true rfl)
  rw [lg_entry_eq]
  generalize (lg_sl [.long p0, .int p1, .int p2, .int p3] ++ List.replicate (5 - (lg_sl [.long p0, .int p1, .int p2, .int p3]).length) Slot.unset).toArray = ls at hl ⊢
  exact eX1_isBeyond_t0e G hl hP hD hS rfl
def eX1_isBlank (p0 : Int32) : Bool := (if p0 = (9 : Int32) then true else (if p0 = (10 : Int32) then true else (if p0 = (13 : Int32) then true else (if p0 = (32 : Int32) then true else false))))
abbrev rm_eX1_isBlank : Room := { frames := 0, cells := 0, slots := 0, locals := 0 }
set_option maxHeartbeats 4000000 in
set_option maxRecDepth 100000 in
theorem eX1_isBlank_t0e {p : Program} {l : Launch} {e : Env} {s : State} {m : MethodId} {args : Array Value} {below : List Frame} {meth : Method} {c : Code} {D : va_G} {aK aV : Nat → Nat} {A : Nat → Prop} {cB cI cJ : ClassId}  {H : Heap} {locs : List Loc} {ls : Array Slot} {ρ : Bool} {p0 : Int32} (G : CX p s m args meth c D (gTy cB cI cJ) aK aV A RX1 cX1_isBlank 1 (some .boolean)) (hl : lv_has ls 1 [(0, .int p0)]) (hP : va_P D vwCl ([]) H) (hD : va_D A ([])) (hS : va_S A s.heap H locs) (hf : eX1_isBlank p0 = ρ) : W p l e (rm_eX1_isBlank) s m args below meth c H locs 0 0 (MQ below (cQ D (gTy cB cI cJ) A ([]) (some (.int (bI ρ)))) args s 0 0 A) (F0 m 0 ls []) := by
  unfold eX1_isBlank at hf
  obtain ⟨hx, hb, hml, hown, hT, hrt, hlk, hK, hA, hG, hE⟩ := id G
  refine lv_iload_n hx hb dX1_isBlank_0 rfl (lv_at hl 0 rfl) ?_
  refine lv_bipush (v := (9 : Int32)) hx hb dX1_isBlank_1 (by decide) ?_
  refine lv_icmp_eq (tgt := 24) hx hb dX1_isBlank_3 (by decide) (fun c1 => ?_) (fun c1 => ?_)
  · have hf := (if_pos c1).symm.trans hf
    refine lv_iconst (v := (1 : Int32)) hx hb dX1_isBlank_24 (by decide) ?_
    refine lv_goto (tgt := 29) hx hb dX1_isBlank_25 (by decide) ?_
    subst hf
    exact ct_iret G (bI_nar true) hP hD hS dX1_isBlank_29
  · have hf := (if_neg c1).symm.trans hf
    refine lv_iload_n hx hb dX1_isBlank_6 rfl (lv_at hl 0 rfl) ?_
    refine lv_bipush (v := (10 : Int32)) hx hb dX1_isBlank_7 (by decide) ?_
    refine lv_icmp_eq (tgt := 24) hx hb dX1_isBlank_9 (by decide) (fun c2 => ?_) (fun c2 => ?_)
    · have hf := (if_pos c2).symm.trans hf
      refine lv_iconst (v := (1 : Int32)) hx hb dX1_isBlank_24 (by decide) ?_
      refine lv_goto (tgt := 29) hx hb dX1_isBlank_25 (by decide) ?_
      subst hf
      exact ct_iret G (bI_nar true) hP hD hS dX1_isBlank_29
    · have hf := (if_neg c2).symm.trans hf
      refine lv_iload_n hx hb dX1_isBlank_12 rfl (lv_at hl 0 rfl) ?_
      refine lv_bipush (v := (13 : Int32)) hx hb dX1_isBlank_13 (by decide) ?_
      refine lv_icmp_eq (tgt := 24) hx hb dX1_isBlank_15 (by decide) (fun c3 => ?_) (fun c3 => ?_)
      · have hf := (if_pos c3).symm.trans hf
        refine lv_iconst (v := (1 : Int32)) hx hb dX1_isBlank_24 (by decide) ?_
        refine lv_goto (tgt := 29) hx hb dX1_isBlank_25 (by decide) ?_
        subst hf
        exact ct_iret G (bI_nar true) hP hD hS dX1_isBlank_29
      · have hf := (if_neg c3).symm.trans hf
        refine lv_iload_n hx hb dX1_isBlank_18 rfl (lv_at hl 0 rfl) ?_
        refine lv_bipush (v := (32 : Int32)) hx hb dX1_isBlank_19 (by decide) ?_
        refine lv_icmp_ne (tgt := 28) hx hb dX1_isBlank_21 (by decide) (fun c4 => ?_) (fun c4 => ?_)
        · have hf := (if_neg c4).symm.trans hf
          refine lv_iconst (v := (0 : Int32)) hx hb dX1_isBlank_28 (by decide) ?_
          subst hf
          exact ct_iret G (bI_nar false) hP hD hS dX1_isBlank_29
        · have hf := (if_pos c4).symm.trans hf
          refine lv_iconst (v := (1 : Int32)) hx hb dX1_isBlank_24 (by decide) ?_
          refine lv_goto (tgt := 29) hx hb dX1_isBlank_25 (by decide) ?_
          subst hf
          exact ct_iret G (bI_nar true) hP hD hS dX1_isBlank_29
set_option maxHeartbeats 4000000 in
set_option maxRecDepth 100000 in
theorem c_eX1_isBlank {l : Launch} {D : va_G} {aK aV : Nat → Nat} {cB cI cJ : ClassId}  (p0 : Int32) : CT l D (gTy cB cI cJ) aK aV yX1_isBlank (wM yX1_isBlank cX1_isBlank 1 (some .boolean)) (rm_eX1_isBlank) 0 0 [.int p0] [] (some (.int (bI (eX1_isBlank p0)))) [] := by
  refine CT.of (by decide) rfl ?_
  intro p e s m below meth c A G hnm hP hD hS
  have hl := lv_entry [.int p0] (n := 1) (Nat.le_of_ble_eq_true rfl)
  rw [lg_entry_eq]
  generalize (lg_sl [.int p0] ++ List.replicate (1 - (lg_sl [.int p0]).length) Slot.unset).toArray = ls at hl ⊢
  exact eX1_isBlank_t0e G hl hP hD hS rfl
def eX1_isDigit (p0 : Int32) : Bool := (if p0 < (48 : Int32) then false else (if (57 : Int32) < p0 then false else true))
abbrev rm_eX1_isDigit : Room := { frames := 0, cells := 0, slots := 0, locals := 0 }
set_option maxHeartbeats 4000000 in
set_option maxRecDepth 100000 in
theorem eX1_isDigit_t0e {p : Program} {l : Launch} {e : Env} {s : State} {m : MethodId} {args : Array Value} {below : List Frame} {meth : Method} {c : Code} {D : va_G} {aK aV : Nat → Nat} {A : Nat → Prop} {cB cI cJ : ClassId}  {H : Heap} {locs : List Loc} {ls : Array Slot} {ρ : Bool} {p0 : Int32} (G : CX p s m args meth c D (gTy cB cI cJ) aK aV A RX1 cX1_isDigit 1 (some .boolean)) (hl : lv_has ls 1 [(0, .int p0)]) (hP : va_P D vwCl ([]) H) (hD : va_D A ([])) (hS : va_S A s.heap H locs) (hf : eX1_isDigit p0 = ρ) : W p l e (rm_eX1_isDigit) s m args below meth c H locs 0 0 (MQ below (cQ D (gTy cB cI cJ) A ([]) (some (.int (bI ρ)))) args s 0 0 A) (F0 m 0 ls []) := by
  unfold eX1_isDigit at hf
  obtain ⟨hx, hb, hml, hown, hT, hrt, hlk, hK, hA, hG, hE⟩ := id G
  refine lv_iload_n hx hb dX1_isDigit_0 rfl (lv_at hl 0 rfl) ?_
  refine lv_bipush (v := (48 : Int32)) hx hb dX1_isDigit_1 (by decide) ?_
  refine lv_icmp_lt (tgt := 16) hx hb dX1_isDigit_3 (by decide) (fun c1 => ?_) (fun c1 => ?_)
  · have hf := (if_pos c1).symm.trans hf
    refine lv_iconst (v := (0 : Int32)) hx hb dX1_isDigit_16 (by decide) ?_
    subst hf
    exact ct_iret G (bI_nar false) hP hD hS dX1_isDigit_17
  · have hf := (if_neg c1).symm.trans hf
    refine lv_iload_n hx hb dX1_isDigit_6 rfl (lv_at hl 0 rfl) ?_
    refine lv_bipush (v := (57 : Int32)) hx hb dX1_isDigit_7 (by decide) ?_
    refine lv_icmp_gt (tgt := 16) hx hb dX1_isDigit_9 (by decide) (fun c2 => ?_) (fun c2 => ?_)
    · have hf := (if_pos c2).symm.trans hf
      refine lv_iconst (v := (0 : Int32)) hx hb dX1_isDigit_16 (by decide) ?_
      subst hf
      exact ct_iret G (bI_nar false) hP hD hS dX1_isDigit_17
    · have hf := (if_neg c2).symm.trans hf
      refine lv_iconst (v := (1 : Int32)) hx hb dX1_isDigit_12 (by decide) ?_
      refine lv_goto (tgt := 17) hx hb dX1_isDigit_13 (by decide) ?_
      subst hf
      exact ct_iret G (bI_nar true) hP hD hS dX1_isDigit_17
set_option maxHeartbeats 4000000 in
set_option maxRecDepth 100000 in
theorem c_eX1_isDigit {l : Launch} {D : va_G} {aK aV : Nat → Nat} {cB cI cJ : ClassId}  (p0 : Int32) : CT l D (gTy cB cI cJ) aK aV yX1_isDigit (wM yX1_isDigit cX1_isDigit 1 (some .boolean)) (rm_eX1_isDigit) 0 0 [.int p0] [] (some (.int (bI (eX1_isDigit p0)))) [] := by
  refine CT.of (by decide) rfl ?_
  intro p e s m below meth c A G hnm hP hD hS
  have hl := lv_entry [.int p0] (n := 1) (Nat.le_of_ble_eq_true rfl)
  rw [lg_entry_eq]
  generalize (lg_sl [.int p0] ++ List.replicate (1 - (lg_sl [.int p0]).length) Slot.unset).toArray = ls at hl ⊢
  exact eX1_isDigit_t0e G hl hP hD hS rfl
def eX1_hexValue_b37 (a0 : Int32) : Int32 := (if a0 < (65 : Int32) then (-1 : Int32) else (if (70 : Int32) < a0 then (-1 : Int32) else ((a0 - (65 : Int32)) + (10 : Int32))))
def eX1_hexValue_b17 (a0 : Int32) : Int32 := (if a0 < (97 : Int32) then eX1_hexValue_b37 a0 else (if (102 : Int32) < a0 then eX1_hexValue_b37 a0 else ((a0 - (97 : Int32)) + (10 : Int32))))
def eX1_hexValue (p0 : Int32) : Int32 := (if p0 < (48 : Int32) then eX1_hexValue_b17 p0 else (if (57 : Int32) < p0 then eX1_hexValue_b17 p0 else (p0 - (48 : Int32))))
abbrev rm_eX1_hexValue : Room := { frames := 0, cells := 0, slots := 0, locals := 0 }
set_option maxHeartbeats 4000000 in
set_option maxRecDepth 100000 in
theorem eX1_hexValue_t37 {p : Program} {l : Launch} {e : Env} {s : State} {m : MethodId} {args : Array Value} {below : List Frame} {meth : Method} {c : Code} {D : va_G} {aK aV : Nat → Nat} {A : Nat → Prop} {cB cI cJ : ClassId}  {H : Heap} {locs : List Loc} {ls : Array Slot} {ρ : Int32} {a0 : Int32} (G : CX p s m args meth c D (gTy cB cI cJ) aK aV A RX1 cX1_hexValue 1 (some .int)) (hl : lv_has ls 1 [(0, .int a0)]) (hP : va_P D vwCl ([]) H) (hD : va_D A ([])) (hS : va_S A s.heap H locs) (hf : eX1_hexValue_b37 a0 = ρ) : W p l e (rm_eX1_hexValue) s m args below meth c H locs 0 0 (MQ below (cQ D (gTy cB cI cJ) A ([]) (some (.int ρ))) args s 0 0 A) (F0 m 37 ls []) := by
  unfold eX1_hexValue_b37 at hf
  obtain ⟨hx, hb, hml, hown, hT, hrt, hlk, hK, hA, hG, hE⟩ := id G
  refine lv_iload_n hx hb dX1_hexValue_37 rfl (lv_at hl 0 rfl) ?_
  refine lv_bipush (v := (65 : Int32)) hx hb dX1_hexValue_38 (by decide) ?_
  refine lv_icmp_lt (tgt := 59) hx hb dX1_hexValue_40 (by decide) (fun c5 => ?_) (fun c5 => ?_)
  · have hf := (if_pos c5).symm.trans hf
    refine lv_iconst (v := (-1 : Int32)) hx hb dX1_hexValue_59 (by decide) ?_
    subst hf
    exact ct_iret G rfl hP hD hS dX1_hexValue_60
  · have hf := (if_neg c5).symm.trans hf
    refine lv_iload_n hx hb dX1_hexValue_43 rfl (lv_at hl 0 rfl) ?_
    refine lv_bipush (v := (70 : Int32)) hx hb dX1_hexValue_44 (by decide) ?_
    refine lv_icmp_gt (tgt := 59) hx hb dX1_hexValue_46 (by decide) (fun c6 => ?_) (fun c6 => ?_)
    · have hf := (if_pos c6).symm.trans hf
      refine lv_iconst (v := (-1 : Int32)) hx hb dX1_hexValue_59 (by decide) ?_
      subst hf
      exact ct_iret G rfl hP hD hS dX1_hexValue_60
    · have hf := (if_neg c6).symm.trans hf
      refine lv_iload_n hx hb dX1_hexValue_49 rfl (lv_at hl 0 rfl) ?_
      refine lv_bipush (v := (65 : Int32)) hx hb dX1_hexValue_50 (by decide) ?_
      refine lv_isub hx hb dX1_hexValue_52 ?_
      refine lv_bipush (v := (10 : Int32)) hx hb dX1_hexValue_53 (by decide) ?_
      refine lv_iadd hx hb dX1_hexValue_55 ?_
      refine lv_goto (tgt := 60) hx hb dX1_hexValue_56 (by decide) ?_
      subst hf
      exact ct_iret G rfl hP hD hS dX1_hexValue_60
set_option maxHeartbeats 4000000 in
set_option maxRecDepth 100000 in
theorem eX1_hexValue_t17 {p : Program} {l : Launch} {e : Env} {s : State} {m : MethodId} {args : Array Value} {below : List Frame} {meth : Method} {c : Code} {D : va_G} {aK aV : Nat → Nat} {A : Nat → Prop} {cB cI cJ : ClassId}  {H : Heap} {locs : List Loc} {ls : Array Slot} {ρ : Int32} {a0 : Int32} (G : CX p s m args meth c D (gTy cB cI cJ) aK aV A RX1 cX1_hexValue 1 (some .int)) (hl : lv_has ls 1 [(0, .int a0)]) (hP : va_P D vwCl ([]) H) (hD : va_D A ([])) (hS : va_S A s.heap H locs) (hf : eX1_hexValue_b17 a0 = ρ) : W p l e (rm_eX1_hexValue) s m args below meth c H locs 0 0 (MQ below (cQ D (gTy cB cI cJ) A ([]) (some (.int ρ))) args s 0 0 A) (F0 m 17 ls []) := by
  unfold eX1_hexValue_b17 at hf
  obtain ⟨hx, hb, hml, hown, hT, hrt, hlk, hK, hA, hG, hE⟩ := id G
  refine lv_iload_n hx hb dX1_hexValue_17 rfl (lv_at hl 0 rfl) ?_
  refine lv_bipush (v := (97 : Int32)) hx hb dX1_hexValue_18 (by decide) ?_
  refine lv_icmp_lt (tgt := 37) hx hb dX1_hexValue_20 (by decide) (fun c3 => ?_) (fun c3 => ?_)
  · have hf := (if_pos c3).symm.trans hf
    exact W.eq (g2 := F0 m 37 ls []) rfl (eX1_hexValue_t37 G (lv_sub hl [0] rfl) hP hD hS hf)
  · have hf := (if_neg c3).symm.trans hf
    refine lv_iload_n hx hb dX1_hexValue_23 rfl (lv_at hl 0 rfl) ?_
    refine lv_bipush (v := (102 : Int32)) hx hb dX1_hexValue_24 (by decide) ?_
    refine lv_icmp_gt (tgt := 37) hx hb dX1_hexValue_26 (by decide) (fun c4 => ?_) (fun c4 => ?_)
    · have hf := (if_pos c4).symm.trans hf
      exact W.eq (g2 := F0 m 37 ls []) rfl (eX1_hexValue_t37 G (lv_sub hl [0] rfl) hP hD hS hf)
    · have hf := (if_neg c4).symm.trans hf
      refine lv_iload_n hx hb dX1_hexValue_29 rfl (lv_at hl 0 rfl) ?_
      refine lv_bipush (v := (97 : Int32)) hx hb dX1_hexValue_30 (by decide) ?_
      refine lv_isub hx hb dX1_hexValue_32 ?_
      refine lv_bipush (v := (10 : Int32)) hx hb dX1_hexValue_33 (by decide) ?_
      refine lv_iadd hx hb dX1_hexValue_35 ?_
      subst hf
      exact ct_iret G rfl hP hD hS dX1_hexValue_36
set_option maxHeartbeats 4000000 in
set_option maxRecDepth 100000 in
theorem eX1_hexValue_t0e {p : Program} {l : Launch} {e : Env} {s : State} {m : MethodId} {args : Array Value} {below : List Frame} {meth : Method} {c : Code} {D : va_G} {aK aV : Nat → Nat} {A : Nat → Prop} {cB cI cJ : ClassId}  {H : Heap} {locs : List Loc} {ls : Array Slot} {ρ : Int32} {p0 : Int32} (G : CX p s m args meth c D (gTy cB cI cJ) aK aV A RX1 cX1_hexValue 1 (some .int)) (hl : lv_has ls 1 [(0, .int p0)]) (hP : va_P D vwCl ([]) H) (hD : va_D A ([])) (hS : va_S A s.heap H locs) (hf : eX1_hexValue p0 = ρ) : W p l e (rm_eX1_hexValue) s m args below meth c H locs 0 0 (MQ below (cQ D (gTy cB cI cJ) A ([]) (some (.int ρ))) args s 0 0 A) (F0 m 0 ls []) := by
  unfold eX1_hexValue at hf
  obtain ⟨hx, hb, hml, hown, hT, hrt, hlk, hK, hA, hG, hE⟩ := id G
  refine lv_iload_n hx hb dX1_hexValue_0 rfl (lv_at hl 0 rfl) ?_
  refine lv_bipush (v := (48 : Int32)) hx hb dX1_hexValue_1 (by decide) ?_
  refine lv_icmp_lt (tgt := 17) hx hb dX1_hexValue_3 (by decide) (fun c1 => ?_) (fun c1 => ?_)
  · have hf := (if_pos c1).symm.trans hf
    exact W.eq (g2 := F0 m 17 ls []) rfl (eX1_hexValue_t17 G (lv_sub hl [0] rfl) hP hD hS hf)
  · have hf := (if_neg c1).symm.trans hf
    refine lv_iload_n hx hb dX1_hexValue_6 rfl (lv_at hl 0 rfl) ?_
    refine lv_bipush (v := (57 : Int32)) hx hb dX1_hexValue_7 (by decide) ?_
    refine lv_icmp_gt (tgt := 17) hx hb dX1_hexValue_9 (by decide) (fun c2 => ?_) (fun c2 => ?_)
    · have hf := (if_pos c2).symm.trans hf
      exact W.eq (g2 := F0 m 17 ls []) rfl (eX1_hexValue_t17 G (lv_sub hl [0] rfl) hP hD hS hf)
    · have hf := (if_neg c2).symm.trans hf
      refine lv_iload_n hx hb dX1_hexValue_12 rfl (lv_at hl 0 rfl) ?_
      refine lv_bipush (v := (48 : Int32)) hx hb dX1_hexValue_13 (by decide) ?_
      refine lv_isub hx hb dX1_hexValue_15 ?_
      subst hf
      exact ct_iret G rfl hP hD hS dX1_hexValue_16
set_option maxHeartbeats 4000000 in
set_option maxRecDepth 100000 in
theorem c_eX1_hexValue {l : Launch} {D : va_G} {aK aV : Nat → Nat} {cB cI cJ : ClassId}  (p0 : Int32) : CT l D (gTy cB cI cJ) aK aV yX1_hexValue (wM yX1_hexValue cX1_hexValue 1 (some .int)) (rm_eX1_hexValue) 0 0 [.int p0] [] (some (.int (eX1_hexValue p0))) [] := by
  refine CT.of (by decide) rfl ?_
  intro p e s m below meth c A G hnm hP hD hS
  have hl := lv_entry [.int p0] (n := 1) (Nat.le_of_ble_eq_true rfl)
  rw [lg_entry_eq]
  generalize (lg_sl [.int p0] ++ List.replicate (1 - (lg_sl [.int p0]).length) Slot.unset).toArray = ls at hl ⊢
  exact eX1_hexValue_t0e G hl hP hD hS rfl
def eX1_isFirstHalf (p0 : Int32) : Bool := (if p0 < (55296 : Int32) then false else (if (56319 : Int32) < p0 then false else true))
abbrev rm_eX1_isFirstHalf : Room := { frames := 0, cells := 0, slots := 0, locals := 0 }
set_option maxHeartbeats 4000000 in
set_option maxRecDepth 100000 in
theorem eX1_isFirstHalf_t0e {p : Program} {l : Launch} {e : Env} {s : State} {m : MethodId} {args : Array Value} {below : List Frame} {meth : Method} {c : Code} {D : va_G} {aK aV : Nat → Nat} {A : Nat → Prop} {cB cI cJ : ClassId}  {H : Heap} {locs : List Loc} {ls : Array Slot} {ρ : Bool} {p0 : Int32} (G : CX p s m args meth c D (gTy cB cI cJ) aK aV A RX1 cX1_isFirstHalf 1 (some .boolean)) (hl : lv_has ls 1 [(0, .int p0)]) (hP : va_P D vwCl ([]) H) (hD : va_D A ([])) (hS : va_S A s.heap H locs) (hf : eX1_isFirstHalf p0 = ρ) : W p l e (rm_eX1_isFirstHalf) s m args below meth c H locs 0 0 (MQ below (cQ D (gTy cB cI cJ) A ([]) (some (.int (bI ρ)))) args s 0 0 A) (F0 m 0 ls []) := by
  unfold eX1_isFirstHalf at hf
  obtain ⟨hx, hb, hml, hown, hT, hrt, hlk, hK, hA, hG, hE⟩ := id G
  refine lv_iload_n hx hb dX1_isFirstHalf_0 rfl (lv_at hl 0 rfl) ?_
  refine lv_ldc (v := (55296 : Int32)) hx hb hown (hT _ wc_X1_136) dX1_isFirstHalf_1 ?_
  refine lv_icmp_lt (tgt := 16) hx hb dX1_isFirstHalf_3 (by decide) (fun c1 => ?_) (fun c1 => ?_)
  · have hf := (if_pos c1).symm.trans hf
    refine lv_iconst (v := (0 : Int32)) hx hb dX1_isFirstHalf_16 (by decide) ?_
    subst hf
    exact ct_iret G (bI_nar false) hP hD hS dX1_isFirstHalf_17
  · have hf := (if_neg c1).symm.trans hf
    refine lv_iload_n hx hb dX1_isFirstHalf_6 rfl (lv_at hl 0 rfl) ?_
    refine lv_ldc (v := (56319 : Int32)) hx hb hown (hT _ wc_X1_160) dX1_isFirstHalf_7 ?_
    refine lv_icmp_gt (tgt := 16) hx hb dX1_isFirstHalf_9 (by decide) (fun c2 => ?_) (fun c2 => ?_)
    · have hf := (if_pos c2).symm.trans hf
      refine lv_iconst (v := (0 : Int32)) hx hb dX1_isFirstHalf_16 (by decide) ?_
      subst hf
      exact ct_iret G (bI_nar false) hP hD hS dX1_isFirstHalf_17
    · have hf := (if_neg c2).symm.trans hf
      refine lv_iconst (v := (1 : Int32)) hx hb dX1_isFirstHalf_12 (by decide) ?_
      refine lv_goto (tgt := 17) hx hb dX1_isFirstHalf_13 (by decide) ?_
      subst hf
      exact ct_iret G (bI_nar true) hP hD hS dX1_isFirstHalf_17
set_option maxHeartbeats 4000000 in
set_option maxRecDepth 100000 in
theorem c_eX1_isFirstHalf {l : Launch} {D : va_G} {aK aV : Nat → Nat} {cB cI cJ : ClassId}  (p0 : Int32) : CT l D (gTy cB cI cJ) aK aV yX1_isFirstHalf (wM yX1_isFirstHalf cX1_isFirstHalf 1 (some .boolean)) (rm_eX1_isFirstHalf) 0 0 [.int p0] [] (some (.int (bI (eX1_isFirstHalf p0)))) [] := by
  refine CT.of (by decide) rfl ?_
  intro p e s m below meth c A G hnm hP hD hS
  have hl := lv_entry [.int p0] (n := 1) (Nat.le_of_ble_eq_true rfl)
  rw [lg_entry_eq]
  generalize (lg_sl [.int p0] ++ List.replicate (1 - (lg_sl [.int p0]).length) Slot.unset).toArray = ls at hl ⊢
  exact eX1_isFirstHalf_t0e G hl hP hD hS rfl
def eX1_isSecondHalf (p0 : Int32) : Bool := (if p0 < (56320 : Int32) then false else (if (57343 : Int32) < p0 then false else true))
abbrev rm_eX1_isSecondHalf : Room := { frames := 0, cells := 0, slots := 0, locals := 0 }
set_option maxHeartbeats 4000000 in
set_option maxRecDepth 100000 in
theorem eX1_isSecondHalf_t0e {p : Program} {l : Launch} {e : Env} {s : State} {m : MethodId} {args : Array Value} {below : List Frame} {meth : Method} {c : Code} {D : va_G} {aK aV : Nat → Nat} {A : Nat → Prop} {cB cI cJ : ClassId}  {H : Heap} {locs : List Loc} {ls : Array Slot} {ρ : Bool} {p0 : Int32} (G : CX p s m args meth c D (gTy cB cI cJ) aK aV A RX1 cX1_isSecondHalf 1 (some .boolean)) (hl : lv_has ls 1 [(0, .int p0)]) (hP : va_P D vwCl ([]) H) (hD : va_D A ([])) (hS : va_S A s.heap H locs) (hf : eX1_isSecondHalf p0 = ρ) : W p l e (rm_eX1_isSecondHalf) s m args below meth c H locs 0 0 (MQ below (cQ D (gTy cB cI cJ) A ([]) (some (.int (bI ρ)))) args s 0 0 A) (F0 m 0 ls []) := by
  unfold eX1_isSecondHalf at hf
  obtain ⟨hx, hb, hml, hown, hT, hrt, hlk, hK, hA, hG, hE⟩ := id G
  refine lv_iload_n hx hb dX1_isSecondHalf_0 rfl (lv_at hl 0 rfl) ?_
  refine lv_ldc (v := (56320 : Int32)) hx hb hown (hT _ wc_X1_137) dX1_isSecondHalf_1 ?_
  refine lv_icmp_lt (tgt := 16) hx hb dX1_isSecondHalf_3 (by decide) (fun c1 => ?_) (fun c1 => ?_)
  · have hf := (if_pos c1).symm.trans hf
    refine lv_iconst (v := (0 : Int32)) hx hb dX1_isSecondHalf_16 (by decide) ?_
    subst hf
    exact ct_iret G (bI_nar false) hP hD hS dX1_isSecondHalf_17
  · have hf := (if_neg c1).symm.trans hf
    refine lv_iload_n hx hb dX1_isSecondHalf_6 rfl (lv_at hl 0 rfl) ?_
    refine lv_ldc (v := (57343 : Int32)) hx hb hown (hT _ wc_X1_161) dX1_isSecondHalf_7 ?_
    refine lv_icmp_gt (tgt := 16) hx hb dX1_isSecondHalf_9 (by decide) (fun c2 => ?_) (fun c2 => ?_)
    · have hf := (if_pos c2).symm.trans hf
      refine lv_iconst (v := (0 : Int32)) hx hb dX1_isSecondHalf_16 (by decide) ?_
      subst hf
      exact ct_iret G (bI_nar false) hP hD hS dX1_isSecondHalf_17
    · have hf := (if_neg c2).symm.trans hf
      refine lv_iconst (v := (1 : Int32)) hx hb dX1_isSecondHalf_12 (by decide) ?_
      refine lv_goto (tgt := 17) hx hb dX1_isSecondHalf_13 (by decide) ?_
      subst hf
      exact ct_iret G (bI_nar true) hP hD hS dX1_isSecondHalf_17
set_option maxHeartbeats 4000000 in
set_option maxRecDepth 100000 in
theorem c_eX1_isSecondHalf {l : Launch} {D : va_G} {aK aV : Nat → Nat} {cB cI cJ : ClassId}  (p0 : Int32) : CT l D (gTy cB cI cJ) aK aV yX1_isSecondHalf (wM yX1_isSecondHalf cX1_isSecondHalf 1 (some .boolean)) (rm_eX1_isSecondHalf) 0 0 [.int p0] [] (some (.int (bI (eX1_isSecondHalf p0)))) [] := by
  refine CT.of (by decide) rfl ?_
  intro p e s m below meth c A G hnm hP hD hS
  have hl := lv_entry [.int p0] (n := 1) (Nat.le_of_ble_eq_true rfl)
  rw [lg_entry_eq]
  generalize (lg_sl [.int p0] ++ List.replicate (1 - (lg_sl [.int p0]).length) Slot.unset).toArray = ls at hl ⊢
  exact eX1_isSecondHalf_t0e G hl hP hD hS rfl
def eX0_isWithin (p0 : Int64) (p1 : Int32) : Bool := (if p0 < (0 : Int64) then false else (if (Int32.toInt64 p1) < p0 then false else true))
abbrev rm_eX0_isWithin : Room := { frames := 0, cells := 0, slots := 0, locals := 0 }
set_option maxHeartbeats 4000000 in
set_option maxRecDepth 100000 in
theorem eX0_isWithin_t0e {p : Program} {l : Launch} {e : Env} {s : State} {m : MethodId} {args : Array Value} {below : List Frame} {meth : Method} {c : Code} {D : va_G} {aK aV : Nat → Nat} {A : Nat → Prop} {cB cI cJ : ClassId}  {H : Heap} {locs : List Loc} {ls : Array Slot} {ρ : Bool} {p0 : Int64} {p1 : Int32} (G : CX p s m args meth c D (gTy cB cI cJ) aK aV A RX0 cX0_isWithin 3 (some .boolean)) (hl : lv_has ls 3 [(0, .long p0), (2, .int p1)]) (hP : va_P D vwCl ([]) H) (hD : va_D A ([])) (hS : va_S A s.heap H locs) (hf : eX0_isWithin p0 p1 = ρ) : W p l e (rm_eX0_isWithin) s m args below meth c H locs 0 0 (MQ below (cQ D (gTy cB cI cJ) A ([]) (some (.int (bI ρ)))) args s 0 0 A) (F0 m 0 ls []) := by
  unfold eX0_isWithin at hf
  obtain ⟨hx, hb, hml, hown, hT, hrt, hlk, hK, hA, hG, hE⟩ := id G
  refine lv_lload_n hx hb dX0_isWithin_0 rfl (lv_at hl 0 rfl) ?_
  refine lv_lconst (v := (0 : Int64)) hx hb dX0_isWithin_1 (by decide) ?_
  refine W.lcmp hx hb dX0_isWithin_2 ?_
  refine lv_if_lt (tgt := 17) hx hb dX0_isWithin_3 (by decide) (fun c1 => ?_) (fun c1 => ?_)
  · have hf := (if_pos ((lg_cmp_lt _ _).mp c1)).symm.trans hf
    refine lv_iconst (v := (0 : Int32)) hx hb dX0_isWithin_17 (by decide) ?_
    subst hf
    exact ct_iret G (bI_nar false) hP hD hS dX0_isWithin_18
  · have hf := (if_neg (fun z => c1 ((lg_cmp_lt _ _).mpr z))).symm.trans hf
    refine lv_lload_n hx hb dX0_isWithin_6 rfl (lv_at hl 0 rfl) ?_
    refine lv_iload_n hx hb dX0_isWithin_7 rfl (lv_at hl 1 rfl) ?_
    refine lv_i2l (v := (Int32.toInt64 p1)) hx hb dX0_isWithin_8 rfl ?_
    refine W.lcmp hx hb dX0_isWithin_9 ?_
    refine lv_if_gt (tgt := 17) hx hb dX0_isWithin_10 (by decide) (fun c2 => ?_) (fun c2 => ?_)
    · have hf := (if_pos ((lg_cmp_gt _ _).mp c2)).symm.trans hf
      refine lv_iconst (v := (0 : Int32)) hx hb dX0_isWithin_17 (by decide) ?_
      subst hf
      exact ct_iret G (bI_nar false) hP hD hS dX0_isWithin_18
    · have hf := (if_neg (fun z => c2 ((lg_cmp_gt _ _).mpr z))).symm.trans hf
      refine lv_iconst (v := (1 : Int32)) hx hb dX0_isWithin_13 (by decide) ?_
      refine lv_goto (tgt := 18) hx hb dX0_isWithin_14 (by decide) ?_
      subst hf
      exact ct_iret G (bI_nar true) hP hD hS dX0_isWithin_18
set_option maxHeartbeats 4000000 in
set_option maxRecDepth 100000 in
theorem c_eX0_isWithin {l : Launch} {D : va_G} {aK aV : Nat → Nat} {cB cI cJ : ClassId}  (p0 : Int64) (p1 : Int32) : CT l D (gTy cB cI cJ) aK aV yX0_isWithin (wM yX0_isWithin cX0_isWithin 3 (some .boolean)) (rm_eX0_isWithin) 0 0 [.long p0, .int p1] [] (some (.int (bI (eX0_isWithin p0 p1)))) [] := by
  refine CT.of (by decide) rfl ?_
  intro p e s m below meth c A G hnm hP hD hS
  have hl := lv_entry [.long p0, .int p1] (n := 3) (Nat.le_of_ble_eq_true rfl)
  rw [lg_entry_eq]
  generalize (lg_sl [.long p0, .int p1] ++ List.replicate (3 - (lg_sl [.long p0, .int p1]).length) Slot.unset).toArray = ls at hl ⊢
  exact eX0_isWithin_t0e G hl hP hD hS rfl
def eX0_tenthOf (p0 : Int64) : Int64 := (((Int64.toUInt64 p0 >>> ((Int32.toInt64 (1 : Int32)).toUInt64 &&& Int64.toUInt64 63)).toInt64) / (5 : Int64))
abbrev rm_eX0_tenthOf : Room := { frames := 0, cells := 0, slots := 0, locals := 0 }
set_option maxHeartbeats 4000000 in
set_option maxRecDepth 100000 in
theorem eX0_tenthOf_t0e {p : Program} {l : Launch} {e : Env} {s : State} {m : MethodId} {args : Array Value} {below : List Frame} {meth : Method} {c : Code} {D : va_G} {aK aV : Nat → Nat} {A : Nat → Prop} {cB cI cJ : ClassId}  {H : Heap} {locs : List Loc} {ls : Array Slot} {ρ : Int64} {p0 : Int64} (G : CX p s m args meth c D (gTy cB cI cJ) aK aV A RX0 cX0_tenthOf 2 (some .long)) (hl : lv_has ls 2 [(0, .long p0)]) (hP : va_P D vwCl ([]) H) (hD : va_D A ([])) (hS : va_S A s.heap H locs) (hf : eX0_tenthOf p0 = ρ) : W p l e (rm_eX0_tenthOf) s m args below meth c H locs 0 0 (MQ below (cQ D (gTy cB cI cJ) A ([]) (some (.long ρ))) args s 0 0 A) (F0 m 0 ls []) := by
  unfold eX0_tenthOf at hf
  obtain ⟨hx, hb, hml, hown, hT, hrt, hlk, hK, hA, hG, hE⟩ := id G
  refine lv_lload_n hx hb dX0_tenthOf_0 rfl (lv_at hl 0 rfl) ?_
  refine lv_iconst (v := (1 : Int32)) hx hb dX0_tenthOf_1 (by decide) ?_
  refine lv_lushr (v := ((Int64.toUInt64 p0 >>> ((Int32.toInt64 (1 : Int32)).toUInt64 &&& Int64.toUInt64 63)).toInt64)) hx hb dX0_tenthOf_2 rfl ?_
  refine lv_ldc2 (v := (5 : Int64)) hx hb hown (hT _ wc_X0_139) dX0_tenthOf_3 ?_
  refine lv_ldiv hx hb dX0_tenthOf_6 (by decide) ?_
  subst hf
  exact ct_lret G hP hD hS dX0_tenthOf_7
set_option maxHeartbeats 4000000 in
set_option maxRecDepth 100000 in
theorem c_eX0_tenthOf {l : Launch} {D : va_G} {aK aV : Nat → Nat} {cB cI cJ : ClassId}  (p0 : Int64) : CT l D (gTy cB cI cJ) aK aV yX0_tenthOf (wM yX0_tenthOf cX0_tenthOf 2 (some .long)) (rm_eX0_tenthOf) 0 0 [.long p0] [] (some (.long (eX0_tenthOf p0))) [] := by
  refine CT.of (by decide) rfl ?_
  intro p e s m below meth c A G hnm hP hD hS
  have hl := lv_entry [.long p0] (n := 2) (Nat.le_of_ble_eq_true rfl)
  rw [lg_entry_eq]
  generalize (lg_sl [.long p0] ++ List.replicate (2 - (lg_sl [.long p0]).length) Slot.unset).toArray = ls at hl ⊢
  exact eX0_tenthOf_t0e G hl hP hD hS rfl
def eX1_signOf (p0 : Int32) : Int32 := (if p0 = (34 : Int32) then p0 else (if p0 = (47 : Int32) then p0 else (if p0 = (92 : Int32) then p0 else (if p0 = (98 : Int32) then (8 : Int32) else (if p0 = (102 : Int32) then (12 : Int32) else (if p0 = (110 : Int32) then (10 : Int32) else (if p0 = (114 : Int32) then (13 : Int32) else (if p0 = (116 : Int32) then (9 : Int32) else (-1 : Int32)))))))))
abbrev rm_eX1_signOf : Room := { frames := 0, cells := 0, slots := 0, locals := 0 }
set_option maxHeartbeats 4000000 in
set_option maxRecDepth 100000 in
theorem eX1_signOf_t0e {p : Program} {l : Launch} {e : Env} {s : State} {m : MethodId} {args : Array Value} {below : List Frame} {meth : Method} {c : Code} {D : va_G} {aK aV : Nat → Nat} {A : Nat → Prop} {cB cI cJ : ClassId}  {H : Heap} {locs : List Loc} {ls : Array Slot} {ρ : Int32} {p0 : Int32} (G : CX p s m args meth c D (gTy cB cI cJ) aK aV A RX1 cX1_signOf 1 (some .int)) (hl : lv_has ls 1 [(0, .int p0)]) (hP : va_P D vwCl ([]) H) (hD : va_D A ([])) (hS : va_S A s.heap H locs) (hf : eX1_signOf p0 = ρ) : W p l e (rm_eX1_signOf) s m args below meth c H locs 0 0 (MQ below (cQ D (gTy cB cI cJ) A ([]) (some (.int ρ))) args s 0 0 A) (F0 m 0 ls []) := by
  unfold eX1_signOf at hf
  obtain ⟨hx, hb, hml, hown, hT, hrt, hlk, hK, hA, hG, hE⟩ := id G
  refine lv_iload_n hx hb dX1_signOf_0 rfl (lv_at hl 0 rfl) ?_
  by_cases c1 : p0 = (34 : Int32)
  · have hf := (if_pos c1).symm.trans hf
    refine lv_lookup (off := 75) (tgt := 76) hx hb dX1_signOf_1 (by decide) (by rw [c1]; rfl) (by decide) ?_
    refine lv_iload_n hx hb dX1_signOf_76 rfl (lv_at hl 0 rfl) ?_
    subst hf
    exact ct_iret G rfl hP hD hS dX1_signOf_77
  · have hf := (if_neg c1).symm.trans hf
    by_cases c2 : p0 = (47 : Int32)
    · have hf := (if_pos c2).symm.trans hf
      refine lv_lookup (off := 75) (tgt := 76) hx hb dX1_signOf_1 (by decide) (by rw [c2]; rfl) (by decide) ?_
      refine lv_iload_n hx hb dX1_signOf_76 rfl (lv_at hl 0 rfl) ?_
      subst hf
      exact ct_iret G rfl hP hD hS dX1_signOf_77
    · have hf := (if_neg c2).symm.trans hf
      by_cases c3 : p0 = (92 : Int32)
      · have hf := (if_pos c3).symm.trans hf
        refine lv_lookup (off := 75) (tgt := 76) hx hb dX1_signOf_1 (by decide) (by rw [c3]; rfl) (by decide) ?_
        refine lv_iload_n hx hb dX1_signOf_76 rfl (lv_at hl 0 rfl) ?_
        subst hf
        exact ct_iret G rfl hP hD hS dX1_signOf_77
      · have hf := (if_neg c3).symm.trans hf
        by_cases c4 : p0 = (98 : Int32)
        · have hf := (if_pos c4).symm.trans hf
          refine lv_lookup (off := 77) (tgt := 78) hx hb dX1_signOf_1 (by decide) (by rw [c4]; rfl) (by decide) ?_
          refine lv_bipush (v := (8 : Int32)) hx hb dX1_signOf_78 (by decide) ?_
          subst hf
          exact ct_iret G rfl hP hD hS dX1_signOf_80
        · have hf := (if_neg c4).symm.trans hf
          by_cases c5 : p0 = (102 : Int32)
          · have hf := (if_pos c5).symm.trans hf
            refine lv_lookup (off := 80) (tgt := 81) hx hb dX1_signOf_1 (by decide) (by rw [c5]; rfl) (by decide) ?_
            refine lv_bipush (v := (12 : Int32)) hx hb dX1_signOf_81 (by decide) ?_
            subst hf
            exact ct_iret G rfl hP hD hS dX1_signOf_83
          · have hf := (if_neg c5).symm.trans hf
            by_cases c6 : p0 = (110 : Int32)
            · have hf := (if_pos c6).symm.trans hf
              refine lv_lookup (off := 83) (tgt := 84) hx hb dX1_signOf_1 (by decide) (by rw [c6]; rfl) (by decide) ?_
              refine lv_bipush (v := (10 : Int32)) hx hb dX1_signOf_84 (by decide) ?_
              subst hf
              exact ct_iret G rfl hP hD hS dX1_signOf_86
            · have hf := (if_neg c6).symm.trans hf
              by_cases c7 : p0 = (114 : Int32)
              · have hf := (if_pos c7).symm.trans hf
                refine lv_lookup (off := 86) (tgt := 87) hx hb dX1_signOf_1 (by decide) (by rw [c7]; rfl) (by decide) ?_
                refine lv_bipush (v := (13 : Int32)) hx hb dX1_signOf_87 (by decide) ?_
                subst hf
                exact ct_iret G rfl hP hD hS dX1_signOf_89
              · have hf := (if_neg c7).symm.trans hf
                by_cases c8 : p0 = (116 : Int32)
                · have hf := (if_pos c8).symm.trans hf
                  refine lv_lookup (off := 89) (tgt := 90) hx hb dX1_signOf_1 (by decide) (by rw [c8]; rfl) (by decide) ?_
                  refine lv_bipush (v := (9 : Int32)) hx hb dX1_signOf_90 (by decide) ?_
                  subst hf
                  exact ct_iret G rfl hP hD hS dX1_signOf_92
                · have hf := (if_neg c8).symm.trans hf
                  refine lv_lookup (off := 92) (tgt := 93) hx hb dX1_signOf_1 (by decide) (sw_X1_signOf c1 c2 c3 c4 c5 c6 c7 c8) (by decide) ?_
                  refine lv_iconst (v := (-1 : Int32)) hx hb dX1_signOf_93 (by decide) ?_
                  subst hf
                  exact ct_iret G rfl hP hD hS dX1_signOf_94
set_option maxHeartbeats 4000000 in
set_option maxRecDepth 100000 in
theorem c_eX1_signOf {l : Launch} {D : va_G} {aK aV : Nat → Nat} {cB cI cJ : ClassId}  (p0 : Int32) : CT l D (gTy cB cI cJ) aK aV yX1_signOf (wM yX1_signOf cX1_signOf 1 (some .int)) (rm_eX1_signOf) 0 0 [.int p0] [] (some (.int (eX1_signOf p0))) [] := by
  refine CT.of (by decide) rfl ?_
  intro p e s m below meth c A G hnm hP hD hS
  have hl := lv_entry [.int p0] (n := 1) (Nat.le_of_ble_eq_true rfl)
  rw [lg_entry_eq]
  generalize (lg_sl [.int p0] ++ List.replicate (1 - (lg_sl [.int p0]).length) Slot.unset).toArray = ls at hl ⊢
  exact eX1_signOf_t0e G hl hP hD hS rfl
def eX0_letterOf (p0 : Int32) : Int32 := (if p0 = (8 : Int32) then (98 : Int32) else (if p0 = (9 : Int32) then (116 : Int32) else (if p0 = (10 : Int32) then (110 : Int32) else (if p0 = (12 : Int32) then (102 : Int32) else (if p0 = (13 : Int32) then (114 : Int32) else (if p0 = (34 : Int32) then p0 else (if p0 = (92 : Int32) then p0 else (-1 : Int32))))))))
abbrev rm_eX0_letterOf : Room := { frames := 0, cells := 0, slots := 0, locals := 0 }
set_option maxHeartbeats 4000000 in
set_option maxRecDepth 100000 in
theorem eX0_letterOf_t0e {p : Program} {l : Launch} {e : Env} {s : State} {m : MethodId} {args : Array Value} {below : List Frame} {meth : Method} {c : Code} {D : va_G} {aK aV : Nat → Nat} {A : Nat → Prop} {cB cI cJ : ClassId}  {H : Heap} {locs : List Loc} {ls : Array Slot} {ρ : Int32} {p0 : Int32} (G : CX p s m args meth c D (gTy cB cI cJ) aK aV A RX0 cX0_letterOf 1 (some .int)) (hl : lv_has ls 1 [(0, .int p0)]) (hP : va_P D vwCl ([]) H) (hD : va_D A ([])) (hS : va_S A s.heap H locs) (hf : eX0_letterOf p0 = ρ) : W p l e (rm_eX0_letterOf) s m args below meth c H locs 0 0 (MQ below (cQ D (gTy cB cI cJ) A ([]) (some (.int ρ))) args s 0 0 A) (F0 m 0 ls []) := by
  unfold eX0_letterOf at hf
  obtain ⟨hx, hb, hml, hown, hT, hrt, hlk, hK, hA, hG, hE⟩ := id G
  refine lv_iload_n hx hb dX0_letterOf_0 rfl (lv_at hl 0 rfl) ?_
  by_cases c1 : p0 = (8 : Int32)
  · have hf := (if_pos c1).symm.trans hf
    refine lv_lookup (off := 69) (tgt := 70) hx hb dX0_letterOf_1 (by decide) (by rw [c1]; rfl) (by decide) ?_
    refine lv_bipush (v := (98 : Int32)) hx hb dX0_letterOf_70 (by decide) ?_
    subst hf
    exact ct_iret G rfl hP hD hS dX0_letterOf_72
  · have hf := (if_neg c1).symm.trans hf
    by_cases c2 : p0 = (9 : Int32)
    · have hf := (if_pos c2).symm.trans hf
      refine lv_lookup (off := 72) (tgt := 73) hx hb dX0_letterOf_1 (by decide) (by rw [c2]; rfl) (by decide) ?_
      refine lv_bipush (v := (116 : Int32)) hx hb dX0_letterOf_73 (by decide) ?_
      subst hf
      exact ct_iret G rfl hP hD hS dX0_letterOf_75
    · have hf := (if_neg c2).symm.trans hf
      by_cases c3 : p0 = (10 : Int32)
      · have hf := (if_pos c3).symm.trans hf
        refine lv_lookup (off := 75) (tgt := 76) hx hb dX0_letterOf_1 (by decide) (by rw [c3]; rfl) (by decide) ?_
        refine lv_bipush (v := (110 : Int32)) hx hb dX0_letterOf_76 (by decide) ?_
        subst hf
        exact ct_iret G rfl hP hD hS dX0_letterOf_78
      · have hf := (if_neg c3).symm.trans hf
        by_cases c4 : p0 = (12 : Int32)
        · have hf := (if_pos c4).symm.trans hf
          refine lv_lookup (off := 78) (tgt := 79) hx hb dX0_letterOf_1 (by decide) (by rw [c4]; rfl) (by decide) ?_
          refine lv_bipush (v := (102 : Int32)) hx hb dX0_letterOf_79 (by decide) ?_
          subst hf
          exact ct_iret G rfl hP hD hS dX0_letterOf_81
        · have hf := (if_neg c4).symm.trans hf
          by_cases c5 : p0 = (13 : Int32)
          · have hf := (if_pos c5).symm.trans hf
            refine lv_lookup (off := 81) (tgt := 82) hx hb dX0_letterOf_1 (by decide) (by rw [c5]; rfl) (by decide) ?_
            refine lv_bipush (v := (114 : Int32)) hx hb dX0_letterOf_82 (by decide) ?_
            subst hf
            exact ct_iret G rfl hP hD hS dX0_letterOf_84
          · have hf := (if_neg c5).symm.trans hf
            by_cases c6 : p0 = (34 : Int32)
            · have hf := (if_pos c6).symm.trans hf
              refine lv_lookup (off := 67) (tgt := 68) hx hb dX0_letterOf_1 (by decide) (by rw [c6]; rfl) (by decide) ?_
              refine lv_iload_n hx hb dX0_letterOf_68 rfl (lv_at hl 0 rfl) ?_
              subst hf
              exact ct_iret G rfl hP hD hS dX0_letterOf_69
            · have hf := (if_neg c6).symm.trans hf
              by_cases c7 : p0 = (92 : Int32)
              · have hf := (if_pos c7).symm.trans hf
                refine lv_lookup (off := 67) (tgt := 68) hx hb dX0_letterOf_1 (by decide) (by rw [c7]; rfl) (by decide) ?_
                refine lv_iload_n hx hb dX0_letterOf_68 rfl (lv_at hl 0 rfl) ?_
                subst hf
                exact ct_iret G rfl hP hD hS dX0_letterOf_69
              · have hf := (if_neg c7).symm.trans hf
                refine lv_lookup (off := 84) (tgt := 85) hx hb dX0_letterOf_1 (by decide) (sw_X0_letterOf c1 c2 c3 c4 c5 c6 c7) (by decide) ?_
                refine lv_iconst (v := (-1 : Int32)) hx hb dX0_letterOf_85 (by decide) ?_
                subst hf
                exact ct_iret G rfl hP hD hS dX0_letterOf_86
set_option maxHeartbeats 4000000 in
set_option maxRecDepth 100000 in
theorem c_eX0_letterOf {l : Launch} {D : va_G} {aK aV : Nat → Nat} {cB cI cJ : ClassId}  (p0 : Int32) : CT l D (gTy cB cI cJ) aK aV yX0_letterOf (wM yX0_letterOf cX0_letterOf 1 (some .int)) (rm_eX0_letterOf) 0 0 [.int p0] [] (some (.int (eX0_letterOf p0))) [] := by
  refine CT.of (by decide) rfl ?_
  intro p e s m below meth c A G hnm hP hD hS
  have hl := lv_entry [.int p0] (n := 1) (Nat.le_of_ble_eq_true rfl)
  rw [lg_entry_eq]
  generalize (lg_sl [.int p0] ++ List.replicate (1 - (lg_sl [.int p0]).length) Slot.unset).toArray = ls at hl ⊢
  exact eX0_letterOf_t0e G hl hP hD hS rfl
end
section
/-! THE REFERENCE: its leaves (printed by program wip/gen) -/
def mm_errorAt (σ : MSt) : Option (Int32 × MSt) := some ((mf_errorPlace σ), (ms_thrown σ (0 : Int32)))
abbrev rm_mm_errorAt : Room := { frames := 0, cells := 0, slots := 0, locals := 0 }
set_option maxHeartbeats 4000000 in
set_option maxRecDepth 100000 in
theorem mm_errorAt_t0e {p : Program} {l : Launch} {e : Env} {s : State} {m : MethodId} {args : Array Value} {below : List Frame} {meth : Method} {c : Code} {D : va_G} {aK aV : Nat → Nat} {A : Nat → Prop} {cB cI cJ : ClassId} {q : Nat → Nat} {H : Heap} {locs : List Loc} {ls : Array Slot} {ρ : Int32 × MSt} {σ : MSt} (G : CX p s m args meth c D (gTy cB cI cJ) aK aV A RX5 cX5_errorAt 1 (some .int)) (hl : lv_has ls 1 [(0, .ref (q 0))]) (hP : va_P D vwCl (mW cB cI cJ q σ) H) (hD : va_D A (mW cB cI cJ q σ)) (hS : va_S A s.heap H locs) (hf : mm_errorAt σ = some ρ) : W p l e (rm_mm_errorAt) s m args below meth c H locs 0 0 (MQ below (cQ D (gTy cB cI cJ) A (mW cB cI cJ q ρ.2) (some (.int ρ.1))) args s 0 0 A) (F0 m 0 ls []) := by
  unfold mm_errorAt at hf
  obtain ⟨hx, hb, hml, hown, hT, hrt, hlk, hK, hA, hG, hE⟩ := id G
  refine lv_aload_n hx hb dX5_errorAt_0 rfl (lv_at hl 0 rfl) ?_
  refine lv_iconst (v := (0 : Int32)) hx hb dX5_errorAt_1 (by decide) ?_
  refine pm_X5_thrown (v := (0 : Int32)) G hP hD hS dX5_errorAt_2 (fun H locs hP hD hS => ?_)
  refine lv_aload_n hx hb dX5_errorAt_5 rfl (lv_at hl 0 rfl) ?_
  refine gm_X5_errorPlace (v := (mf_errorPlace σ)) G hP dX5_errorAt_6 (mG_errorPlace_thrown _ _) ?_
  cases hf
  exact ct_iret G rfl hP hD hS dX5_errorAt_9
set_option maxHeartbeats 4000000 in
set_option maxRecDepth 100000 in
theorem c_mm_errorAt {l : Launch} {D : va_G} {aK aV : Nat → Nat} {cB cI cJ : ClassId} {q : Nat → Nat} {ρ : Int32 × MSt} {σ : MSt} (hf : mm_errorAt σ = some ρ) : CT l D (gTy cB cI cJ) aK aV yX5_errorAt (wM yX5_errorAt cX5_errorAt 1 (some .int)) (rm_mm_errorAt) 0 0 [.ref (q 0)] (mW cB cI cJ q σ) (some (.int ρ.1)) (mW cB cI cJ q ρ.2) := by
  refine CT.of (by decide) rfl ?_
  intro p e s m below meth c A G hnm hP hD hS
  have hl := lv_entry [.ref (q 0)] (n := 1) (Nat.le_of_ble_eq_true rfl)
  rw [lg_entry_eq]
  generalize (lg_sl [.ref (q 0)] ++ List.replicate (1 - (lg_sl [.ref (q 0)]).length) Slot.unset).toArray = ls at hl ⊢
  exact mm_errorAt_t0e G hl hP hD hS hf
def mm_outSize (σ : MSt) : Option (Int32 × MSt) := some ((mf_writtenMany σ), (ms_thrown σ (0 : Int32)))
abbrev rm_mm_outSize : Room := { frames := 0, cells := 0, slots := 0, locals := 0 }
set_option maxHeartbeats 4000000 in
set_option maxRecDepth 100000 in
theorem mm_outSize_t0e {p : Program} {l : Launch} {e : Env} {s : State} {m : MethodId} {args : Array Value} {below : List Frame} {meth : Method} {c : Code} {D : va_G} {aK aV : Nat → Nat} {A : Nat → Prop} {cB cI cJ : ClassId} {q : Nat → Nat} {H : Heap} {locs : List Loc} {ls : Array Slot} {ρ : Int32 × MSt} {σ : MSt} (G : CX p s m args meth c D (gTy cB cI cJ) aK aV A RX5 cX5_outSize 1 (some .int)) (hl : lv_has ls 1 [(0, .ref (q 0))]) (hP : va_P D vwCl (mW cB cI cJ q σ) H) (hD : va_D A (mW cB cI cJ q σ)) (hS : va_S A s.heap H locs) (hf : mm_outSize σ = some ρ) : W p l e (rm_mm_outSize) s m args below meth c H locs 0 0 (MQ below (cQ D (gTy cB cI cJ) A (mW cB cI cJ q ρ.2) (some (.int ρ.1))) args s 0 0 A) (F0 m 0 ls []) := by
  unfold mm_outSize at hf
  obtain ⟨hx, hb, hml, hown, hT, hrt, hlk, hK, hA, hG, hE⟩ := id G
  refine lv_aload_n hx hb dX5_outSize_0 rfl (lv_at hl 0 rfl) ?_
  refine lv_iconst (v := (0 : Int32)) hx hb dX5_outSize_1 (by decide) ?_
  refine pm_X5_thrown (v := (0 : Int32)) G hP hD hS dX5_outSize_2 (fun H locs hP hD hS => ?_)
  refine lv_aload_n hx hb dX5_outSize_5 rfl (lv_at hl 0 rfl) ?_
  refine gm_X5_writtenMany (v := (mf_writtenMany σ)) G hP dX5_outSize_6 (mG_writtenMany_thrown _ _) ?_
  cases hf
  exact ct_iret G rfl hP hD hS dX5_outSize_9
set_option maxHeartbeats 4000000 in
set_option maxRecDepth 100000 in
theorem c_mm_outSize {l : Launch} {D : va_G} {aK aV : Nat → Nat} {cB cI cJ : ClassId} {q : Nat → Nat} {ρ : Int32 × MSt} {σ : MSt} (hf : mm_outSize σ = some ρ) : CT l D (gTy cB cI cJ) aK aV yX5_outSize (wM yX5_outSize cX5_outSize 1 (some .int)) (rm_mm_outSize) 0 0 [.ref (q 0)] (mW cB cI cJ q σ) (some (.int ρ.1)) (mW cB cI cJ q ρ.2) := by
  refine CT.of (by decide) rfl ?_
  intro p e s m below meth c A G hnm hP hD hS
  have hl := lv_entry [.ref (q 0)] (n := 1) (Nat.le_of_ble_eq_true rfl)
  rw [lg_entry_eq]
  generalize (lg_sl [.ref (q 0)] ++ List.replicate (1 - (lg_sl [.ref (q 0)]).length) Slot.unset).toArray = ls at hl ⊢
  exact mm_outSize_t0e G hl hP hD hS hf
def mm_out (p0 : Int32) (σ : MSt) : Option (Int32 × MSt) := (if p0 < 0 then some ((-1 : Int32), (ms_thrown σ (0 : Int32))) else (if p0 < (mf_writtenMany σ) then ck p0 6000 (some ((((mf_written σ) (p0).toNatClampNeg) &&& (255 : Int32)), (ms_thrown σ (0 : Int32)))) else some ((-1 : Int32), (ms_thrown σ (0 : Int32)))))
abbrev rm_mm_out : Room := { frames := 0, cells := 0, slots := 0, locals := 0 }
set_option maxHeartbeats 4000000 in
set_option maxRecDepth 100000 in
theorem mm_out_t0e {p : Program} {l : Launch} {e : Env} {s : State} {m : MethodId} {args : Array Value} {below : List Frame} {meth : Method} {c : Code} {D : va_G} {aK aV : Nat → Nat} {A : Nat → Prop} {cB cI cJ : ClassId} {q : Nat → Nat} {H : Heap} {locs : List Loc} {ls : Array Slot} {ρ : Int32 × MSt} {p0 : Int32} {σ : MSt} (G : CX p s m args meth c D (gTy cB cI cJ) aK aV A RX5 cX5_out 2 (some .int)) (hl : lv_has ls 2 [(0, .ref (q 0)), (1, .int p0)]) (hP : va_P D vwCl (mW cB cI cJ q σ) H) (hD : va_D A (mW cB cI cJ q σ)) (hS : va_S A s.heap H locs) (hf : mm_out p0 σ = some ρ) : W p l e (rm_mm_out) s m args below meth c H locs 0 0 (MQ below (cQ D (gTy cB cI cJ) A (mW cB cI cJ q ρ.2) (some (.int ρ.1))) args s 0 0 A) (F0 m 0 ls []) := by
  unfold mm_out at hf
  obtain ⟨hx, hb, hml, hown, hT, hrt, hlk, hK, hA, hG, hE⟩ := id G
  refine lv_aload_n hx hb dX5_out_0 rfl (lv_at hl 0 rfl) ?_
  refine lv_iconst (v := (0 : Int32)) hx hb dX5_out_1 (by decide) ?_
  refine pm_X5_thrown (v := (0 : Int32)) G hP hD hS dX5_out_2 (fun H locs hP hD hS => ?_)
  refine lv_iload_n hx hb dX5_out_5 rfl (lv_at hl 1 rfl) ?_
  refine lv_if_lt (tgt := 17) hx hb dX5_out_6 (by decide) (fun c1 => ?_) (fun c1 => ?_)
  · have hf := (if_pos c1).symm.trans hf
    refine lv_iconst (v := (-1 : Int32)) hx hb dX5_out_17 (by decide) ?_
    refine lv_goto (tgt := 31) hx hb dX5_out_18 (by decide) ?_
    cases hf
    exact ct_iret G rfl hP hD hS dX5_out_31
  · have hf := (if_neg c1).symm.trans hf
    refine lv_iload_n hx hb dX5_out_9 rfl (lv_at hl 1 rfl) ?_
    refine lv_aload_n hx hb dX5_out_10 rfl (lv_at hl 0 rfl) ?_
    refine gm_X5_writtenMany (v := (mf_writtenMany σ)) G hP dX5_out_11 (mG_writtenMany_thrown _ _) ?_
    refine lv_icmp_lt (tgt := 21) hx hb dX5_out_14 (by decide) (fun c2 => ?_) (fun c2 => ?_)
    · have hf := (if_pos c2).symm.trans hf
      refine lv_aload_n hx hb dX5_out_21 rfl (lv_at hl 0 rfl) ?_
      refine gm_X5_written G hP dX5_out_22 ?_
      refine lv_iload_n hx hb dX5_out_25 rfl (lv_at hl 1 rfl) ?_
      obtain ⟨hi3, hf⟩ := ck_some hf
      refine lm_written (f := (mf_written σ)) G hP hi3 dX5_out_26 (mG_written_thrown _ _) ?_
      refine lv_sipush (v := (255 : Int32)) hx hb dX5_out_27 (by decide) ?_
      refine lv_iand hx hb dX5_out_30 ?_
      cases hf
      exact ct_iret G rfl hP hD hS dX5_out_31
    · have hf := (if_neg c2).symm.trans hf
      refine lv_iconst (v := (-1 : Int32)) hx hb dX5_out_17 (by decide) ?_
      refine lv_goto (tgt := 31) hx hb dX5_out_18 (by decide) ?_
      cases hf
      exact ct_iret G rfl hP hD hS dX5_out_31
set_option maxHeartbeats 4000000 in
set_option maxRecDepth 100000 in
theorem c_mm_out {l : Launch} {D : va_G} {aK aV : Nat → Nat} {cB cI cJ : ClassId} {q : Nat → Nat} {ρ : Int32 × MSt} {p0 : Int32} {σ : MSt} (hf : mm_out p0 σ = some ρ) : CT l D (gTy cB cI cJ) aK aV yX5_out (wM yX5_out cX5_out 2 (some .int)) (rm_mm_out) 0 0 [.ref (q 0), .int p0] (mW cB cI cJ q σ) (some (.int ρ.1)) (mW cB cI cJ q ρ.2) := by
  refine CT.of (by decide) rfl ?_
  intro p e s m below meth c A G hnm hP hD hS
  have hl := lv_entry [.ref (q 0), .int p0] (n := 2) (Nat.le_of_ble_eq_true rfl)
  rw [lg_entry_eq]
  generalize (lg_sl [.ref (q 0), .int p0] ++ List.replicate (2 - (lg_sl [.ref (q 0), .int p0]).length) Slot.unset).toArray = ls at hl ⊢
  exact mm_out_t0e G hl hP hD hS hf
def mm_end (p0 : Int32) (σ : MSt) : Option (Int32 × MSt) := (if p0 < 0 then some ((-1 : Int32), (ms_thrown σ (0 : Int32))) else (if p0 ≤ (mf_taped σ) then some (p0, (ms_taped (ms_thrown σ (0 : Int32)) p0)) else some ((-1 : Int32), (ms_thrown σ (0 : Int32)))))
abbrev rm_mm_end : Room := { frames := 0, cells := 0, slots := 0, locals := 0 }
set_option maxHeartbeats 4000000 in
set_option maxRecDepth 100000 in
theorem mm_end_t0e {p : Program} {l : Launch} {e : Env} {s : State} {m : MethodId} {args : Array Value} {below : List Frame} {meth : Method} {c : Code} {D : va_G} {aK aV : Nat → Nat} {A : Nat → Prop} {cB cI cJ : ClassId} {q : Nat → Nat} {H : Heap} {locs : List Loc} {ls : Array Slot} {ρ : Int32 × MSt} {p0 : Int32} {σ : MSt} (G : CX p s m args meth c D (gTy cB cI cJ) aK aV A RX5 cX5_end 2 (some .int)) (hl : lv_has ls 2 [(0, .ref (q 0)), (1, .int p0)]) (hP : va_P D vwCl (mW cB cI cJ q σ) H) (hD : va_D A (mW cB cI cJ q σ)) (hS : va_S A s.heap H locs) (hf : mm_end p0 σ = some ρ) : W p l e (rm_mm_end) s m args below meth c H locs 0 0 (MQ below (cQ D (gTy cB cI cJ) A (mW cB cI cJ q ρ.2) (some (.int ρ.1))) args s 0 0 A) (F0 m 0 ls []) := by
  unfold mm_end at hf
  obtain ⟨hx, hb, hml, hown, hT, hrt, hlk, hK, hA, hG, hE⟩ := id G
  refine lv_aload_n hx hb dX5_end_0 rfl (lv_at hl 0 rfl) ?_
  refine lv_iconst (v := (0 : Int32)) hx hb dX5_end_1 (by decide) ?_
  refine pm_X5_thrown (v := (0 : Int32)) G hP hD hS dX5_end_2 (fun H locs hP hD hS => ?_)
  refine lv_iload_n hx hb dX5_end_5 rfl (lv_at hl 1 rfl) ?_
  refine lv_if_lt (tgt := 17) hx hb dX5_end_6 (by decide) (fun c1 => ?_) (fun c1 => ?_)
  · have hf := (if_pos c1).symm.trans hf
    refine lv_iconst (v := (-1 : Int32)) hx hb dX5_end_17 (by decide) ?_
    cases hf
    exact ct_iret G rfl hP hD hS dX5_end_18
  · have hf := (if_neg c1).symm.trans hf
    refine lv_iload_n hx hb dX5_end_9 rfl (lv_at hl 1 rfl) ?_
    refine lv_aload_n hx hb dX5_end_10 rfl (lv_at hl 0 rfl) ?_
    refine gm_X5_taped (v := (mf_taped σ)) G hP dX5_end_11 (mG_taped_thrown _ _) ?_
    refine lv_icmp_le (tgt := 19) hx hb dX5_end_14 (by decide) (fun c2 => ?_) (fun c2 => ?_)
    · have hf := (if_pos c2).symm.trans hf
      refine lv_aload_n hx hb dX5_end_19 rfl (lv_at hl 0 rfl) ?_
      refine lv_iload_n hx hb dX5_end_20 rfl (lv_at hl 1 rfl) ?_
      refine pm_X5_taped (v := p0) G hP hD hS dX5_end_21 (fun H locs hP hD hS => ?_)
      refine lv_iload_n hx hb dX5_end_24 rfl (lv_at hl 1 rfl) ?_
      cases hf
      exact ct_iret G rfl hP hD hS dX5_end_25
    · have hf := (if_neg c2).symm.trans hf
      refine lv_iconst (v := (-1 : Int32)) hx hb dX5_end_17 (by decide) ?_
      cases hf
      exact ct_iret G rfl hP hD hS dX5_end_18
set_option maxHeartbeats 4000000 in
set_option maxRecDepth 100000 in
theorem c_mm_end {l : Launch} {D : va_G} {aK aV : Nat → Nat} {cB cI cJ : ClassId} {q : Nat → Nat} {ρ : Int32 × MSt} {p0 : Int32} {σ : MSt} (hf : mm_end p0 σ = some ρ) : CT l D (gTy cB cI cJ) aK aV yX5_end (wM yX5_end cX5_end 2 (some .int)) (rm_mm_end) 0 0 [.ref (q 0), .int p0] (mW cB cI cJ q σ) (some (.int ρ.1)) (mW cB cI cJ q ρ.2) := by
  refine CT.of (by decide) rfl ?_
  intro p e s m below meth c A G hnm hP hD hS
  have hl := lv_entry [.ref (q 0), .int p0] (n := 2) (Nat.le_of_ble_eq_true rfl)
  rw [lg_entry_eq]
  generalize (lg_sl [.ref (q 0), .int p0] ++ List.replicate (2 - (lg_sl [.ref (q 0), .int p0]).length) Slot.unset).toArray = ls at hl ⊢
  exact mm_end_t0e G hl hP hD hS hf
def mm_bounds (p0 : Int32) (p1 : Int32) (σ : MSt) : Option (Bool × MSt) := (if p0 < 0 then some (false, (ms_thrown σ (0 : Int32))) else (if (40 : Int32) < p0 then some (false, (ms_thrown σ (0 : Int32))) else (if p1 < 0 then some (false, (ms_thrown σ (0 : Int32))) else (if p1 ≤ (6000 : Int32) then some (true, (ms_room (ms_depth (ms_thrown σ (0 : Int32)) p0) p1)) else some (false, (ms_thrown σ (0 : Int32)))))))
abbrev rm_mm_bounds : Room := { frames := 0, cells := 0, slots := 0, locals := 0 }
set_option maxHeartbeats 4000000 in
set_option maxRecDepth 100000 in
theorem mm_bounds_t0e {p : Program} {l : Launch} {e : Env} {s : State} {m : MethodId} {args : Array Value} {below : List Frame} {meth : Method} {c : Code} {D : va_G} {aK aV : Nat → Nat} {A : Nat → Prop} {cB cI cJ : ClassId} {q : Nat → Nat} {H : Heap} {locs : List Loc} {ls : Array Slot} {ρ : Bool × MSt} {p0 : Int32} {p1 : Int32} {σ : MSt} (G : CX p s m args meth c D (gTy cB cI cJ) aK aV A RX5 cX5_bounds 3 (some .boolean)) (hl : lv_has ls 3 [(0, .ref (q 0)), (1, .int p0), (2, .int p1)]) (hP : va_P D vwCl (mW cB cI cJ q σ) H) (hD : va_D A (mW cB cI cJ q σ)) (hS : va_S A s.heap H locs) (hf : mm_bounds p0 p1 σ = some ρ) : W p l e (rm_mm_bounds) s m args below meth c H locs 0 0 (MQ below (cQ D (gTy cB cI cJ) A (mW cB cI cJ q ρ.2) (some (.int (bI ρ.1)))) args s 0 0 A) (F0 m 0 ls []) := by
  unfold mm_bounds at hf
  obtain ⟨hx, hb, hml, hown, hT, hrt, hlk, hK, hA, hG, hE⟩ := id G
  refine lv_aload_n hx hb dX5_bounds_0 rfl (lv_at hl 0 rfl) ?_
  refine lv_iconst (v := (0 : Int32)) hx hb dX5_bounds_1 (by decide) ?_
  refine pm_X5_thrown (v := (0 : Int32)) G hP hD hS dX5_bounds_2 (fun H locs hP hD hS => ?_)
  refine lv_iload_n hx hb dX5_bounds_5 rfl (lv_at hl 1 rfl) ?_
  refine lv_if_lt (tgt := 26) hx hb dX5_bounds_6 (by decide) (fun c1 => ?_) (fun c1 => ?_)
  · have hf := (if_pos c1).symm.trans hf
    refine lv_iconst (v := (0 : Int32)) hx hb dX5_bounds_26 (by decide) ?_
    cases hf
    exact ct_iret G (bI_nar false) hP hD hS dX5_bounds_27
  · have hf := (if_neg c1).symm.trans hf
    refine lv_iload_n hx hb dX5_bounds_9 rfl (lv_at hl 1 rfl) ?_
    refine lv_bipush (v := (40 : Int32)) hx hb dX5_bounds_10 (by decide) ?_
    refine lv_icmp_gt (tgt := 26) hx hb dX5_bounds_12 (by decide) (fun c2 => ?_) (fun c2 => ?_)
    · have hf := (if_pos c2).symm.trans hf
      refine lv_iconst (v := (0 : Int32)) hx hb dX5_bounds_26 (by decide) ?_
      cases hf
      exact ct_iret G (bI_nar false) hP hD hS dX5_bounds_27
    · have hf := (if_neg c2).symm.trans hf
      refine lv_iload_n hx hb dX5_bounds_15 rfl (lv_at hl 2 rfl) ?_
      refine lv_if_lt (tgt := 26) hx hb dX5_bounds_16 (by decide) (fun c3 => ?_) (fun c3 => ?_)
      · have hf := (if_pos c3).symm.trans hf
        refine lv_iconst (v := (0 : Int32)) hx hb dX5_bounds_26 (by decide) ?_
        cases hf
        exact ct_iret G (bI_nar false) hP hD hS dX5_bounds_27
      · have hf := (if_neg c3).symm.trans hf
        refine lv_iload_n hx hb dX5_bounds_19 rfl (lv_at hl 2 rfl) ?_
        refine lv_sipush (v := (6000 : Int32)) hx hb dX5_bounds_20 (by decide) ?_
        refine lv_icmp_le (tgt := 28) hx hb dX5_bounds_23 (by decide) (fun c4 => ?_) (fun c4 => ?_)
        · have hf := (if_pos c4).symm.trans hf
          refine lv_aload_n hx hb dX5_bounds_28 rfl (lv_at hl 0 rfl) ?_
          refine lv_iload_n hx hb dX5_bounds_29 rfl (lv_at hl 1 rfl) ?_
          refine pm_X5_depth (v := p0) G hP hD hS dX5_bounds_30 (fun H locs hP hD hS => ?_)
          refine lv_aload_n hx hb dX5_bounds_33 rfl (lv_at hl 0 rfl) ?_
          refine lv_iload_n hx hb dX5_bounds_34 rfl (lv_at hl 2 rfl) ?_
          refine pm_X5_room (v := p1) G hP hD hS dX5_bounds_35 (fun H locs hP hD hS => ?_)
          refine lv_iconst (v := (1 : Int32)) hx hb dX5_bounds_38 (by decide) ?_
          cases hf
          exact ct_iret G (bI_nar true) hP hD hS dX5_bounds_39
        · have hf := (if_neg c4).symm.trans hf
          refine lv_iconst (v := (0 : Int32)) hx hb dX5_bounds_26 (by decide) ?_
          cases hf
          exact ct_iret G (bI_nar false) hP hD hS dX5_bounds_27
set_option maxHeartbeats 4000000 in
set_option maxRecDepth 100000 in
theorem c_mm_bounds {l : Launch} {D : va_G} {aK aV : Nat → Nat} {cB cI cJ : ClassId} {q : Nat → Nat} {ρ : Bool × MSt} {p0 : Int32} {p1 : Int32} {σ : MSt} (hf : mm_bounds p0 p1 σ = some ρ) : CT l D (gTy cB cI cJ) aK aV yX5_bounds (wM yX5_bounds cX5_bounds 3 (some .boolean)) (rm_mm_bounds) 0 0 [.ref (q 0), .int p0, .int p1] (mW cB cI cJ q σ) (some (.int (bI ρ.1))) (mW cB cI cJ q ρ.2) := by
  refine CT.of (by decide) rfl ?_
  intro p e s m below meth c A G hnm hP hD hS
  have hl := lv_entry [.ref (q 0), .int p0, .int p1] (n := 3) (Nat.le_of_ble_eq_true rfl)
  rw [lg_entry_eq]
  generalize (lg_sl [.ref (q 0), .int p0, .int p1] ++ List.replicate (3 - (lg_sl [.ref (q 0), .int p0, .int p1]).length) Slot.unset).toArray = ls at hl ⊢
  exact mm_bounds_t0e G hl hP hD hS hf
def mm_begin (σ : MSt) : Option (MSt) := some (ms_open (ms_lettersMany (ms_things (ms_at (ms_errorPlace (ms_fault (ms_thrown σ (0 : Int32)) (0 : Int32)) (-1 : Int32)) (0 : Int32)) (0 : Int32)) (0 : Int32)) (0 : Int32))
abbrev rm_mm_begin : Room := { frames := 0, cells := 0, slots := 0, locals := 0 }
set_option maxHeartbeats 4000000 in
set_option maxRecDepth 100000 in
theorem mm_begin_t0e {p : Program} {l : Launch} {e : Env} {s : State} {m : MethodId} {args : Array Value} {below : List Frame} {meth : Method} {c : Code} {D : va_G} {aK aV : Nat → Nat} {A : Nat → Prop} {cB cI cJ : ClassId} {q : Nat → Nat} {H : Heap} {locs : List Loc} {ls : Array Slot} {ρ : MSt} {σ : MSt} (G : CX p s m args meth c D (gTy cB cI cJ) aK aV A RX5 cX5_begin 1 none) (hl : lv_has ls 1 [(0, .ref (q 0))]) (hP : va_P D vwCl (mW cB cI cJ q σ) H) (hD : va_D A (mW cB cI cJ q σ)) (hS : va_S A s.heap H locs) (hf : mm_begin σ = some ρ) : W p l e (rm_mm_begin) s m args below meth c H locs 0 0 (MQ below (cQ D (gTy cB cI cJ) A (mW cB cI cJ q ρ) none) args s 0 0 A) (F0 m 0 ls []) := by
  unfold mm_begin at hf
  obtain ⟨hx, hb, hml, hown, hT, hrt, hlk, hK, hA, hG, hE⟩ := id G
  refine lv_aload_n hx hb dX5_begin_0 rfl (lv_at hl 0 rfl) ?_
  refine lv_iconst (v := (0 : Int32)) hx hb dX5_begin_1 (by decide) ?_
  refine pm_X5_thrown (v := (0 : Int32)) G hP hD hS dX5_begin_2 (fun H locs hP hD hS => ?_)
  refine lv_aload_n hx hb dX5_begin_5 rfl (lv_at hl 0 rfl) ?_
  refine lv_iconst (v := (0 : Int32)) hx hb dX5_begin_6 (by decide) ?_
  refine pm_X5_fault (v := (0 : Int32)) G hP hD hS dX5_begin_7 (fun H locs hP hD hS => ?_)
  refine lv_aload_n hx hb dX5_begin_10 rfl (lv_at hl 0 rfl) ?_
  refine lv_iconst (v := (-1 : Int32)) hx hb dX5_begin_11 (by decide) ?_
  refine pm_X5_errorPlace (v := (-1 : Int32)) G hP hD hS dX5_begin_12 (fun H locs hP hD hS => ?_)
  refine lv_aload_n hx hb dX5_begin_15 rfl (lv_at hl 0 rfl) ?_
  refine lv_iconst (v := (0 : Int32)) hx hb dX5_begin_16 (by decide) ?_
  refine pm_X5_at (v := (0 : Int32)) G hP hD hS dX5_begin_17 (fun H locs hP hD hS => ?_)
  refine lv_aload_n hx hb dX5_begin_20 rfl (lv_at hl 0 rfl) ?_
  refine lv_iconst (v := (0 : Int32)) hx hb dX5_begin_21 (by decide) ?_
  refine pm_X5_things (v := (0 : Int32)) G hP hD hS dX5_begin_22 (fun H locs hP hD hS => ?_)
  refine lv_aload_n hx hb dX5_begin_25 rfl (lv_at hl 0 rfl) ?_
  refine lv_iconst (v := (0 : Int32)) hx hb dX5_begin_26 (by decide) ?_
  refine pm_X5_lettersMany (v := (0 : Int32)) G hP hD hS dX5_begin_27 (fun H locs hP hD hS => ?_)
  refine lv_aload_n hx hb dX5_begin_30 rfl (lv_at hl 0 rfl) ?_
  refine lv_iconst (v := (0 : Int32)) hx hb dX5_begin_31 (by decide) ?_
  refine pm_X5_open (v := (0 : Int32)) G hP hD hS dX5_begin_32 (fun H locs hP hD hS => ?_)
  cases hf
  exact ct_vret G hP hD hS dX5_begin_35
set_option maxHeartbeats 4000000 in
set_option maxRecDepth 100000 in
theorem c_mm_begin {l : Launch} {D : va_G} {aK aV : Nat → Nat} {cB cI cJ : ClassId} {q : Nat → Nat} {ρ : MSt} {σ : MSt} (hf : mm_begin σ = some ρ) : CT l D (gTy cB cI cJ) aK aV yX5_begin (wM yX5_begin cX5_begin 1 none) (rm_mm_begin) 0 0 [.ref (q 0)] (mW cB cI cJ q σ) none (mW cB cI cJ q ρ) := by
  refine CT.of (by decide) rfl ?_
  intro p e s m below meth c A G hnm hP hD hS
  have hl := lv_entry [.ref (q 0)] (n := 1) (Nat.le_of_ble_eq_true rfl)
  rw [lg_entry_eq]
  generalize (lg_sl [.ref (q 0)] ++ List.replicate (1 - (lg_sl [.ref (q 0)]).length) Slot.unset).toArray = ls at hl ⊢
  exact mm_begin_t0e G hl hP hD hS hf
def mm_feed_b73 (k20 : Int32 → Int32 → Int32 → Int32 → Int32 → Int32 → MSt → Option (Int32 × MSt)) (a1 : Int32) (a2 : Int32) (a3 : Int32) (a4 : Int32) (a5 : Int32) (a6 : Int32) (s0 : Int32) (σ : MSt) : Option (Int32 × MSt) := ck ((mf_taped σ) + a6) 4000 (lt (a6 + (1 : Int32)) (fun (v8 : Int32) => k20 a1 a2 a3 a4 a5 v8 (ms_tape σ (upd (mf_tape σ) (((mf_taped σ) + a6)).toNatClampNeg ((s0 >>> (((24 : Int32) - ((8 : Int32) * (a6 - a6 / (4 : Int32) * (4 : Int32)))) &&& 31)) &&& (255 : Int32))))))
def mm_feed_b20 (k20 : Int32 → Int32 → Int32 → Int32 → Int32 → Int32 → MSt → Option (Int32 × MSt)) (a1 : Int32) (a2 : Int32) (a3 : Int32) (a4 : Int32) (a5 : Int32) (a6 : Int32) (σ : MSt) : Option (Int32 × MSt) := (if (20 : Int32) ≤ a6 then some (((mf_taped σ) + (20 : Int32)), (ms_taped σ ((mf_taped σ) + (20 : Int32)))) else (if (4 : Int32) ≤ a6 then (if (8 : Int32) ≤ a6 then (if (12 : Int32) ≤ a6 then (if (16 : Int32) ≤ a6 then mm_feed_b73 k20 a1 a2 a3 a4 a5 a6 a5 σ else mm_feed_b73 k20 a1 a2 a3 a4 a5 a6 a4 σ) else mm_feed_b73 k20 a1 a2 a3 a4 a5 a6 a3 σ) else mm_feed_b73 k20 a1 a2 a3 a4 a5 a6 a2 σ) else mm_feed_b73 k20 a1 a2 a3 a4 a5 a6 a1 σ))
def mm_feed_L20 : Nat → Int32 → Int32 → Int32 → Int32 → Int32 → Int32 → MSt → Option (Int32 × MSt)
  | 0, _, _, _, _, _, _, _ => none
  | n + 1, a1, a2, a3, a4, a5, a6, σ => mm_feed_b20 (mm_feed_L20 n) a1 a2 a3 a4 a5 a6 σ
def mm_feed (p0 : Int32) (p1 : Int32) (p2 : Int32) (p3 : Int32) (p4 : Int32) (σ : MSt) : Option (Int32 × MSt) := (if (mf_taped σ) ≤ (3980 : Int32) then mm_feed_L20 FU p0 p1 p2 p3 p4 (0 : Int32) (ms_thrown σ (0 : Int32)) else some ((-1 : Int32), (ms_thrown σ (0 : Int32))))
abbrev rm_mm_feed : Room := { frames := 0, cells := 0, slots := 0, locals := 0 }
set_option maxHeartbeats 4000000 in
set_option maxRecDepth 100000 in
theorem mm_feed_t73 {p : Program} {l : Launch} {e : Env} {s : State} {m : MethodId} {args : Array Value} {below : List Frame} {meth : Method} {c : Code} {D : va_G} {aK aV : Nat → Nat} {A : Nat → Prop} {cB cI cJ : ClassId} {q : Nat → Nat} {H : Heap} {locs : List Loc} {ls : Array Slot} {ρ : Int32 × MSt} {k20 : Int32 → Int32 → Int32 → Int32 → Int32 → Int32 → MSt → Option (Int32 × MSt)} {a1 : Int32} {a2 : Int32} {a3 : Int32} {a4 : Int32} {a5 : Int32} {a6 : Int32} {s0 : Int32} {σ : MSt} (G : CX p s m args meth c D (gTy cB cI cJ) aK aV A RX5 cX5_feed 8 (some .int)) (hk20 : ∀ (a1 : Int32) (a2 : Int32) (a3 : Int32) (a4 : Int32) (a5 : Int32) (a6 : Int32) (σ : MSt) (H : Heap) (locs : List Loc) (ls : Array Slot), lv_has ls 8 [(0, .ref (q 0)), (1, .int a1), (2, .int a2), (3, .int a3), (4, .int a4), (5, .int a5), (6, .int a6)] → va_P D vwCl (mW cB cI cJ q σ) H → va_D A (mW cB cI cJ q σ) → va_S A s.heap H locs → k20 a1 a2 a3 a4 a5 a6 σ = some ρ → W p l e (rm_mm_feed) s m args below meth c H locs 0 0 (MQ below (cQ D (gTy cB cI cJ) A (mW cB cI cJ q ρ.2) (some (.int ρ.1))) args s 0 0 A) (F0 m 20 ls [])) (hl : lv_has ls 8 [(0, .ref (q 0)), (1, .int a1), (2, .int a2), (3, .int a3), (4, .int a4), (5, .int a5), (6, .int a6)]) (hP : va_P D vwCl (mW cB cI cJ q σ) H) (hD : va_D A (mW cB cI cJ q σ)) (hS : va_S A s.heap H locs) (hf : mm_feed_b73 k20 a1 a2 a3 a4 a5 a6 s0 σ = some ρ) : W p l e (rm_mm_feed) s m args below meth c H locs 0 0 (MQ below (cQ D (gTy cB cI cJ) A (mW cB cI cJ q ρ.2) (some (.int ρ.1))) args s 0 0 A) (F0 m 73 ls [.int s0]) := by
  unfold mm_feed_b73 at hf
  obtain ⟨hx, hb, hml, hown, hT, hrt, hlk, hK, hA, hG, hE⟩ := id G
  refine lv_istore (lv' := [(7, .int s0), (0, .ref (q 0)), (1, .int a1), (2, .int a2), (3, .int a3), (4, .int a4), (5, .int a5), (6, .int a6)]) hx hb dX5_feed_73 hl (by decide) rfl (fun ls hl => ?_)
  refine lv_aload_n hx hb dX5_feed_75 rfl (lv_at hl 1 rfl) ?_
  refine gm_X5_tape G hP dX5_feed_76 ?_
  refine lv_aload_n hx hb dX5_feed_79 rfl (lv_at hl 1 rfl) ?_
  refine gm_X5_taped (v := (mf_taped σ)) G hP dX5_feed_80 rfl ?_
  refine lv_iload hx hb dX5_feed_83 (lv_at hl 7 rfl) ?_
  refine lv_iadd hx hb dX5_feed_85 ?_
  refine lv_iload hx hb dX5_feed_86 (lv_at hl 0 rfl) ?_
  refine lv_bipush (v := (24 : Int32)) hx hb dX5_feed_88 (by decide) ?_
  refine lv_bipush (v := (8 : Int32)) hx hb dX5_feed_90 (by decide) ?_
  refine lv_iload hx hb dX5_feed_92 (lv_at hl 7 rfl) ?_
  refine lv_iconst (v := (4 : Int32)) hx hb dX5_feed_94 (by decide) ?_
  refine lv_irem hx hb dX5_feed_95 (by decide) ?_
  refine lv_imul hx hb dX5_feed_96 ?_
  refine lv_isub hx hb dX5_feed_97 ?_
  refine lv_ishr hx hb dX5_feed_98 ?_
  refine lv_sipush (v := (255 : Int32)) hx hb dX5_feed_99 (by decide) ?_
  refine lv_iand hx hb dX5_feed_102 ?_
  obtain ⟨hi7, hf⟩ := ck_some hf
  refine sm_tape (f := (mf_tape σ)) G hP hD hS hi7 dX5_feed_103 rfl (fun H locs hP hD hS => ?_)
  obtain ⟨v8, ev8⟩ : ∃ y : Int32, y = (a6 + (1 : Int32)) := ⟨_, rfl⟩
  have hf := lt_eq hf ev8
  refine lv_iinc (v := v8) (lv' := [(6, .int v8), (7, .int s0), (0, .ref (q 0)), (1, .int a1), (2, .int a2), (3, .int a3), (4, .int a4), (5, .int a5)]) hx hb dX5_feed_104 hl (k := 7) rfl (by rw [ev8]; rfl) (by decide) rfl (fun ls hl => ?_)
  refine lv_goto (tgt := 20) hx hb dX5_feed_107 (by decide) ?_
  exact W.eq (g2 := F0 m 20 ls []) rfl (hk20 _ _ _ _ _ _ _ _ _ _ (lv_sub hl [2, 3, 4, 5, 6, 7, 0] rfl) hP hD hS hf)
set_option maxHeartbeats 4000000 in
set_option maxRecDepth 100000 in
theorem mm_feed_t20 {p : Program} {l : Launch} {e : Env} {s : State} {m : MethodId} {args : Array Value} {below : List Frame} {meth : Method} {c : Code} {D : va_G} {aK aV : Nat → Nat} {A : Nat → Prop} {cB cI cJ : ClassId} {q : Nat → Nat} {H : Heap} {locs : List Loc} {ls : Array Slot} {ρ : Int32 × MSt} {k20 : Int32 → Int32 → Int32 → Int32 → Int32 → Int32 → MSt → Option (Int32 × MSt)} {a1 : Int32} {a2 : Int32} {a3 : Int32} {a4 : Int32} {a5 : Int32} {a6 : Int32} {σ : MSt} (G : CX p s m args meth c D (gTy cB cI cJ) aK aV A RX5 cX5_feed 8 (some .int)) (hk20 : ∀ (a1 : Int32) (a2 : Int32) (a3 : Int32) (a4 : Int32) (a5 : Int32) (a6 : Int32) (σ : MSt) (H : Heap) (locs : List Loc) (ls : Array Slot), lv_has ls 8 [(0, .ref (q 0)), (1, .int a1), (2, .int a2), (3, .int a3), (4, .int a4), (5, .int a5), (6, .int a6)] → va_P D vwCl (mW cB cI cJ q σ) H → va_D A (mW cB cI cJ q σ) → va_S A s.heap H locs → k20 a1 a2 a3 a4 a5 a6 σ = some ρ → W p l e (rm_mm_feed) s m args below meth c H locs 0 0 (MQ below (cQ D (gTy cB cI cJ) A (mW cB cI cJ q ρ.2) (some (.int ρ.1))) args s 0 0 A) (F0 m 20 ls [])) (hl : lv_has ls 8 [(0, .ref (q 0)), (1, .int a1), (2, .int a2), (3, .int a3), (4, .int a4), (5, .int a5), (6, .int a6)]) (hP : va_P D vwCl (mW cB cI cJ q σ) H) (hD : va_D A (mW cB cI cJ q σ)) (hS : va_S A s.heap H locs) (hf : mm_feed_b20 k20 a1 a2 a3 a4 a5 a6 σ = some ρ) : W p l e (rm_mm_feed) s m args below meth c H locs 0 0 (MQ below (cQ D (gTy cB cI cJ) A (mW cB cI cJ q ρ.2) (some (.int ρ.1))) args s 0 0 A) (F0 m 20 ls []) := by
  unfold mm_feed_b20 at hf
  obtain ⟨hx, hb, hml, hown, hT, hrt, hlk, hK, hA, hG, hE⟩ := id G
  refine lv_iload hx hb dX5_feed_20 (lv_at hl 6 rfl) ?_
  refine lv_bipush (v := (20 : Int32)) hx hb dX5_feed_22 (by decide) ?_
  refine lv_icmp_ge (tgt := 110) hx hb dX5_feed_24 (by decide) (fun c2 => ?_) (fun c2 => ?_)
  · have hf := (if_pos c2).symm.trans hf
    refine lv_aload_n hx hb dX5_feed_110 rfl (lv_at hl 0 rfl) ?_
    refine lv_dup hx hb dX5_feed_111 rfl ?_
    refine gm_X5_taped (v := (mf_taped σ)) G hP dX5_feed_112 rfl ?_
    refine lv_bipush (v := (20 : Int32)) hx hb dX5_feed_115 (by decide) ?_
    refine lv_iadd hx hb dX5_feed_117 ?_
    refine pm_X5_taped (v := ((mf_taped σ) + (20 : Int32))) G hP hD hS dX5_feed_118 (fun H locs hP hD hS => ?_)
    refine lv_aload_n hx hb dX5_feed_121 rfl (lv_at hl 0 rfl) ?_
    refine gm_X5_taped (v := ((mf_taped σ) + (20 : Int32))) G hP dX5_feed_122 (mG_taped_taped _ _) ?_
    cases hf
    exact ct_iret G rfl hP hD hS dX5_feed_125
  · have hf := (if_neg c2).symm.trans hf
    refine lv_iload hx hb dX5_feed_27 (lv_at hl 6 rfl) ?_
    refine lv_iconst (v := (4 : Int32)) hx hb dX5_feed_29 (by decide) ?_
    refine lv_icmp_ge (tgt := 37) hx hb dX5_feed_30 (by decide) (fun c3 => ?_) (fun c3 => ?_)
    · have hf := (if_pos c3).symm.trans hf
      refine lv_iload hx hb dX5_feed_37 (lv_at hl 6 rfl) ?_
      refine lv_bipush (v := (8 : Int32)) hx hb dX5_feed_39 (by decide) ?_
      refine lv_icmp_ge (tgt := 48) hx hb dX5_feed_41 (by decide) (fun c4 => ?_) (fun c4 => ?_)
      · have hf := (if_pos c4).symm.trans hf
        refine lv_iload hx hb dX5_feed_48 (lv_at hl 6 rfl) ?_
        refine lv_bipush (v := (12 : Int32)) hx hb dX5_feed_50 (by decide) ?_
        refine lv_icmp_ge (tgt := 59) hx hb dX5_feed_52 (by decide) (fun c5 => ?_) (fun c5 => ?_)
        · have hf := (if_pos c5).symm.trans hf
          refine lv_iload hx hb dX5_feed_59 (lv_at hl 6 rfl) ?_
          refine lv_bipush (v := (16 : Int32)) hx hb dX5_feed_61 (by decide) ?_
          refine lv_icmp_ge (tgt := 71) hx hb dX5_feed_63 (by decide) (fun c6 => ?_) (fun c6 => ?_)
          · have hf := (if_pos c6).symm.trans hf
            refine lv_iload hx hb dX5_feed_71 (lv_at hl 5 rfl) ?_
            exact W.eq (g2 := F0 m 73 ls [.int a5]) rfl (mm_feed_t73 G hk20 (lv_sub hl [0, 1, 2, 3, 4, 5, 6] rfl) hP hD hS hf)
          · have hf := (if_neg c6).symm.trans hf
            refine lv_iload hx hb dX5_feed_66 (lv_at hl 4 rfl) ?_
            refine lv_goto (tgt := 73) hx hb dX5_feed_68 (by decide) ?_
            exact W.eq (g2 := F0 m 73 ls [.int a4]) rfl (mm_feed_t73 G hk20 (lv_sub hl [0, 1, 2, 3, 4, 5, 6] rfl) hP hD hS hf)
        · have hf := (if_neg c5).symm.trans hf
          refine lv_iload_n hx hb dX5_feed_55 rfl (lv_at hl 3 rfl) ?_
          refine lv_goto (tgt := 73) hx hb dX5_feed_56 (by decide) ?_
          exact W.eq (g2 := F0 m 73 ls [.int a3]) rfl (mm_feed_t73 G hk20 (lv_sub hl [0, 1, 2, 3, 4, 5, 6] rfl) hP hD hS hf)
      · have hf := (if_neg c4).symm.trans hf
        refine lv_iload_n hx hb dX5_feed_44 rfl (lv_at hl 2 rfl) ?_
        refine lv_goto (tgt := 73) hx hb dX5_feed_45 (by decide) ?_
        exact W.eq (g2 := F0 m 73 ls [.int a2]) rfl (mm_feed_t73 G hk20 (lv_sub hl [0, 1, 2, 3, 4, 5, 6] rfl) hP hD hS hf)
    · have hf := (if_neg c3).symm.trans hf
      refine lv_iload_n hx hb dX5_feed_33 rfl (lv_at hl 1 rfl) ?_
      refine lv_goto (tgt := 73) hx hb dX5_feed_34 (by decide) ?_
      exact W.eq (g2 := F0 m 73 ls [.int a1]) rfl (mm_feed_t73 G hk20 (lv_sub hl [0, 1, 2, 3, 4, 5, 6] rfl) hP hD hS hf)
set_option maxHeartbeats 4000000 in
set_option maxRecDepth 100000 in
theorem mm_feed_u20 {p : Program} {l : Launch} {e : Env} {s : State} {m : MethodId} {args : Array Value} {below : List Frame} {meth : Method} {c : Code} {D : va_G} {aK aV : Nat → Nat} {A : Nat → Prop} {cB cI cJ : ClassId} {q : Nat → Nat} {ρ : Int32 × MSt} (G : CX p s m args meth c D (gTy cB cI cJ) aK aV A RX5 cX5_feed 8 (some .int)) : ∀ (n : Nat) {a1 : Int32} {a2 : Int32} {a3 : Int32} {a4 : Int32} {a5 : Int32} {a6 : Int32} {σ : MSt} {H : Heap} {locs : List Loc} {ls : Array Slot} (hl : lv_has ls 8 [(0, .ref (q 0)), (1, .int a1), (2, .int a2), (3, .int a3), (4, .int a4), (5, .int a5), (6, .int a6)]) (hP : va_P D vwCl (mW cB cI cJ q σ) H) (hD : va_D A (mW cB cI cJ q σ)) (hS : va_S A s.heap H locs) (hf : mm_feed_L20 n a1 a2 a3 a4 a5 a6 σ = some ρ), W p l e (rm_mm_feed) s m args below meth c H locs 0 0 (MQ below (cQ D (gTy cB cI cJ) A (mW cB cI cJ q ρ.2) (some (.int ρ.1))) args s 0 0 A) (F0 m 20 ls []) := by
  intro n
  induction n with
  | zero =>
    intros
    rename_i hf
    cases hf
  | succ n ih =>
    intro a1 a2 a3 a4 a5 a6 σ H locs ls hl hP hD hS hf
    exact mm_feed_t20 G (fun _ _ _ _ _ _ _ H locs ls hl hP hD hS hf => ih hl hP hD hS hf) hl hP hD hS hf
set_option maxHeartbeats 4000000 in
set_option maxRecDepth 100000 in
theorem mm_feed_t0e {p : Program} {l : Launch} {e : Env} {s : State} {m : MethodId} {args : Array Value} {below : List Frame} {meth : Method} {c : Code} {D : va_G} {aK aV : Nat → Nat} {A : Nat → Prop} {cB cI cJ : ClassId} {q : Nat → Nat} {H : Heap} {locs : List Loc} {ls : Array Slot} {ρ : Int32 × MSt} {p0 : Int32} {p1 : Int32} {p2 : Int32} {p3 : Int32} {p4 : Int32} {σ : MSt} (G : CX p s m args meth c D (gTy cB cI cJ) aK aV A RX5 cX5_feed 8 (some .int)) (hl : lv_has ls 8 [(0, .ref (q 0)), (1, .int p0), (2, .int p1), (3, .int p2), (4, .int p3), (5, .int p4)]) (hP : va_P D vwCl (mW cB cI cJ q σ) H) (hD : va_D A (mW cB cI cJ q σ)) (hS : va_S A s.heap H locs) (hf : mm_feed p0 p1 p2 p3 p4 σ = some ρ) : W p l e (rm_mm_feed) s m args below meth c H locs 0 0 (MQ below (cQ D (gTy cB cI cJ) A (mW cB cI cJ q ρ.2) (some (.int ρ.1))) args s 0 0 A) (F0 m 0 ls []) := by
  unfold mm_feed at hf
  obtain ⟨hx, hb, hml, hown, hT, hrt, hlk, hK, hA, hG, hE⟩ := id G
  refine lv_aload_n hx hb dX5_feed_0 rfl (lv_at hl 0 rfl) ?_
  refine lv_iconst (v := (0 : Int32)) hx hb dX5_feed_1 (by decide) ?_
  refine pm_X5_thrown (v := (0 : Int32)) G hP hD hS dX5_feed_2 (fun H locs hP hD hS => ?_)
  refine lv_aload_n hx hb dX5_feed_5 rfl (lv_at hl 0 rfl) ?_
  refine gm_X5_taped (v := (mf_taped σ)) G hP dX5_feed_6 (mG_taped_thrown _ _) ?_
  refine lv_sipush (v := (3980 : Int32)) hx hb dX5_feed_9 (by decide) ?_
  refine lv_icmp_le (tgt := 17) hx hb dX5_feed_12 (by decide) (fun c1 => ?_) (fun c1 => ?_)
  · have hf := (if_pos c1).symm.trans hf
    refine lv_iconst (v := (0 : Int32)) hx hb dX5_feed_17 (by decide) ?_
    refine lv_istore (lv' := [(6, .int (0 : Int32)), (0, .ref (q 0)), (1, .int p0), (2, .int p1), (3, .int p2), (4, .int p3), (5, .int p4)]) hx hb dX5_feed_18 hl (by decide) rfl (fun ls hl => ?_)
    exact W.eq (g2 := F0 m 20 ls []) rfl (mm_feed_u20 G FU (lv_sub hl [1, 2, 3, 4, 5, 6, 0] rfl) hP hD hS hf)
  · have hf := (if_neg c1).symm.trans hf
    refine lv_iconst (v := (-1 : Int32)) hx hb dX5_feed_15 (by decide) ?_
    cases hf
    exact ct_iret G rfl hP hD hS dX5_feed_16
set_option maxHeartbeats 4000000 in
set_option maxRecDepth 100000 in
theorem c_mm_feed {l : Launch} {D : va_G} {aK aV : Nat → Nat} {cB cI cJ : ClassId} {q : Nat → Nat} {ρ : Int32 × MSt} {p0 : Int32} {p1 : Int32} {p2 : Int32} {p3 : Int32} {p4 : Int32} {σ : MSt} (hf : mm_feed p0 p1 p2 p3 p4 σ = some ρ) : CT l D (gTy cB cI cJ) aK aV yX5_feed (wM yX5_feed cX5_feed 8 (some .int)) (rm_mm_feed) 0 0 [.ref (q 0), .int p0, .int p1, .int p2, .int p3, .int p4] (mW cB cI cJ q σ) (some (.int ρ.1)) (mW cB cI cJ q ρ.2) := by
  refine CT.of (by decide) rfl ?_
  intro p e s m below meth c A G hnm hP hD hS
  have hl := lv_entry [.ref (q 0), .int p0, .int p1, .int p2, .int p3, .int p4] (n := 8) (Nat.le_of_ble_eq_true rfl)
  rw [lg_entry_eq]
  generalize (lg_sl [.ref (q 0), .int p0, .int p1, .int p2, .int p3, .int p4] ++ List.replicate (8 - (lg_sl [.ref (q 0), .int p0, .int p1, .int p2, .int p3, .int p4]).length) Slot.unset).toArray = ls at hl ⊢
  exact mm_feed_t0e G hl hP hD hS hf
def mm_wrong (p0 : Int32) (p1 : Int32) (σ : MSt) : Option (Bool × MSt) := (if (mf_fault σ) = 0 then some (false, (ms_errorPlace (ms_fault σ p0) p1)) else some (false, σ))
abbrev rm_mm_wrong : Room := { frames := 0, cells := 0, slots := 0, locals := 0 }
set_option maxHeartbeats 4000000 in
set_option maxRecDepth 100000 in
theorem mm_wrong_t0e {p : Program} {l : Launch} {e : Env} {s : State} {m : MethodId} {args : Array Value} {below : List Frame} {meth : Method} {c : Code} {D : va_G} {aK aV : Nat → Nat} {A : Nat → Prop} {cB cI cJ : ClassId} {q : Nat → Nat} {H : Heap} {locs : List Loc} {ls : Array Slot} {ρ : Bool × MSt} {p0 : Int32} {p1 : Int32} {σ : MSt} (G : CX p s m args meth c D (gTy cB cI cJ) aK aV A RX5 cX5_wrong 3 (some .boolean)) (hl : lv_has ls 3 [(0, .ref (q 0)), (1, .int p0), (2, .int p1)]) (hP : va_P D vwCl (mW cB cI cJ q σ) H) (hD : va_D A (mW cB cI cJ q σ)) (hS : va_S A s.heap H locs) (hf : mm_wrong p0 p1 σ = some ρ) : W p l e (rm_mm_wrong) s m args below meth c H locs 0 0 (MQ below (cQ D (gTy cB cI cJ) A (mW cB cI cJ q ρ.2) (some (.int (bI ρ.1)))) args s 0 0 A) (F0 m 0 ls []) := by
  unfold mm_wrong at hf
  obtain ⟨hx, hb, hml, hown, hT, hrt, hlk, hK, hA, hG, hE⟩ := id G
  refine lv_aload_n hx hb dX5_wrong_0 rfl (lv_at hl 0 rfl) ?_
  refine gm_X5_fault (v := (mf_fault σ)) G hP dX5_wrong_1 rfl ?_
  refine lv_if_ne (tgt := 17) hx hb dX5_wrong_4 (by decide) (fun c1 => ?_) (fun c1 => ?_)
  · have hf := (if_neg c1).symm.trans hf
    refine lv_iconst (v := (0 : Int32)) hx hb dX5_wrong_17 (by decide) ?_
    cases hf
    exact ct_iret G (bI_nar false) hP hD hS dX5_wrong_18
  · have hf := (if_pos c1).symm.trans hf
    refine lv_aload_n hx hb dX5_wrong_7 rfl (lv_at hl 0 rfl) ?_
    refine lv_iload_n hx hb dX5_wrong_8 rfl (lv_at hl 1 rfl) ?_
    refine pm_X5_fault (v := p0) G hP hD hS dX5_wrong_9 (fun H locs hP hD hS => ?_)
    refine lv_aload_n hx hb dX5_wrong_12 rfl (lv_at hl 0 rfl) ?_
    refine lv_iload_n hx hb dX5_wrong_13 rfl (lv_at hl 2 rfl) ?_
    refine pm_X5_errorPlace (v := p1) G hP hD hS dX5_wrong_14 (fun H locs hP hD hS => ?_)
    refine lv_iconst (v := (0 : Int32)) hx hb dX5_wrong_17 (by decide) ?_
    cases hf
    exact ct_iret G (bI_nar false) hP hD hS dX5_wrong_18
set_option maxHeartbeats 4000000 in
set_option maxRecDepth 100000 in
theorem c_mm_wrong {l : Launch} {D : va_G} {aK aV : Nat → Nat} {cB cI cJ : ClassId} {q : Nat → Nat} {ρ : Bool × MSt} {p0 : Int32} {p1 : Int32} {σ : MSt} (hf : mm_wrong p0 p1 σ = some ρ) : CT l D (gTy cB cI cJ) aK aV yX5_wrong (wM yX5_wrong cX5_wrong 3 (some .boolean)) (rm_mm_wrong) 0 0 [.ref (q 0), .int p0, .int p1] (mW cB cI cJ q σ) (some (.int (bI ρ.1))) (mW cB cI cJ q ρ.2) := by
  refine CT.of (by decide) rfl ?_
  intro p e s m below meth c A G hnm hP hD hS
  have hl := lv_entry [.ref (q 0), .int p0, .int p1] (n := 3) (Nat.le_of_ble_eq_true rfl)
  rw [lg_entry_eq]
  generalize (lg_sl [.ref (q 0), .int p0, .int p1] ++ List.replicate (3 - (lg_sl [.ref (q 0), .int p0, .int p1]).length) Slot.unset).toArray = ls at hl ⊢
  exact mm_wrong_t0e G hl hP hD hS hf
end
