section
-- ===== PART A: goes FIRST, ahead of the names: the tables' words, and 'selects' of the private methods out of them =====
/-- a private method of a class that the tables say can be made, by its rows of tables_1 -/
def lw_okq (q : MethodName × Nat) : Prop := (q.1.cls ≠ "java/lang/invoke/MethodHandle" ∧ q.1.cls ≠ "java/lang/invoke/VarHandle") ∧ Cond.instantiable q.1.cls q.2 ∈ tables_1 ∧ Cond.privateMethod q.1 ∈ tables_1 ∧ Cond.instanceMethod q.1 ∈ tables_1
theorem lw_p0 : lw_okq (⟨"java/lang/Throwable", "fillInStackTrace", "(I)Ljava/lang/Throwable;"⟩, 6) := ⟨⟨by decide +kernel, by decide +kernel⟩, List.mem_of_getElem? (i := 269) (by decide +kernel), List.mem_of_getElem? (i := 267) (by decide +kernel), List.mem_of_getElem? (i := 268) (by decide +kernel)⟩
theorem lw_p1 : lw_okq (⟨"AbnfChart$Reader", "fullLineFrom", "(I)I"⟩, 4) := ⟨⟨by decide +kernel, by decide +kernel⟩, List.mem_of_getElem? (i := 139) (by decide +kernel), List.mem_of_getElem? (i := 338) (by decide +kernel), List.mem_of_getElem? (i := 339) (by decide +kernel)⟩
theorem lw_p2 : lw_okq (⟨"AbnfChart$Reader", "readRule", "()V"⟩, 4) := ⟨⟨by decide +kernel, by decide +kernel⟩, List.mem_of_getElem? (i := 139) (by decide +kernel), List.mem_of_getElem? (i := 346) (by decide +kernel), List.mem_of_getElem? (i := 347) (by decide +kernel)⟩
theorem lw_p3 : lw_okq (⟨"AbnfChart$Reader", "readName", "()LAbnfChart$Rule;"⟩, 4) := ⟨⟨by decide +kernel, by decide +kernel⟩, List.mem_of_getElem? (i := 139) (by decide +kernel), List.mem_of_getElem? (i := 350) (by decide +kernel), List.mem_of_getElem? (i := 351) (by decide +kernel)⟩
theorem lw_p4 : lw_okq (⟨"AbnfChart$Reader", "peek", "()I"⟩, 4) := ⟨⟨by decide +kernel, by decide +kernel⟩, List.mem_of_getElem? (i := 139) (by decide +kernel), List.mem_of_getElem? (i := 354) (by decide +kernel), List.mem_of_getElem? (i := 355) (by decide +kernel)⟩
theorem lw_p5 : lw_okq (⟨"AbnfChart$Reader", "needReadable", "(ZI)V"⟩, 4) := ⟨⟨by decide +kernel, by decide +kernel⟩, List.mem_of_getElem? (i := 139) (by decide +kernel), List.mem_of_getElem? (i := 361) (by decide +kernel), List.mem_of_getElem? (i := 362) (by decide +kernel)⟩
theorem lw_p6 : lw_okq (⟨"AbnfChart$Reader", "needRoom", "(ZI)V"⟩, 4) := ⟨⟨by decide +kernel, by decide +kernel⟩, List.mem_of_getElem? (i := 139) (by decide +kernel), List.mem_of_getElem? (i := 384) (by decide +kernel), List.mem_of_getElem? (i := 385) (by decide +kernel)⟩
theorem lw_p7 : lw_okq (⟨"AbnfChart$Reader", "readGap", "()Z"⟩, 4) := ⟨⟨by decide +kernel, by decide +kernel⟩, List.mem_of_getElem? (i := 139) (by decide +kernel), List.mem_of_getElem? (i := 398) (by decide +kernel), List.mem_of_getElem? (i := 399) (by decide +kernel)⟩
theorem lw_p8 : lw_okq (⟨"AbnfChart$Reader", "readAlternatives", "(I)LAbnfChart$Element;"⟩, 4) := ⟨⟨by decide +kernel, by decide +kernel⟩, List.mem_of_getElem? (i := 139) (by decide +kernel), List.mem_of_getElem? (i := 406) (by decide +kernel), List.mem_of_getElem? (i := 407) (by decide +kernel)⟩
theorem lw_p9 : lw_okq (⟨"AbnfChart$Reader", "beginRow", "(I)LAbnfChart$Element;"⟩, 4) := ⟨⟨by decide +kernel, by decide +kernel⟩, List.mem_of_getElem? (i := 139) (by decide +kernel), List.mem_of_getElem? (i := 410) (by decide +kernel), List.mem_of_getElem? (i := 411) (by decide +kernel)⟩
theorem lw_p10 : lw_okq (⟨"AbnfChart$Reader", "addElement", "(II)LAbnfChart$Element;"⟩, 4) := ⟨⟨by decide +kernel, by decide +kernel⟩, List.mem_of_getElem? (i := 139) (by decide +kernel), List.mem_of_getElem? (i := 420) (by decide +kernel), List.mem_of_getElem? (i := 421) (by decide +kernel)⟩
theorem lw_p11 : lw_okq (⟨"AbnfChart$Reader", "readSequence", "(I)LAbnfChart$Element;"⟩, 4) := ⟨⟨by decide +kernel, by decide +kernel⟩, List.mem_of_getElem? (i := 139) (by decide +kernel), List.mem_of_getElem? (i := 436) (by decide +kernel), List.mem_of_getElem? (i := 437) (by decide +kernel)⟩
theorem lw_p12 : lw_okq (⟨"AbnfChart$Reader", "readRepetition", "(I)LAbnfChart$Element;"⟩, 4) := ⟨⟨by decide +kernel, by decide +kernel⟩, List.mem_of_getElem? (i := 139) (by decide +kernel), List.mem_of_getElem? (i := 440) (by decide +kernel), List.mem_of_getElem? (i := 441) (by decide +kernel)⟩
theorem lw_p13 : lw_okq (⟨"AbnfChart$Reader", "readElement", "(I)LAbnfChart$Element;"⟩, 4) := ⟨⟨by decide +kernel, by decide +kernel⟩, List.mem_of_getElem? (i := 139) (by decide +kernel), List.mem_of_getElem? (i := 444) (by decide +kernel), List.mem_of_getElem? (i := 445) (by decide +kernel)⟩
theorem lw_p14 : lw_okq (⟨"AbnfChart$Reader", "readBracket", "(IC)LAbnfChart$Element;"⟩, 4) := ⟨⟨by decide +kernel, by decide +kernel⟩, List.mem_of_getElem? (i := 139) (by decide +kernel), List.mem_of_getElem? (i := 448) (by decide +kernel), List.mem_of_getElem? (i := 449) (by decide +kernel)⟩
theorem lw_p15 : lw_okq (⟨"AbnfChart$Reader", "readOption", "(I)LAbnfChart$Element;"⟩, 4) := ⟨⟨by decide +kernel, by decide +kernel⟩, List.mem_of_getElem? (i := 139) (by decide +kernel), List.mem_of_getElem? (i := 452) (by decide +kernel), List.mem_of_getElem? (i := 453) (by decide +kernel)⟩
def lw_privs_1 : List (MethodName × Nat) := [(⟨"java/lang/Throwable", "fillInStackTrace", "(I)Ljava/lang/Throwable;"⟩, 6), (⟨"AbnfChart$Reader", "fullLineFrom", "(I)I"⟩, 4), (⟨"AbnfChart$Reader", "readRule", "()V"⟩, 4), (⟨"AbnfChart$Reader", "readName", "()LAbnfChart$Rule;"⟩, 4), (⟨"AbnfChart$Reader", "peek", "()I"⟩, 4), (⟨"AbnfChart$Reader", "needReadable", "(ZI)V"⟩, 4), (⟨"AbnfChart$Reader", "needRoom", "(ZI)V"⟩, 4), (⟨"AbnfChart$Reader", "readGap", "()Z"⟩, 4), (⟨"AbnfChart$Reader", "readAlternatives", "(I)LAbnfChart$Element;"⟩, 4), (⟨"AbnfChart$Reader", "beginRow", "(I)LAbnfChart$Element;"⟩, 4), (⟨"AbnfChart$Reader", "addElement", "(II)LAbnfChart$Element;"⟩, 4), (⟨"AbnfChart$Reader", "readSequence", "(I)LAbnfChart$Element;"⟩, 4), (⟨"AbnfChart$Reader", "readRepetition", "(I)LAbnfChart$Element;"⟩, 4), (⟨"AbnfChart$Reader", "readElement", "(I)LAbnfChart$Element;"⟩, 4), (⟨"AbnfChart$Reader", "readBracket", "(IC)LAbnfChart$Element;"⟩, 4), (⟨"AbnfChart$Reader", "readOption", "(I)LAbnfChart$Element;"⟩, 4)]
theorem lw_r1 : ∀ q ∈ lw_privs_1, lw_okq q := List.forall_mem_cons.mpr ⟨lw_p0, List.forall_mem_cons.mpr ⟨lw_p1, List.forall_mem_cons.mpr ⟨lw_p2, List.forall_mem_cons.mpr ⟨lw_p3, List.forall_mem_cons.mpr ⟨lw_p4, List.forall_mem_cons.mpr ⟨lw_p5, List.forall_mem_cons.mpr ⟨lw_p6, List.forall_mem_cons.mpr ⟨lw_p7, List.forall_mem_cons.mpr ⟨lw_p8, List.forall_mem_cons.mpr ⟨lw_p9, List.forall_mem_cons.mpr ⟨lw_p10, List.forall_mem_cons.mpr ⟨lw_p11, List.forall_mem_cons.mpr ⟨lw_p12, List.forall_mem_cons.mpr ⟨lw_p13, List.forall_mem_cons.mpr ⟨lw_p14, List.forall_mem_cons.mpr ⟨lw_p15, fun _ h => absurd h List.not_mem_nil⟩⟩⟩⟩⟩⟩⟩⟩⟩⟩⟩⟩⟩⟩⟩⟩
theorem lw_p16 : lw_okq (⟨"AbnfChart$Reader", "readString", "(II)LAbnfChart$Element;"⟩, 4) := ⟨⟨by decide +kernel, by decide +kernel⟩, List.mem_of_getElem? (i := 139) (by decide +kernel), List.mem_of_getElem? (i := 456) (by decide +kernel), List.mem_of_getElem? (i := 457) (by decide +kernel)⟩
theorem lw_p17 : lw_okq (⟨"AbnfChart$Reader", "readExactString", "()LAbnfChart$Element;"⟩, 4) := ⟨⟨by decide +kernel, by decide +kernel⟩, List.mem_of_getElem? (i := 139) (by decide +kernel), List.mem_of_getElem? (i := 464) (by decide +kernel), List.mem_of_getElem? (i := 465) (by decide +kernel)⟩
theorem lw_p18 : lw_okq (⟨"AbnfChart$Reader", "readValue", "()LAbnfChart$Element;"⟩, 4) := ⟨⟨by decide +kernel, by decide +kernel⟩, List.mem_of_getElem? (i := 139) (by decide +kernel), List.mem_of_getElem? (i := 468) (by decide +kernel), List.mem_of_getElem? (i := 469) (by decide +kernel)⟩
theorem lw_p19 : lw_okq (⟨"AbnfChart$Reader", "readNumber", "(II)I"⟩, 4) := ⟨⟨by decide +kernel, by decide +kernel⟩, List.mem_of_getElem? (i := 139) (by decide +kernel), List.mem_of_getElem? (i := 472) (by decide +kernel), List.mem_of_getElem? (i := 473) (by decide +kernel)⟩
theorem lw_p20 : lw_okq (⟨"AbnfChart$Reader", "readAskedName", "()LAbnfChart$Element;"⟩, 4) := ⟨⟨by decide +kernel, by decide +kernel⟩, List.mem_of_getElem? (i := 139) (by decide +kernel), List.mem_of_getElem? (i := 479) (by decide +kernel), List.mem_of_getElem? (i := 480) (by decide +kernel)⟩
theorem lw_p21 : lw_okq (⟨"AbnfChart$Reader", "readRepeat", "(LAbnfChart$Element;)V"⟩, 4) := ⟨⟨by decide +kernel, by decide +kernel⟩, List.mem_of_getElem? (i := 139) (by decide +kernel), List.mem_of_getElem? (i := 483) (by decide +kernel), List.mem_of_getElem? (i := 484) (by decide +kernel)⟩
theorem lw_p22 : lw_okq (⟨"AbnfChart$Reader", "readDigit", "()I"⟩, 4) := ⟨⟨by decide +kernel, by decide +kernel⟩, List.mem_of_getElem? (i := 139) (by decide +kernel), List.mem_of_getElem? (i := 487) (by decide +kernel), List.mem_of_getElem? (i := 488) (by decide +kernel)⟩
theorem lw_p23 : lw_okq (⟨"AbnfChart", "checkRule", "(I)V"⟩, 5) := ⟨⟨by decide +kernel, by decide +kernel⟩, List.mem_of_getElem? (i := 18) (by decide +kernel), List.mem_of_getElem? (i := 512) (by decide +kernel), List.mem_of_getElem? (i := 513) (by decide +kernel)⟩
theorem lw_p24 : lw_okq (⟨"AbnfChart", "checkPiece", "(II)V"⟩, 5) := ⟨⟨by decide +kernel, by decide +kernel⟩, List.mem_of_getElem? (i := 18) (by decide +kernel), List.mem_of_getElem? (i := 549) (by decide +kernel), List.mem_of_getElem? (i := 550) (by decide +kernel)⟩
theorem lw_p25 : lw_okq (⟨"AbnfChart$Chart", "fill", "()V"⟩, 3) := ⟨⟨by decide +kernel, by decide +kernel⟩, List.mem_of_getElem? (i := 159) (by decide +kernel), List.mem_of_getElem? (i := 572) (by decide +kernel), List.mem_of_getElem? (i := 573) (by decide +kernel)⟩
theorem lw_p26 : lw_okq (⟨"AbnfChart$Chart", "endsOfCharacters", "(LAbnfChart$Element;I)I"⟩, 3) := ⟨⟨by decide +kernel, by decide +kernel⟩, List.mem_of_getElem? (i := 159) (by decide +kernel), List.mem_of_getElem? (i := 576) (by decide +kernel), List.mem_of_getElem? (i := 577) (by decide +kernel)⟩
theorem lw_p27 : lw_okq (⟨"AbnfChart$Chart", "isStringAt", "(LAbnfChart$Element;I)Z"⟩, 3) := ⟨⟨by decide +kernel, by decide +kernel⟩, List.mem_of_getElem? (i := 159) (by decide +kernel), List.mem_of_getElem? (i := 580) (by decide +kernel), List.mem_of_getElem? (i := 581) (by decide +kernel)⟩
theorem lw_p28 : lw_okq (⟨"AbnfChart$Chart", "findMore", "(I)Z"⟩, 3) := ⟨⟨by decide +kernel, by decide +kernel⟩, List.mem_of_getElem? (i := 159) (by decide +kernel), List.mem_of_getElem? (i := 586) (by decide +kernel), List.mem_of_getElem? (i := 587) (by decide +kernel)⟩
theorem lw_p29 : lw_okq (⟨"AbnfChart$Chart", "endsOfParts", "(LAbnfChart$Element;I)I"⟩, 3) := ⟨⟨by decide +kernel, by decide +kernel⟩, List.mem_of_getElem? (i := 159) (by decide +kernel), List.mem_of_getElem? (i := 590) (by decide +kernel), List.mem_of_getElem? (i := 591) (by decide +kernel)⟩
theorem lw_p30 : lw_okq (⟨"AbnfChart$Chart", "endsOfAny", "(LAbnfChart$Element;I)I"⟩, 3) := ⟨⟨by decide +kernel, by decide +kernel⟩, List.mem_of_getElem? (i := 159) (by decide +kernel), List.mem_of_getElem? (i := 594) (by decide +kernel), List.mem_of_getElem? (i := 595) (by decide +kernel)⟩
theorem lw_p31 : lw_okq (⟨"AbnfChart$Chart", "endsOfRow", "(LAbnfChart$Element;I)I"⟩, 3) := ⟨⟨by decide +kernel, by decide +kernel⟩, List.mem_of_getElem? (i := 159) (by decide +kernel), List.mem_of_getElem? (i := 598) (by decide +kernel), List.mem_of_getElem? (i := 599) (by decide +kernel)⟩
def lw_privs_2 : List (MethodName × Nat) := [(⟨"AbnfChart$Reader", "readString", "(II)LAbnfChart$Element;"⟩, 4), (⟨"AbnfChart$Reader", "readExactString", "()LAbnfChart$Element;"⟩, 4), (⟨"AbnfChart$Reader", "readValue", "()LAbnfChart$Element;"⟩, 4), (⟨"AbnfChart$Reader", "readNumber", "(II)I"⟩, 4), (⟨"AbnfChart$Reader", "readAskedName", "()LAbnfChart$Element;"⟩, 4), (⟨"AbnfChart$Reader", "readRepeat", "(LAbnfChart$Element;)V"⟩, 4), (⟨"AbnfChart$Reader", "readDigit", "()I"⟩, 4), (⟨"AbnfChart", "checkRule", "(I)V"⟩, 5), (⟨"AbnfChart", "checkPiece", "(II)V"⟩, 5), (⟨"AbnfChart$Chart", "fill", "()V"⟩, 3), (⟨"AbnfChart$Chart", "endsOfCharacters", "(LAbnfChart$Element;I)I"⟩, 3), (⟨"AbnfChart$Chart", "isStringAt", "(LAbnfChart$Element;I)Z"⟩, 3), (⟨"AbnfChart$Chart", "findMore", "(I)Z"⟩, 3), (⟨"AbnfChart$Chart", "endsOfParts", "(LAbnfChart$Element;I)I"⟩, 3), (⟨"AbnfChart$Chart", "endsOfAny", "(LAbnfChart$Element;I)I"⟩, 3), (⟨"AbnfChart$Chart", "endsOfRow", "(LAbnfChart$Element;I)I"⟩, 3)]
theorem lw_r2 : ∀ q ∈ lw_privs_2, lw_okq q := List.forall_mem_cons.mpr ⟨lw_p16, List.forall_mem_cons.mpr ⟨lw_p17, List.forall_mem_cons.mpr ⟨lw_p18, List.forall_mem_cons.mpr ⟨lw_p19, List.forall_mem_cons.mpr ⟨lw_p20, List.forall_mem_cons.mpr ⟨lw_p21, List.forall_mem_cons.mpr ⟨lw_p22, List.forall_mem_cons.mpr ⟨lw_p23, List.forall_mem_cons.mpr ⟨lw_p24, List.forall_mem_cons.mpr ⟨lw_p25, List.forall_mem_cons.mpr ⟨lw_p26, List.forall_mem_cons.mpr ⟨lw_p27, List.forall_mem_cons.mpr ⟨lw_p28, List.forall_mem_cons.mpr ⟨lw_p29, List.forall_mem_cons.mpr ⟨lw_p30, List.forall_mem_cons.mpr ⟨lw_p31, fun _ h => absurd h List.not_mem_nil⟩⟩⟩⟩⟩⟩⟩⟩⟩⟩⟩⟩⟩⟩⟩⟩
theorem lw_p32 : lw_okq (⟨"AbnfChart$Chart", "goOn", "(ILAbnfChart$Element;I)I"⟩, 3) := ⟨⟨by decide +kernel, by decide +kernel⟩, List.mem_of_getElem? (i := 159) (by decide +kernel), List.mem_of_getElem? (i := 602) (by decide +kernel), List.mem_of_getElem? (i := 603) (by decide +kernel)⟩
theorem lw_p33 : lw_okq (⟨"AbnfChart$Chart", "endsOfRepetition", "(LAbnfChart$Element;I)I"⟩, 3) := ⟨⟨by decide +kernel, by decide +kernel⟩, List.mem_of_getElem? (i := 159) (by decide +kernel), List.mem_of_getElem? (i := 606) (by decide +kernel), List.mem_of_getElem? (i := 607) (by decide +kernel)⟩
theorem lw_p34 : lw_okq (⟨"AbnfChart$Chart", "endsOfRule", "(LAbnfChart$Rule;I)I"⟩, 3) := ⟨⟨by decide +kernel, by decide +kernel⟩, List.mem_of_getElem? (i := 159) (by decide +kernel), List.mem_of_getElem? (i := 610) (by decide +kernel), List.mem_of_getElem? (i := 611) (by decide +kernel)⟩
theorem lw_p35 : lw_okq (⟨"AbnfChartModel", "fail", "(I)I"⟩, 29) := ⟨⟨by decide +kernel, by decide +kernel⟩, List.mem_of_getElem? (i := 651) (by decide +kernel), List.mem_of_getElem? (i := 754) (by decide +kernel), List.mem_of_getElem? (i := 755) (by decide +kernel)⟩
theorem lw_p36 : lw_okq (⟨"AbnfChartModel", "line", "(I)I"⟩, 29) := ⟨⟨by decide +kernel, by decide +kernel⟩, List.mem_of_getElem? (i := 651) (by decide +kernel), List.mem_of_getElem? (i := 767) (by decide +kernel), List.mem_of_getElem? (i := 768) (by decide +kernel)⟩
theorem lw_p37 : lw_okq (⟨"AbnfChartModel", "rest", "(I)I"⟩, 29) := ⟨⟨by decide +kernel, by decide +kernel⟩, List.mem_of_getElem? (i := 651) (by decide +kernel), List.mem_of_getElem? (i := 771) (by decide +kernel), List.mem_of_getElem? (i := 772) (by decide +kernel)⟩
theorem lw_p38 : lw_okq (⟨"AbnfChartModel", "here", "()I"⟩, 29) := ⟨⟨by decide +kernel, by decide +kernel⟩, List.mem_of_getElem? (i := 651) (by decide +kernel), List.mem_of_getElem? (i := 775) (by decide +kernel), List.mem_of_getElem? (i := 776) (by decide +kernel)⟩
theorem lw_p39 : lw_okq (⟨"AbnfChartModel", "readRule", "()V"⟩, 29) := ⟨⟨by decide +kernel, by decide +kernel⟩, List.mem_of_getElem? (i := 651) (by decide +kernel), List.mem_of_getElem? (i := 782) (by decide +kernel), List.mem_of_getElem? (i := 783) (by decide +kernel)⟩
theorem lw_p40 : lw_okq (⟨"AbnfChartModel", "name", "()I"⟩, 29) := ⟨⟨by decide +kernel, by decide +kernel⟩, List.mem_of_getElem? (i := 651) (by decide +kernel), List.mem_of_getElem? (i := 786) (by decide +kernel), List.mem_of_getElem? (i := 787) (by decide +kernel)⟩
theorem lw_p41 : lw_okq (⟨"AbnfChartModel", "wrong", "(II)V"⟩, 29) := ⟨⟨by decide +kernel, by decide +kernel⟩, List.mem_of_getElem? (i := 651) (by decide +kernel), List.mem_of_getElem? (i := 796) (by decide +kernel), List.mem_of_getElem? (i := 797) (by decide +kernel)⟩
theorem lw_p42 : lw_okq (⟨"AbnfChartModel", "gap", "()V"⟩, 29) := ⟨⟨by decide +kernel, by decide +kernel⟩, List.mem_of_getElem? (i := 651) (by decide +kernel), List.mem_of_getElem? (i := 800) (by decide +kernel), List.mem_of_getElem? (i := 801) (by decide +kernel)⟩
theorem lw_p43 : lw_okq (⟨"AbnfChartModel", "enter", "(II)V"⟩, 29) := ⟨⟨by decide +kernel, by decide +kernel⟩, List.mem_of_getElem? (i := 651) (by decide +kernel), List.mem_of_getElem? (i := 804) (by decide +kernel), List.mem_of_getElem? (i := 805) (by decide +kernel)⟩
theorem lw_p44 : lw_okq (⟨"AbnfChartModel", "element", "(II)I"⟩, 29) := ⟨⟨by decide +kernel, by decide +kernel⟩, List.mem_of_getElem? (i := 651) (by decide +kernel), List.mem_of_getElem? (i := 811) (by decide +kernel), List.mem_of_getElem? (i := 812) (by decide +kernel)⟩
theorem lw_p45 : lw_okq (⟨"AbnfChartModel", "sequence", "()V"⟩, 29) := ⟨⟨by decide +kernel, by decide +kernel⟩, List.mem_of_getElem? (i := 651) (by decide +kernel), List.mem_of_getElem? (i := 815) (by decide +kernel), List.mem_of_getElem? (i := 816) (by decide +kernel)⟩
theorem lw_p46 : lw_okq (⟨"AbnfChartModel", "append", "(II)V"⟩, 29) := ⟨⟨by decide +kernel, by decide +kernel⟩, List.mem_of_getElem? (i := 651) (by decide +kernel), List.mem_of_getElem? (i := 819) (by decide +kernel), List.mem_of_getElem? (i := 820) (by decide +kernel)⟩
theorem lw_p47 : lw_okq (⟨"AbnfChartModel", "repetition", "()V"⟩, 29) := ⟨⟨by decide +kernel, by decide +kernel⟩, List.mem_of_getElem? (i := 651) (by decide +kernel), List.mem_of_getElem? (i := 823) (by decide +kernel), List.mem_of_getElem? (i := 824) (by decide +kernel)⟩
def lw_privs_3 : List (MethodName × Nat) := [(⟨"AbnfChart$Chart", "goOn", "(ILAbnfChart$Element;I)I"⟩, 3), (⟨"AbnfChart$Chart", "endsOfRepetition", "(LAbnfChart$Element;I)I"⟩, 3), (⟨"AbnfChart$Chart", "endsOfRule", "(LAbnfChart$Rule;I)I"⟩, 3), (⟨"AbnfChartModel", "fail", "(I)I"⟩, 29), (⟨"AbnfChartModel", "line", "(I)I"⟩, 29), (⟨"AbnfChartModel", "rest", "(I)I"⟩, 29), (⟨"AbnfChartModel", "here", "()I"⟩, 29), (⟨"AbnfChartModel", "readRule", "()V"⟩, 29), (⟨"AbnfChartModel", "name", "()I"⟩, 29), (⟨"AbnfChartModel", "wrong", "(II)V"⟩, 29), (⟨"AbnfChartModel", "gap", "()V"⟩, 29), (⟨"AbnfChartModel", "enter", "(II)V"⟩, 29), (⟨"AbnfChartModel", "element", "(II)I"⟩, 29), (⟨"AbnfChartModel", "sequence", "()V"⟩, 29), (⟨"AbnfChartModel", "append", "(II)V"⟩, 29), (⟨"AbnfChartModel", "repetition", "()V"⟩, 29)]
theorem lw_r3 : ∀ q ∈ lw_privs_3, lw_okq q := List.forall_mem_cons.mpr ⟨lw_p32, List.forall_mem_cons.mpr ⟨lw_p33, List.forall_mem_cons.mpr ⟨lw_p34, List.forall_mem_cons.mpr ⟨lw_p35, List.forall_mem_cons.mpr ⟨lw_p36, List.forall_mem_cons.mpr ⟨lw_p37, List.forall_mem_cons.mpr ⟨lw_p38, List.forall_mem_cons.mpr ⟨lw_p39, List.forall_mem_cons.mpr ⟨lw_p40, List.forall_mem_cons.mpr ⟨lw_p41, List.forall_mem_cons.mpr ⟨lw_p42, List.forall_mem_cons.mpr ⟨lw_p43, List.forall_mem_cons.mpr ⟨lw_p44, List.forall_mem_cons.mpr ⟨lw_p45, List.forall_mem_cons.mpr ⟨lw_p46, List.forall_mem_cons.mpr ⟨lw_p47, fun _ h => absurd h List.not_mem_nil⟩⟩⟩⟩⟩⟩⟩⟩⟩⟩⟩⟩⟩⟩⟩⟩
theorem lw_p48 : lw_okq (⟨"AbnfChartModel", "single", "()V"⟩, 29) := ⟨⟨by decide +kernel, by decide +kernel⟩, List.mem_of_getElem? (i := 651) (by decide +kernel), List.mem_of_getElem? (i := 827) (by decide +kernel), List.mem_of_getElem? (i := 828) (by decide +kernel)⟩
theorem lw_p49 : lw_okq (⟨"AbnfChartModel", "placed", "(I)V"⟩, 29) := ⟨⟨by decide +kernel, by decide +kernel⟩, List.mem_of_getElem? (i := 651) (by decide +kernel), List.mem_of_getElem? (i := 831) (by decide +kernel), List.mem_of_getElem? (i := 832) (by decide +kernel)⟩
theorem lw_p50 : lw_okq (⟨"AbnfChartModel", "string", "(I)V"⟩, 29) := ⟨⟨by decide +kernel, by decide +kernel⟩, List.mem_of_getElem? (i := 651) (by decide +kernel), List.mem_of_getElem? (i := 835) (by decide +kernel), List.mem_of_getElem? (i := 836) (by decide +kernel)⟩
theorem lw_p51 : lw_okq (⟨"AbnfChartModel", "numbers", "(III)V"⟩, 29) := ⟨⟨by decide +kernel, by decide +kernel⟩, List.mem_of_getElem? (i := 651) (by decide +kernel), List.mem_of_getElem? (i := 839) (by decide +kernel), List.mem_of_getElem? (i := 840) (by decide +kernel)⟩
theorem lw_p52 : lw_okq (⟨"AbnfChartModel", "number", "(II)I"⟩, 29) := ⟨⟨by decide +kernel, by decide +kernel⟩, List.mem_of_getElem? (i := 651) (by decide +kernel), List.mem_of_getElem? (i := 843) (by decide +kernel), List.mem_of_getElem? (i := 844) (by decide +kernel)⟩
theorem lw_p53 : lw_okq (⟨"AbnfChartModel", "goesOn", "()Z"⟩, 29) := ⟨⟨by decide +kernel, by decide +kernel⟩, List.mem_of_getElem? (i := 651) (by decide +kernel), List.mem_of_getElem? (i := 850) (by decide +kernel), List.mem_of_getElem? (i := 851) (by decide +kernel)⟩
theorem lw_p54 : lw_okq (⟨"AbnfChartModel", "endsOf", "(II)I"⟩, 29) := ⟨⟨by decide +kernel, by decide +kernel⟩, List.mem_of_getElem? (i := 651) (by decide +kernel), List.mem_of_getElem? (i := 875) (by decide +kernel), List.mem_of_getElem? (i := 876) (by decide +kernel)⟩
theorem lw_p55 : lw_okq (⟨"AbnfChartModel", "chart", "()V"⟩, 29) := ⟨⟨by decide +kernel, by decide +kernel⟩, List.mem_of_getElem? (i := 651) (by decide +kernel), List.mem_of_getElem? (i := 879) (by decide +kernel), List.mem_of_getElem? (i := 880) (by decide +kernel)⟩
theorem lw_p56 : lw_okq (⟨"AbnfChartModel", "fits", "(II)I"⟩, 29) := ⟨⟨by decide +kernel, by decide +kernel⟩, List.mem_of_getElem? (i := 651) (by decide +kernel), List.mem_of_getElem? (i := 883) (by decide +kernel), List.mem_of_getElem? (i := 884) (by decide +kernel)⟩
theorem lw_p57 : lw_okq (⟨"AbnfChartModel", "same", "(IIZ)Z"⟩, 29) := ⟨⟨by decide +kernel, by decide +kernel⟩, List.mem_of_getElem? (i := 651) (by decide +kernel), List.mem_of_getElem? (i := 887) (by decide +kernel), List.mem_of_getElem? (i := 888) (by decide +kernel)⟩
theorem lw_p58 : lw_okq (⟨"AbnfChartModel", "times", "(II)I"⟩, 29) := ⟨⟨by decide +kernel, by decide +kernel⟩, List.mem_of_getElem? (i := 651) (by decide +kernel), List.mem_of_getElem? (i := 891) (by decide +kernel), List.mem_of_getElem? (i := 892) (by decide +kernel)⟩
theorem lw_p59 : lw_okq (⟨"AbnfChartModel", "step", "(II)I"⟩, 29) := ⟨⟨by decide +kernel, by decide +kernel⟩, List.mem_of_getElem? (i := 651) (by decide +kernel), List.mem_of_getElem? (i := 895) (by decide +kernel), List.mem_of_getElem? (i := 896) (by decide +kernel)⟩
def lw_privs_4 : List (MethodName × Nat) := [(⟨"AbnfChartModel", "single", "()V"⟩, 29), (⟨"AbnfChartModel", "placed", "(I)V"⟩, 29), (⟨"AbnfChartModel", "string", "(I)V"⟩, 29), (⟨"AbnfChartModel", "numbers", "(III)V"⟩, 29), (⟨"AbnfChartModel", "number", "(II)I"⟩, 29), (⟨"AbnfChartModel", "goesOn", "()Z"⟩, 29), (⟨"AbnfChartModel", "endsOf", "(II)I"⟩, 29), (⟨"AbnfChartModel", "chart", "()V"⟩, 29), (⟨"AbnfChartModel", "fits", "(II)I"⟩, 29), (⟨"AbnfChartModel", "same", "(IIZ)Z"⟩, 29), (⟨"AbnfChartModel", "times", "(II)I"⟩, 29), (⟨"AbnfChartModel", "step", "(II)I"⟩, 29)]
theorem lw_r4 : ∀ q ∈ lw_privs_4, lw_okq q := List.forall_mem_cons.mpr ⟨lw_p48, List.forall_mem_cons.mpr ⟨lw_p49, List.forall_mem_cons.mpr ⟨lw_p50, List.forall_mem_cons.mpr ⟨lw_p51, List.forall_mem_cons.mpr ⟨lw_p52, List.forall_mem_cons.mpr ⟨lw_p53, List.forall_mem_cons.mpr ⟨lw_p54, List.forall_mem_cons.mpr ⟨lw_p55, List.forall_mem_cons.mpr ⟨lw_p56, List.forall_mem_cons.mpr ⟨lw_p57, List.forall_mem_cons.mpr ⟨lw_p58, List.forall_mem_cons.mpr ⟨lw_p59, fun _ h => absurd h List.not_mem_nil⟩⟩⟩⟩⟩⟩⟩⟩⟩⟩⟩⟩
def lw_privs : List (MethodName × Nat) := lw_privs_1 ++ (lw_privs_2 ++ (lw_privs_3 ++ (lw_privs_4)))
def lw_tbl : List Cond := k2_sels lw_privs ++ tables_1
theorem lw_privs_ok : ∀ q ∈ lw_privs, lw_okq q := by
  show ∀ q ∈ lw_privs_1 ++ (lw_privs_2 ++ (lw_privs_3 ++ (lw_privs_4))), lw_okq q
  exact List.forall_mem_append.mpr ⟨lw_r1, List.forall_mem_append.mpr ⟨lw_r2, List.forall_mem_append.mpr ⟨lw_r3, lw_r4⟩⟩⟩
-- ===== end of PART A; then your names; then what follows =====
end
section
/-! ===== BEGIN words of one list among another's, by their places ===== -/
theorem goodIn_r {big : List Cond} (ws : List Cond) (ps : List Nat) (hp : ws = ps.filterMap (fun i => big[i]?)) (h : ws.all goodWord = true) : GoodIn big ws := by
  intro w hw
  have h1 := List.all_eq_true.mp h w hw
  rw [hp] at hw
  obtain ⟨i, -, hi⟩ := List.mem_filterMap.mp hw
  have hm : w ∈ big := by first | exact List.mem_of_getElem? hi | exact List.getElem?_mem hi
  exact ⟨hm, good_of_word h1⟩
theorem goodIn_app {big a b : List Cond} (ha : GoodIn big a) (hb : GoodIn big b) : GoodIn big (a ++ b) := fun w h => (List.mem_append.mp h).elim (ha w) (hb w)
theorem goodIn_ca {big a b : List Cond} {c : Cond} (ha : GoodIn big (c :: a)) (hb : GoodIn big b) : GoodIn big (c :: (a ++ b)) := fun w h => (List.mem_cons.mp h).elim (fun e => ha w (List.mem_cons.mpr (Or.inl e))) (fun h => (List.mem_append.mp h).elim (fun h => ha w (List.mem_cons.mpr (Or.inr h))) (hb w))
theorem goodIn_sub {big ws : List Cond} (hm : ∀ w ∈ ws, w ∈ big) (h : ws.all goodWord = true) : GoodIn big ws := fun w hw => ⟨hm w hw, good_of_word (List.all_eq_true.mp h w hw)⟩
/-! ===== END ===== -/

/-! ===== BEGIN exceptions that leave a method, and their catching by the caller (launches without stack traces) ===== -/
section VXA
/-! The laws vx_back, vx_callV, vx_callS, vx_callSW, vx_throw0, vx_throwS follow proofs of the library, with one case more: JvmDerived/Free/Laws.lean (Back.of_free), Shelf42/LK1.lean (callV, callS), Shelf/KitTraced.lean (throwNew0V, throwNewS). -/
/-- where a method has thrown q: the class by its name, the cell, what was written, the world -/
def vx_T (XC : String → State → State → Prop) (st : State) (q : Addr) (t : State) (mc ms : Nat) (free : Addr → Prop) : Prop :=
  ∃ (E : String) (ce : Cell) (L : List Loc), XC E st t ∧ t.heap[q]? = some ce ∧ ce.vm = .none ∧ st.vm.findClass E = some ce.cls ∧ st.WarmedH t.vm ∧ st.sameButNew ({ t with vm := st.vm } : State) L mc ms ∧ ∀ z ∈ L, free z.base
def vx_Q (Qc : Array Value → State → Outcome → State → Prop) (XC : String → State → State → Prop) (mc ms : Nat) (free : Addr → Prop) : Array Value → State → Outcome → State → Prop := fun a st o t =>
  (Qc a st o t ∧ ∃ L, FrameEnd st o t L mc ms ∧ ∀ q ∈ L, free q.base) ∨ ∃ q, o = .threw q ∧ vx_T XC st q t mc ms free
/-- a callee that returns or throws -/
def vx_Met (l : Launch) (y : MethodName) (ws : List Cond) (rm : Room) (Pc : Array Value → State → Prop) (Qc : Array Value → State → Outcome → State → Prop) (XC : String → State → State → Prop) (mc ms : Nat) (free : Addr → Prop) : Prop :=
  MetFree l y (headSpec ws rm) Pc (fun _ _ _ _ _ => True) (vx_Q Qc XC mc ms free)
def vx_Post (XC : String → State → State → Prop) (mc ms : Nat) (free : Addr → Prop) : Pt → Array Value → Addr → Pt → Prop := fun A a q B =>
  ∃ (g : JFrame) (mk : MethodId) (t : State) (L : List Loc) (E : String) (ce : Cell), B.U.heap = t.heap ∧ B.U.vm = t.vm ∧ XC E (A.U.calling g mk a) t ∧ t.heap[q]? = some ce ∧ ce.vm = .none ∧ A.U.vm.findClass E = some ce.cls ∧ B.locs = A.locs ++ L ∧ (∀ z ∈ L, free z.base) ∧ B.cells = A.cells + mc ∧ B.slots = A.slots + ms
def vx_Back (l : Launch) (R : Room) (p : Program) (e : Env) (below : List Frame) (s : State) (sargs : Array Value) (y : MethodName) (len W9 : Nat)
    (Pre : Pt → Array Value → Prop) (Post : Pt → Array Value → Option Value → Pt → Prop) (PostX : Pt → Array Value → Addr → Pt → Prop) : Prop :=
  ∀ (m : MethodId) (meth : Method) (c : Code) (A : Pt) (g : JFrame) (ig : Instr) (mk : MethodId) (a : Array Value),
    Stand p l e R s m sargs below meth c A.U A.locs A.cells A.slots → g.method = m → g.locals.size = c.maxLocals → decode c.code g.pc = .ok (ig, len) →
    2 * g.monitorRoom + (g.stack.map fun v => v.category).sum ≤ W9 → A.U.methodNamed? y = some mk → Pre A a →
    (∃ (v : Option Value) (B : Pt), Stand p l e R s m sargs below meth c B.U B.locs B.cells B.slots ∧ Post A a v B ∧
      Steps p.tables e below (doInvoke e (A.U.setTop g) [] mk a).1 (B.U.setTop { g with pc := g.pc + len, stack := v.toList ++ g.stack })) ∨
    (∃ (q : Addr) (B : Pt), Stand p l e R s m sargs below meth c B.U B.locs B.cells B.slots ∧ PostX A a q B ∧
      Steps p.tables e below (doInvoke e (A.U.setTop g) [] mk a).1 ((B.U.setTop g).pushFrame (.throwing q)))
section Payer
variable {l : Launch} {R : Room} {p : Program} {e : Env} {below : List Frame} {s : State} {sargs : Array Value} {y : MethodName} {len W9 : Nat}
theorem vx_back {ws : List Cond} {rm : Room} {Pc : Array Value → State → Prop} {Qc : Array Value → State → Outcome → State → Prop} {XC : String → State → State → Prop} {mc ms : Nat} {free : Addr → Prop} {bytes : ByteArray} {maxL : Nat} {ret : Option FieldType}
    (hM : vx_Met l y ws rm Pc Qc XC mc ms free) (hblind : FrameBlind Pc) (hrc : rm.cells = mc) (hrs : rm.slots = ms)
    (hframes : rm.frames + 1 ≤ R.frames) (hlocals : W9 + (maxL + 11) + rm.locals ≤ R.locals)
    (hws : ∀ w ∈ ws, ∀ a' U, s.WarmedH U.vm → w.before a' U = true) (hcode : Cond.code y bytes maxL ret ∈ ws) (hinit : ∀ a' U, s.WarmedH U.vm → (Cond.initialized y.cls).before a' U = true) :
    vx_Back l R p e below s sargs y len W9 (PreOf R mc ms Pc) (PostOf Qc mc ms free) (vx_Post XC mc ms free) := by
  intro m meth c A g ig mk a X hg hsize hdg hW hn hp
  have h1 : (headSpec ws rm).pre.before a A.U = true := atoms_intro fun w hw => hws w hw _ _ X.warmed
  have h2 : (Cond.code y bytes maxL ret).before a A.U = true := hws _ hcode _ _ X.warmed
  have h3 : (Cond.initialized y.cls).before a A.U = true := hinit _ _ X.warmed
  have h4 : A.cells + (headSpec ws rm).room.cells ≤ R.cells := by rw [show (headSpec ws rm).room.cells = mc from hrc]; exact hp.1
  have h5 : A.slots + (headSpec ws rm).room.slots ≤ R.slots := by rw [show (headSpec ws rm).room.slots = ms from hrs]; exact hp.2.1
  have hPc : Pc a (A.U.calling g mk a) := hblind _ _ _ _ hp.2.2
  obtain ⟨U, Ls, c0, s0⟩ := A
  dsimp only [Pt.U, Pt.locs, Pt.cells, Pt.slots] at h1 h2 h3 h4 h5 X hn hPc ⊢
  obtain ⟨methY, cY, hmY, hcY, -, hlY, -, -, -, -⟩ := Cond.code_spec hn h2
  obtain ⟨kY, hkY, -⟩ := className_of_methodNamed hn
  have hinitY : kY.init = .initialized := Cond.initialized_spec (findClass_of_methodNamed hn) hkY h3
  have h : At U g.method c below := by rw [hg]; exact X.here
  have hlocals9 : W9 + (maxL + 11) + (headSpec ws rm).room.locals ≤ R.locals := hlocals
  have happ : (headSpec ws rm).appliesLoose y e.platform (U.calling g mk a) = true :=
    Spec.appliesLoose_calling (g := g) h hdg hn hkY hinitY
      (X.room_calling (g := g) (R' := (headSpec ws rm).room) hsize hmY hcY hframes (by rw [hlY]; omega) h4 h5) h1
  obtain ⟨mid, hmid⟩ := h.above
  have hfr : (U.setTop g).frames = (.java g :: mid) ++ below := by rw [State.frames_setTop' g h.top, hmid]; rfl
  obtain ⟨o, s₂, hsteps, -, hend, hq⟩ := Steps.callFree hM p X.admits X.cas X.clock (acts := []) hfr happ hPc trivial
  have hq' : vx_Q Qc XC mc ms free a (U.calling g mk a) o s₂ := hq
  rw [State.frames_setTop' g h.top] at hend
  obtain ⟨g₀, hg0⟩ := Option.isSome_iff_exists.mp h.top
  obtain ⟨r, hr⟩ := State.topJava?_eq_some.mp hg0
  have hr' : (({ U with heap := s₂.heap, slotsUsed := s₂.slotsUsed } : State).setVm s₂.vm).frames = .java g₀ :: r := hr
  rcases hq' with ⟨hqc, L, hfe, hL⟩ | ⟨q, rfl, E, ce, L, hx, hce, hcv, hcl, hW₂, hsm, hL⟩
  · obtain ⟨⟨v, rfl⟩, hW₂, e2, q2, q3, q4, q5, q6⟩ := id hfe
    have e3 : s₂ = ({ (U.calling g mk a).setFrames s₂.frames with heap := s₂.heap, slotsUsed := s₂.slotsUsed } : State).setVm s₂.vm := by
      have : s₂ = ({ s₂ with vm := (U.calling g mk a).vm } : State).setVm s₂.vm := rfl
      rw [e2] at this
      exact this
    obtain ⟨c₂, i₂, len₂, hc₂, hd₂, hf₂⟩ := hend
    have hW' : U.WarmedH s₂.vm := hW₂
    have hcc : c₂ = c := by
      have h1 : s₂.code? g.method = U.code? g.method := by
        rw [State.code?_eq, State.code?_eq, hW'.alike.method?]
      exact Option.some.inj (hc₂.symm.trans (h1.trans h.code))
    subst hcc
    have hlen : len₂ = len := by rw [hdg] at hd₂; cases hd₂; rfl
    subst hlen
    have hs₂ : s₂ = (({ U with heap := s₂.heap, slotsUsed := s₂.slotsUsed } : State).setVm s₂.vm).setTop { g with pc := g.pc + len₂, stack := v.toList ++ g.stack } := by
      refine e3.trans ?_
      rw [hf₂, State.calling_eq h.top, State.setFrames_setFrames, State.setTop_of_frames _ hr', hr]
      rfl
    have hsame : U.sameButNew ({ U with heap := s₂.heap, slotsUsed := s₂.slotsUsed } : State) L mc ms := by
      refine ⟨?_, q2, q3, q4, q5, q6⟩
      obtain ⟨t, ht, -⟩ := State.frames_cons hr
      show ({ U with heap := s₂.heap, slotsUsed := s₂.slotsUsed } : State) = { U.setFrames U.frames with heap := s₂.heap, slotsUsed := s₂.slotsUsed }
      rw [State.setFrames_self ht]
    subst hg
    refine Or.inl ⟨v, ⟨(({ U with heap := s₂.heap, slotsUsed := s₂.slotsUsed } : State).setVm s₂.vm), Ls ++ L, c0 + mc, s0 + ms⟩,
      ⟨X.admits, X.cas, X.clock, X.frames, X.room, X.hears, X.method, X.code, (X.here.setHeapUsed s₂.heap s₂.slotsUsed).setVm hW'.alike, X.tail, State.WarmedH.trans X.warmed hW', X.limits, X.bytes, X.same.trans (hsame.setVm s.vm)⟩,
      ⟨g, mk, s₂, L, rfl, rfl, hqc, rfl, hL, rfl, rfl⟩, ?_⟩
    show Steps p.tables e below _ ((({ U with heap := s₂.heap, slotsUsed := s₂.slotsUsed } : State).setVm s₂.vm).setTop { g with pc := g.pc + len₂, stack := v.toList ++ g.stack })
    rw [← hs₂]
    exact hsteps
  · obtain ⟨e2, q2, q3, q4, q5, q6⟩ := id hsm
    have e3 : s₂ = ({ (U.calling g mk a).setFrames s₂.frames with heap := s₂.heap, slotsUsed := s₂.slotsUsed } : State).setVm s₂.vm := by
      have : s₂ = ({ s₂ with vm := (U.calling g mk a).vm } : State).setVm s₂.vm := rfl
      rw [e2] at this
      exact this
    have hf₂ : s₂.frames = .throwing q :: .java g :: U.frames.tail := hend
    have hW' : U.WarmedH s₂.vm := hW₂
    have hs₂ : s₂ = ((({ U with heap := s₂.heap, slotsUsed := s₂.slotsUsed } : State).setVm s₂.vm).setTop g).pushFrame (.throwing q) := by
      refine e3.trans ?_
      rw [hf₂, State.calling_eq h.top, State.setFrames_setFrames, State.pushFrame, State.frames_setTop _ hr', State.setTop_of_frames _ hr', State.setFrames_setFrames, hr]
      rfl
    have hsame : U.sameButNew ({ U with heap := s₂.heap, slotsUsed := s₂.slotsUsed } : State) L mc ms := by
      refine ⟨?_, q2, q3, q4, q5, q6⟩
      obtain ⟨t, ht, -⟩ := State.frames_cons hr
      show ({ U with heap := s₂.heap, slotsUsed := s₂.slotsUsed } : State) = { U.setFrames U.frames with heap := s₂.heap, slotsUsed := s₂.slotsUsed }
      rw [State.setFrames_self ht]
    subst hg
    refine Or.inr ⟨q, ⟨(({ U with heap := s₂.heap, slotsUsed := s₂.slotsUsed } : State).setVm s₂.vm), Ls ++ L, c0 + mc, s0 + ms⟩,
      ⟨X.admits, X.cas, X.clock, X.frames, X.room, X.hears, X.method, X.code, (X.here.setHeapUsed s₂.heap s₂.slotsUsed).setVm hW'.alike, X.tail, State.WarmedH.trans X.warmed hW', X.limits, X.bytes, X.same.trans (hsame.setVm s.vm)⟩,
      ⟨g, mk, s₂, L, E, ce, rfl, rfl, hx, hce, hcv, hcl, rfl, hL, rfl, rfl⟩, ?_⟩
    show Steps p.tables e below _ (((({ U with heap := s₂.heap, slotsUsed := s₂.slotsUsed } : State).setVm s₂.vm).setTop g).pushFrame (.throwing q))
    rw [← hs₂]
    exact hsteps
end Payer
section Calls
variable {p : Program} {l : Launch} {e : Env} {R : Room} {s : State} {m : MethodId} {args : Array Value} {below : List Frame} {meth : Method} {c : Code} {T : State} {locs : List Loc} {cells slots : Nat}
theorem vx_callV (X : Stand p l e R s m args below meth c T locs cells slots) (hexec : p.tables.exec = Jvm.exec) {own C : String} {index : Nat} {y : MethodName} {bytes : ByteArray} {maxL : Nat} {ret : Option FieldType}
    (hown : s.vm.findClass own = some m.cls) (hlink : (Cond.methodLink own index y).before args s = true) (hinst : (Cond.instanceMethod y).before args s = true) (hsel : (Cond.selects C y y).before args s = true)
    (hcode : (Cond.code y bytes maxL ret).before args s = true) (hy : y.cls ≠ "java/lang/invoke/MethodHandle" ∧ y.cls ≠ "java/lang/invoke/VarHandle")
    {W9 : Nat} {Pre : Pt → Array Value → Prop} {Post : Pt → Array Value → Option Value → Pt → Prop} {PostX : Pt → Array Value → Addr → Pt → Prop} (hK : vx_Back l R p e below s args y 3 W9 Pre Post PostX)
    {b : Addr} {cellB : Cell} (hcell : T.heap[b]? = some cellB) (hobj : cellB.vm.isStatics = false) (hcls : s.vm.findClass C = some cellB.cls)
    {g : JFrame} (hg : g.method = m) (hsize : g.locals.size = c.maxLocals) {argsL rest : List Value} (hlen : ∀ sig, parseMethodDescriptor y.desc = some sig → argsL.length = sig.parameters.length)
    (hstack : g.stack = argsL.reverse ++ .ref b :: rest) (hW : 2 * g.monitorRoom + (rest.map fun v => v.category).sum ≤ W9) (hdg : decode c.code g.pc = .ok (.invokevirtual index, 3))
    (hpre : ∀ vm₁, s.WarmedH vm₁ → Pre ⟨T.setVm vm₁, locs, cells, slots⟩ (Value.ref b :: argsL).toArray) :
    (∃ (v : Option Value) (vm₁ : Vm) (B : Pt), s.WarmedH vm₁ ∧ Stand p l e R s m args below meth c B.U B.locs B.cells B.slots ∧ Post ⟨T.setVm vm₁, locs, cells, slots⟩ (Value.ref b :: argsL).toArray v B ∧
      ∀ target, Steps p.tables e below (B.U.setTop { g with pc := g.pc + 3, stack := v.toList ++ rest }) target → Steps p.tables e below (T.setTop g) target) ∨
    (∃ (q : Addr) (vm₁ : Vm) (B : Pt), s.WarmedH vm₁ ∧ Stand p l e R s m args below meth c B.U B.locs B.cells B.slots ∧ PostX ⟨T.setVm vm₁, locs, cells, slots⟩ (Value.ref b :: argsL).toArray q B ∧
      Steps p.tables e below (T.setTop g) ((B.U.setTop { g with stack := rest }).pushFrame (.throwing q))) := by
  obtain ⟨mk, methM, hnamed, hmethM, hstM, habM⟩ := Cond.instanceMethod_spec hinst
  obtain ⟨methM', cM, hmethM', -, -, -, -, -, -, hsigM⟩ := Cond.code_spec hnamed hcode
  cases hmethM.symm.trans hmethM'
  obtain ⟨c2, r2, m2, q1, q2, q3, q4, kP, hkP, hkPi⟩ := Cond.selects_spec hsel
  cases hcls.symm.trans q1
  cases (State.methodFound?_of_named hnamed hy).symm.trans q2
  cases hnamed.symm.trans q3
  have hselP : selectMethod e.platform s.vm cellB.cls mk = .method mk := by rw [Launch.admits_selectMethod X.admits]; exact q4
  obtain ⟨vm₁, X₁, hstep₁⟩ := X.invokevirtual hexec hown hlink hnamed hmethM hstM hkP hkPi hy (a := b) (cell := cellB) hcell
    (fun z h => by rw [h] at hobj; cases hobj) hselP hmethM habM hkP hkPi (g := g) hg (argsL := argsL) (rest := rest) (hlen _ hsigM) hstack hdg
  rcases hK m meth c ⟨T.setVm vm₁, locs, cells, slots⟩ { g with stack := rest } (.invokevirtual index) mk (Value.ref b :: argsL).toArray X₁ hg hsize hdg hW (X₁.named hnamed) (hpre vm₁ X₁.warmed) with ⟨v, B, X', hpost, hsteps⟩ | ⟨q, B, X', hpost, hsteps⟩
  · exact Or.inl ⟨v, vm₁, B, X₁.warmed, X', hpost, fun target h => hstep₁ _ fun acts => by rw [doInvoke_state]; exact hsteps.trans h⟩
  · exact Or.inr ⟨q, vm₁, B, X₁.warmed, X', hpost, hstep₁ _ fun acts => by rw [doInvoke_state]; exact hsteps⟩
theorem vx_callS (X : Stand p l e R s m args below meth c T locs cells slots) (hexec : p.tables.exec = Jvm.exec) {own : String} {index : Nat} {y : MethodName} {bytes : ByteArray} {maxL : Nat} {ret : Option FieldType}
    (hown : s.vm.findClass own = some m.cls) (hlink : (Cond.methodLink own index y).before args s = true) (hstat : (Cond.static y).before args s = true) (hinit : (Cond.initialized y.cls).before args s = true)
    (hcode : (Cond.code y bytes maxL ret).before args s = true) (hy : y.cls ≠ "java/lang/invoke/MethodHandle" ∧ y.cls ≠ "java/lang/invoke/VarHandle")
    {W9 : Nat} {Pre : Pt → Array Value → Prop} {Post : Pt → Array Value → Option Value → Pt → Prop} {PostX : Pt → Array Value → Addr → Pt → Prop} (hK : vx_Back l R p e below s args y 3 W9 Pre Post PostX)
    {g : JFrame} (hg : g.method = m) (hsize : g.locals.size = c.maxLocals) {argsL rest : List Value} (hlen : ∀ sig, parseMethodDescriptor y.desc = some sig → argsL.length = sig.parameters.length)
    (hstack : g.stack = argsL.reverse ++ rest) (hW : 2 * g.monitorRoom + (rest.map fun v => v.category).sum ≤ W9) (hdg : decode c.code g.pc = .ok (.invokestatic index, 3))
    (hpre : ∀ vm₁, s.WarmedH vm₁ → Pre ⟨T.setVm vm₁, locs, cells, slots⟩ argsL.toArray) :
    (∃ (v : Option Value) (vm₁ : Vm) (B : Pt), s.WarmedH vm₁ ∧ Stand p l e R s m args below meth c B.U B.locs B.cells B.slots ∧ Post ⟨T.setVm vm₁, locs, cells, slots⟩ argsL.toArray v B ∧
      ∀ target, Steps p.tables e below (B.U.setTop { g with pc := g.pc + 3, stack := v.toList ++ rest }) target → Steps p.tables e below (T.setTop g) target) ∨
    (∃ (q : Addr) (vm₁ : Vm) (B : Pt), s.WarmedH vm₁ ∧ Stand p l e R s m args below meth c B.U B.locs B.cells B.slots ∧ PostX ⟨T.setVm vm₁, locs, cells, slots⟩ argsL.toArray q B ∧
      Steps p.tables e below (T.setTop g) ((B.U.setTop { g with stack := rest }).pushFrame (.throwing q))) := by
  obtain ⟨mk, hnamed⟩ := Cond.code_named hcode
  obtain ⟨methM, cM, hmethM, -, -, -, -, -, -, hsigM⟩ := Cond.code_spec hnamed hcode
  have hstatic : methM.isStatic = true := Cond.static_spec hnamed hmethM hstat
  obtain ⟨kP, hkP, -⟩ := className_of_methodNamed hnamed
  have hinitP : kP.init = .initialized := Cond.initialized_spec (findClass_of_methodNamed hnamed) hkP hinit
  obtain ⟨vm₁, X₁, hstep₁⟩ := X.invokestatic hexec hown hlink hnamed hmethM hstatic hkP hinitP hy (g := g) hg (argsL := argsL) (rest := rest) (hlen _ hsigM) hstack hdg
  rcases hK m meth c ⟨T.setVm vm₁, locs, cells, slots⟩ { g with stack := rest } (.invokestatic index) mk argsL.toArray X₁ hg hsize hdg hW (X₁.named hnamed) (hpre vm₁ X₁.warmed) with ⟨v, B, X', hpost, hsteps⟩ | ⟨q, B, X', hpost, hsteps⟩
  · exact Or.inl ⟨v, vm₁, B, X₁.warmed, X', hpost, fun target h => hstep₁ _ fun acts => by rw [doInvoke_state]; exact hsteps.trans h⟩
  · exact Or.inr ⟨q, vm₁, B, X₁.warmed, X', hpost, hstep₁ _ fun acts => by rw [doInvoke_state]; exact hsteps⟩
end Calls
theorem vx_cls {s : State} {T : State} {vm₁ : Vm} {E : String} {k : ClassId} (hW : s.WarmedH vm₁) (h : (T.setVm vm₁).vm.findClass E = some k) : s.vm.findClass E = some k := by
  have h1 : vm₁.findClass E = some k := h
  rw [hW.alike.findClass] at h1
  exact h1
/-- the method's frame g, with q thrown over it -/
def vx_W (p : Program) (l : Launch) (e : Env) (R : Room) (s : State) (m : MethodId) (args : Array Value) (below : List Frame) (meth : Method) (c : Code) (H : Heap) (locs : List Loc) (cells slots : Nat) (Q : State → Prop) (g : JFrame) (q : Addr) : Prop :=
  ∀ T : State, T.heap = H → Stand p l e R s m args below meth c T locs cells slots → ∃ t, Steps p.tables e below ((T.setTop g).pushFrame (.throwing q)) t ∧ Q t
def vx_Run (p : Program) (l : Launch) (e : Env) (R : Room) (s : State) (m : MethodId) (args : Array Value) (below : List Frame) (meth : Method) (c : Code) (H : Heap) (locs : List Loc) (cells slots mc ms : Nat) (g : JFrame) (rest : List Value) (Qa : State → Outcome → State → Prop) (XC : String → State → State → Prop) (free : Addr → Prop) : Prop :=
  ∀ T : State, T.heap = H → Stand p l e R s m args below meth c T locs cells slots →
    (∃ (v : Option Value) (st₀ t T' : State) (L : List Loc), st₀.heap = H ∧ Stand p l e R s m args below meth c T' (locs ++ L) (cells + mc) (slots + ms) ∧ (∀ q ∈ L, free q.base) ∧ T'.heap = t.heap ∧ T'.vm = t.vm ∧ Qa st₀ (.returned v) t ∧
      Goes p e below T g T' { g with pc := g.pc + 3, stack := v.toList ++ rest }) ∨
    (∃ (q : Addr) (st₀ t T' : State) (L : List Loc) (E : String) (ce : Cell), st₀.heap = H ∧ Stand p l e R s m args below meth c T' (locs ++ L) (cells + mc) (slots + ms) ∧ (∀ z ∈ L, free z.base) ∧ T'.heap = t.heap ∧ T'.vm = t.vm ∧ XC E st₀ t ∧ t.heap[q]? = some ce ∧ ce.vm = .none ∧ s.vm.findClass E = some ce.cls ∧
      Steps p.tables e below (T.setTop g) ((T'.setTop { g with stack := rest }).pushFrame (.throwing q)))
def vx_X {S : Type} (px : S → Prop) (B : String → S → State → Prop) (A : Nat → Prop) : String → State → State → Prop := fun E st t => ∃ u : S, px u ∧ B E u t ∧ va_F A st t
section Runs
variable {p : Program} {l : Launch} {e : Env} {R : Room} {s : State} {m : MethodId} {args : Array Value} {below : List Frame} {meth : Method} {c : Code} {H : Heap} {locs : List Loc} {cells slots : Nat}
variable {y : MethodName} {bytes cc : ByteArray} {maxL nL mc ms n index : Nat} {ret : Option FieldType} {ws : List Cond} {rm : Room} {Pc : Array Value → State → Prop} {Qc : Array Value → State → Outcome → State → Prop} {XC : String → State → State → Prop} {free : Addr → Prop} {Ts : List Cond} {own C : String} {b : Addr} {As rest : List Value} {g : JFrame}
theorem vx_callBack (cb : CallB R s args own index y bytes maxL ret ws rm mc ms n) (hM : vx_Met l y ws rm Pc Qc XC mc ms free) (hbl : FrameBlind Pc) : vx_Back l R p e below s args y 3 8 (PreOf R mc ms Pc) (PostOf Qc mc ms free) (vx_Post XC mc ms free) := by
  obtain ⟨hrc, hrs, hfr, hlo, hws, hcw, -, hini, -⟩ := cb
  exact vx_back (bytes := bytes) (maxL := maxL) (ret := ret) hM hbl hrc hrs hfr hlo hws hcw (fun a' U hW => word_at hW (Or.inl (by first | rfl | simp [Cond.onTables, Cond.keeps, Cond.steady])) hini)
theorem vx_runV (S : CallFix p m c cc nL s args Ts own) (hM : vx_Met l y ws rm Pc Qc XC mc ms free) (cw : CallW R s args own C index y bytes maxL ret ws rm mc ms n) (hp : PreV s H C b Pc As)
    (hg : g.method = m) (hn : As.length = n) (hsize : g.locals.size = nL) (hstack : g.stack = As.reverse ++ .ref b :: rest) (hW : 2 * g.monitorRoom + (rest.map fun v => v.category).sum ≤ 8) (hdg : decode cc g.pc = .ok (.invokevirtual index, 3)) (hf : cells + mc ≤ R.cells ∧ slots + ms ≤ R.slots) :
    vx_Run p l e R s m args below meth c H locs cells slots mc ms g rest (Qc (Value.ref b :: As).toArray) XC free := by
  have hK : vx_Back l R p e below s args y 3 8 (PreOf R mc ms Pc) (PostOf Qc mc ms free) (vx_Post XC mc ms free) := vx_callBack cw.1 hM hp.1
  obtain ⟨⟨-, -, -, -, -, -, hcode, -, hy, hlen, hl⟩, hin, hse⟩ := cw
  obtain ⟨hx, hb, hml, ho, -⟩ := S
  obtain ⟨-, ⟨cellB, hcB, hoB, hclB⟩, hPc⟩ := hp
  intro T hT X
  rcases vx_callV X hx (C := C) (bytes := bytes) (maxL := maxL) (ret := ret) ho hl hin hse hcode hy hK (by rw [hT]; exact hcB) hoB hclB hg (hsize.trans hml.symm) (argsL := As) (rest := rest) (fun sig h => hn.trans (hlen sig h)) hstack hW (by rw [hb]; exact hdg)
    (fun vm₁ hW₁ => ⟨hf.1, hf.2, hPc (T.setVm vm₁) hT hW₁⟩) with ⟨v, vm₁, ⟨U', l2, c2, s2⟩, hW₁, X', ⟨g', mk, t, L, e1, e2, hq, h1, hL, h2, h3⟩, st⟩ | ⟨q, vm₁, ⟨U', l2, c2, s2⟩, hW₁, X', ⟨g', mk, t, L, E, ce, e1, e2, hq, hce, hcv, hcl, h1, hL, h2, h3⟩, st⟩
  · dsimp only [Pt.U, Pt.locs, Pt.cells, Pt.slots] at X' e1 e2 h1 h2 h3 st
    subst h1; subst h2; subst h3
    exact Or.inl ⟨v, (T.setVm vm₁).calling g' mk (Value.ref b :: As).toArray, t, U', L, hT, X', hL, e1, e2, hq, st⟩
  · dsimp only [Pt.U, Pt.locs, Pt.cells, Pt.slots] at X' e1 e2 h1 h2 h3 st hcl
    subst h1; subst h2; subst h3
    exact Or.inr ⟨q, (T.setVm vm₁).calling g' mk (Value.ref b :: As).toArray, t, U', L, E, ce, hT, X', hL, e1, e2, hq, hce, hcv, vx_cls hW₁ hcl, st⟩
theorem vx_runS (S : CallFix p m c cc nL s args Ts own) (hM : vx_Met l y ws rm Pc Qc XC mc ms free) (cw : CallB R s args own index y bytes maxL ret ws rm mc ms n ∧ (Cond.static y).before args s = true) (hp : PreS s H Pc As)
    (hg : g.method = m) (hn : As.length = n) (hsize : g.locals.size = nL) (hstack : g.stack = As.reverse ++ rest) (hW : 2 * g.monitorRoom + (rest.map fun v => v.category).sum ≤ 8) (hdg : decode cc g.pc = .ok (.invokestatic index, 3)) (hf : cells + mc ≤ R.cells ∧ slots + ms ≤ R.slots) :
    vx_Run p l e R s m args below meth c H locs cells slots mc ms g rest (Qc As.toArray) XC free := by
  have hK : vx_Back l R p e below s args y 3 8 (PreOf R mc ms Pc) (PostOf Qc mc ms free) (vx_Post XC mc ms free) := vx_callBack cw.1 hM hp.1
  obtain ⟨⟨-, -, -, -, -, -, hcode, hini, hy, hlen, hl⟩, hstt⟩ := cw
  obtain ⟨hx, hb, hml, ho, -⟩ := S
  intro T hT X
  rcases vx_callS X hx (bytes := bytes) (maxL := maxL) (ret := ret) ho hl hstt hini hcode hy hK hg (hsize.trans hml.symm) (argsL := As) (rest := rest) (fun sig h => hn.trans (hlen sig h)) hstack hW (by rw [hb]; exact hdg)
    (fun vm₁ hW₁ => ⟨hf.1, hf.2, hp.2 (T.setVm vm₁) hT hW₁⟩) with ⟨v, vm₁, ⟨U', l2, c2, s2⟩, hW₁, X', ⟨g', mk, t, L, e1, e2, hq, h1, hL, h2, h3⟩, st⟩ | ⟨q, vm₁, ⟨U', l2, c2, s2⟩, hW₁, X', ⟨g', mk, t, L, E, ce, e1, e2, hq, hce, hcv, hcl, h1, hL, h2, h3⟩, st⟩
  · dsimp only [Pt.U, Pt.locs, Pt.cells, Pt.slots] at X' e1 e2 h1 h2 h3 st
    subst h1; subst h2; subst h3
    exact Or.inl ⟨v, (T.setVm vm₁).calling g' mk As.toArray, t, U', L, hT, X', hL, e1, e2, hq, st⟩
  · dsimp only [Pt.U, Pt.locs, Pt.cells, Pt.slots] at X' e1 e2 h1 h2 h3 st hcl
    subst h1; subst h2; subst h3
    exact Or.inr ⟨q, (T.setVm vm₁).calling g' mk As.toArray, t, U', L, E, ce, hT, X', hL, e1, e2, hq, hce, hcv, vx_cls hW₁ hcl, st⟩
end Runs
section Rows
variable {p : Program} {l : Launch} {e : Env} {R : Room} {s : State} {m : MethodId} {args : Array Value} {below : List Frame} {meth : Method} {c : Code} {H : Heap} {locs : List Loc} {cells slots : Nat} {Q : State → Prop}
variable {mc ms : Nat} {free : Addr → Prop} {A0 A1 : Nat → Prop} {H0 : Heap} {a : Array Value} {pc : Nat} {ls : Array Slot} {st0 rest : List Value}
theorem vx_keep {st₀ t T' : State} {L : List Loc} (h0 : st₀.heap = H) (e1 : T'.heap = t.heap) (hS : va_S A0 H0 H locs) (hA : ∀ q, q < H.size → A1 q → A0 q) (hf : ∀ q, free q → A0 q) (hL : ∀ q ∈ L, free q.base) (hF : va_F A1 st₀ t) :
    H.size ≤ T'.heap.size ∧ (∀ q : Nat, q < H.size → ¬ A1 q → T'.heap[q]? = H[q]?) ∧ va_S A0 H0 T'.heap (locs ++ L) := by
  obtain ⟨hz, hk⟩ := hF
  rw [h0] at hz hk
  exact ⟨by rw [e1]; exact hz, fun q h1 h2 => by rw [e1]; exact hk q h1 h2,
    ⟨Nat.le_trans hS.1 (by rw [e1]; exact hz), fun q h1 h2 => by rw [e1, hk q (Nat.lt_of_lt_of_le h1 hS.1) (fun z => h2 (hA q (Nat.lt_of_lt_of_le h1 hS.1) z))]; exact hS.2.1 q h1 h2, fun q hq => by
      rcases List.mem_append.mp hq with h | h
      · exact hS.2.2 q h
      · exact hf _ (hL q h)⟩⟩
theorem vx_calli {S SX : Type} {post : Int32 → S → Prop} {px : SX → Prop} {B : S → State → Prop} {BX : String → SX → State → Prop} {AX : Nat → Prop} (hr : vx_Run p l e R s m args below meth c H locs cells slots mc ms (F0 m pc ls st0) rest (va_Qi post B A1 a) (vx_X px BX AX) free) (hS : va_S A0 H0 H locs) (hA : ∀ q, q < H.size → A1 q → A0 q) (hf : ∀ q, free q → A0 q) (hAX : ∀ q, q < H.size → AX q → A0 q)
    (kx : ∀ (E : String) (ce : Cell) (q9 : Addr) (u : SX) (t : State) (H1 : Heap) (locs1 : List Loc), t.heap = H1 → s.vm.Alike t.vm → px u → BX E u t → H.size ≤ H1.size → (∀ q : Nat, q < H.size → ¬ AX q → H1[q]? = H[q]?) → va_S A0 H0 H1 locs1 → H1[q9]? = some ce → ce.vm = .none → s.vm.findClass E = some ce.cls → vx_W p l e R s m args below meth c H1 locs1 (cells + mc) (slots + ms) Q (F0 m pc ls rest) q9)
    (kk : ∀ (r : Int32) (u : S) (t : State) (H1 : Heap) (locs1 : List Loc), t.heap = H1 → s.vm.Alike t.vm → post r u → B u t → H.size ≤ H1.size → (∀ q : Nat, q < H.size → ¬ A1 q → H1[q]? = H[q]?) → va_S A0 H0 H1 locs1 → W p l e R s m args below meth c H1 locs1 (cells + mc) (slots + ms) Q (F0 m (pc + 3) ls (.int r :: rest))) : W p l e R s m args below meth c H locs cells slots Q (F0 m pc ls st0) := by
  intro T hT X
  rcases hr T hT X with ⟨v, st₀, t, T', L, h0, X', hL, e1, e2, ⟨⟨r, u, hv, hp, hb⟩, hF⟩, st⟩ | ⟨q, st₀, t, T', L, E, ce, h0, X', hL, e1, e2, ⟨u, hp, hb, hF⟩, hce, hcv, hcl, st⟩
  · cases hv
    obtain ⟨k1, k2, k3⟩ := vx_keep h0 e1 hS hA hf hL hF
    obtain ⟨t2, a1, b1⟩ := kk r u t T'.heap (locs ++ L) e1.symm (by rw [← e2]; exact X'.warmed.alike) hp hb k1 k2 k3 T' rfl X'
    exact ⟨t2, st t2 a1, b1⟩
  · obtain ⟨k1, k2, k3⟩ := vx_keep h0 e1 hS hAX hf hL hF
    obtain ⟨t2, a1, b1⟩ := kx E ce q u t T'.heap (locs ++ L) e1.symm (by rw [← e2]; exact X'.warmed.alike) hp hb k1 k2 k3 (by rw [e1]; exact hce) hcv hcl T' rfl X'
    exact ⟨t2, st.trans a1, b1⟩
theorem vx_calll {S SX : Type} {post : Int64 → S → Prop} {px : SX → Prop} {B : S → State → Prop} {BX : String → SX → State → Prop} {AX : Nat → Prop} (hr : vx_Run p l e R s m args below meth c H locs cells slots mc ms (F0 m pc ls st0) rest (va_Ql post B A1 a) (vx_X px BX AX) free) (hS : va_S A0 H0 H locs) (hA : ∀ q, q < H.size → A1 q → A0 q) (hf : ∀ q, free q → A0 q) (hAX : ∀ q, q < H.size → AX q → A0 q)
    (kx : ∀ (E : String) (ce : Cell) (q9 : Addr) (u : SX) (t : State) (H1 : Heap) (locs1 : List Loc), t.heap = H1 → s.vm.Alike t.vm → px u → BX E u t → H.size ≤ H1.size → (∀ q : Nat, q < H.size → ¬ AX q → H1[q]? = H[q]?) → va_S A0 H0 H1 locs1 → H1[q9]? = some ce → ce.vm = .none → s.vm.findClass E = some ce.cls → vx_W p l e R s m args below meth c H1 locs1 (cells + mc) (slots + ms) Q (F0 m pc ls rest) q9)
    (kk : ∀ (r : Int64) (u : S) (t : State) (H1 : Heap) (locs1 : List Loc), t.heap = H1 → s.vm.Alike t.vm → post r u → B u t → H.size ≤ H1.size → (∀ q : Nat, q < H.size → ¬ A1 q → H1[q]? = H[q]?) → va_S A0 H0 H1 locs1 → W p l e R s m args below meth c H1 locs1 (cells + mc) (slots + ms) Q (F0 m (pc + 3) ls (.long r :: rest))) : W p l e R s m args below meth c H locs cells slots Q (F0 m pc ls st0) := by
  intro T hT X
  rcases hr T hT X with ⟨v, st₀, t, T', L, h0, X', hL, e1, e2, ⟨⟨r, u, hv, hp, hb⟩, hF⟩, st⟩ | ⟨q, st₀, t, T', L, E, ce, h0, X', hL, e1, e2, ⟨u, hp, hb, hF⟩, hce, hcv, hcl, st⟩
  · cases hv
    obtain ⟨k1, k2, k3⟩ := vx_keep h0 e1 hS hA hf hL hF
    obtain ⟨t2, a1, b1⟩ := kk r u t T'.heap (locs ++ L) e1.symm (by rw [← e2]; exact X'.warmed.alike) hp hb k1 k2 k3 T' rfl X'
    exact ⟨t2, st t2 a1, b1⟩
  · obtain ⟨k1, k2, k3⟩ := vx_keep h0 e1 hS hAX hf hL hF
    obtain ⟨t2, a1, b1⟩ := kx E ce q u t T'.heap (locs ++ L) e1.symm (by rw [← e2]; exact X'.warmed.alike) hp hb k1 k2 k3 (by rw [e1]; exact hce) hcv hcl T' rfl X'
    exact ⟨t2, st.trans a1, b1⟩
theorem vx_callf {S SX : Type} {post : UInt32 → S → Prop} {px : SX → Prop} {B : S → State → Prop} {BX : String → SX → State → Prop} {AX : Nat → Prop} (hr : vx_Run p l e R s m args below meth c H locs cells slots mc ms (F0 m pc ls st0) rest (va_Qf post B A1 a) (vx_X px BX AX) free) (hS : va_S A0 H0 H locs) (hA : ∀ q, q < H.size → A1 q → A0 q) (hf : ∀ q, free q → A0 q) (hAX : ∀ q, q < H.size → AX q → A0 q)
    (kx : ∀ (E : String) (ce : Cell) (q9 : Addr) (u : SX) (t : State) (H1 : Heap) (locs1 : List Loc), t.heap = H1 → s.vm.Alike t.vm → px u → BX E u t → H.size ≤ H1.size → (∀ q : Nat, q < H.size → ¬ AX q → H1[q]? = H[q]?) → va_S A0 H0 H1 locs1 → H1[q9]? = some ce → ce.vm = .none → s.vm.findClass E = some ce.cls → vx_W p l e R s m args below meth c H1 locs1 (cells + mc) (slots + ms) Q (F0 m pc ls rest) q9)
    (kk : ∀ (r : UInt32) (u : S) (t : State) (H1 : Heap) (locs1 : List Loc), t.heap = H1 → s.vm.Alike t.vm → post r u → B u t → H.size ≤ H1.size → (∀ q : Nat, q < H.size → ¬ A1 q → H1[q]? = H[q]?) → va_S A0 H0 H1 locs1 → W p l e R s m args below meth c H1 locs1 (cells + mc) (slots + ms) Q (F0 m (pc + 3) ls (.float r :: rest))) : W p l e R s m args below meth c H locs cells slots Q (F0 m pc ls st0) := by
  intro T hT X
  rcases hr T hT X with ⟨v, st₀, t, T', L, h0, X', hL, e1, e2, ⟨⟨r, u, hv, hp, hb⟩, hF⟩, st⟩ | ⟨q, st₀, t, T', L, E, ce, h0, X', hL, e1, e2, ⟨u, hp, hb, hF⟩, hce, hcv, hcl, st⟩
  · cases hv
    obtain ⟨k1, k2, k3⟩ := vx_keep h0 e1 hS hA hf hL hF
    obtain ⟨t2, a1, b1⟩ := kk r u t T'.heap (locs ++ L) e1.symm (by rw [← e2]; exact X'.warmed.alike) hp hb k1 k2 k3 T' rfl X'
    exact ⟨t2, st t2 a1, b1⟩
  · obtain ⟨k1, k2, k3⟩ := vx_keep h0 e1 hS hAX hf hL hF
    obtain ⟨t2, a1, b1⟩ := kx E ce q u t T'.heap (locs ++ L) e1.symm (by rw [← e2]; exact X'.warmed.alike) hp hb k1 k2 k3 (by rw [e1]; exact hce) hcv hcl T' rfl X'
    exact ⟨t2, st.trans a1, b1⟩
theorem vx_calld {S SX : Type} {post : UInt64 → S → Prop} {px : SX → Prop} {B : S → State → Prop} {BX : String → SX → State → Prop} {AX : Nat → Prop} (hr : vx_Run p l e R s m args below meth c H locs cells slots mc ms (F0 m pc ls st0) rest (va_Qd post B A1 a) (vx_X px BX AX) free) (hS : va_S A0 H0 H locs) (hA : ∀ q, q < H.size → A1 q → A0 q) (hf : ∀ q, free q → A0 q) (hAX : ∀ q, q < H.size → AX q → A0 q)
    (kx : ∀ (E : String) (ce : Cell) (q9 : Addr) (u : SX) (t : State) (H1 : Heap) (locs1 : List Loc), t.heap = H1 → s.vm.Alike t.vm → px u → BX E u t → H.size ≤ H1.size → (∀ q : Nat, q < H.size → ¬ AX q → H1[q]? = H[q]?) → va_S A0 H0 H1 locs1 → H1[q9]? = some ce → ce.vm = .none → s.vm.findClass E = some ce.cls → vx_W p l e R s m args below meth c H1 locs1 (cells + mc) (slots + ms) Q (F0 m pc ls rest) q9)
    (kk : ∀ (r : UInt64) (u : S) (t : State) (H1 : Heap) (locs1 : List Loc), t.heap = H1 → s.vm.Alike t.vm → post r u → B u t → H.size ≤ H1.size → (∀ q : Nat, q < H.size → ¬ A1 q → H1[q]? = H[q]?) → va_S A0 H0 H1 locs1 → W p l e R s m args below meth c H1 locs1 (cells + mc) (slots + ms) Q (F0 m (pc + 3) ls (.double r :: rest))) : W p l e R s m args below meth c H locs cells slots Q (F0 m pc ls st0) := by
  intro T hT X
  rcases hr T hT X with ⟨v, st₀, t, T', L, h0, X', hL, e1, e2, ⟨⟨r, u, hv, hp, hb⟩, hF⟩, st⟩ | ⟨q, st₀, t, T', L, E, ce, h0, X', hL, e1, e2, ⟨u, hp, hb, hF⟩, hce, hcv, hcl, st⟩
  · cases hv
    obtain ⟨k1, k2, k3⟩ := vx_keep h0 e1 hS hA hf hL hF
    obtain ⟨t2, a1, b1⟩ := kk r u t T'.heap (locs ++ L) e1.symm (by rw [← e2]; exact X'.warmed.alike) hp hb k1 k2 k3 T' rfl X'
    exact ⟨t2, st t2 a1, b1⟩
  · obtain ⟨k1, k2, k3⟩ := vx_keep h0 e1 hS hAX hf hL hF
    obtain ⟨t2, a1, b1⟩ := kx E ce q u t T'.heap (locs ++ L) e1.symm (by rw [← e2]; exact X'.warmed.alike) hp hb k1 k2 k3 (by rw [e1]; exact hce) hcv hcl T' rfl X'
    exact ⟨t2, st.trans a1, b1⟩
theorem vx_callv {S SX : Type} {post : S → Prop} {px : SX → Prop} {B : S → State → Prop} {BX : String → SX → State → Prop} {AX : Nat → Prop} (hr : vx_Run p l e R s m args below meth c H locs cells slots mc ms (F0 m pc ls st0) rest (va_Qv post B A1 a) (vx_X px BX AX) free) (hS : va_S A0 H0 H locs) (hA : ∀ q, q < H.size → A1 q → A0 q) (hf : ∀ q, free q → A0 q) (hAX : ∀ q, q < H.size → AX q → A0 q)
    (kx : ∀ (E : String) (ce : Cell) (q9 : Addr) (u : SX) (t : State) (H1 : Heap) (locs1 : List Loc), t.heap = H1 → s.vm.Alike t.vm → px u → BX E u t → H.size ≤ H1.size → (∀ q : Nat, q < H.size → ¬ AX q → H1[q]? = H[q]?) → va_S A0 H0 H1 locs1 → H1[q9]? = some ce → ce.vm = .none → s.vm.findClass E = some ce.cls → vx_W p l e R s m args below meth c H1 locs1 (cells + mc) (slots + ms) Q (F0 m pc ls rest) q9)
    (kk : ∀ (u : S) (t : State) (H1 : Heap) (locs1 : List Loc), t.heap = H1 → s.vm.Alike t.vm → post u → B u t → H.size ≤ H1.size → (∀ q : Nat, q < H.size → ¬ A1 q → H1[q]? = H[q]?) → va_S A0 H0 H1 locs1 → W p l e R s m args below meth c H1 locs1 (cells + mc) (slots + ms) Q (F0 m (pc + 3) ls (rest))) : W p l e R s m args below meth c H locs cells slots Q (F0 m pc ls st0) := by
  intro T hT X
  rcases hr T hT X with ⟨v, st₀, t, T', L, h0, X', hL, e1, e2, ⟨⟨u, hv, hp, hb⟩, hF⟩, st⟩ | ⟨q, st₀, t, T', L, E, ce, h0, X', hL, e1, e2, ⟨u, hp, hb, hF⟩, hce, hcv, hcl, st⟩
  · cases hv
    obtain ⟨k1, k2, k3⟩ := vx_keep h0 e1 hS hA hf hL hF
    obtain ⟨t2, a1, b1⟩ := kk u t T'.heap (locs ++ L) e1.symm (by rw [← e2]; exact X'.warmed.alike) hp hb k1 k2 k3 T' rfl X'
    exact ⟨t2, st t2 a1, b1⟩
  · obtain ⟨k1, k2, k3⟩ := vx_keep h0 e1 hS hAX hf hL hF
    obtain ⟨t2, a1, b1⟩ := kx E ce q u t T'.heap (locs ++ L) e1.symm (by rw [← e2]; exact X'.warmed.alike) hp hb k1 k2 k3 (by rw [e1]; exact hce) hcv hcl T' rfl X'
    exact ⟨t2, st.trans a1, b1⟩
/-- caught by the row x of this method's table; the rows ahead don't take it -/
theorem vx_catch {own name : String} {E : String} {ce : Cell} {q : Addr} (hown : s.vm.findClass own = some m.cls) (pre : List ExceptionTableEntry) (x : ExceptionTableEntry) (suf : List ExceptionTableEntry) (hsplit : c.exceptionTable.toList = pre ++ x :: suf)
    (hpass : ∀ z ∈ pre, covers z pc = false ∨ (z.catchType ≠ 0 ∧ ∃ nm : String, (Cond.classLink own z.catchType nm).before args s = true ∧ va_Nc E nm s)) (hx : covers x pc = true) (h0 : x.catchType ≠ 0)
    (hlink : (Cond.classLink own x.catchType name).before args s = true) (hcast : (Cond.castable E name).before args s = true) (hcell : H[q]? = some ce) (hv : ce.vm = .none) (hcl : s.vm.findClass E = some ce.cls)
    (kk : W p l e R s m args below meth c H locs cells slots Q (F0 m x.handlerPc ls [.ref q])) : vx_W p l e R s m args below meth c H locs cells slots Q (F0 m pc ls rest) q := by
  intro T hT X
  have hpl : e.platform.magicAccessors = ({} : Platform).magicAccessors := by rw [X.admits.platform]
  obtain ⟨c3, c4, hc3, hc4, hasg⟩ := Cond.castable_spec hcast
  cases Option.some.inj (hc3.symm.trans hcl)
  obtain ⟨c5, hc5, hcl5⟩ := Cond.classLink_spec hown hlink e.platform hpl
  cases Option.some.inj (hc4.symm.trans hc5)
  obtain ⟨vm', X', st⟩ := X.thenCaughtThrough q (g := F0 m pc ls rest) rfl (Steps.refl _) (by rw [hT]; exact hcell) (by rw [hv]; rfl) (by obtain ⟨k9, h9, -⟩ := Vm.findClass_spec hcl; exact ⟨k9, h9⟩) pre x suf hsplit
    (fun z hz => by
      rcases hpass z hz with h | ⟨hz0, nm, hl1, hn1⟩
      · exact Or.inl h
      · obtain ⟨c6, hc6, hcl6⟩ := Cond.classLink_spec hown hl1 e.platform hpl
        obtain ⟨a8, b8, h1, h2, h3⟩ := hn1
        cases Option.some.inj (h1.symm.trans hcl)
        cases Option.some.inj (h2.symm.trans hc6)
        exact Or.inr ⟨hz0, _, hcl6, h3⟩) hx (Or.inr ⟨h0, c4, hcl5, hasg⟩)
  obtain ⟨t, a1, b1⟩ := kk (T.setVm vm') hT X'
  exact ⟨t, st.trans a1, b1⟩
end Rows
section Ends
variable {p : Program} {l : Launch} {e : Env} {R : Room} {s : State} {m : MethodId} {args : Array Value} {below : List Frame} {meth : Method} {c : Code} {H : Heap} {locs : List Loc} {cells slots : Nat} {Q : State → Prop}
variable {mc ms : Nat} {free : Addr → Prop} {A0 A1 : Nat → Prop} {H0 : Heap} {a : Array Value} {ls : Array Slot} {st0 rest : List Value}
variable {Qc : Array Value → State → Outcome → State → Prop} {XC : String → State → State → Prop}
/-- what a body that may throw owes at its end -/
def vx_MQ (below : List Frame) (Qc : Array Value → State → Outcome → State → Prop) (XC : String → State → State → Prop) (a : Array Value) (s : State) (mc ms : Nat) (free : Addr → Prop) : State → Prop := fun t =>
  ∃ o, t.status = .running ∧ Ended t below o ∧ vx_Q Qc XC mc ms free a s o t
theorem vx_ret {g : JFrame} {mc ms : Nat} (k : W p l e R s m args below meth c H locs cells slots (MQ below Qc args s mc ms free) g) : W p l e R s m args below meth c H locs cells slots (vx_MQ below Qc XC args s mc ms free) g := by
  intro T hT X
  obtain ⟨t, a1, o, b1, b2, b3, b4⟩ := k T hT X
  exact ⟨t, a1, o, b1, b2, Or.inl ⟨b3, b4⟩⟩
/-- not caught here: it goes on to the caller -/
theorem vx_widen {g : JFrame} {q : Addr} {k n : Nat} (h1 : cells ≤ k) (h2 : slots ≤ n) (kk : vx_W p l e R s m args below meth c H locs k n Q g q) : vx_W p l e R s m args below meth c H locs cells slots Q g q := fun T hT X => kk T hT (stand_widen X h1 h2)
theorem vx_out {pc : Nat} {E : String} {ce : Cell} {q : Addr} {mc ms : Nat} (hout : ∀ x ∈ c.exceptionTable.toList, covers x pc = false) (hlocks : meth.locks = false) (hcell : H[q]? = some ce) (hv : ce.vm = .none) (hcl : s.vm.findClass E = some ce.cls)
    (hx : ∀ t : State, t.heap = H → s.vm.Alike t.vm → XC E s t) (hf : ∀ z ∈ locs, free z.base) (hc : cells ≤ mc) (hs : slots ≤ ms) :
    vx_W p l e R s m args below meth c H locs cells slots (vx_MQ below Qc XC args s mc ms free) (F0 m pc ls rest) q := by
  intro T hT X
  obtain ⟨st1, hrun, hend, hW, hsm⟩ := X.leaveThrown q (g := F0 m pc ls rest) rfl rfl rfl hout hlocks
  have hcell9 : (T.setFrames (.throwing q :: below)).heap[q]? = some ce := by
    show T.heap[q]? = some ce
    rw [hT]; exact hcell
  exact ⟨_, st1, .threw q, hrun, hend, Or.inr ⟨q, rfl, E, ce, locs, hx _ hT hW.alike, hcell9, hv, hcl, hW, hsm.mono hc hs, hf⟩⟩
theorem vx_frame {U : State} {k n : Nat} (h : s.sameButNew ({ U with vm := s.vm } : State) locs k n) : s.heap.size ≤ U.heap.size ∧ ∀ q : Nat, q < s.heap.size → (∀ z ∈ locs, z.base ≠ q) → U.heap[q]? = s.heap[q]? := by
  obtain ⟨-, h2, -, -, -, h6⟩ := h
  refine ⟨h2, fun q hq hz => ?_⟩
  obtain ⟨c9, e1, e2, e3, e4⟩ := h6 q _ (Array.getElem?_eq_getElem hq)
  have hs : c9.slots = (s.heap[q]).slots := Array.ext_getElem? fun i => e4 i fun hm => hz _ hm rfl
  have h9 : c9 = s.heap[q] := by
    rw [hs] at e2
    exact e2
  have e5 : U.heap[q]? = some c9 := e1
  rw [e5, h9, Array.getElem?_eq_getElem hq]
/-- the words of a throw but the four that speak of the heap -/
def vx_no (w : Cond) : Bool := decide (w ≠ .isRef (.static Bundle.tN "UNASSIGNED_STACK" Bundle.steD)) && decide (w ≠ .isRef (.static Bundle.tN "SUPPRESSED_SENTINEL" Bundle.listD)) && decide (w ≠ .laysStatic Bundle.tN "UNASSIGNED_STACK" Bundle.steD) && decide (w ≠ .laysStatic Bundle.tN "SUPPRESSED_SENTINEL" Bundle.listD)
def vx_at0 (own : String) (ic : Nat) (X : String) (names : List String) : List Cond := (Bundle.ownAtoms0 own ic X names).filter vx_no
def vx_atS (own : String) (ic : Nat) (X : String) (names : List String) : List Cond := (Bundle.ownAtoms own ic X names).filter vx_no
/-- a word that the tables alone decide, or a good one -/
def vx_ot (w : Cond) : Bool := w.onTables || goodWord w
theorem vx_ot_at {args a' : Array Value} {s U : State} {w : Cond} (hW : s.WarmedH U.vm) (hvm : s.vm = U.vm) (hg : vx_ot w = true) (h : w.before args s = true) : w.before a' U = true := by
  simp only [vx_ot, Bool.or_eq_true] at hg
  rcases hg with hg | hg
  · exact va_tabs hg hvm h
  · exact word_at hW (good_of_word hg) h
/-- a list's words: the good ones out of the method's own list, the others by premises of their own -/
theorem vx_hat {args : Array Value} {s : State} {L B : List Cond} (h1 : ∀ w ∈ L.filter goodWord, w.before args s = true) (h2 : ∀ w ∈ L.filter (fun w => !goodWord w), w ∈ B) (h3 : ∀ w ∈ B, w.before args s = true) : ∀ w ∈ L, w.before args s = true := by
  intro w hw
  by_cases g : goodWord w = true
  · exact h1 w (List.mem_filter.mpr ⟨hw, g⟩)
  · refine h3 w (h2 w (List.mem_filter.mpr ⟨hw, ?_⟩))
    show (!goodWord w) = true
    cases hgw : goodWord w
    · rfl
    · exact absurd hgw g
theorem vx_c {args : Array Value} {s : State} {w : Cond} {B : List Cond} (h : w.before args s = true) (t : ∀ w ∈ B, w.before args s = true) : ∀ w' ∈ w :: B, w'.before args s = true := fun w' h' => (List.mem_cons.mp h').elim (fun e => by rw [e]; exact h) (t w')
theorem vx_n {args : Array Value} {s : State} : ∀ w ∈ ([] : List Cond), w.before args s = true := fun _ h => nomatch h
theorem vx_own {args : Array Value} {s : State} {L : List Cond} (h1 : ∀ w ∈ L.filter vx_no, w.before args s = true)
    (hU : (Cond.isRef (.static Bundle.tN "UNASSIGNED_STACK" Bundle.steD)).before args s = true) (hN : (Cond.isRef (.static Bundle.tN "SUPPRESSED_SENTINEL" Bundle.listD)).before args s = true)
    (lU : (Cond.laysStatic Bundle.tN "UNASSIGNED_STACK" Bundle.steD).before args s = true) (lN : (Cond.laysStatic Bundle.tN "SUPPRESSED_SENTINEL" Bundle.listD).before args s = true) : ∀ w ∈ L, w.before args s = true := by
  intro w hw
  by_cases e1 : w = .isRef (.static Bundle.tN "UNASSIGNED_STACK" Bundle.steD)
  · rw [e1]; exact hU
  · by_cases e2 : w = .isRef (.static Bundle.tN "SUPPRESSED_SENTINEL" Bundle.listD)
    · rw [e2]; exact hN
    · by_cases e3 : w = .laysStatic Bundle.tN "UNASSIGNED_STACK" Bundle.steD
      · rw [e3]; exact lU
      · by_cases e4 : w = .laysStatic Bundle.tN "SUPPRESSED_SENTINEL" Bundle.listD
        · rw [e4]; exact lN
        · exact h1 w (List.mem_filter.mpr ⟨hw, by unfold vx_no; rw [decide_eq_true e1, decide_eq_true e2, decide_eq_true e3, decide_eq_true e4]; rfl⟩)
/-- where a static field lies, its class's statics cell in H -/
def vx_L (C n d : String) (A : Nat → Prop) (U : State) (H : Heap) : Prop := ∃ (c : ClassId) (k : Class) (i : Nat) (f : Field) (a : Nat) (cell : Cell), U.vm.findClass C = some c ∧ U.fieldFound? C n d = some (c, k, i, f) ∧ f.isStatic = true ∧ k.statics = some a ∧ H[a]? = some cell ∧ cell.vm.isStatics = true ∧ cell.cls = c ∧ f.slot < cell.slots.size ∧ k.staticTypes[f.slot]? = some f.type ∧ ¬ A a
theorem vx_L.moved {C n d : String} {A : Nat → Prop} {u U : State} {H : Heap} (hvm : u.vm.Alike U.vm) (h : vx_L C n d A u H) : vx_L C n d A U H := by
  obtain ⟨c, k, i, f, a, cell, h1, h2, h3, h4, h5, h6, h7, h8, h9, h10⟩ := h
  obtain ⟨k', hi', he⟩ := State.fieldFound?_setVm hvm h2
  exact ⟨c, k', i, f, a, cell, by rw [hvm.findClass]; exact h1, hi', h3, by rw [he]; exact h4, h5, h6, h7, h8, by rw [he]; exact h9, h10⟩
theorem vx_L.kept {C n d : String} {A : Nat → Prop} {U : State} {H H1 : Heap} (h : vx_L C n d A U H) (hq : ∀ a : Nat, a < H.size → ¬ A a → H1[a]? = H[a]?) : vx_L C n d A U H1 := by
  obtain ⟨c, k, i, f, a, cell, h1, h2, h3, h4, h5, h6, h7, h8, h9, h10⟩ := h
  exact ⟨c, k, i, f, a, cell, h1, h2, h3, h4, by rw [hq a (Array.getElem?_eq_some_iff.mp h5).1 h10]; exact h5, h6, h7, h8, h9, h10⟩
theorem vx_L.narrow {C n d : String} {A B : Nat → Prop} {U : State} {H : Heap} (h : vx_L C n d A U H) (hAB : ∀ q, B q → A q) : vx_L C n d B U H := by
  obtain ⟨c, k, i, f, a, cell, h1, h2, h3, h4, h5, h6, h7, h8, h9, h10⟩ := h
  exact ⟨c, k, i, f, a, cell, h1, h2, h3, h4, h5, h6, h7, h8, h9, fun z => h10 (hAB _ z)⟩
theorem vx_L.word {C n d : String} {A : Nat → Prop} {s : State} {args : Array Value} (h : vx_L C n d A s s.heap) : (Cond.laysStatic C n d).before args s = true := by
  obtain ⟨c, k, i, f, a, cell, h1, h2, h3, h4, h5, h6, h7, h8, h9, -⟩ := h
  show (Cond.laysStatic C n d).holds args s none s [] = true
  exact Cond.laysStatic_of h1 h2 h3 h4 h5 h6 h7 h8 h9
/-- .. and what it holds: null or some reference -/
def vx_Zq (C n d : String) (A : Nat → Prop) (U : State) (H : Heap) : Prop := va_Zq C n d A U H ∧ vx_L C n d A U H
theorem vx_Zq.moved {C n d : String} {A : Nat → Prop} {u U : State} {H : Heap} (hvm : u.vm.Alike U.vm) (h : vx_Zq C n d A u H) : vx_Zq C n d A U H := ⟨va_Zq.moved hvm h.1, vx_L.moved hvm h.2⟩
theorem vx_Zq.kept {C n d : String} {A : Nat → Prop} {U : State} {H H1 : Heap} (h : vx_Zq C n d A U H) (hq : ∀ a : Nat, a < H.size → ¬ A a → H1[a]? = H[a]?) : vx_Zq C n d A U H1 := ⟨va_Zq.kept h.1 hq, vx_L.kept h.2 hq⟩
theorem vx_Zq.narrow {C n d : String} {A B : Nat → Prop} {U : State} {H : Heap} (h : vx_Zq C n d A U H) (hAB : ∀ q, B q → A q) : vx_Zq C n d B U H := ⟨va_Zq.narrow h.1 hAB, vx_L.narrow h.2 hAB⟩
theorem vx_Zqof {args : Array Value} {s : State} {C n d : String} {A : Nat → Prop} (hl : (Cond.laysStatic C n d).before args s = true) (hini : (Cond.initialized C).before args s = true) (h : (Cond.isRef (.static C n d)).before args s = true) (hA : ∀ a : Nat, a < s.heap.size → ¬ A a) : vx_Zq C n d A s s.heap := by
  refine ⟨va_Zqof hl hini h hA, ?_⟩
  obtain ⟨c, k, i, f, a, cell, h1, h2, h3, h4, h5, h6, h7, h8, h9⟩ := Cond.laysStatic_spec hl
  exact ⟨c, k, i, f, a, cell, h1, h2, h3, h4, h5, h6, h7, h8, h9, hA a (Array.getElem?_eq_some_iff.mp h5).1⟩
theorem vx_isRef {C n d : String} {v : Value} {A : Nat → Prop} {s : State} {args : Array Value} (h : va_Z C n d v A s s.heap) (hv : v.isRef = true) : (Cond.isRef (.static C n d)).before args s = true := by
  obtain ⟨cf, kf, fi, f, a, cell, h1, h2, h3, h4, h5, h6, h7, -⟩ := h
  have he : (Term.static C n d).eval args s none [] s = some v := by
    simp [Term.eval, State.fieldNamed?, h1, h2, h4, h5, h6, h7]
  simp only [Cond.before, Cond.holds, Cond.value, he]
  cases v <;> simp_all [Value.isRef]
theorem vx_isRefq {C n d : String} {A : Nat → Prop} {s : State} {args : Array Value} (h : va_Zq C n d A s s.heap) : (Cond.isRef (.static C n d)).before args s = true := by
  rcases h with h | ⟨t, h⟩
  · exact vx_isRef h rfl
  · exact vx_isRef h rfl
/-- the same frame, seen from here: as if the method were called anew in this heap -/
theorem vx_rebase {T : State} (X : Stand p l e R s m args below meth c T locs cells slots) {R' : Room} (hf : R'.frames ≤ R.frames) (hl : R'.locals ≤ R.locals) (hc : cells + R'.cells ≤ R.cells) (hs : slots + R'.slots ≤ R.slots) :
    Stand p l e R' ((T.setVm s.vm).setFrames (.invoking m args :: below)) m args below meth c T [] 0 0 := by
  have htop : (T.setVm s.vm).topJava?.isSome := X.here.top
  have hF : ((T.setVm s.vm).setFrames (.invoking m args :: below)).frames = .invoking m args :: below := State.frames_setFrames _ (State.cur_lt_of_top htop)
  obtain ⟨g₀, hg0⟩ := Option.isSome_iff_exists.mp htop
  obtain ⟨r, hr⟩ := State.topJava?_eq_some.mp hg0
  have hl9 : e.platform.stackLimits (T.setVm s.vm).me = e.platform.stackLimits s.me := X.limits
  have hb9 : (T.setVm s.vm).me.stackBytes = s.me.stackBytes := X.bytes
  refine ⟨X.admits, X.cas, X.clock, hF, ?_, X.hears, X.method, X.code, X.here, X.tail, X.warmed, ?_, ?_, ?_⟩
  · have h := X.room
    have hU : ((T.setVm s.vm).setFrames (.invoking m args :: below)).localsInUse = s.localsInUse := by
      rw [State.localsInUse_invoking hF (meth := meth) (c := c) X.method X.code, State.localsInUse_invoking X.frames X.method X.code]
    simp only [State.hasRoom, Bool.and_eq_true, decide_eq_true_eq] at h ⊢
    obtain ⟨⟨⟨⟨h1, h2, h3, h4, h5, h6⟩, h7⟩, h8⟩, h9⟩ := h
    rw [X.frames, List.length_cons] at h2 h3
    have q1 := X.heapSize
    have q2 := X.used
    simp only [hF, hU, List.length_cons, State.stackLimits_setFrames, State.stackBytes_setFrames, hl9, hb9]
    refine ⟨⟨⟨⟨by omega, by omega, by omega, by omega, by omega, h6⟩, ?_⟩, ?_⟩, X.book⟩
    · show T.heap.size + R'.cells ≤ e.platform.maxCells
      omega
    · show T.slotsUsed + R'.slots ≤ e.platform.maxSlots
      omega
  · rw [State.stackLimits_setFrames]; rfl
  · rw [State.stackBytes_setFrames]; rfl
  · refine ⟨?_, Nat.le_refl _, Nat.le_refl _, ?_, ?_, fun a c9 h9 => ⟨c9, h9, rfl, rfl, fun _ _ => rfl⟩⟩
    · obtain ⟨t, ht, -⟩ := State.frames_cons hr
      show T.setVm s.vm = { ((T.setVm s.vm).setFrames (.invoking m args :: below)).setFrames (T.setVm s.vm).frames with heap := T.heap, slotsUsed := T.slotsUsed }
      rw [State.setFrames_setFrames, State.setFrames_self ht]
      rfl
    · show T.slotsUsed = T.slotsUsed + ((T.heap.toList.drop T.heap.size).map (·.slots.size)).sum
      rw [List.drop_eq_nil_of_le (Nat.le_of_eq Array.length_toList)]
      rfl
    · show ((T.heap.toList.drop T.heap.size).map (·.slots.size)).sum ≤ 0
      rw [List.drop_eq_nil_of_le (Nat.le_of_eq Array.length_toList)]
      exact Nat.le_refl _
/-- 'throw new E()': new; dup; invokespecial; athrow -/
theorem vx_throw0 {cc : ByteArray} {pc : Nat} (hexec : p.tables.exec = Jvm.exec) (hb : c.code = cc) (hl : l.stackTraces = false) {own cls : String} {names : List String} {ik ic mc ms : Nat} {A : Nat → Prop}
    (hown : s.vm.findClass own = some m.cls) (hcls : Bundle.fit cls = true) (hnames : ∀ n ∈ names, Bundle.fit n = true)
    (hk : (Cond.classLink own ik cls).before args s = true) (hini : (Cond.initialized cls).before args s = true) (hat : ∀ w ∈ vx_at0 own ic cls names, w.before args s = true)
    (hgood : ∀ w ∈ Cond.classLink own ik cls :: Cond.initialized cls :: vx_at0 own ic cls names, vx_ot w = true)
    (hU : vx_Zq Bundle.tN "UNASSIGNED_STACK" Bundle.steD A s s.heap) (hN : vx_Zq Bundle.tN "SUPPRESSED_SENTINEL" Bundle.listD A s s.heap) (hS : va_S A s.heap H locs) (hsize : ls.size = c.maxLocals)
    (d0 : decode cc pc = .ok (.new ik, 3)) (d3 : decode cc (pc + 3) = .ok (.dup, 1)) (d4 : decode cc (pc + 4) = .ok (.invokespecial ic, 3)) (d7 : decode cc (pc + 7) = .ok (.athrow, 1))
    (hout : ∀ x ∈ c.exceptionTable.toList, covers x (pc + 7) = false)
    (hRframes : names.length + 3 < R.frames) (hRlocals : (rest.map fun v => v.category).sum + (13 * (names.length + 1) + 42) ≤ R.locals) (hRcells : cells + 1 ≤ R.cells) (hRslots : slots + 6 ≤ R.slots) (hlocks : meth.locks = false)
    (hx : ∀ t : State, s.vm.Alike t.vm → H.size ≤ t.heap.size → (∀ q : Nat, q < H.size → t.heap[q]? = H[q]?) → XC cls s t)
    (hf : ∀ z ∈ locs, free z.base) (hc : cells + 1 ≤ mc) (hs : slots + 6 ≤ ms) :
    W p l e R s m args below meth c H locs cells slots (vx_MQ below Qc XC args s mc ms free) (F0 m pc ls rest) := by
  intro T hT X
  have htr : e.platform.stackTraces = false := (show e.platform.stackTraces = l.stackTraces by rw [X.admits.platform]).trans hl
  have Y := vx_rebase X (R' := { frames := R.frames, locals := R.locals, cells := 1, slots := 6 }) (Nat.le_refl _) (Nat.le_refl _) hRcells hRslots
  obtain ⟨s', hA⟩ : ∃ z, z = (T.setVm s.vm).setFrames (.invoking m args :: below) := ⟨_, rfl⟩
  rw [← hA] at Y
  have hvm : s'.vm = s.vm := by rw [hA]; rfl
  have hhp : s'.heap = H := by rw [hA]; exact hT
  have hW0 : s.WarmedH s'.vm := by rw [hvm]; exact State.WarmedH.refl s
  have hat' : ∀ w ∈ vx_at0 own ic cls names, w.before args s' = true := fun w hw => vx_ot_at hW0 hvm.symm (hgood w (List.mem_cons_of_mem _ (List.mem_cons_of_mem _ hw))) (hat w hw)
  have hk' : (Cond.classLink own ik cls).before args s' = true := vx_ot_at hW0 hvm.symm (hgood _ List.mem_cons_self) hk
  have hini' : (Cond.initialized cls).before args s' = true := vx_ot_at hW0 hvm.symm (hgood _ (List.mem_cons_of_mem _ List.mem_cons_self)) hini
  have hU' : vx_Zq Bundle.tN "UNASSIGNED_STACK" Bundle.steD A s' s'.heap := by rw [hhp]; exact vx_Zq.moved hW0.alike (hU.kept hS.2.1)
  have hN' : vx_Zq Bundle.tN "SUPPRESSED_SENTINEL" Bundle.listD A s' s'.heap := by rw [hhp]; exact vx_Zq.moved hW0.alike (hN.kept hS.2.1)
  have h : ∀ w ∈ Bundle.ownAtoms0 own ic cls names, w.before args s' = true := vx_own hat' (vx_isRefq hU'.1) (vx_isRefq hN'.1) hU'.2.word hN'.2.word
  have hown' : s'.vm.findClass own = some m.cls := by rw [hvm]; exact hown
  have hins : (Cond.instantiable cls 6).before args s' = true := h _ (by simp [Bundle.ownAtoms0])
  obtain ⟨vm₁, cX, kX, hfX, hkX, -, -, X₁, st1⟩ := Y.newCold hexec (own := own) (C := cls) (index := ik) (n := 6) hown' hk' hins hini'
    (g := F0 m pc ls rest) rfl (by rw [hb]; exact d0) (Nat.le_refl _) (Nat.le_refl _)
  generalize hT1 : (T.setVm vm₁).pushCell { cls := cX, slots := kX.instanceTypes.map defaultValue, vm := .none } = T1 at X₁ st1
  have hcat : (Value.ref T.heap.size).category = 1 := rfl
  have hcellA : T1.heap[T.heap.size]? = some (freshCell cX kX) := by rw [← hT1]; exact State.heap_pushCell_size _ _
  have d3' : decode c.code (pc + 3) = .ok (.dup, 1) := by rw [hb]; exact d3
  obtain ⟨U, hsteps, hrun, hend, hW, hsame, ce, hce, hO⟩ := X₁.ctorThrow0 hexec htr (own := own) (cls := cls) (names := names) (ic := ic) hown' hcls hnames h (fun x hx => nomatch hx) hfX hkX hcellA (by rw [hhp, hT]; exact Nat.le_refl _)
    (g := { method := m, pc := pc + 4, locals := ls, stack := .ref T.heap.size :: .ref T.heap.size :: rest, locked := none }) rfl hsize rfl rfl (rest := rest) rfl
    (by rw [hb]; exact d4) (by rw [hb]; exact d7) hout hRframes (by simp only [List.map_cons, List.sum_cons, hcat]; omega) hlocks
  obtain ⟨f1, f2⟩ := vx_frame hsame
  rw [hhp] at f1 f2
  have hWs : s.WarmedH U.vm := State.WarmedH.trans hW0 hW
  have hcl : s.vm.findClass cls = some ce.cls := by
    have h9 := hO.cls
    rw [hvm] at h9
    exact h9
  have hall : s.sameButNew ({ U with vm := s.vm } : State) locs mc ms := by
    subst hA
    obtain ⟨e1, e2⟩ := hsame
    rw [State.setFrames_setFrames] at e1
    have h2 : (T.setVm s.vm).sameButNew ({ U with vm := s.vm } : State) [] (0 + 1) (0 + 6) := ⟨e1, e2⟩
    have h3 := X.same.trans h2
    rw [List.append_nil] at h3
    exact h3.mono hc hs
  refine ⟨U, ?_, .threw T.heap.size, hrun, hend, Or.inr ⟨T.heap.size, rfl, cls, ce, locs, hx U hWs.alike f1 (fun q hq => f2 q hq (fun z hz => nomatch hz)), hce, hO.vm, hcl, hWs, hall, hf⟩⟩
  refine st1 _ ?_
  show Steps p.tables e below (T1.setTop { method := m, pc := pc + 3, locals := ls, stack := .ref T.heap.size :: rest, locked := none }) _
  jvm_step X₁.here [X₁.here.top, hexec, d3', Value.category]
  exact hsteps
end Ends
section Bodies
variable {l : Launch}
theorem vx_ofW {y : MethodName} {ws ws' : List Cond} {rm : Room} {Pc : Array Value → State → Prop} {Qc : Array Value → State → Outcome → State → Prop} {XC : String → State → State → Prop} {mc ms : Nat} {free : Addr → Prop} {cc : ByteArray} {maxL : Nat} {ret : Option FieldType}
    (hy : plainName y.cls = true) (hw : ws = Cond.code y cc maxL ret :: ws')
    (body : ∀ p e s m args below meth c s₁, BodyLoose p l y (headSpec ws rm) cc maxL ret e s m args below meth c s₁ → c.maxLocals = maxL → (∀ x ∈ c.exceptionTable.toList, False) → Pc args s →
      W p l e (headSpec ws rm).room s m args below meth c s.heap [] 0 0 (vx_MQ below Qc XC args s mc ms free) (entryFrame m args maxL)) : vx_Met l y ws rm Pc Qc XC mc ms free := by
  refine MetFree.of_bodyS (code := cc) (maxLocals := maxL) (ret := ret) hy ?_ ?_
  · intro args s m h hn
    obtain ⟨meth, c, h1, h2, h3, h4, h5, h6, -, -⟩ := Cond.code_spec hn (atoms_spec (ws := ws) h _ (by rw [hw]; exact List.mem_cons_self))
    exact ⟨meth, c, h1, h2, h3, h4, h5, h6⟩
  · intro p e s m args below meth c s₁ B hml hP _
    have hh0 : s₁.heap = s.heap := by rw [B.state]; rfl
    have ht : ∀ x ∈ c.exceptionTable.toList, False := by
      obtain ⟨meth9, c9, h1, h2, -, -, -, -, h7, -⟩ := Cond.code_spec B.named (atoms_spec (ws := ws) B.pre _ (by rw [hw]; exact List.mem_cons_self))
      cases Option.some.inj (h1.symm.trans B.method)
      cases Option.some.inj (h2.symm.trans (Stand.of_body B).code)
      intro x hx
      rw [Array.isEmpty_iff.mp h7] at hx
      cases hx
    obtain ⟨t, a1, o, b1, b2, b3⟩ := body p e s m args below meth c s₁ B hml ht hP s₁ hh0 (Stand.of_body B)
    exact ⟨t, o, a1, b1, b2, b3⟩
/-- the table of a body with handlers -/
theorem vx_table {p : Program} {x y : MethodName} {S : Spec} {cc bytes : ByteArray} {maxL maxL' : Nat} {ret ret' : Option FieldType} {e : Env} {s s₁ : State} {m : MethodId} {args : Array Value} {below : List Frame} {meth : Method} {c : Code} {hh : List (Nat × Nat × Nat × Nat)}
    (B : BodyLoose p l y S cc maxL ret e s m args below meth c s₁) (h : (Cond.codeWith y bytes maxL' ret' hh).before args s = true) : c.exceptionTable.toList = tableOf hh := by
  obtain ⟨m9, meth9, c9, hn9, h1, h2, -, -, h6, -⟩ := Cond.codeWith_spec h
  cases Option.some.inj (hn9.symm.trans B.named)
  cases Option.some.inj (h1.symm.trans B.method)
  cases Option.some.inj (h2.symm.trans (Stand.of_body B).code)
  rw [← h6, table_eq]
end Bodies
end VXA
/-! ===== END ===== -/
/-! ===== BEGIN a static call of a method with an exception table ===== -/
section VXS
variable {p : Program} {l : Launch} {e : Env} {R : Room} {s : State} {m : MethodId} {args : Array Value} {below : List Frame} {meth : Method} {c : Code} {T : State} {H : Heap} {locs : List Loc} {cells slots : Nat}
abbrev vx_CSW (R : Room) (s : State) (args : Array Value) (own : String) (index : Nat) (y : MethodName) (bytes : ByteArray) (maxL : Nat) (ret : Option FieldType) (hh : List (Nat × Nat × Nat × Nat)) (ws : List Cond) (rm : Room) (mc ms n : Nat) : Prop :=
  (rm.cells = mc ∧ rm.slots = ms ∧ rm.frames + 1 ≤ R.frames ∧ 8 + (maxL + 11) + rm.locals ≤ R.locals ∧ (∀ w ∈ ws, ∀ (a' : Array Value) (U : State), s.WarmedH U.vm → w.before a' U = true) ∧ Cond.codeWith y bytes maxL ret hh ∈ ws) ∧
  (Cond.codeWith y bytes maxL ret hh).before args s = true ∧ (Cond.initialized y.cls).before args s = true ∧ (y.cls ≠ "java/lang/invoke/MethodHandle" ∧ y.cls ≠ "java/lang/invoke/VarHandle") ∧
  (∀ sig, parseMethodDescriptor y.desc = some sig → n = sig.parameters.length) ∧ (Cond.methodLink own index y).before args s = true ∧ (Cond.static y).before args s = true
theorem vx_cwSW {own : String} {index maxL mc ms : Nat} {y : MethodName} {bytes : ByteArray} {ret : Option FieldType} {hh : List (Nat × Nat × Nat × Nat)} {Ts ws ws' : List Cond} {rm : Room} (n : Nat) (ht : ∀ w ∈ Ts, w.before args s = true) (hT : GoodIn Ts (va_wsS own index y ws)) (hw : ws = Cond.codeWith y bytes maxL ret hh :: ws') (hrc : rm.cells = mc) (hrs : rm.slots = ms)
    (hd : y.cls ≠ "java/lang/invoke/MethodHandle" ∧ y.cls ≠ "java/lang/invoke/VarHandle" ∧ (parseMethodDescriptor y.desc).map (fun d => d.parameters.length) = some n) (hR : rm.frames + 1 ≤ R.frames ∧ 8 + (maxL + 11) + rm.locals ≤ R.locals) :
    vx_CSW R s args own index y bytes maxL ret hh ws rm mc ms n := by
  have ok : ∀ w ∈ va_wsS own index y ws, w.before args s = true := fun w h => ht w (hT w h).1
  have hG : GoodIn Ts ws := fun w h => hT w (by unfold va_wsS; exact List.mem_append_right _ h)
  have hc : Cond.codeWith y bytes maxL ret hh ∈ ws := by rw [hw]; exact List.mem_cons_self
  refine ⟨⟨hrc, hrs, hR.1, hR.2, pay_in ht hG, hc⟩, ht _ (hG _ hc).1, ok _ (by simp [va_wsS]), ⟨hd.1, hd.2.1⟩, fun sig h => ?_, ok _ (by simp [va_wsS]), ok _ (by simp [va_wsS])⟩
  have h2 := hd.2.2
  rw [h] at h2
  exact (Option.some.inj h2).symm
theorem vx_callSW (X : Stand p l e R s m args below meth c T locs cells slots) (hexec : p.tables.exec = Jvm.exec) {own : String} {index : Nat} {y : MethodName} {bytes : ByteArray} {maxL : Nat} {ret : Option FieldType} {hh : List (Nat × Nat × Nat × Nat)}
    (hown : s.vm.findClass own = some m.cls) (hlink : (Cond.methodLink own index y).before args s = true) (hstat : (Cond.static y).before args s = true) (hinit : (Cond.initialized y.cls).before args s = true)
    (hcode : (Cond.codeWith y bytes maxL ret hh).before args s = true) (hy : y.cls ≠ "java/lang/invoke/MethodHandle" ∧ y.cls ≠ "java/lang/invoke/VarHandle")
    {W9 : Nat} {Pre : Pt → Array Value → Prop} {Post : Pt → Array Value → Option Value → Pt → Prop} (hK : Back l R p e below s args y 3 W9 Pre Post)
    {g : JFrame} (hg : g.method = m) (hsize : g.locals.size = c.maxLocals) {argsL rest : List Value} (hlen : ∀ sig, parseMethodDescriptor y.desc = some sig → argsL.length = sig.parameters.length)
    (hstack : g.stack = argsL.reverse ++ rest) (hW : 2 * g.monitorRoom + (rest.map fun v => v.category).sum ≤ W9) (hdg : decode c.code g.pc = .ok (.invokestatic index, 3))
    (hpre : ∀ vm₁, s.WarmedH vm₁ → Pre ⟨T.setVm vm₁, locs, cells, slots⟩ argsL.toArray) :
    ∃ (v : Option Value) (vm₁ : Vm) (B : Pt), s.WarmedH vm₁ ∧ Stand p l e R s m args below meth c B.U B.locs B.cells B.slots ∧ Post ⟨T.setVm vm₁, locs, cells, slots⟩ argsL.toArray v B ∧
      ∀ target, Steps p.tables e below (B.U.setTop { g with pc := g.pc + 3, stack := v.toList ++ rest }) target → Steps p.tables e below (T.setTop g) target := by
  obtain ⟨mk, methM, cM, hnamed, hmethM, -, -, -, -, -, -, hsigM⟩ := Cond.codeWith_spec hcode
  have hstatic : methM.isStatic = true := Cond.static_spec hnamed hmethM hstat
  obtain ⟨kP, hkP, -⟩ := className_of_methodNamed hnamed
  have hinitP : kP.init = .initialized := Cond.initialized_spec (findClass_of_methodNamed hnamed) hkP hinit
  obtain ⟨vm₁, X₁, hstep₁⟩ := X.invokestatic hexec hown hlink hnamed hmethM hstatic hkP hinitP hy (g := g) hg (argsL := argsL) (rest := rest) (hlen _ hsigM) hstack hdg
  obtain ⟨v, B, X', hpost, hsteps⟩ := hK m meth c ⟨T.setVm vm₁, locs, cells, slots⟩ { g with stack := rest } (.invokestatic index) mk argsL.toArray X₁ hg hsize hdg hW (X₁.named hnamed) (hpre vm₁ X₁.warmed)
  exact ⟨v, vm₁, B, X₁.warmed, X', hpost, fun target h => hstep₁ _ fun acts => by rw [doInvoke_state]; exact hsteps.trans h⟩
theorem vx_runSW {y : MethodName} {bytes cc : ByteArray} {maxL nL mc ms n index : Nat} {ret : Option FieldType} {hh : List (Nat × Nat × Nat × Nat)} {ws : List Cond} {rm : Room} {Pc : Array Value → State → Prop} {Qc : Array Value → State → Outcome → State → Prop} {free : Addr → Prop} {Ts : List Cond} {own : String} {As rest : List Value} {g : JFrame}
    (S : CallFix p m c cc nL s args Ts own) (hM : Met l y ws rm Pc Qc mc ms free) (cw : vx_CSW R s args own index y bytes maxL ret hh ws rm mc ms n) (hp : PreS s H Pc As)
    (hg : g.method = m) (hn : As.length = n) (hsize : g.locals.size = nL) (hstack : g.stack = As.reverse ++ rest) (hW : 2 * g.monitorRoom + (rest.map fun v => v.category).sum ≤ 8) (hdg : decode cc g.pc = .ok (.invokestatic index, 3)) (hf : cells + mc ≤ R.cells ∧ slots + ms ≤ R.slots) :
    va_Run p l e R s m args below meth c H locs cells slots mc ms g rest (Qc As.toArray) (free) := by
  obtain ⟨⟨hrc, hrs, hfr, hlo, hws, hcw⟩, hcode, hini, hy, hlen, hl, hstt⟩ := cw
  have hK : Back l R p e below s args y 3 8 (PreOf R mc ms Pc) (PostOf Qc mc ms free) := va_backW (hh := hh) (bytes := bytes) (maxL := maxL) (ret := ret) hM hp.1 hrc hrs hfr hlo hws hcw (fun a' U hW => word_at hW (Or.inl (by first | rfl | simp [Cond.onTables, Cond.keeps, Cond.steady])) hini)
  obtain ⟨hx, hb, hml, ho, -⟩ := S
  intro T hT X
  obtain ⟨v, vm₁, ⟨U', l2, c2, s2⟩, hW₁, X', ⟨g', mk, t, L, e1, e2, hq, h1, hL, h2, h3⟩, st⟩ := vx_callSW X hx (hh := hh) (bytes := bytes) (maxL := maxL) (ret := ret) ho hl hstt hini hcode hy hK hg (hsize.trans hml.symm) (argsL := As) (rest := rest) (fun sig h => hn.trans (hlen sig h)) hstack hW (by rw [hb]; exact hdg)
    (fun vm₁ hW₁ => ⟨hf.1, hf.2, hp.2 (T.setVm vm₁) hT hW₁⟩)
  dsimp only [Pt.U, Pt.locs, Pt.cells, Pt.slots] at X' e1 e2 h1 h2 h3 st
  subst h1; subst h2; subst h3
  exact ⟨v, (T.setVm vm₁).calling g' mk As.toArray, t, U', L, hT, X', hL, e1, e2, hq, st⟩
/-- not caught here, past rows that name other classes: it goes on to the caller -/
theorem vx_outP {p : Program} {l : Launch} {e : Env} {R : Room} {s : State} {m : MethodId} {args : Array Value} {below : List Frame} {meth : Method} {c : Code} {H : Heap} {locs : List Loc} {cells slots : Nat} {free : Addr → Prop} {ls : Array Slot} {rest : List Value} {Qc : Array Value → State → Outcome → State → Prop} {XC : String → State → State → Prop}
    {pc : Nat} {own E : String} {ce : Cell} {q : Addr} {mc ms : Nat} (hown : s.vm.findClass own = some m.cls) (hlocks : meth.locks = false)
    (hpass : ∀ z ∈ c.exceptionTable.toList, covers z pc = false ∨ (z.catchType ≠ 0 ∧ ∃ nm : String, (Cond.classLink own z.catchType nm).before args s = true ∧ va_Nc E nm s)) (hcell : H[q]? = some ce) (hv : ce.vm = .none) (hcl : s.vm.findClass E = some ce.cls)
    (hx : ∀ t : State, t.heap = H → s.vm.Alike t.vm → XC E s t) (hf : ∀ z ∈ locs, free z.base) (hc : cells ≤ mc) (hs : slots ≤ ms) :
    vx_W p l e R s m args below meth c H locs cells slots (vx_MQ below Qc XC args s mc ms free) (F0 m pc ls rest) q := by
  intro T hT X
  have hpl : e.platform.magicAccessors = ({} : Platform).magicAccessors := by rw [X.admits.platform]
  obtain ⟨vm', hW', X', st⟩ := X.outThrough hlocks q (g := F0 m pc ls rest) rfl rfl rfl (cell := ce) (by rw [hT]; exact hcell) (by rw [hv]; rfl)
    (by obtain ⟨k9, h9, -⟩ := Vm.findClass_spec hcl; exact ⟨k9, h9⟩) (fun z hz => by
      rcases hpass z hz with h | ⟨hz0, nm, hl1, hn1⟩
      · exact Or.inl h
      · obtain ⟨c6, hc6, hcl6⟩ := Cond.classLink_spec hown hl1 e.platform hpl
        obtain ⟨a8, b8, h1, h2, h3⟩ := hn1
        cases Option.some.inj (h1.symm.trans hcl)
        cases Option.some.inj (h2.symm.trans hc6)
        exact Or.inr ⟨hz0, _, hcl6, h3⟩)
  obtain ⟨g₀, hfr⟩ := X'.frames_eq
  have hcell9 : ((T.setVm vm').setFrames (.throwing q :: below)).heap[q]? = some ce := by
    show T.heap[q]? = some ce
    rw [hT]; exact hcell
  have hend : Ended ((T.setVm vm').setFrames (.throwing q :: below)) below (.threw q) := State.frames_setFrames _ (State.cur_lt_of_frames hfr)
  refine ⟨(T.setVm vm').setFrames (.throwing q :: below), ?_, .threw q, X'.here.running, hend, Or.inr ⟨q, rfl, E, ce, locs, hx _ hT (X'.ends _).1.alike, hcell9, hv, hcl, (X'.ends _).1, (X'.ends _).2.mono hc hs, hf⟩⟩
  rw [X.pushThrowing_eq]
  exact st
/-- a thing of a world lies in the heap -/
theorem vx_lt {D : va_G} {cl : List vw_C} {ws : va_W} {H1 : Heap} (h : va_P D cl ws H1) {k : Nat} {q : Nat × va_E} (hk : ws[k]? = some q) : q.1 < H1.size := (h k q hk).lt
end VXS
/-! ===== END ===== -/
/-! ===== BEGIN methods with a table of their own: called by a name, returning or throwing ===== -/
section VXH
/-! vx_backW, vx_callVX, vx_callSX, vx_callVW, vx_runVW, vx_runVX, vx_runSX, vx_ofWH follow the same proofs as their sisters above (Free/Laws.lean, Shelf42/LK1.lean); vx_outP calls Shelf42/NT130.lean (outThrough). -/
section
variable {l : Launch} {R : Room} {p : Program} {e : Env} {below : List Frame} {s : State} {sargs : Array Value} {y : MethodName} {len W9 : Nat}
theorem vx_backW {ws : List Cond} {rm : Room} {Pc : Array Value → State → Prop} {Qc : Array Value → State → Outcome → State → Prop} {XC : String → State → State → Prop} {mc ms : Nat} {free : Addr → Prop} {bytes : ByteArray} {maxL : Nat} {ret : Option FieldType} {hh : List (Nat × Nat × Nat × Nat)}
    (hM : vx_Met l y ws rm Pc Qc XC mc ms free) (hblind : FrameBlind Pc) (hrc : rm.cells = mc) (hrs : rm.slots = ms)
    (hframes : rm.frames + 1 ≤ R.frames) (hlocals : W9 + (maxL + 11) + rm.locals ≤ R.locals)
    (hws : ∀ w ∈ ws, ∀ a' U, s.WarmedH U.vm → w.before a' U = true) (hcode : Cond.codeWith y bytes maxL ret hh ∈ ws) (hinit : ∀ a' U, s.WarmedH U.vm → (Cond.initialized y.cls).before a' U = true) :
    vx_Back l R p e below s sargs y len W9 (PreOf R mc ms Pc) (PostOf Qc mc ms free) (vx_Post XC mc ms free) := by
  intro m meth c A g ig mk a X hg hsize hdg hW hn hp
  have h1 : (headSpec ws rm).pre.before a A.U = true := atoms_intro fun w hw => hws w hw _ _ X.warmed
  have h2 : (Cond.codeWith y bytes maxL ret hh).before a A.U = true := hws _ hcode _ _ X.warmed
  have h3 : (Cond.initialized y.cls).before a A.U = true := hinit _ _ X.warmed
  have h4 : A.cells + (headSpec ws rm).room.cells ≤ R.cells := by rw [show (headSpec ws rm).room.cells = mc from hrc]; exact hp.1
  have h5 : A.slots + (headSpec ws rm).room.slots ≤ R.slots := by rw [show (headSpec ws rm).room.slots = ms from hrs]; exact hp.2.1
  have hPc : Pc a (A.U.calling g mk a) := hblind _ _ _ _ hp.2.2
  obtain ⟨U, Ls, c0, s0⟩ := A
  dsimp only [Pt.U, Pt.locs, Pt.cells, Pt.slots] at h1 h2 h3 h4 h5 X hn hPc ⊢
  obtain ⟨m9, methY, cY, hn9, hmY, hcY, -, hlY, -⟩ := Cond.codeWith_spec h2
  cases Option.some.inj (hn9.symm.trans hn)
  obtain ⟨kY, hkY, -⟩ := className_of_methodNamed hn
  have hinitY : kY.init = .initialized := Cond.initialized_spec (findClass_of_methodNamed hn) hkY h3
  have h : At U g.method c below := by rw [hg]; exact X.here
  have hlocals9 : W9 + (maxL + 11) + (headSpec ws rm).room.locals ≤ R.locals := hlocals
  have happ : (headSpec ws rm).appliesLoose y e.platform (U.calling g mk a) = true :=
    Spec.appliesLoose_calling (g := g) h hdg hn hkY hinitY
      (X.room_calling (g := g) (R' := (headSpec ws rm).room) hsize hmY hcY hframes (by rw [hlY]; omega) h4 h5) h1
  obtain ⟨mid, hmid⟩ := h.above
  have hfr : (U.setTop g).frames = (.java g :: mid) ++ below := by rw [State.frames_setTop' g h.top, hmid]; rfl
  obtain ⟨o, s₂, hsteps, -, hend, hq⟩ := Steps.callFree hM p X.admits X.cas X.clock (acts := []) hfr happ hPc trivial
  have hq' : vx_Q Qc XC mc ms free a (U.calling g mk a) o s₂ := hq
  rw [State.frames_setTop' g h.top] at hend
  obtain ⟨g₀, hg0⟩ := Option.isSome_iff_exists.mp h.top
  obtain ⟨r, hr⟩ := State.topJava?_eq_some.mp hg0
  have hr' : (({ U with heap := s₂.heap, slotsUsed := s₂.slotsUsed } : State).setVm s₂.vm).frames = .java g₀ :: r := hr
  rcases hq' with ⟨hqc, L, hfe, hL⟩ | ⟨q, rfl, E, ce, L, hx, hce, hcv, hcl, hW₂, hsm, hL⟩
  · obtain ⟨⟨v, rfl⟩, hW₂, e2, q2, q3, q4, q5, q6⟩ := id hfe
    have e3 : s₂ = ({ (U.calling g mk a).setFrames s₂.frames with heap := s₂.heap, slotsUsed := s₂.slotsUsed } : State).setVm s₂.vm := by
      have : s₂ = ({ s₂ with vm := (U.calling g mk a).vm } : State).setVm s₂.vm := rfl
      rw [e2] at this
      exact this
    obtain ⟨c₂, i₂, len₂, hc₂, hd₂, hf₂⟩ := hend
    have hW' : U.WarmedH s₂.vm := hW₂
    have hcc : c₂ = c := by
      have h1 : s₂.code? g.method = U.code? g.method := by
        rw [State.code?_eq, State.code?_eq, hW'.alike.method?]
      exact Option.some.inj (hc₂.symm.trans (h1.trans h.code))
    subst hcc
    have hlen : len₂ = len := by rw [hdg] at hd₂; cases hd₂; rfl
    subst hlen
    have hs₂ : s₂ = (({ U with heap := s₂.heap, slotsUsed := s₂.slotsUsed } : State).setVm s₂.vm).setTop { g with pc := g.pc + len₂, stack := v.toList ++ g.stack } := by
      refine e3.trans ?_
      rw [hf₂, State.calling_eq h.top, State.setFrames_setFrames, State.setTop_of_frames _ hr', hr]
      rfl
    have hsame : U.sameButNew ({ U with heap := s₂.heap, slotsUsed := s₂.slotsUsed } : State) L mc ms := by
      refine ⟨?_, q2, q3, q4, q5, q6⟩
      obtain ⟨t, ht, -⟩ := State.frames_cons hr
      show ({ U with heap := s₂.heap, slotsUsed := s₂.slotsUsed } : State) = { U.setFrames U.frames with heap := s₂.heap, slotsUsed := s₂.slotsUsed }
      rw [State.setFrames_self ht]
    subst hg
    refine Or.inl ⟨v, ⟨(({ U with heap := s₂.heap, slotsUsed := s₂.slotsUsed } : State).setVm s₂.vm), Ls ++ L, c0 + mc, s0 + ms⟩,
      ⟨X.admits, X.cas, X.clock, X.frames, X.room, X.hears, X.method, X.code, (X.here.setHeapUsed s₂.heap s₂.slotsUsed).setVm hW'.alike, X.tail, State.WarmedH.trans X.warmed hW', X.limits, X.bytes, X.same.trans (hsame.setVm s.vm)⟩,
      ⟨g, mk, s₂, L, rfl, rfl, hqc, rfl, hL, rfl, rfl⟩, ?_⟩
    show Steps p.tables e below _ ((({ U with heap := s₂.heap, slotsUsed := s₂.slotsUsed } : State).setVm s₂.vm).setTop { g with pc := g.pc + len₂, stack := v.toList ++ g.stack })
    rw [← hs₂]
    exact hsteps
  · obtain ⟨e2, q2, q3, q4, q5, q6⟩ := id hsm
    have e3 : s₂ = ({ (U.calling g mk a).setFrames s₂.frames with heap := s₂.heap, slotsUsed := s₂.slotsUsed } : State).setVm s₂.vm := by
      have : s₂ = ({ s₂ with vm := (U.calling g mk a).vm } : State).setVm s₂.vm := rfl
      rw [e2] at this
      exact this
    have hf₂ : s₂.frames = .throwing q :: .java g :: U.frames.tail := hend
    have hW' : U.WarmedH s₂.vm := hW₂
    have hs₂ : s₂ = ((({ U with heap := s₂.heap, slotsUsed := s₂.slotsUsed } : State).setVm s₂.vm).setTop g).pushFrame (.throwing q) := by
      refine e3.trans ?_
      rw [hf₂, State.calling_eq h.top, State.setFrames_setFrames, State.pushFrame, State.frames_setTop _ hr', State.setTop_of_frames _ hr', State.setFrames_setFrames, hr]
      rfl
    have hsame : U.sameButNew ({ U with heap := s₂.heap, slotsUsed := s₂.slotsUsed } : State) L mc ms := by
      refine ⟨?_, q2, q3, q4, q5, q6⟩
      obtain ⟨t, ht, -⟩ := State.frames_cons hr
      show ({ U with heap := s₂.heap, slotsUsed := s₂.slotsUsed } : State) = { U.setFrames U.frames with heap := s₂.heap, slotsUsed := s₂.slotsUsed }
      rw [State.setFrames_self ht]
    subst hg
    refine Or.inr ⟨q, ⟨(({ U with heap := s₂.heap, slotsUsed := s₂.slotsUsed } : State).setVm s₂.vm), Ls ++ L, c0 + mc, s0 + ms⟩,
      ⟨X.admits, X.cas, X.clock, X.frames, X.room, X.hears, X.method, X.code, (X.here.setHeapUsed s₂.heap s₂.slotsUsed).setVm hW'.alike, X.tail, State.WarmedH.trans X.warmed hW', X.limits, X.bytes, X.same.trans (hsame.setVm s.vm)⟩,
      ⟨g, mk, s₂, L, E, ce, rfl, rfl, hx, hce, hcv, hcl, rfl, hL, rfl, rfl⟩, ?_⟩
    show Steps p.tables e below _ (((({ U with heap := s₂.heap, slotsUsed := s₂.slotsUsed } : State).setVm s₂.vm).setTop g).pushFrame (.throwing q))
    rw [← hs₂]
    exact hsteps
end
variable {p : Program} {l : Launch} {e : Env} {R : Room} {s : State} {m : MethodId} {args : Array Value} {below : List Frame} {meth : Method} {c : Code} {T : State} {H : Heap} {locs : List Loc} {cells slots : Nat}
theorem vx_callVX (X : Stand p l e R s m args below meth c T locs cells slots) (hexec : p.tables.exec = Jvm.exec) {own C : String} {index : Nat} {y : MethodName} {bytes : ByteArray} {maxL : Nat} {ret : Option FieldType} {hh : List (Nat × Nat × Nat × Nat)}
    (hown : s.vm.findClass own = some m.cls) (hlink : (Cond.methodLink own index y).before args s = true) (hinst : (Cond.instanceMethod y).before args s = true) (hsel : (Cond.selects C y y).before args s = true)
    (hcode : (Cond.codeWith y bytes maxL ret hh).before args s = true) (hy : y.cls ≠ "java/lang/invoke/MethodHandle" ∧ y.cls ≠ "java/lang/invoke/VarHandle")
    {W9 : Nat} {Pre : Pt → Array Value → Prop} {Post : Pt → Array Value → Option Value → Pt → Prop} {PostX : Pt → Array Value → Addr → Pt → Prop} (hK : vx_Back l R p e below s args y 3 W9 Pre Post PostX)
    {b : Addr} {cellB : Cell} (hcell : T.heap[b]? = some cellB) (hobj : cellB.vm.isStatics = false) (hcls : s.vm.findClass C = some cellB.cls)
    {g : JFrame} (hg : g.method = m) (hsize : g.locals.size = c.maxLocals) {argsL rest : List Value} (hlen : ∀ sig, parseMethodDescriptor y.desc = some sig → argsL.length = sig.parameters.length)
    (hstack : g.stack = argsL.reverse ++ .ref b :: rest) (hW : 2 * g.monitorRoom + (rest.map fun v => v.category).sum ≤ W9) (hdg : decode c.code g.pc = .ok (.invokevirtual index, 3))
    (hpre : ∀ vm₁, s.WarmedH vm₁ → Pre ⟨T.setVm vm₁, locs, cells, slots⟩ (Value.ref b :: argsL).toArray) :
    (∃ (v : Option Value) (vm₁ : Vm) (B : Pt), s.WarmedH vm₁ ∧ Stand p l e R s m args below meth c B.U B.locs B.cells B.slots ∧ Post ⟨T.setVm vm₁, locs, cells, slots⟩ (Value.ref b :: argsL).toArray v B ∧
      ∀ target, Steps p.tables e below (B.U.setTop { g with pc := g.pc + 3, stack := v.toList ++ rest }) target → Steps p.tables e below (T.setTop g) target) ∨
    (∃ (q : Addr) (vm₁ : Vm) (B : Pt), s.WarmedH vm₁ ∧ Stand p l e R s m args below meth c B.U B.locs B.cells B.slots ∧ PostX ⟨T.setVm vm₁, locs, cells, slots⟩ (Value.ref b :: argsL).toArray q B ∧
      Steps p.tables e below (T.setTop g) ((B.U.setTop { g with stack := rest }).pushFrame (.throwing q))) := by
  obtain ⟨mk, methM, hnamed, hmethM, hstM, habM⟩ := Cond.instanceMethod_spec hinst
  obtain ⟨m8, methM', cM, hn8, hmethM', -, -, -, -, -, -, hsigM⟩ := Cond.codeWith_spec hcode
  cases Option.some.inj (hn8.symm.trans hnamed)
  cases hmethM.symm.trans hmethM'
  obtain ⟨c2, r2, m2, q1, q2, q3, q4, kP, hkP, hkPi⟩ := Cond.selects_spec hsel
  cases hcls.symm.trans q1
  cases (State.methodFound?_of_named hnamed hy).symm.trans q2
  cases hnamed.symm.trans q3
  have hselP : selectMethod e.platform s.vm cellB.cls mk = .method mk := by rw [Launch.admits_selectMethod X.admits]; exact q4
  obtain ⟨vm₁, X₁, hstep₁⟩ := X.invokevirtual hexec hown hlink hnamed hmethM hstM hkP hkPi hy (a := b) (cell := cellB) hcell
    (fun z h => by rw [h] at hobj; cases hobj) hselP hmethM habM hkP hkPi (g := g) hg (argsL := argsL) (rest := rest) (hlen _ hsigM) hstack hdg
  rcases hK m meth c ⟨T.setVm vm₁, locs, cells, slots⟩ { g with stack := rest } (.invokevirtual index) mk (Value.ref b :: argsL).toArray X₁ hg hsize hdg hW (X₁.named hnamed) (hpre vm₁ X₁.warmed) with ⟨v, B, X', hpost, hsteps⟩ | ⟨q, B, X', hpost, hsteps⟩
  · exact Or.inl ⟨v, vm₁, B, X₁.warmed, X', hpost, fun target h => hstep₁ _ fun acts => by rw [doInvoke_state]; exact hsteps.trans h⟩
  · exact Or.inr ⟨q, vm₁, B, X₁.warmed, X', hpost, hstep₁ _ fun acts => by rw [doInvoke_state]; exact hsteps⟩
theorem vx_callSX (X : Stand p l e R s m args below meth c T locs cells slots) (hexec : p.tables.exec = Jvm.exec) {own : String} {index : Nat} {y : MethodName} {bytes : ByteArray} {maxL : Nat} {ret : Option FieldType} {hh : List (Nat × Nat × Nat × Nat)}
    (hown : s.vm.findClass own = some m.cls) (hlink : (Cond.methodLink own index y).before args s = true) (hstat : (Cond.static y).before args s = true) (hinit : (Cond.initialized y.cls).before args s = true)
    (hcode : (Cond.codeWith y bytes maxL ret hh).before args s = true) (hy : y.cls ≠ "java/lang/invoke/MethodHandle" ∧ y.cls ≠ "java/lang/invoke/VarHandle")
    {W9 : Nat} {Pre : Pt → Array Value → Prop} {Post : Pt → Array Value → Option Value → Pt → Prop} {PostX : Pt → Array Value → Addr → Pt → Prop} (hK : vx_Back l R p e below s args y 3 W9 Pre Post PostX)
    {g : JFrame} (hg : g.method = m) (hsize : g.locals.size = c.maxLocals) {argsL rest : List Value} (hlen : ∀ sig, parseMethodDescriptor y.desc = some sig → argsL.length = sig.parameters.length)
    (hstack : g.stack = argsL.reverse ++ rest) (hW : 2 * g.monitorRoom + (rest.map fun v => v.category).sum ≤ W9) (hdg : decode c.code g.pc = .ok (.invokestatic index, 3))
    (hpre : ∀ vm₁, s.WarmedH vm₁ → Pre ⟨T.setVm vm₁, locs, cells, slots⟩ argsL.toArray) :
    (∃ (v : Option Value) (vm₁ : Vm) (B : Pt), s.WarmedH vm₁ ∧ Stand p l e R s m args below meth c B.U B.locs B.cells B.slots ∧ Post ⟨T.setVm vm₁, locs, cells, slots⟩ argsL.toArray v B ∧
      ∀ target, Steps p.tables e below (B.U.setTop { g with pc := g.pc + 3, stack := v.toList ++ rest }) target → Steps p.tables e below (T.setTop g) target) ∨
    (∃ (q : Addr) (vm₁ : Vm) (B : Pt), s.WarmedH vm₁ ∧ Stand p l e R s m args below meth c B.U B.locs B.cells B.slots ∧ PostX ⟨T.setVm vm₁, locs, cells, slots⟩ argsL.toArray q B ∧
      Steps p.tables e below (T.setTop g) ((B.U.setTop { g with stack := rest }).pushFrame (.throwing q))) := by
  obtain ⟨mk, methM, cM, hnamed, hmethM, -, -, -, -, -, -, hsigM⟩ := Cond.codeWith_spec hcode
  have hstatic : methM.isStatic = true := Cond.static_spec hnamed hmethM hstat
  obtain ⟨kP, hkP, -⟩ := className_of_methodNamed hnamed
  have hinitP : kP.init = .initialized := Cond.initialized_spec (findClass_of_methodNamed hnamed) hkP hinit
  obtain ⟨vm₁, X₁, hstep₁⟩ := X.invokestatic hexec hown hlink hnamed hmethM hstatic hkP hinitP hy (g := g) hg (argsL := argsL) (rest := rest) (hlen _ hsigM) hstack hdg
  rcases hK m meth c ⟨T.setVm vm₁, locs, cells, slots⟩ { g with stack := rest } (.invokestatic index) mk argsL.toArray X₁ hg hsize hdg hW (X₁.named hnamed) (hpre vm₁ X₁.warmed) with ⟨v, B, X', hpost, hsteps⟩ | ⟨q, B, X', hpost, hsteps⟩
  · exact Or.inl ⟨v, vm₁, B, X₁.warmed, X', hpost, fun target h => hstep₁ _ fun acts => by rw [doInvoke_state]; exact hsteps.trans h⟩
  · exact Or.inr ⟨q, vm₁, B, X₁.warmed, X', hpost, hstep₁ _ fun acts => by rw [doInvoke_state]; exact hsteps⟩
theorem vx_callVW (X : Stand p l e R s m args below meth c T locs cells slots) (hexec : p.tables.exec = Jvm.exec) {own C : String} {index : Nat} {y : MethodName} {bytes : ByteArray} {maxL : Nat} {ret : Option FieldType} {hh : List (Nat × Nat × Nat × Nat)}
    (hown : s.vm.findClass own = some m.cls) (hlink : (Cond.methodLink own index y).before args s = true) (hinst : (Cond.instanceMethod y).before args s = true) (hsel : (Cond.selects C y y).before args s = true)
    (hcode : (Cond.codeWith y bytes maxL ret hh).before args s = true) (hy : y.cls ≠ "java/lang/invoke/MethodHandle" ∧ y.cls ≠ "java/lang/invoke/VarHandle")
    {W9 : Nat} {Pre : Pt → Array Value → Prop} {Post : Pt → Array Value → Option Value → Pt → Prop} (hK : Back l R p e below s args y 3 W9 Pre Post)
    {b : Addr} {cellB : Cell} (hcell : T.heap[b]? = some cellB) (hobj : cellB.vm.isStatics = false) (hcls : s.vm.findClass C = some cellB.cls)
    {g : JFrame} (hg : g.method = m) (hsize : g.locals.size = c.maxLocals) {argsL rest : List Value} (hlen : ∀ sig, parseMethodDescriptor y.desc = some sig → argsL.length = sig.parameters.length)
    (hstack : g.stack = argsL.reverse ++ .ref b :: rest) (hW : 2 * g.monitorRoom + (rest.map fun v => v.category).sum ≤ W9) (hdg : decode c.code g.pc = .ok (.invokevirtual index, 3))
    (hpre : ∀ vm₁, s.WarmedH vm₁ → Pre ⟨T.setVm vm₁, locs, cells, slots⟩ (Value.ref b :: argsL).toArray) :
    ∃ (v : Option Value) (vm₁ : Vm) (B : Pt), s.WarmedH vm₁ ∧ Stand p l e R s m args below meth c B.U B.locs B.cells B.slots ∧ Post ⟨T.setVm vm₁, locs, cells, slots⟩ (Value.ref b :: argsL).toArray v B ∧
      ∀ target, Steps p.tables e below (B.U.setTop { g with pc := g.pc + 3, stack := v.toList ++ rest }) target → Steps p.tables e below (T.setTop g) target := by
  obtain ⟨mk, methM, hnamed, hmethM, hstM, habM⟩ := Cond.instanceMethod_spec hinst
  obtain ⟨m8, methM', cM, hn8, hmethM', -, -, -, -, -, -, hsigM⟩ := Cond.codeWith_spec hcode
  cases Option.some.inj (hn8.symm.trans hnamed)
  cases hmethM.symm.trans hmethM'
  obtain ⟨c2, r2, m2, q1, q2, q3, q4, kP, hkP, hkPi⟩ := Cond.selects_spec hsel
  cases hcls.symm.trans q1
  cases (State.methodFound?_of_named hnamed hy).symm.trans q2
  cases hnamed.symm.trans q3
  have hselP : selectMethod e.platform s.vm cellB.cls mk = .method mk := by rw [Launch.admits_selectMethod X.admits]; exact q4
  obtain ⟨vm₁, X₁, hstep₁⟩ := X.invokevirtual hexec hown hlink hnamed hmethM hstM hkP hkPi hy (a := b) (cell := cellB) hcell
    (fun z h => by rw [h] at hobj; cases hobj) hselP hmethM habM hkP hkPi (g := g) hg (argsL := argsL) (rest := rest) (hlen _ hsigM) hstack hdg
  obtain ⟨v, B, X', hpost, hsteps⟩ := hK m meth c ⟨T.setVm vm₁, locs, cells, slots⟩ { g with stack := rest } (.invokevirtual index) mk (Value.ref b :: argsL).toArray X₁ hg hsize hdg hW (X₁.named hnamed) (hpre vm₁ X₁.warmed)
  exact ⟨v, vm₁, B, X₁.warmed, X', hpost, fun target h => hstep₁ _ fun acts => by rw [doInvoke_state]; exact hsteps.trans h⟩
abbrev vx_CVW (R : Room) (s : State) (args : Array Value) (own C : String) (index : Nat) (y : MethodName) (bytes : ByteArray) (maxL : Nat) (ret : Option FieldType) (hh : List (Nat × Nat × Nat × Nat)) (ws : List Cond) (rm : Room) (mc ms n : Nat) : Prop :=
  (rm.cells = mc ∧ rm.slots = ms ∧ rm.frames + 1 ≤ R.frames ∧ 8 + (maxL + 11) + rm.locals ≤ R.locals ∧ (∀ w ∈ ws, ∀ (a' : Array Value) (U : State), s.WarmedH U.vm → w.before a' U = true) ∧ Cond.codeWith y bytes maxL ret hh ∈ ws) ∧
  (Cond.codeWith y bytes maxL ret hh).before args s = true ∧ (Cond.initialized y.cls).before args s = true ∧ (y.cls ≠ "java/lang/invoke/MethodHandle" ∧ y.cls ≠ "java/lang/invoke/VarHandle") ∧
  (∀ sig, parseMethodDescriptor y.desc = some sig → n = sig.parameters.length) ∧ (Cond.methodLink own index y).before args s = true ∧ (Cond.instanceMethod y).before args s = true ∧ (Cond.selects C y y).before args s = true
theorem vx_cwVW {own C : String} {index maxL mc ms : Nat} {y : MethodName} {bytes : ByteArray} {ret : Option FieldType} {hh : List (Nat × Nat × Nat × Nat)} {Ts ws ws' : List Cond} {rm : Room} (n : Nat) (ht : ∀ w ∈ Ts, w.before args s = true) (hT : GoodIn Ts (wsV own index C y ws)) (hw : ws = Cond.codeWith y bytes maxL ret hh :: ws') (hrc : rm.cells = mc) (hrs : rm.slots = ms)
    (hd : y.cls = C ∧ y.cls ≠ "java/lang/invoke/MethodHandle" ∧ y.cls ≠ "java/lang/invoke/VarHandle" ∧ (parseMethodDescriptor y.desc).map (fun d => d.parameters.length) = some n) (hR : rm.frames + 1 ≤ R.frames ∧ 8 + (maxL + 11) + rm.locals ≤ R.locals) :
    vx_CVW R s args own C index y bytes maxL ret hh ws rm mc ms n := by
  obtain ⟨hC, hd⟩ := hd
  subst hC
  have ok : ∀ w ∈ wsV own index y.cls y ws, w.before args s = true := fun w h => ht w (hT w h).1
  have hG : GoodIn Ts ws := fun w h => hT w (by unfold wsV; exact List.mem_append_right _ h)
  have hc : Cond.codeWith y bytes maxL ret hh ∈ ws := by rw [hw]; exact List.mem_cons_self
  refine ⟨⟨hrc, hrs, hR.1, hR.2, pay_in ht hG, hc⟩, ht _ (hG _ hc).1, ok _ (by simp [wsV]), ⟨hd.1, hd.2.1⟩, fun sig h => ?_, ok _ (by simp [wsV]), ok _ (by simp [wsV]), ok _ (by simp [wsV])⟩
  have h2 := hd.2.2
  rw [h] at h2
  exact (Option.some.inj h2).symm
theorem vx_runVW {y : MethodName} {bytes cc : ByteArray} {maxL nL mc ms n index : Nat} {ret : Option FieldType} {hh : List (Nat × Nat × Nat × Nat)} {ws : List Cond} {rm : Room} {Pc : Array Value → State → Prop} {Qc : Array Value → State → Outcome → State → Prop} {free : Addr → Prop} {Ts : List Cond} {own C : String} {b : Addr} {As rest : List Value} {g : JFrame}
    (S : CallFix p m c cc nL s args Ts own) (hM : Met l y ws rm Pc Qc mc ms free) (cw : vx_CVW R s args own C index y bytes maxL ret hh ws rm mc ms n) (hp : PreV s H C b Pc As)
    (hg : g.method = m) (hn : As.length = n) (hsize : g.locals.size = nL) (hstack : g.stack = As.reverse ++ .ref b :: rest) (hW : 2 * g.monitorRoom + (rest.map fun v => v.category).sum ≤ 8) (hdg : decode cc g.pc = .ok (.invokevirtual index, 3)) (hf : cells + mc ≤ R.cells ∧ slots + ms ≤ R.slots) :
    va_Run p l e R s m args below meth c H locs cells slots mc ms g rest (Qc (Value.ref b :: As).toArray) free := by
  obtain ⟨⟨hrc, hrs, hfr, hlo, hws, hcw⟩, hcode, hini, hy, hlen, hl, hin, hse⟩ := cw
  have hK : Back l R p e below s args y 3 8 (PreOf R mc ms Pc) (PostOf Qc mc ms free) := va_backW (hh := hh) (bytes := bytes) (maxL := maxL) (ret := ret) hM hp.1 hrc hrs hfr hlo hws hcw (fun a' U hW => word_at hW (Or.inl (by first | rfl | simp [Cond.onTables, Cond.keeps, Cond.steady])) hini)
  obtain ⟨hx, hb, hml, ho, -⟩ := S
  obtain ⟨-, ⟨cellB, hcB, hoB, hclB⟩, hPc⟩ := hp
  intro T hT X
  obtain ⟨v, vm₁, ⟨U', l2, c2, s2⟩, hW₁, X', ⟨g', mk, t, L, e1, e2, hq, h1, hL, h2, h3⟩, st⟩ := vx_callVW X hx (C := C) (hh := hh) (bytes := bytes) (maxL := maxL) (ret := ret) ho hl hin hse hcode hy hK (by rw [hT]; exact hcB) hoB hclB hg (hsize.trans hml.symm) (argsL := As) (rest := rest) (fun sig h => hn.trans (hlen sig h)) hstack hW (by rw [hb]; exact hdg)
    (fun vm₁ hW₁ => ⟨hf.1, hf.2, hPc (T.setVm vm₁) hT hW₁⟩)
  dsimp only [Pt.U, Pt.locs, Pt.cells, Pt.slots] at X' e1 e2 h1 h2 h3 st
  subst h1; subst h2; subst h3
  exact ⟨v, (T.setVm vm₁).calling g' mk (Value.ref b :: As).toArray, t, U', L, hT, X', hL, e1, e2, hq, st⟩
section
variable {y : MethodName} {bytes cc : ByteArray} {maxL nL mc ms n index : Nat} {ret : Option FieldType} {ws : List Cond} {rm : Room} {Pc : Array Value → State → Prop} {Qc : Array Value → State → Outcome → State → Prop} {XC : String → State → State → Prop} {free : Addr → Prop} {Ts : List Cond} {own C : String} {b : Addr} {As rest : List Value} {g : JFrame}
theorem vx_runVX {hh : List (Nat × Nat × Nat × Nat)} (S : CallFix p m c cc nL s args Ts own) (hM : vx_Met l y ws rm Pc Qc XC mc ms free) (cw : vx_CVW R s args own C index y bytes maxL ret hh ws rm mc ms n) (hp : PreV s H C b Pc As)
    (hg : g.method = m) (hn : As.length = n) (hsize : g.locals.size = nL) (hstack : g.stack = As.reverse ++ .ref b :: rest) (hW : 2 * g.monitorRoom + (rest.map fun v => v.category).sum ≤ 8) (hdg : decode cc g.pc = .ok (.invokevirtual index, 3)) (hf : cells + mc ≤ R.cells ∧ slots + ms ≤ R.slots) :
    vx_Run p l e R s m args below meth c H locs cells slots mc ms g rest (Qc (Value.ref b :: As).toArray) XC free := by
  obtain ⟨⟨hrc, hrs, hfr, hlo, hws, hcw⟩, hcode, hini, hy, hlen, hl, hin, hse⟩ := cw
  have hK : vx_Back l R p e below s args y 3 8 (PreOf R mc ms Pc) (PostOf Qc mc ms free) (vx_Post XC mc ms free) := vx_backW (hh := hh) (bytes := bytes) (maxL := maxL) (ret := ret) hM hp.1 hrc hrs hfr hlo hws hcw (fun a' U hW => word_at hW (Or.inl (by first | rfl | simp [Cond.onTables, Cond.keeps, Cond.steady])) hini)
  obtain ⟨hx, hb, hml, ho, -⟩ := S
  obtain ⟨-, ⟨cellB, hcB, hoB, hclB⟩, hPc⟩ := hp
  intro T hT X
  rcases vx_callVX X hx (C := C) (hh := hh) (bytes := bytes) (maxL := maxL) (ret := ret) ho hl hin hse hcode hy hK (by rw [hT]; exact hcB) hoB hclB hg (hsize.trans hml.symm) (argsL := As) (rest := rest) (fun sig h => hn.trans (hlen sig h)) hstack hW (by rw [hb]; exact hdg)
    (fun vm₁ hW₁ => ⟨hf.1, hf.2, hPc (T.setVm vm₁) hT hW₁⟩) with ⟨v, vm₁, ⟨U', l2, c2, s2⟩, hW₁, X', ⟨g', mk, t, L, e1, e2, hq, h1, hL, h2, h3⟩, st⟩ | ⟨q, vm₁, ⟨U', l2, c2, s2⟩, hW₁, X', ⟨g', mk, t, L, E, ce, e1, e2, hq, hce, hcv, hcl, h1, hL, h2, h3⟩, st⟩
  · dsimp only [Pt.U, Pt.locs, Pt.cells, Pt.slots] at X' e1 e2 h1 h2 h3 st
    subst h1; subst h2; subst h3
    exact Or.inl ⟨v, (T.setVm vm₁).calling g' mk (Value.ref b :: As).toArray, t, U', L, hT, X', hL, e1, e2, hq, st⟩
  · dsimp only [Pt.U, Pt.locs, Pt.cells, Pt.slots] at X' e1 e2 h1 h2 h3 st hcl
    subst h1; subst h2; subst h3
    exact Or.inr ⟨q, (T.setVm vm₁).calling g' mk (Value.ref b :: As).toArray, t, U', L, E, ce, hT, X', hL, e1, e2, hq, hce, hcv, vx_cls hW₁ hcl, st⟩
theorem vx_runSX {hh : List (Nat × Nat × Nat × Nat)} (S : CallFix p m c cc nL s args Ts own) (hM : vx_Met l y ws rm Pc Qc XC mc ms free) (cw : vx_CSW R s args own index y bytes maxL ret hh ws rm mc ms n) (hp : PreS s H Pc As)
    (hg : g.method = m) (hn : As.length = n) (hsize : g.locals.size = nL) (hstack : g.stack = As.reverse ++ rest) (hW : 2 * g.monitorRoom + (rest.map fun v => v.category).sum ≤ 8) (hdg : decode cc g.pc = .ok (.invokestatic index, 3)) (hf : cells + mc ≤ R.cells ∧ slots + ms ≤ R.slots) :
    vx_Run p l e R s m args below meth c H locs cells slots mc ms g rest (Qc As.toArray) XC free := by
  obtain ⟨⟨hrc, hrs, hfr, hlo, hws, hcw⟩, hcode, hini, hy, hlen, hl, hstt⟩ := cw
  have hK : vx_Back l R p e below s args y 3 8 (PreOf R mc ms Pc) (PostOf Qc mc ms free) (vx_Post XC mc ms free) := vx_backW (hh := hh) (bytes := bytes) (maxL := maxL) (ret := ret) hM hp.1 hrc hrs hfr hlo hws hcw (fun a' U hW => word_at hW (Or.inl (by first | rfl | simp [Cond.onTables, Cond.keeps, Cond.steady])) hini)
  obtain ⟨hx, hb, hml, ho, -⟩ := S
  intro T hT X
  rcases vx_callSX X hx (hh := hh) (bytes := bytes) (maxL := maxL) (ret := ret) ho hl hstt hini hcode hy hK hg (hsize.trans hml.symm) (argsL := As) (rest := rest) (fun sig h => hn.trans (hlen sig h)) hstack hW (by rw [hb]; exact hdg)
    (fun vm₁ hW₁ => ⟨hf.1, hf.2, hp.2 (T.setVm vm₁) hT hW₁⟩) with ⟨v, vm₁, ⟨U', l2, c2, s2⟩, hW₁, X', ⟨g', mk, t, L, e1, e2, hq, h1, hL, h2, h3⟩, st⟩ | ⟨q, vm₁, ⟨U', l2, c2, s2⟩, hW₁, X', ⟨g', mk, t, L, E, ce, e1, e2, hq, hce, hcv, hcl, h1, hL, h2, h3⟩, st⟩
  · dsimp only [Pt.U, Pt.locs, Pt.cells, Pt.slots] at X' e1 e2 h1 h2 h3 st
    subst h1; subst h2; subst h3
    exact Or.inl ⟨v, (T.setVm vm₁).calling g' mk As.toArray, t, U', L, hT, X', hL, e1, e2, hq, st⟩
  · dsimp only [Pt.U, Pt.locs, Pt.cells, Pt.slots] at X' e1 e2 h1 h2 h3 st hcl
    subst h1; subst h2; subst h3
    exact Or.inr ⟨q, (T.setVm vm₁).calling g' mk As.toArray, t, U', L, E, ce, hT, X', hL, e1, e2, hq, hce, hcv, vx_cls hW₁ hcl, st⟩
end
end VXH
theorem vx_ofWH {l : Launch} {y : MethodName} {ws ws' : List Cond} {rm : Room} {Pc : Array Value → State → Prop} {Qc : Array Value → State → Outcome → State → Prop} {XC : String → State → State → Prop} {mc ms : Nat} {free : Addr → Prop} {cc : ByteArray} {maxL : Nat} {ret : Option FieldType} {hh : List (Nat × Nat × Nat × Nat)}
    (hy : plainName y.cls = true) (hw : ws = Cond.codeWith y cc maxL ret hh :: ws')
    (body : ∀ p e s m args below meth c s₁, BodyLoose p l y (headSpec ws rm) cc maxL ret e s m args below meth c s₁ → c.maxLocals = maxL → Pc args s →
      W p l e (headSpec ws rm).room s m args below meth c s.heap [] 0 0 (vx_MQ below Qc XC args s mc ms free) (entryFrame m args maxL)) : vx_Met l y ws rm Pc Qc XC mc ms free := by
  refine MetFree.of_bodyS (code := cc) (maxLocals := maxL) (ret := ret) hy ?_ ?_
  · intro args s m h hn
    obtain ⟨m9, meth, c, hn9, h1, h2, h3, h4, -, h5, h6, -⟩ := Cond.codeWith_spec (atoms_spec (ws := ws) h _ (by rw [hw]; exact List.mem_cons_self))
    cases hn.symm.trans hn9
    exact ⟨meth, c, h1, h2, h3, h4, h5, h6⟩
  · intro p e s m args below meth c s₁ B hml hP _
    have hh0 : s₁.heap = s.heap := by rw [B.state]; rfl
    obtain ⟨t, a1, o, b1, b2, b3⟩ := body p e s m args below meth c s₁ B hml hP s₁ hh0 (Stand.of_body B)
    exact ⟨t, o, a1, b1, b2, b3⟩
/-! ===== END ===== -/
end
section
def TCh : u_T := fun k => match k with
  | 0 => ("AbnfChart$Characters", "codes", "[C", true)
  | _ => ("AbnfChart$Characters", "size", "I", false)
def tyCh : Nat → FieldType := fun k => match k with
  | 0 => .array (.char)
  | _ => .int
theorem inCh : ∀ w ∈ u_ws "AbnfChart$Characters" TCh 2, w ∈ lw_tbl := by decide +kernel
theorem nmCh : ∀ a, a < 2 → ∀ b, b < 2 → a ≠ b → (TCh a).2.1 ≠ (TCh b).2.1 := by decide +kernel
theorem okCh : ∀ k, k < 2 → parseFieldDescriptor (TCh k).2.2.1 = some (tyCh k) := by decide +kernel
def TCt : u_T := fun k => match k with
  | 0 => ("AbnfChart$Chart", "input", "LAbnfChart$Characters;", true)
  | 1 => ("AbnfChart$Chart", "grammar", "LAbnfChart$Grammar;", true)
  | _ => ("AbnfChart$Chart", "filled", "Z", false)
def tyCt : Nat → FieldType := fun k => match k with
  | 0 => .object "AbnfChart$Characters"
  | 1 => .object "AbnfChart$Grammar"
  | _ => .boolean
theorem inCt : ∀ w ∈ u_ws "AbnfChart$Chart" TCt 3, w ∈ lw_tbl := by decide +kernel
theorem nmCt : ∀ a, a < 3 → ∀ b, b < 3 → a ≠ b → (TCt a).2.1 ≠ (TCt b).2.1 := by decide +kernel
theorem okCt : ∀ k, k < 3 → parseFieldDescriptor (TCt k).2.2.1 = some (tyCt k) := by decide +kernel
def TEl : u_T := fun k => match k with
  | 0 => ("AbnfChart$Element", "kind", "I", false)
  | 1 => ("AbnfChart$Element", "low", "I", false)
  | 2 => ("AbnfChart$Element", "high", "I", false)
  | 3 => ("AbnfChart$Element", "asked", "LAbnfChart$Rule;", false)
  | 4 => ("AbnfChart$Element", "part", "LAbnfChart$Element;", false)
  | 5 => ("AbnfChart$Element", "next", "LAbnfChart$Element;", false)
  | _ => ("AbnfChart$Element", "ends", "[I", true)
def tyEl : Nat → FieldType := fun k => match k with
  | 0 => .int
  | 1 => .int
  | 2 => .int
  | 3 => .object "AbnfChart$Rule"
  | 4 => .object "AbnfChart$Element"
  | 5 => .object "AbnfChart$Element"
  | _ => .array (.int)
theorem inEl : ∀ w ∈ u_ws "AbnfChart$Element" TEl 7, w ∈ lw_tbl := by decide +kernel
theorem nmEl : ∀ a, a < 7 → ∀ b, b < 7 → a ≠ b → (TEl a).2.1 ≠ (TEl b).2.1 := by decide +kernel
theorem okEl : ∀ k, k < 7 → parseFieldDescriptor (TEl k).2.2.1 = some (tyEl k) := by decide +kernel
def TGr : u_T := fun k => match k with
  | 0 => ("AbnfChart$Grammar", "rules", "[LAbnfChart$Rule;", true)
  | 1 => ("AbnfChart$Grammar", "elements", "[LAbnfChart$Element;", true)
  | 2 => ("AbnfChart$Grammar", "strings", "LAbnfChart$Characters;", true)
  | 3 => ("AbnfChart$Grammar", "ruleCount", "I", false)
  | 4 => ("AbnfChart$Grammar", "elementCount", "I", false)
  | _ => ("AbnfChart$Grammar", "whole", "Z", false)
def tyGr : Nat → FieldType := fun k => match k with
  | 0 => .array (.object "AbnfChart$Rule")
  | 1 => .array (.object "AbnfChart$Element")
  | 2 => .object "AbnfChart$Characters"
  | 3 => .int
  | 4 => .int
  | _ => .boolean
theorem inGr : ∀ w ∈ u_ws "AbnfChart$Grammar" TGr 6, w ∈ lw_tbl := by decide +kernel
theorem nmGr : ∀ a, a < 6 → ∀ b, b < 6 → a ≠ b → (TGr a).2.1 ≠ (TGr b).2.1 := by decide +kernel
theorem okGr : ∀ k, k < 6 → parseFieldDescriptor (TGr k).2.2.1 = some (tyGr k) := by decide +kernel
def TRd : u_T := fun k => match k with
  | 0 => ("AbnfChart$Reader", "text", "LAbnfChart$Characters;", true)
  | 1 => ("AbnfChart$Reader", "grammar", "LAbnfChart$Grammar;", true)
  | 2 => ("AbnfChart$Reader", "at", "I", false)
  | _ => ("AbnfChart$Reader", "fault", "I", false)
def tyRd : Nat → FieldType := fun k => match k with
  | 0 => .object "AbnfChart$Characters"
  | 1 => .object "AbnfChart$Grammar"
  | 2 => .int
  | _ => .int
theorem inRd : ∀ w ∈ u_ws "AbnfChart$Reader" TRd 4, w ∈ lw_tbl := by decide +kernel
theorem nmRd : ∀ a, a < 4 → ∀ b, b < 4 → a ≠ b → (TRd a).2.1 ≠ (TRd b).2.1 := by decide +kernel
theorem okRd : ∀ k, k < 4 → parseFieldDescriptor (TRd k).2.2.1 = some (tyRd k) := by decide +kernel
def TRu : u_T := fun k => match k with
  | 0 => ("AbnfChart$Rule", "name", "J", false)
  | 1 => ("AbnfChart$Rule", "first", "LAbnfChart$Element;", false)
  | _ => ("AbnfChart$Rule", "last", "LAbnfChart$Element;", false)
def tyRu : Nat → FieldType := fun k => match k with
  | 0 => .long
  | 1 => .object "AbnfChart$Element"
  | _ => .object "AbnfChart$Element"
theorem inRu : ∀ w ∈ u_ws "AbnfChart$Rule" TRu 3, w ∈ lw_tbl := by decide +kernel
theorem nmRu : ∀ a, a < 3 → ∀ b, b < 3 → a ≠ b → (TRu a).2.1 ≠ (TRu b).2.1 := by decide +kernel
theorem okRu : ∀ k, k < 3 → parseFieldDescriptor (TRu k).2.2.1 = some (tyRu k) := by decide +kernel
def TAb : u_T := fun k => match k with
  | 0 => ("AbnfChart", "text", "LAbnfChart$Characters;", true)
  | 1 => ("AbnfChart", "input", "LAbnfChart$Characters;", true)
  | 2 => ("AbnfChart", "grammar", "LAbnfChart$Grammar;", true)
  | 3 => ("AbnfChart", "reader", "LAbnfChart$Reader;", true)
  | _ => ("AbnfChart", "chart", "LAbnfChart$Chart;", true)
def tyAb : Nat → FieldType := fun k => match k with
  | 0 => .object "AbnfChart$Characters"
  | 1 => .object "AbnfChart$Characters"
  | 2 => .object "AbnfChart$Grammar"
  | 3 => .object "AbnfChart$Reader"
  | _ => .object "AbnfChart$Chart"
theorem inAb : ∀ w ∈ u_ws "AbnfChart" TAb 5, w ∈ lw_tbl := by decide +kernel
theorem nmAb : ∀ a, a < 5 → ∀ b, b < 5 → a ≠ b → (TAb a).2.1 ≠ (TAb b).2.1 := by decide +kernel
theorem okAb : ∀ k, k < 5 → parseFieldDescriptor (TAb k).2.2.1 = some (tyAb k) := by decide +kernel
def TMo : u_T := fun k => match k with
  | 0 => ("AbnfChartModel", "thrown", "I", false)
  | 1 => ("AbnfChartModel", "length", "I", false)
  | 2 => ("AbnfChartModel", "text", "[I", true)
  | 3 => ("AbnfChartModel", "place", "I", false)
  | 4 => ("AbnfChartModel", "rules", "I", false)
  | 5 => ("AbnfChartModel", "names", "[J", true)
  | 6 => ("AbnfChartModel", "tops", "[I", true)
  | 7 => ("AbnfChartModel", "elements", "I", false)
  | 8 => ("AbnfChartModel", "kind", "[I", true)
  | 9 => ("AbnfChartModel", "one", "[I", true)
  | 10 => ("AbnfChartModel", "two", "[I", true)
  | 11 => ("AbnfChartModel", "exact", "[Z", true)
  | 12 => ("AbnfChartModel", "first", "[I", true)
  | 13 => ("AbnfChartModel", "next", "[I", true)
  | 14 => ("AbnfChartModel", "used", "I", false)
  | 15 => ("AbnfChartModel", "characters", "[I", true)
  | 16 => ("AbnfChartModel", "at", "I", false)
  | 17 => ("AbnfChartModel", "bad", "I", false)
  | 18 => ("AbnfChartModel", "open", "I", false)
  | 19 => ("AbnfChartModel", "sort", "[I", true)
  | 20 => ("AbnfChartModel", "option", "[I", true)
  | 21 => ("AbnfChartModel", "choice", "[I", true)
  | 22 => ("AbnfChartModel", "sequence", "[I", true)
  | 23 => ("AbnfChartModel", "repeat", "[I", true)
  | 24 => ("AbnfChartModel", "given", "I", false)
  | 25 => ("AbnfChartModel", "input", "[I", true)
  | 26 => ("AbnfChartModel", "stale", "Z", false)
  | 27 => ("AbnfChartModel", "ends", "[I", true)
  | _ => ("AbnfChartModel", "pending", "Z", false)
def tyMo : Nat → FieldType := fun k => match k with
  | 0 => .int
  | 1 => .int
  | 2 => .array (.int)
  | 3 => .int
  | 4 => .int
  | 5 => .array (.long)
  | 6 => .array (.int)
  | 7 => .int
  | 8 => .array (.int)
  | 9 => .array (.int)
  | 10 => .array (.int)
  | 11 => .array (.boolean)
  | 12 => .array (.int)
  | 13 => .array (.int)
  | 14 => .int
  | 15 => .array (.int)
  | 16 => .int
  | 17 => .int
  | 18 => .int
  | 19 => .array (.int)
  | 20 => .array (.int)
  | 21 => .array (.int)
  | 22 => .array (.int)
  | 23 => .array (.int)
  | 24 => .int
  | 25 => .array (.int)
  | 26 => .boolean
  | 27 => .array (.int)
  | _ => .boolean
theorem inMo : ∀ w ∈ u_ws "AbnfChartModel" TMo 29, w ∈ lw_tbl := by decide +kernel
theorem nmMo : ∀ a, a < 29 → ∀ b, b < 29 → a ≠ b → (TMo a).2.1 ≠ (TMo b).2.1 := by decide +kernel
theorem okMo : ∀ k, k < 29 → parseFieldDescriptor (TMo k).2.2.1 = some (tyMo k) := by decide +kernel
abbrev vcl : List vw_C := [("AbnfChart$Characters", TCh, 2), ("AbnfChart$Chart", TCt, 3), ("AbnfChart$Element", TEl, 7), ("AbnfChart$Grammar", TGr, 6), ("AbnfChart$Reader", TRd, 4), ("AbnfChart$Rule", TRu, 3), ("AbnfChart", TAb, 5), ("AbnfChartModel", TMo, 29)]
abbrev y_Ab_init : MethodName := ⟨"AbnfChart", "<init>", "()V"⟩
abbrev c_Ab_init : ByteArray := prog_1_method_1_code
abbrev y_Ch_init : MethodName := ⟨"AbnfChart$Characters", "<init>", "(I)V"⟩
abbrev c_Ch_init : ByteArray := prog_2_method_1_code
abbrev y_Gr_init : MethodName := ⟨"AbnfChart$Grammar", "<init>", "()V"⟩
abbrev c_Gr_init : ByteArray := prog_5_method_1_code
abbrev y_Ru_init : MethodName := ⟨"AbnfChart$Rule", "<init>", "()V"⟩
abbrev c_Ru_init : ByteArray := prog_7_method_1_code
abbrev y_El_init : MethodName := ⟨"AbnfChart$Element", "<init>", "()V"⟩
abbrev c_El_init : ByteArray := prog_4_method_1_code
abbrev y_Rd_init : MethodName := ⟨"AbnfChart$Reader", "<init>", "(LAbnfChart$Characters;LAbnfChart$Grammar;)V"⟩
abbrev c_Rd_init : ByteArray := prog_6_method_1_code
abbrev y_Ct_init : MethodName := ⟨"AbnfChart$Chart", "<init>", "(LAbnfChart$Characters;LAbnfChart$Grammar;)V"⟩
abbrev c_Ct_init : ByteArray := prog_3_method_1_code
abbrev y_Ab_erase : MethodName := ⟨"AbnfChart", "erase", "()I"⟩
abbrev c_Ab_erase : ByteArray := prog_1_method_3_code
abbrev y_Ch_empty : MethodName := ⟨"AbnfChart$Characters", "empty", "()I"⟩
abbrev c_Ch_empty : ByteArray := prog_2_method_6_code
abbrev y_Ab_place : MethodName := ⟨"AbnfChart", "place", "()I"⟩
abbrev c_Ab_place : ByteArray := prog_1_method_5_code
abbrev y_Ab_drop : MethodName := ⟨"AbnfChart", "drop", "()I"⟩
abbrev c_Ab_drop : ByteArray := prog_1_method_8_code
abbrev y_Ct_forget : MethodName := ⟨"AbnfChart$Chart", "forget", "()V"⟩
abbrev c_Ct_forget : ByteArray := prog_3_method_2_code
abbrev y_Lw_write : MethodName := ⟨"AbnfChartLaw", "write", "(LAbnfChart;JI[J)I"⟩
abbrev c_Lw_write : ByteArray := method_3_code
abbrev y_Ab_write : MethodName := ⟨"AbnfChart", "write", "(JI)I"⟩
abbrev c_Ab_write : ByteArray := prog_1_method_2_code
abbrev y_Ab_isByteCount : MethodName := ⟨"AbnfChart", "isByteCount", "(I)Z"⟩
abbrev c_Ab_isByteCount : ByteArray := prog_1_method_15_code
abbrev y_Ab_areTextCodes : MethodName := ⟨"AbnfChart", "areTextCodes", "(JI)Z"⟩
abbrev c_Ab_areTextCodes : ByteArray := prog_1_method_16_code
abbrev y_Ab_byteOf : MethodName := ⟨"AbnfChart", "byteOf", "(JI)I"⟩
abbrev c_Ab_byteOf : ByteArray := prog_1_method_18_code
abbrev y_Ch_hasRoomFor : MethodName := ⟨"AbnfChart$Characters", "hasRoomFor", "(I)Z"⟩
abbrev c_Ch_hasRoomFor : ByteArray := prog_2_method_2_code
abbrev y_Ch_appendBytes : MethodName := ⟨"AbnfChart$Characters", "appendBytes", "(JI)V"⟩
abbrev c_Ch_appendBytes : ByteArray := prog_2_method_3_code
abbrev y_Ch_append : MethodName := ⟨"AbnfChart$Characters", "append", "(I)V"⟩
abbrev c_Ch_append : ByteArray := prog_2_method_4_code
abbrev y_Lw_read : MethodName := ⟨"AbnfChartLaw", "read", "(LAbnfChart;[J)I"⟩
abbrev c_Lw_read : ByteArray := method_4_code
abbrev y_Ab_read : MethodName := ⟨"AbnfChart", "read", "()I"⟩
abbrev c_Ab_read : ByteArray := prog_1_method_4_code
abbrev y_Rd_readGrammar : MethodName := ⟨"AbnfChart$Reader", "readGrammar", "()V"⟩
abbrev c_Rd_readGrammar : ByteArray := prog_6_method_2_code
abbrev y_Gr_begin : MethodName := ⟨"AbnfChart$Grammar", "begin", "()V"⟩
abbrev c_Gr_begin : ByteArray := prog_5_method_2_code
abbrev y_Rd_fullLineFrom : MethodName := ⟨"AbnfChart$Reader", "fullLineFrom", "(I)I"⟩
abbrev c_Rd_fullLineFrom : ByteArray := prog_6_method_20_code
abbrev y_Ch_codeAt : MethodName := ⟨"AbnfChart$Characters", "codeAt", "(I)I"⟩
abbrev c_Ch_codeAt : ByteArray := prog_2_method_5_code
abbrev y_Rd_readRule : MethodName := ⟨"AbnfChart$Reader", "readRule", "()V"⟩
abbrev c_Rd_readRule : ByteArray := prog_6_method_3_code
abbrev y_Rd_readName : MethodName := ⟨"AbnfChart$Reader", "readName", "()LAbnfChart$Rule;"⟩
abbrev c_Rd_readName : ByteArray := prog_6_method_18_code
abbrev y_Rd_peek : MethodName := ⟨"AbnfChart$Reader", "peek", "()I"⟩
abbrev c_Rd_peek : ByteArray := prog_6_method_21_code
abbrev y_Ab_isLetter : MethodName := ⟨"AbnfChart", "isLetter", "(I)Z"⟩
abbrev c_Ab_isLetter : ByteArray := prog_1_method_19_code
abbrev y_Rd_needReadable : MethodName := ⟨"AbnfChart$Reader", "needReadable", "(ZI)V"⟩
abbrev c_Rd_needReadable : ByteArray := prog_6_method_23_code
abbrev y_Rd_isNameCode : MethodName := ⟨"AbnfChart$Reader", "isNameCode", "(I)Z"⟩
abbrev c_Rd_isNameCode : ByteArray := prog_6_method_27_code
abbrev y_Ab_isDigit : MethodName := ⟨"AbnfChart", "isDigit", "(I)Z"⟩
abbrev c_Ab_isDigit : ByteArray := prog_1_method_20_code
abbrev y_Ab_smallOf : MethodName := ⟨"AbnfChart", "smallOf", "(I)I"⟩
abbrev c_Ab_smallOf : ByteArray := prog_1_method_21_code
abbrev y_Gr_find : MethodName := ⟨"AbnfChart$Grammar", "find", "(J)I"⟩
abbrev c_Gr_find : ByteArray := prog_5_method_7_code
abbrev y_Gr_hasRoomForRule : MethodName := ⟨"AbnfChart$Grammar", "hasRoomForRule", "()Z"⟩
abbrev c_Gr_hasRoomForRule : ByteArray := prog_5_method_8_code
abbrev y_Rd_needRoom : MethodName := ⟨"AbnfChart$Reader", "needRoom", "(ZI)V"⟩
abbrev c_Rd_needRoom : ByteArray := prog_6_method_24_code
abbrev y_Gr_addRule : MethodName := ⟨"AbnfChart$Grammar", "addRule", "(J)LAbnfChart$Rule;"⟩
abbrev c_Gr_addRule : ByteArray := prog_5_method_10_code
abbrev y_Ru_begin : MethodName := ⟨"AbnfChart$Rule", "begin", "(J)V"⟩
abbrev c_Ru_begin : ByteArray := prog_7_method_2_code
abbrev y_Rd_readGap : MethodName := ⟨"AbnfChart$Reader", "readGap", "()Z"⟩
abbrev c_Rd_readGap : ByteArray := prog_6_method_19_code
abbrev y_Ru_isTold : MethodName := ⟨"AbnfChart$Rule", "isTold", "()Z"⟩
abbrev c_Ru_isTold : ByteArray := prog_7_method_3_code
abbrev y_Rd_readAlternatives : MethodName := ⟨"AbnfChart$Reader", "readAlternatives", "(I)LAbnfChart$Element;"⟩
abbrev c_Rd_readAlternatives : ByteArray := prog_6_method_4_code
abbrev y_Rd_beginRow : MethodName := ⟨"AbnfChart$Reader", "beginRow", "(I)LAbnfChart$Element;"⟩
abbrev c_Rd_beginRow : ByteArray := prog_6_method_6_code
abbrev y_Rd_beginsRepetition : MethodName := ⟨"AbnfChart$Reader", "beginsRepetition", "(I)Z"⟩
abbrev c_Rd_beginsRepetition : ByteArray := prog_6_method_25_code
abbrev y_Rd_beginsRepeat : MethodName := ⟨"AbnfChart$Reader", "beginsRepeat", "(I)Z"⟩
abbrev c_Rd_beginsRepeat : ByteArray := prog_6_method_26_code
abbrev y_Rd_addElement : MethodName := ⟨"AbnfChart$Reader", "addElement", "(II)LAbnfChart$Element;"⟩
abbrev c_Rd_addElement : ByteArray := prog_6_method_22_code
abbrev y_Gr_hasRoomForElement : MethodName := ⟨"AbnfChart$Grammar", "hasRoomForElement", "()Z"⟩
abbrev c_Gr_hasRoomForElement : ByteArray := prog_5_method_9_code
abbrev y_Gr_addElement : MethodName := ⟨"AbnfChart$Grammar", "addElement", "(I)LAbnfChart$Element;"⟩
abbrev c_Gr_addElement : ByteArray := prog_5_method_11_code
abbrev y_El_begin : MethodName := ⟨"AbnfChart$Element", "begin", "(I)V"⟩
abbrev c_El_begin : ByteArray := prog_4_method_2_code
abbrev y_Rd_readSequence : MethodName := ⟨"AbnfChart$Reader", "readSequence", "(I)LAbnfChart$Element;"⟩
abbrev c_Rd_readSequence : ByteArray := prog_6_method_5_code
abbrev y_Rd_readRepetition : MethodName := ⟨"AbnfChart$Reader", "readRepetition", "(I)LAbnfChart$Element;"⟩
abbrev c_Rd_readRepetition : ByteArray := prog_6_method_7_code
abbrev y_Rd_readElement : MethodName := ⟨"AbnfChart$Reader", "readElement", "(I)LAbnfChart$Element;"⟩
abbrev c_Rd_readElement : ByteArray := prog_6_method_10_code
abbrev y_Rd_readBracket : MethodName := ⟨"AbnfChart$Reader", "readBracket", "(IC)LAbnfChart$Element;"⟩
abbrev c_Rd_readBracket : ByteArray := prog_6_method_12_code
abbrev y_Rd_readOption : MethodName := ⟨"AbnfChart$Reader", "readOption", "(I)LAbnfChart$Element;"⟩
abbrev c_Rd_readOption : ByteArray := prog_6_method_11_code
abbrev y_Rd_readString : MethodName := ⟨"AbnfChart$Reader", "readString", "(II)LAbnfChart$Element;"⟩
abbrev c_Rd_readString : ByteArray := prog_6_method_15_code
abbrev y_Rd_isStringCode : MethodName := ⟨"AbnfChart$Reader", "isStringCode", "(I)Z"⟩
abbrev c_Rd_isStringCode : ByteArray := prog_6_method_28_code
abbrev y_Rd_readExactString : MethodName := ⟨"AbnfChart$Reader", "readExactString", "()LAbnfChart$Element;"⟩
abbrev c_Rd_readExactString : ByteArray := prog_6_method_14_code
abbrev y_Rd_readValue : MethodName := ⟨"AbnfChart$Reader", "readValue", "()LAbnfChart$Element;"⟩
abbrev c_Rd_readValue : ByteArray := prog_6_method_16_code
abbrev y_Rd_readNumber : MethodName := ⟨"AbnfChart$Reader", "readNumber", "(II)I"⟩
abbrev c_Rd_readNumber : ByteArray := prog_6_method_17_code
abbrev y_Rd_digitOf : MethodName := ⟨"AbnfChart$Reader", "digitOf", "(II)I"⟩
abbrev c_Rd_digitOf : ByteArray := prog_6_method_29_code
abbrev y_Rd_readAskedName : MethodName := ⟨"AbnfChart$Reader", "readAskedName", "()LAbnfChart$Element;"⟩
abbrev c_Rd_readAskedName : ByteArray := prog_6_method_13_code
abbrev y_Rd_readRepeat : MethodName := ⟨"AbnfChart$Reader", "readRepeat", "(LAbnfChart$Element;)V"⟩
abbrev c_Rd_readRepeat : ByteArray := prog_6_method_8_code
abbrev y_Rd_readDigit : MethodName := ⟨"AbnfChart$Reader", "readDigit", "()I"⟩
abbrev c_Rd_readDigit : ByteArray := prog_6_method_9_code
abbrev y_Ru_tell : MethodName := ⟨"AbnfChart$Rule", "tell", "(LAbnfChart$Element;)V"⟩
abbrev c_Ru_tell : ByteArray := prog_7_method_4_code
abbrev y_Gr_end : MethodName := ⟨"AbnfChart$Grammar", "end", "()V"⟩
abbrev c_Gr_end : ByteArray := prog_5_method_3_code
abbrev y_Gr_ruleTotal : MethodName := ⟨"AbnfChart$Grammar", "ruleTotal", "()I"⟩
abbrev c_Gr_ruleTotal : ByteArray := prog_5_method_4_code
abbrev y_Lw_rule : MethodName := ⟨"AbnfChartLaw", "rule", "(LAbnfChart;J[J)I"⟩
abbrev c_Lw_rule : ByteArray := method_5_code
abbrev y_Ab_rule : MethodName := ⟨"AbnfChart", "rule", "(J)I"⟩
abbrev c_Ab_rule : ByteArray := prog_1_method_6_code
abbrev y_Ab_checkRule : MethodName := ⟨"AbnfChart", "checkRule", "(I)V"⟩
abbrev c_Ab_checkRule : ByteArray := prog_1_method_13_code
abbrev y_Lw_give : MethodName := ⟨"AbnfChartLaw", "give", "(LAbnfChart;JI[J)I"⟩
abbrev c_Lw_give : ByteArray := method_6_code
abbrev y_Ab_give : MethodName := ⟨"AbnfChart", "give", "(JI)I"⟩
abbrev c_Ab_give : ByteArray := prog_1_method_7_code
abbrev y_Ab_areInputCodes : MethodName := ⟨"AbnfChart", "areInputCodes", "(JI)Z"⟩
abbrev c_Ab_areInputCodes : ByteArray := prog_1_method_17_code
abbrev y_Lw_matches : MethodName := ⟨"AbnfChartLaw", "matches", "(LAbnfChart;III[J)I"⟩
abbrev c_Lw_matches : ByteArray := method_7_code
abbrev y_Ab_matches : MethodName := ⟨"AbnfChart", "matches", "(III)Z"⟩
abbrev c_Ab_matches : ByteArray := prog_1_method_9_code
abbrev y_Ab_checkPiece : MethodName := ⟨"AbnfChart", "checkPiece", "(II)V"⟩
abbrev c_Ab_checkPiece : ByteArray := prog_1_method_14_code
abbrev y_Ct_endsOf : MethodName := ⟨"AbnfChart$Chart", "endsOf", "(II)I"⟩
abbrev c_Ct_endsOf : ByteArray := prog_3_method_3_code
abbrev y_Ct_fill : MethodName := ⟨"AbnfChart$Chart", "fill", "()V"⟩
abbrev c_Ct_fill : ByteArray := prog_3_method_4_code
abbrev y_Ct_endsOfCharacters : MethodName := ⟨"AbnfChart$Chart", "endsOfCharacters", "(LAbnfChart$Element;I)I"⟩
abbrev c_Ct_endsOfCharacters : ByteArray := prog_3_method_6_code
abbrev y_Ct_isStringAt : MethodName := ⟨"AbnfChart$Chart", "isStringAt", "(LAbnfChart$Element;I)Z"⟩
abbrev c_Ct_isStringAt : ByteArray := prog_3_method_7_code
abbrev y_Ct_findMore : MethodName := ⟨"AbnfChart$Chart", "findMore", "(I)Z"⟩
abbrev c_Ct_findMore : ByteArray := prog_3_method_5_code
abbrev y_Ct_endsOfParts : MethodName := ⟨"AbnfChart$Chart", "endsOfParts", "(LAbnfChart$Element;I)I"⟩
abbrev c_Ct_endsOfParts : ByteArray := prog_3_method_8_code
abbrev y_Ct_endsOfAny : MethodName := ⟨"AbnfChart$Chart", "endsOfAny", "(LAbnfChart$Element;I)I"⟩
abbrev c_Ct_endsOfAny : ByteArray := prog_3_method_10_code
abbrev y_Ct_endsOfRow : MethodName := ⟨"AbnfChart$Chart", "endsOfRow", "(LAbnfChart$Element;I)I"⟩
abbrev c_Ct_endsOfRow : ByteArray := prog_3_method_11_code
abbrev y_Ct_goOn : MethodName := ⟨"AbnfChart$Chart", "goOn", "(ILAbnfChart$Element;I)I"⟩
abbrev c_Ct_goOn : ByteArray := prog_3_method_13_code
abbrev y_Ct_endsOfRepetition : MethodName := ⟨"AbnfChart$Chart", "endsOfRepetition", "(LAbnfChart$Element;I)I"⟩
abbrev c_Ct_endsOfRepetition : ByteArray := prog_3_method_12_code
abbrev y_Ct_endsOfRule : MethodName := ⟨"AbnfChart$Chart", "endsOfRule", "(LAbnfChart$Rule;I)I"⟩
abbrev c_Ct_endsOfRule : ByteArray := prog_3_method_9_code
abbrev y_Lw_longest : MethodName := ⟨"AbnfChartLaw", "longest", "(LAbnfChart;II[J)I"⟩
abbrev c_Lw_longest : ByteArray := method_8_code
abbrev y_Ab_longest : MethodName := ⟨"AbnfChart", "longest", "(II)I"⟩
abbrev c_Ab_longest : ByteArray := prog_1_method_10_code
abbrev y_Lw_pieces : MethodName := ⟨"AbnfChartLaw", "pieces", "(LAbnfChart;I[J)I"⟩
abbrev c_Lw_pieces : ByteArray := method_9_code
abbrev y_Ab_pieces : MethodName := ⟨"AbnfChart", "pieces", "(I)I"⟩
abbrev c_Ab_pieces : ByteArray := prog_1_method_11_code
abbrev y_Lw_count : MethodName := ⟨"AbnfChartLaw", "count", "(LAbnfChart;I[J)I"⟩
abbrev c_Lw_count : ByteArray := method_10_code
abbrev y_Ab_count : MethodName := ⟨"AbnfChart", "count", "(I)I"⟩
abbrev c_Ab_count : ByteArray := prog_1_method_12_code
abbrev y_Gr_elementTotal : MethodName := ⟨"AbnfChart$Grammar", "elementTotal", "()I"⟩
abbrev c_Gr_elementTotal : ByteArray := prog_5_method_5_code
abbrev y_Gr_toldTotal : MethodName := ⟨"AbnfChart$Grammar", "toldTotal", "()I"⟩
abbrev c_Gr_toldTotal : ByteArray := prog_5_method_6_code
abbrev y_Mo_init : MethodName := ⟨"AbnfChartModel", "<init>", "()V"⟩
abbrev c_Mo_init : ByteArray := prog_9_method_1_code
abbrev y_Mo_write : MethodName := ⟨"AbnfChartModel", "write", "(JI)I"⟩
abbrev c_Mo_write : ByteArray := prog_9_method_5_code
abbrev y_Mo_within : MethodName := ⟨"AbnfChartModel", "within", "(III)Z"⟩
abbrev c_Mo_within : ByteArray := prog_9_method_4_code
abbrev y_Mo_fail : MethodName := ⟨"AbnfChartModel", "fail", "(I)I"⟩
abbrev c_Mo_fail : ByteArray := prog_9_method_3_code
abbrev y_Mo_erase : MethodName := ⟨"AbnfChartModel", "erase", "()I"⟩
abbrev c_Mo_erase : ByteArray := prog_9_method_6_code
abbrev y_Mo_read : MethodName := ⟨"AbnfChartModel", "read", "()I"⟩
abbrev c_Mo_read : ByteArray := prog_9_method_30_code
abbrev y_Mo_line : MethodName := ⟨"AbnfChartModel", "line", "(I)I"⟩
abbrev c_Mo_line : ByteArray := prog_9_method_13_code
abbrev y_Mo_rest : MethodName := ⟨"AbnfChartModel", "rest", "(I)I"⟩
abbrev c_Mo_rest : ByteArray := prog_9_method_12_code
abbrev y_Mo_here : MethodName := ⟨"AbnfChartModel", "here", "()I"⟩
abbrev c_Mo_here : ByteArray := prog_9_method_7_code
abbrev y_Mo_letter : MethodName := ⟨"AbnfChartModel", "letter", "(I)Z"⟩
abbrev c_Mo_letter : ByteArray := prog_9_method_8_code
abbrev y_Mo_readRule : MethodName := ⟨"AbnfChartModel", "readRule", "()V"⟩
abbrev c_Mo_readRule : ByteArray := prog_9_method_29_code
abbrev y_Mo_name : MethodName := ⟨"AbnfChartModel", "name", "()I"⟩
abbrev c_Mo_name : ByteArray := prog_9_method_18_code
abbrev y_Mo_digit : MethodName := ⟨"AbnfChartModel", "digit", "(I)Z"⟩
abbrev c_Mo_digit : ByteArray := prog_9_method_9_code
abbrev y_Mo_small : MethodName := ⟨"AbnfChartModel", "small", "(I)I"⟩
abbrev c_Mo_small : ByteArray := prog_9_method_10_code
abbrev y_Mo_wrong : MethodName := ⟨"AbnfChartModel", "wrong", "(II)V"⟩
abbrev c_Mo_wrong : ByteArray := prog_9_method_11_code
abbrev y_Mo_gap : MethodName := ⟨"AbnfChartModel", "gap", "()V"⟩
abbrev c_Mo_gap : ByteArray := prog_9_method_14_code
abbrev y_Mo_enter : MethodName := ⟨"AbnfChartModel", "enter", "(II)V"⟩
abbrev c_Mo_enter : ByteArray := prog_9_method_21_code
abbrev y_Mo_begins : MethodName := ⟨"AbnfChartModel", "begins", "(I)Z"⟩
abbrev c_Mo_begins : ByteArray := prog_9_method_15_code
abbrev y_Mo_element : MethodName := ⟨"AbnfChartModel", "element", "(II)I"⟩
abbrev c_Mo_element : ByteArray := prog_9_method_16_code
abbrev y_Mo_sequence : MethodName := ⟨"AbnfChartModel", "sequence", "()V"⟩
abbrev c_Mo_sequence : ByteArray := prog_9_method_20_code
abbrev y_Mo_append : MethodName := ⟨"AbnfChartModel", "append", "(II)V"⟩
abbrev c_Mo_append : ByteArray := prog_9_method_17_code
abbrev y_Mo_repetition : MethodName := ⟨"AbnfChartModel", "repetition", "()V"⟩
abbrev c_Mo_repetition : ByteArray := prog_9_method_22_code
abbrev y_Mo_single : MethodName := ⟨"AbnfChartModel", "single", "()V"⟩
abbrev c_Mo_single : ByteArray := prog_9_method_23_code
abbrev y_Mo_placed : MethodName := ⟨"AbnfChartModel", "placed", "(I)V"⟩
abbrev c_Mo_placed : ByteArray := prog_9_method_19_code
abbrev y_Mo_string : MethodName := ⟨"AbnfChartModel", "string", "(I)V"⟩
abbrev c_Mo_string : ByteArray := prog_9_method_24_code
abbrev y_Mo_numbers : MethodName := ⟨"AbnfChartModel", "numbers", "(III)V"⟩
abbrev c_Mo_numbers : ByteArray := prog_9_method_27_code
abbrev y_Mo_number : MethodName := ⟨"AbnfChartModel", "number", "(II)I"⟩
abbrev c_Mo_number : ByteArray := prog_9_method_26_code
abbrev y_Mo_figure : MethodName := ⟨"AbnfChartModel", "figure", "(II)I"⟩
abbrev c_Mo_figure : ByteArray := prog_9_method_25_code
abbrev y_Mo_goesOn : MethodName := ⟨"AbnfChartModel", "goesOn", "()Z"⟩
abbrev c_Mo_goesOn : ByteArray := prog_9_method_28_code
abbrev y_Mo_place : MethodName := ⟨"AbnfChartModel", "place", "()I"⟩
abbrev c_Mo_place : ByteArray := prog_9_method_31_code
abbrev y_Mo_rule : MethodName := ⟨"AbnfChartModel", "rule", "(J)I"⟩
abbrev c_Mo_rule : ByteArray := prog_9_method_32_code
abbrev y_Mo_give : MethodName := ⟨"AbnfChartModel", "give", "(JI)I"⟩
abbrev c_Mo_give : ByteArray := prog_9_method_33_code
abbrev y_Mo_drop : MethodName := ⟨"AbnfChartModel", "drop", "()I"⟩
abbrev c_Mo_drop : ByteArray := prog_9_method_34_code
abbrev y_Mo_matches : MethodName := ⟨"AbnfChartModel", "matches", "(III)Z"⟩
abbrev c_Mo_matches : ByteArray := prog_9_method_41_code
abbrev y_Mo_endsOf : MethodName := ⟨"AbnfChartModel", "endsOf", "(II)I"⟩
abbrev c_Mo_endsOf : ByteArray := prog_9_method_40_code
abbrev y_Mo_chart : MethodName := ⟨"AbnfChartModel", "chart", "()V"⟩
abbrev c_Mo_chart : ByteArray := prog_9_method_39_code
abbrev y_Mo_fits : MethodName := ⟨"AbnfChartModel", "fits", "(II)I"⟩
abbrev c_Mo_fits : ByteArray := prog_9_method_38_code
abbrev y_Mo_same : MethodName := ⟨"AbnfChartModel", "same", "(IIZ)Z"⟩
abbrev c_Mo_same : ByteArray := prog_9_method_35_code
abbrev y_Mo_times : MethodName := ⟨"AbnfChartModel", "times", "(II)I"⟩
abbrev c_Mo_times : ByteArray := prog_9_method_37_code
abbrev y_Mo_step : MethodName := ⟨"AbnfChartModel", "step", "(II)I"⟩
abbrev c_Mo_step : ByteArray := prog_9_method_36_code
abbrev y_Mo_longest : MethodName := ⟨"AbnfChartModel", "longest", "(II)I"⟩
abbrev c_Mo_longest : ByteArray := prog_9_method_42_code
abbrev y_Mo_pieces : MethodName := ⟨"AbnfChartModel", "pieces", "(I)I"⟩
abbrev c_Mo_pieces : ByteArray := prog_9_method_43_code
abbrev y_Mo_count : MethodName := ⟨"AbnfChartModel", "count", "(I)I"⟩
abbrev c_Mo_count : ByteArray := prog_9_method_44_code
end
section
theorem tm {w : Cond} {i : Nat} (h : tables_1[i]? = some w) : w ∈ lw_tbl := List.mem_append_right _ (List.mem_of_getElem? h)
theorem kw_0 : (Jvm.Cond.initialized "AbnfChartLaw") ∈ lw_tbl := tm (i := 0) (by decide +kernel)
theorem kw_1 : (Jvm.Cond.initialized "AbnfChart") ∈ lw_tbl := tm (i := 1) (by decide +kernel)
theorem kw_2 : (Jvm.Cond.initialized "AbnfChart$Characters") ∈ lw_tbl := tm (i := 2) (by decide +kernel)
theorem kw_3 : (Jvm.Cond.initialized "AbnfChart$Grammar") ∈ lw_tbl := tm (i := 3) (by decide +kernel)
theorem kw_4 : (Jvm.Cond.initialized "AbnfChart$Rule") ∈ lw_tbl := tm (i := 4) (by decide +kernel)
theorem kw_5 : (Jvm.Cond.initialized "AbnfChart$Element") ∈ lw_tbl := tm (i := 5) (by decide +kernel)
theorem kw_6 : (Jvm.Cond.initialized "AbnfChart$Reader") ∈ lw_tbl := tm (i := 6) (by decide +kernel)
theorem kw_7 : (Jvm.Cond.initialized "AbnfChart$Chart") ∈ lw_tbl := tm (i := 7) (by decide +kernel)
theorem kw_8 : (Jvm.Cond.initialized "AbnfChartModel") ∈ lw_tbl := tm (i := 8) (by decide +kernel)
theorem kw_9 : (Jvm.Cond.initialized "java/lang/Throwable") ∈ lw_tbl := tm (i := 9) (by decide +kernel)
theorem kw_10 : (Jvm.Cond.initialized "java/lang/Exception") ∈ lw_tbl := tm (i := 10) (by decide +kernel)
theorem kw_11 : (Jvm.Cond.initialized "java/lang/RuntimeException") ∈ lw_tbl := tm (i := 11) (by decide +kernel)
theorem kw_12 : (Jvm.Cond.initialized "java/lang/IllegalArgumentException") ∈ lw_tbl := tm (i := 12) (by decide +kernel)
theorem kw_13 : (Jvm.Cond.initialized "java/lang/IllegalStateException") ∈ lw_tbl := tm (i := 13) (by decide +kernel)
theorem kw_14 : (Jvm.Cond.initialized "java/util/NoSuchElementException") ∈ lw_tbl := tm (i := 14) (by decide +kernel)
theorem kw_15 : (Jvm.Cond.initialized "java/lang/IndexOutOfBoundsException") ∈ lw_tbl := tm (i := 15) (by decide +kernel)
theorem kw_16 : (Jvm.Cond.initialized "java/lang/Integer") ∈ lw_tbl := tm (i := 16) (by decide +kernel)
theorem kw_17 : (Jvm.Cond.classLink "AbnfChartLaw" (8 : Nat) "AbnfChart") ∈ lw_tbl := tm (i := 17) (by decide +kernel)
theorem kw_18 : (Jvm.Cond.instantiable "AbnfChart" (5 : Nat)) ∈ lw_tbl := tm (i := 18) (by decide +kernel)
theorem kw_19 : (Jvm.Cond.methodLink "AbnfChartLaw" (47 : Nat) ({ cls := "AbnfChart", name := "<init>", desc := "()V" } : Jvm.MethodName)) ∈ lw_tbl := tm (i := 19) (by decide +kernel)
theorem kw_20 : (Jvm.Cond.instanceMethod ({ cls := "AbnfChart", name := "<init>", desc := "()V" } : Jvm.MethodName)) ∈ lw_tbl := tm (i := 20) (by decide +kernel)
theorem kw_21 : (Jvm.Cond.code ({ cls := "AbnfChart", name := "<init>", desc := "()V" } : Jvm.MethodName) prog_1_method_1_code (1 : Nat) (Option.none : Option Jvm.ClassFile.FieldType)) ∈ lw_tbl := tm (i := 21) (by decide +kernel)
theorem kw_22 : (Jvm.Cond.methodLink "AbnfChart" (1 : Nat) ({ cls := "java/lang/Object", name := "<init>", desc := "()V" } : Jvm.MethodName)) ∈ lw_tbl := tm (i := 22) (by decide +kernel)
theorem kw_23 : (Jvm.Cond.instanceMethod ({ cls := "java/lang/Object", name := "<init>", desc := "()V" } : Jvm.MethodName)) ∈ lw_tbl := tm (i := 23) (by decide +kernel)
theorem kw_24 : (Jvm.Cond.code ({ cls := "java/lang/Object", name := "<init>", desc := "()V" } : Jvm.MethodName) object_method_1_code (1 : Nat) (Option.none : Option Jvm.ClassFile.FieldType)) ∈ lw_tbl := tm (i := 24) (by decide +kernel)
theorem kw_25 : (Jvm.Cond.classLink "AbnfChart" (7 : Nat) "AbnfChart$Characters") ∈ lw_tbl := tm (i := 25) (by decide +kernel)
theorem kw_26 : (Jvm.Cond.instantiable "AbnfChart$Characters" (2 : Nat)) ∈ lw_tbl := tm (i := 26) (by decide +kernel)
theorem kw_27 : (Jvm.Cond.methodLink "AbnfChart" (11 : Nat) ({ cls := "AbnfChart$Characters", name := "<init>", desc := "(I)V" } : Jvm.MethodName)) ∈ lw_tbl := tm (i := 27) (by decide +kernel)
theorem kw_28 : (Jvm.Cond.instanceMethod ({ cls := "AbnfChart$Characters", name := "<init>", desc := "(I)V" } : Jvm.MethodName)) ∈ lw_tbl := tm (i := 28) (by decide +kernel)
theorem kw_29 : (Jvm.Cond.code ({ cls := "AbnfChart$Characters", name := "<init>", desc := "(I)V" } : Jvm.MethodName) prog_2_method_1_code (2 : Nat) (Option.none : Option Jvm.ClassFile.FieldType)) ∈ lw_tbl := tm (i := 29) (by decide +kernel)
theorem kw_30 : (Jvm.Cond.methodLink "AbnfChart$Characters" (3 : Nat) ({ cls := "java/lang/Object", name := "<init>", desc := "()V" } : Jvm.MethodName)) ∈ lw_tbl := tm (i := 30) (by decide +kernel)
theorem kw_31 : (Jvm.Cond.fieldLink "AbnfChart$Characters" (9 : Nat) "AbnfChart$Characters" "codes" "[C") ∈ lw_tbl := tm (i := 31) (by decide +kernel)
theorem kw_32 : (Jvm.Cond.fieldLink "AbnfChart$Characters" (15 : Nat) "AbnfChart$Characters" "size" "I") ∈ lw_tbl := tm (i := 32) (by decide +kernel)
theorem kw_33 : (Jvm.Cond.fieldLinkNest "AbnfChart$Reader" (38 : Nat) "AbnfChart$Characters" "size" "I" "AbnfChart") ∈ lw_tbl := tm (i := 33) (by decide +kernel)
theorem kw_34 : (Jvm.Cond.fieldLinkNest "AbnfChart" (65 : Nat) "AbnfChart$Characters" "size" "I" "AbnfChart") ∈ lw_tbl := tm (i := 34) (by decide +kernel)
theorem kw_35 : (Jvm.Cond.fieldLinkNest "AbnfChart$Chart" (36 : Nat) "AbnfChart$Characters" "size" "I" "AbnfChart") ∈ lw_tbl := tm (i := 35) (by decide +kernel)
theorem kw_41 : (Jvm.Cond.arrayClass Jvm.ClassFile.FieldType.char) ∈ lw_tbl := tm (i := 41) (by decide +kernel)
theorem kw_42 : (Jvm.Cond.classLink "AbnfChart" (21 : Nat) "AbnfChart$Grammar") ∈ lw_tbl := tm (i := 42) (by decide +kernel)
theorem kw_43 : (Jvm.Cond.instantiable "AbnfChart$Grammar" (6 : Nat)) ∈ lw_tbl := tm (i := 43) (by decide +kernel)
theorem kw_44 : (Jvm.Cond.methodLink "AbnfChart" (23 : Nat) ({ cls := "AbnfChart$Grammar", name := "<init>", desc := "()V" } : Jvm.MethodName)) ∈ lw_tbl := tm (i := 44) (by decide +kernel)
theorem kw_45 : (Jvm.Cond.instanceMethod ({ cls := "AbnfChart$Grammar", name := "<init>", desc := "()V" } : Jvm.MethodName)) ∈ lw_tbl := tm (i := 45) (by decide +kernel)
theorem kw_46 : (Jvm.Cond.code ({ cls := "AbnfChart$Grammar", name := "<init>", desc := "()V" } : Jvm.MethodName) prog_5_method_1_code (2 : Nat) (Option.none : Option Jvm.ClassFile.FieldType)) ∈ lw_tbl := tm (i := 46) (by decide +kernel)
theorem kw_47 : (Jvm.Cond.methodLink "AbnfChart$Grammar" (3 : Nat) ({ cls := "java/lang/Object", name := "<init>", desc := "()V" } : Jvm.MethodName)) ∈ lw_tbl := tm (i := 47) (by decide +kernel)
theorem kw_48 : (Jvm.Cond.classLink "AbnfChart$Grammar" (9 : Nat) "AbnfChart$Rule") ∈ lw_tbl := tm (i := 48) (by decide +kernel)
theorem kw_49 : (Jvm.Cond.arrayOver (Jvm.ClassFile.FieldType.object "AbnfChart$Rule")) ∈ lw_tbl := tm (i := 49) (by decide +kernel)
theorem kw_50 : (Jvm.Cond.instantiable "AbnfChart$Rule" (3 : Nat)) ∈ lw_tbl := tm (i := 50) (by decide +kernel)
theorem kw_51 : (Jvm.Cond.methodLinkNest "AbnfChart$Grammar" (17 : Nat) ({ cls := "AbnfChart$Rule", name := "<init>", desc := "()V" } : Jvm.MethodName) "AbnfChart") ∈ lw_tbl := tm (i := 51) (by decide +kernel)
theorem kw_52 : (Jvm.Cond.instanceMethod ({ cls := "AbnfChart$Rule", name := "<init>", desc := "()V" } : Jvm.MethodName)) ∈ lw_tbl := tm (i := 52) (by decide +kernel)
theorem kw_53 : (Jvm.Cond.code ({ cls := "AbnfChart$Rule", name := "<init>", desc := "()V" } : Jvm.MethodName) prog_7_method_1_code (1 : Nat) (Option.none : Option Jvm.ClassFile.FieldType)) ∈ lw_tbl := tm (i := 53) (by decide +kernel)
theorem kw_54 : (Jvm.Cond.methodLink "AbnfChart$Rule" (1 : Nat) ({ cls := "java/lang/Object", name := "<init>", desc := "()V" } : Jvm.MethodName)) ∈ lw_tbl := tm (i := 54) (by decide +kernel)
theorem kw_55 : (Jvm.Cond.fieldLink "AbnfChart$Rule" (7 : Nat) "AbnfChart$Rule" "name" "J") ∈ lw_tbl := tm (i := 55) (by decide +kernel)
theorem kw_56 : (Jvm.Cond.fieldLinkNest "AbnfChart$Grammar" (56 : Nat) "AbnfChart$Rule" "name" "J" "AbnfChart") ∈ lw_tbl := tm (i := 56) (by decide +kernel)
theorem kw_57 : (Jvm.Cond.fieldLink "AbnfChart$Rule" (13 : Nat) "AbnfChart$Rule" "first" "LAbnfChart$Element;") ∈ lw_tbl := tm (i := 57) (by decide +kernel)
theorem kw_58 : (Jvm.Cond.fieldLinkNest "AbnfChart$Chart" (110 : Nat) "AbnfChart$Rule" "first" "LAbnfChart$Element;" "AbnfChart") ∈ lw_tbl := tm (i := 58) (by decide +kernel)
theorem kw_59 : (Jvm.Cond.fieldLink "AbnfChart$Rule" (17 : Nat) "AbnfChart$Rule" "last" "LAbnfChart$Element;") ∈ lw_tbl := tm (i := 59) (by decide +kernel)
theorem kw_67 : (Jvm.Cond.classLink "AbnfChart$Grammar" (18 : Nat) "AbnfChart$Element") ∈ lw_tbl := tm (i := 67) (by decide +kernel)
theorem kw_68 : (Jvm.Cond.arrayOver (Jvm.ClassFile.FieldType.object "AbnfChart$Element")) ∈ lw_tbl := tm (i := 68) (by decide +kernel)
theorem kw_69 : (Jvm.Cond.instantiable "AbnfChart$Element" (7 : Nat)) ∈ lw_tbl := tm (i := 69) (by decide +kernel)
theorem kw_70 : (Jvm.Cond.methodLink "AbnfChart$Grammar" (24 : Nat) ({ cls := "AbnfChart$Element", name := "<init>", desc := "()V" } : Jvm.MethodName)) ∈ lw_tbl := tm (i := 70) (by decide +kernel)
theorem kw_71 : (Jvm.Cond.instanceMethod ({ cls := "AbnfChart$Element", name := "<init>", desc := "()V" } : Jvm.MethodName)) ∈ lw_tbl := tm (i := 71) (by decide +kernel)
theorem kw_72 : (Jvm.Cond.code ({ cls := "AbnfChart$Element", name := "<init>", desc := "()V" } : Jvm.MethodName) prog_4_method_1_code (1 : Nat) (Option.none : Option Jvm.ClassFile.FieldType)) ∈ lw_tbl := tm (i := 72) (by decide +kernel)
theorem kw_73 : (Jvm.Cond.methodLink "AbnfChart$Element" (3 : Nat) ({ cls := "java/lang/Object", name := "<init>", desc := "()V" } : Jvm.MethodName)) ∈ lw_tbl := tm (i := 73) (by decide +kernel)
theorem kw_74 : (Jvm.Cond.fieldLink "AbnfChart$Element" (15 : Nat) "AbnfChart$Element" "kind" "I") ∈ lw_tbl := tm (i := 74) (by decide +kernel)
theorem kw_75 : (Jvm.Cond.fieldLinkNest "AbnfChart$Chart" (66 : Nat) "AbnfChart$Element" "kind" "I" "AbnfChart") ∈ lw_tbl := tm (i := 75) (by decide +kernel)
theorem kw_76 : (Jvm.Cond.fieldLinkNest "AbnfChart$Reader" (169 : Nat) "AbnfChart$Element" "kind" "I" "AbnfChart") ∈ lw_tbl := tm (i := 76) (by decide +kernel)
theorem kw_77 : (Jvm.Cond.fieldLink "AbnfChart$Element" (19 : Nat) "AbnfChart$Element" "low" "I") ∈ lw_tbl := tm (i := 77) (by decide +kernel)
theorem kw_78 : (Jvm.Cond.fieldLinkNest "AbnfChart$Chart" (76 : Nat) "AbnfChart$Element" "low" "I" "AbnfChart") ∈ lw_tbl := tm (i := 78) (by decide +kernel)
theorem kw_79 : (Jvm.Cond.fieldLinkNest "AbnfChart$Reader" (113 : Nat) "AbnfChart$Element" "low" "I" "AbnfChart") ∈ lw_tbl := tm (i := 79) (by decide +kernel)
theorem kw_80 : (Jvm.Cond.fieldLink "AbnfChart$Element" (22 : Nat) "AbnfChart$Element" "high" "I") ∈ lw_tbl := tm (i := 80) (by decide +kernel)
theorem kw_81 : (Jvm.Cond.fieldLinkNest "AbnfChart$Chart" (73 : Nat) "AbnfChart$Element" "high" "I" "AbnfChart") ∈ lw_tbl := tm (i := 81) (by decide +kernel)
theorem kw_82 : (Jvm.Cond.fieldLinkNest "AbnfChart$Reader" (116 : Nat) "AbnfChart$Element" "high" "I" "AbnfChart") ∈ lw_tbl := tm (i := 82) (by decide +kernel)
theorem kw_83 : (Jvm.Cond.fieldLink "AbnfChart$Element" (25 : Nat) "AbnfChart$Element" "asked" "LAbnfChart$Rule;") ∈ lw_tbl := tm (i := 83) (by decide +kernel)
theorem kw_84 : (Jvm.Cond.fieldLinkNest "AbnfChart$Chart" (106 : Nat) "AbnfChart$Element" "asked" "LAbnfChart$Rule;" "AbnfChart") ∈ lw_tbl := tm (i := 84) (by decide +kernel)
theorem kw_85 : (Jvm.Cond.fieldLinkNest "AbnfChart$Reader" (151 : Nat) "AbnfChart$Element" "asked" "LAbnfChart$Rule;" "AbnfChart") ∈ lw_tbl := tm (i := 85) (by decide +kernel)
theorem kw_86 : (Jvm.Cond.fieldLink "AbnfChart$Element" (29 : Nat) "AbnfChart$Element" "part" "LAbnfChart$Element;") ∈ lw_tbl := tm (i := 86) (by decide +kernel)
theorem kw_87 : (Jvm.Cond.fieldLinkNest "AbnfChart$Reader" (81 : Nat) "AbnfChart$Element" "part" "LAbnfChart$Element;" "AbnfChart") ∈ lw_tbl := tm (i := 87) (by decide +kernel)
theorem kw_88 : (Jvm.Cond.fieldLinkNest "AbnfChart$Chart" (89 : Nat) "AbnfChart$Element" "part" "LAbnfChart$Element;" "AbnfChart") ∈ lw_tbl := tm (i := 88) (by decide +kernel)
theorem kw_89 : (Jvm.Cond.fieldLink "AbnfChart$Element" (33 : Nat) "AbnfChart$Element" "next" "LAbnfChart$Element;") ∈ lw_tbl := tm (i := 89) (by decide +kernel)
theorem kw_90 : (Jvm.Cond.fieldLinkNest "AbnfChart$Rule" (20 : Nat) "AbnfChart$Element" "next" "LAbnfChart$Element;" "AbnfChart") ∈ lw_tbl := tm (i := 90) (by decide +kernel)
theorem kw_91 : (Jvm.Cond.fieldLinkNest "AbnfChart$Reader" (87 : Nat) "AbnfChart$Element" "next" "LAbnfChart$Element;" "AbnfChart") ∈ lw_tbl := tm (i := 91) (by decide +kernel)
theorem kw_92 : (Jvm.Cond.fieldLinkNest "AbnfChart$Chart" (115 : Nat) "AbnfChart$Element" "next" "LAbnfChart$Element;" "AbnfChart") ∈ lw_tbl := tm (i := 92) (by decide +kernel)
theorem kw_93 : (Jvm.Cond.fieldLink "AbnfChart$Element" (9 : Nat) "AbnfChart$Element" "ends" "[I") ∈ lw_tbl := tm (i := 93) (by decide +kernel)
theorem kw_94 : (Jvm.Cond.fieldLinkNest "AbnfChart$Chart" (49 : Nat) "AbnfChart$Element" "ends" "[I" "AbnfChart") ∈ lw_tbl := tm (i := 94) (by decide +kernel)
theorem kw_110 : (Jvm.Cond.arrayClass Jvm.ClassFile.FieldType.int) ∈ lw_tbl := tm (i := 110) (by decide +kernel)
theorem kw_111 : (Jvm.Cond.classLink "AbnfChart$Grammar" (25 : Nat) "AbnfChart$Characters") ∈ lw_tbl := tm (i := 111) (by decide +kernel)
theorem kw_112 : (Jvm.Cond.methodLink "AbnfChart$Grammar" (27 : Nat) ({ cls := "AbnfChart$Characters", name := "<init>", desc := "(I)V" } : Jvm.MethodName)) ∈ lw_tbl := tm (i := 112) (by decide +kernel)
theorem kw_113 : (Jvm.Cond.fieldLink "AbnfChart$Grammar" (11 : Nat) "AbnfChart$Grammar" "rules" "[LAbnfChart$Rule;") ∈ lw_tbl := tm (i := 113) (by decide +kernel)
theorem kw_114 : (Jvm.Cond.fieldLinkNest "AbnfChart$Chart" (26 : Nat) "AbnfChart$Grammar" "rules" "[LAbnfChart$Rule;" "AbnfChart") ∈ lw_tbl := tm (i := 114) (by decide +kernel)
theorem kw_115 : (Jvm.Cond.fieldLinkNest "AbnfChart$Reader" (185 : Nat) "AbnfChart$Grammar" "rules" "[LAbnfChart$Rule;" "AbnfChart") ∈ lw_tbl := tm (i := 115) (by decide +kernel)
theorem kw_116 : (Jvm.Cond.fieldLink "AbnfChart$Grammar" (20 : Nat) "AbnfChart$Grammar" "elements" "[LAbnfChart$Element;") ∈ lw_tbl := tm (i := 116) (by decide +kernel)
theorem kw_117 : (Jvm.Cond.fieldLinkNest "AbnfChart$Chart" (45 : Nat) "AbnfChart$Grammar" "elements" "[LAbnfChart$Element;" "AbnfChart") ∈ lw_tbl := tm (i := 117) (by decide +kernel)
theorem kw_118 : (Jvm.Cond.fieldLink "AbnfChart$Grammar" (30 : Nat) "AbnfChart$Grammar" "strings" "LAbnfChart$Characters;") ∈ lw_tbl := tm (i := 118) (by decide +kernel)
theorem kw_119 : (Jvm.Cond.fieldLinkNest "AbnfChart$Chart" (83 : Nat) "AbnfChart$Grammar" "strings" "LAbnfChart$Characters;" "AbnfChart") ∈ lw_tbl := tm (i := 119) (by decide +kernel)
theorem kw_120 : (Jvm.Cond.fieldLinkNest "AbnfChart$Reader" (155 : Nat) "AbnfChart$Grammar" "strings" "LAbnfChart$Characters;" "AbnfChart") ∈ lw_tbl := tm (i := 120) (by decide +kernel)
theorem kw_121 : (Jvm.Cond.fieldLink "AbnfChart$Grammar" (34 : Nat) "AbnfChart$Grammar" "ruleCount" "I") ∈ lw_tbl := tm (i := 121) (by decide +kernel)
theorem kw_122 : (Jvm.Cond.fieldLink "AbnfChart$Grammar" (38 : Nat) "AbnfChart$Grammar" "elementCount" "I") ∈ lw_tbl := tm (i := 122) (by decide +kernel)
theorem kw_123 : (Jvm.Cond.fieldLinkNest "AbnfChart$Chart" (42 : Nat) "AbnfChart$Grammar" "elementCount" "I" "AbnfChart") ∈ lw_tbl := tm (i := 123) (by decide +kernel)
theorem kw_124 : (Jvm.Cond.fieldLink "AbnfChart$Grammar" (41 : Nat) "AbnfChart$Grammar" "whole" "Z") ∈ lw_tbl := tm (i := 124) (by decide +kernel)
theorem kw_138 : (Jvm.Cond.classLink "AbnfChart" (28 : Nat) "AbnfChart$Reader") ∈ lw_tbl := tm (i := 138) (by decide +kernel)
theorem kw_139 : (Jvm.Cond.instantiable "AbnfChart$Reader" (4 : Nat)) ∈ lw_tbl := tm (i := 139) (by decide +kernel)
theorem kw_140 : (Jvm.Cond.methodLink "AbnfChart" (30 : Nat) ({ cls := "AbnfChart$Reader", name := "<init>", desc := "(LAbnfChart$Characters;LAbnfChart$Grammar;)V" } : Jvm.MethodName)) ∈ lw_tbl := tm (i := 140) (by decide +kernel)
theorem kw_141 : (Jvm.Cond.instanceMethod ({ cls := "AbnfChart$Reader", name := "<init>", desc := "(LAbnfChart$Characters;LAbnfChart$Grammar;)V" } : Jvm.MethodName)) ∈ lw_tbl := tm (i := 141) (by decide +kernel)
theorem kw_142 : (Jvm.Cond.code ({ cls := "AbnfChart$Reader", name := "<init>", desc := "(LAbnfChart$Characters;LAbnfChart$Grammar;)V" } : Jvm.MethodName) prog_6_method_1_code (3 : Nat) (Option.none : Option Jvm.ClassFile.FieldType)) ∈ lw_tbl := tm (i := 142) (by decide +kernel)
theorem kw_143 : (Jvm.Cond.methodLink "AbnfChart$Reader" (3 : Nat) ({ cls := "java/lang/Object", name := "<init>", desc := "()V" } : Jvm.MethodName)) ∈ lw_tbl := tm (i := 143) (by decide +kernel)
theorem kw_144 : (Jvm.Cond.fieldLink "AbnfChart$Reader" (9 : Nat) "AbnfChart$Reader" "text" "LAbnfChart$Characters;") ∈ lw_tbl := tm (i := 144) (by decide +kernel)
theorem kw_145 : (Jvm.Cond.fieldLink "AbnfChart$Reader" (15 : Nat) "AbnfChart$Reader" "grammar" "LAbnfChart$Grammar;") ∈ lw_tbl := tm (i := 145) (by decide +kernel)
theorem kw_146 : (Jvm.Cond.fieldLink "AbnfChart$Reader" (19 : Nat) "AbnfChart$Reader" "at" "I") ∈ lw_tbl := tm (i := 146) (by decide +kernel)
theorem kw_147 : (Jvm.Cond.fieldLink "AbnfChart$Reader" (23 : Nat) "AbnfChart$Reader" "fault" "I") ∈ lw_tbl := tm (i := 147) (by decide +kernel)
theorem kw_148 : (Jvm.Cond.fieldLinkNest "AbnfChart" (82 : Nat) "AbnfChart$Reader" "fault" "I" "AbnfChart") ∈ lw_tbl := tm (i := 148) (by decide +kernel)
theorem kw_158 : (Jvm.Cond.classLink "AbnfChart" (37 : Nat) "AbnfChart$Chart") ∈ lw_tbl := tm (i := 158) (by decide +kernel)
theorem kw_159 : (Jvm.Cond.instantiable "AbnfChart$Chart" (3 : Nat)) ∈ lw_tbl := tm (i := 159) (by decide +kernel)
theorem kw_160 : (Jvm.Cond.methodLink "AbnfChart" (39 : Nat) ({ cls := "AbnfChart$Chart", name := "<init>", desc := "(LAbnfChart$Characters;LAbnfChart$Grammar;)V" } : Jvm.MethodName)) ∈ lw_tbl := tm (i := 160) (by decide +kernel)
theorem kw_161 : (Jvm.Cond.instanceMethod ({ cls := "AbnfChart$Chart", name := "<init>", desc := "(LAbnfChart$Characters;LAbnfChart$Grammar;)V" } : Jvm.MethodName)) ∈ lw_tbl := tm (i := 161) (by decide +kernel)
theorem kw_162 : (Jvm.Cond.code ({ cls := "AbnfChart$Chart", name := "<init>", desc := "(LAbnfChart$Characters;LAbnfChart$Grammar;)V" } : Jvm.MethodName) prog_3_method_1_code (3 : Nat) (Option.none : Option Jvm.ClassFile.FieldType)) ∈ lw_tbl := tm (i := 162) (by decide +kernel)
theorem kw_163 : (Jvm.Cond.methodLink "AbnfChart$Chart" (3 : Nat) ({ cls := "java/lang/Object", name := "<init>", desc := "()V" } : Jvm.MethodName)) ∈ lw_tbl := tm (i := 163) (by decide +kernel)
theorem kw_164 : (Jvm.Cond.fieldLink "AbnfChart$Chart" (9 : Nat) "AbnfChart$Chart" "input" "LAbnfChart$Characters;") ∈ lw_tbl := tm (i := 164) (by decide +kernel)
theorem kw_165 : (Jvm.Cond.fieldLink "AbnfChart$Chart" (15 : Nat) "AbnfChart$Chart" "grammar" "LAbnfChart$Grammar;") ∈ lw_tbl := tm (i := 165) (by decide +kernel)
theorem kw_166 : (Jvm.Cond.fieldLink "AbnfChart$Chart" (19 : Nat) "AbnfChart$Chart" "filled" "Z") ∈ lw_tbl := tm (i := 166) (by decide +kernel)
theorem kw_174 : (Jvm.Cond.fieldLink "AbnfChart" (14 : Nat) "AbnfChart" "text" "LAbnfChart$Characters;") ∈ lw_tbl := tm (i := 174) (by decide +kernel)
theorem kw_175 : (Jvm.Cond.fieldLink "AbnfChart" (18 : Nat) "AbnfChart" "input" "LAbnfChart$Characters;") ∈ lw_tbl := tm (i := 175) (by decide +kernel)
theorem kw_176 : (Jvm.Cond.fieldLink "AbnfChart" (24 : Nat) "AbnfChart" "grammar" "LAbnfChart$Grammar;") ∈ lw_tbl := tm (i := 176) (by decide +kernel)
theorem kw_177 : (Jvm.Cond.fieldLink "AbnfChart" (33 : Nat) "AbnfChart" "reader" "LAbnfChart$Reader;") ∈ lw_tbl := tm (i := 177) (by decide +kernel)
theorem kw_178 : (Jvm.Cond.fieldLink "AbnfChart" (40 : Nat) "AbnfChart" "chart" "LAbnfChart$Chart;") ∈ lw_tbl := tm (i := 178) (by decide +kernel)
theorem kw_190 : (Jvm.Cond.methodLink "AbnfChartLaw" (59 : Nat) ({ cls := "AbnfChart", name := "erase", desc := "()I" } : Jvm.MethodName)) ∈ lw_tbl := tm (i := 190) (by decide +kernel)
theorem kw_191 : (Jvm.Cond.instanceMethod ({ cls := "AbnfChart", name := "erase", desc := "()I" } : Jvm.MethodName)) ∈ lw_tbl := tm (i := 191) (by decide +kernel)
theorem kw_192 : (Jvm.Cond.selects "AbnfChart" ({ cls := "AbnfChart", name := "erase", desc := "()I" } : Jvm.MethodName) ({ cls := "AbnfChart", name := "erase", desc := "()I" } : Jvm.MethodName)) ∈ lw_tbl := tm (i := 192) (by decide +kernel)
theorem kw_193 : (Jvm.Cond.code ({ cls := "AbnfChart", name := "erase", desc := "()I" } : Jvm.MethodName) prog_1_method_3_code (1 : Nat) (Option.some Jvm.ClassFile.FieldType.int)) ∈ lw_tbl := tm (i := 193) (by decide +kernel)
theorem kw_194 : (Jvm.Cond.methodLink "AbnfChart" (69 : Nat) ({ cls := "AbnfChart$Characters", name := "empty", desc := "()I" } : Jvm.MethodName)) ∈ lw_tbl := tm (i := 194) (by decide +kernel)
theorem kw_195 : (Jvm.Cond.instanceMethod ({ cls := "AbnfChart$Characters", name := "empty", desc := "()I" } : Jvm.MethodName)) ∈ lw_tbl := tm (i := 195) (by decide +kernel)
theorem kw_196 : (Jvm.Cond.selects "AbnfChart$Characters" ({ cls := "AbnfChart$Characters", name := "empty", desc := "()I" } : Jvm.MethodName) ({ cls := "AbnfChart$Characters", name := "empty", desc := "()I" } : Jvm.MethodName)) ∈ lw_tbl := tm (i := 196) (by decide +kernel)
theorem kw_197 : (Jvm.Cond.code ({ cls := "AbnfChart$Characters", name := "empty", desc := "()I" } : Jvm.MethodName) prog_2_method_6_code (2 : Nat) (Option.some Jvm.ClassFile.FieldType.int)) ∈ lw_tbl := tm (i := 197) (by decide +kernel)
theorem kw_198 : (Jvm.Cond.methodLink "AbnfChartLaw" (67 : Nat) ({ cls := "AbnfChart", name := "place", desc := "()I" } : Jvm.MethodName)) ∈ lw_tbl := tm (i := 198) (by decide +kernel)
theorem kw_199 : (Jvm.Cond.instanceMethod ({ cls := "AbnfChart", name := "place", desc := "()I" } : Jvm.MethodName)) ∈ lw_tbl := tm (i := 199) (by decide +kernel)
theorem kw_200 : (Jvm.Cond.selects "AbnfChart" ({ cls := "AbnfChart", name := "place", desc := "()I" } : Jvm.MethodName) ({ cls := "AbnfChart", name := "place", desc := "()I" } : Jvm.MethodName)) ∈ lw_tbl := tm (i := 200) (by decide +kernel)
theorem kw_201 : (Jvm.Cond.code ({ cls := "AbnfChart", name := "place", desc := "()I" } : Jvm.MethodName) prog_1_method_5_code (1 : Nat) (Option.some Jvm.ClassFile.FieldType.int)) ∈ lw_tbl := tm (i := 201) (by decide +kernel)
theorem kw_202 : (Jvm.Cond.methodLink "AbnfChartLaw" (78 : Nat) ({ cls := "AbnfChart", name := "drop", desc := "()I" } : Jvm.MethodName)) ∈ lw_tbl := tm (i := 202) (by decide +kernel)
theorem kw_203 : (Jvm.Cond.instanceMethod ({ cls := "AbnfChart", name := "drop", desc := "()I" } : Jvm.MethodName)) ∈ lw_tbl := tm (i := 203) (by decide +kernel)
theorem kw_204 : (Jvm.Cond.selects "AbnfChart" ({ cls := "AbnfChart", name := "drop", desc := "()I" } : Jvm.MethodName) ({ cls := "AbnfChart", name := "drop", desc := "()I" } : Jvm.MethodName)) ∈ lw_tbl := tm (i := 204) (by decide +kernel)
theorem kw_205 : (Jvm.Cond.code ({ cls := "AbnfChart", name := "drop", desc := "()I" } : Jvm.MethodName) prog_1_method_8_code (1 : Nat) (Option.some Jvm.ClassFile.FieldType.int)) ∈ lw_tbl := tm (i := 205) (by decide +kernel)
theorem kw_206 : (Jvm.Cond.methodLink "AbnfChart" (73 : Nat) ({ cls := "AbnfChart$Chart", name := "forget", desc := "()V" } : Jvm.MethodName)) ∈ lw_tbl := tm (i := 206) (by decide +kernel)
theorem kw_207 : (Jvm.Cond.instanceMethod ({ cls := "AbnfChart$Chart", name := "forget", desc := "()V" } : Jvm.MethodName)) ∈ lw_tbl := tm (i := 207) (by decide +kernel)
theorem kw_208 : (Jvm.Cond.selects "AbnfChart$Chart" ({ cls := "AbnfChart$Chart", name := "forget", desc := "()V" } : Jvm.MethodName) ({ cls := "AbnfChart$Chart", name := "forget", desc := "()V" } : Jvm.MethodName)) ∈ lw_tbl := tm (i := 208) (by decide +kernel)
theorem kw_209 : (Jvm.Cond.code ({ cls := "AbnfChart$Chart", name := "forget", desc := "()V" } : Jvm.MethodName) prog_3_method_2_code (1 : Nat) (Option.none : Option Jvm.ClassFile.FieldType)) ∈ lw_tbl := tm (i := 209) (by decide +kernel)
theorem kw_210 : (Jvm.Cond.methodLink "AbnfChartLaw" (53 : Nat) ({ cls := "AbnfChartLaw", name := "write", desc := "(LAbnfChart;JI[J)I" } : Jvm.MethodName)) ∈ lw_tbl := tm (i := 210) (by decide +kernel)
theorem kw_211 : (Jvm.Cond.static ({ cls := "AbnfChartLaw", name := "write", desc := "(LAbnfChart;JI[J)I" } : Jvm.MethodName)) ∈ lw_tbl := tm (i := 211) (by decide +kernel)
theorem kw_212 : (Jvm.Cond.codeWith ({ cls := "AbnfChartLaw", name := "write", desc := "(LAbnfChart;JI[J)I" } : Jvm.MethodName) method_3_code (6 : Nat) (Option.some Jvm.ClassFile.FieldType.int) [((0 : Nat), (11 : Nat), (14 : Nat), (13 : Nat)), ((0 : Nat), (11 : Nat), (18 : Nat), (15 : Nat))]) ∈ lw_tbl := tm (i := 212) (by decide +kernel)
theorem kw_213 : (Jvm.Cond.classLink "AbnfChartLaw" (13 : Nat) "java/lang/IllegalArgumentException") ∈ lw_tbl := tm (i := 213) (by decide +kernel)
theorem kw_214 : (Jvm.Cond.classLink "AbnfChartLaw" (15 : Nat) "java/lang/IllegalStateException") ∈ lw_tbl := tm (i := 214) (by decide +kernel)
theorem kw_215 : (Jvm.Cond.methodLink "AbnfChartLaw" (7 : Nat) ({ cls := "AbnfChart", name := "write", desc := "(JI)I" } : Jvm.MethodName)) ∈ lw_tbl := tm (i := 215) (by decide +kernel)
theorem kw_216 : (Jvm.Cond.instanceMethod ({ cls := "AbnfChart", name := "write", desc := "(JI)I" } : Jvm.MethodName)) ∈ lw_tbl := tm (i := 216) (by decide +kernel)
theorem kw_217 : (Jvm.Cond.selects "AbnfChart" ({ cls := "AbnfChart", name := "write", desc := "(JI)I" } : Jvm.MethodName) ({ cls := "AbnfChart", name := "write", desc := "(JI)I" } : Jvm.MethodName)) ∈ lw_tbl := tm (i := 217) (by decide +kernel)
theorem kw_218 : (Jvm.Cond.code ({ cls := "AbnfChart", name := "write", desc := "(JI)I" } : Jvm.MethodName) prog_1_method_2_code (4 : Nat) (Option.some Jvm.ClassFile.FieldType.int)) ∈ lw_tbl := tm (i := 218) (by decide +kernel)
theorem kw_219 : (Jvm.Cond.methodLink "AbnfChart" (44 : Nat) ({ cls := "AbnfChart", name := "isByteCount", desc := "(I)Z" } : Jvm.MethodName)) ∈ lw_tbl := tm (i := 219) (by decide +kernel)
theorem kw_220 : (Jvm.Cond.static ({ cls := "AbnfChart", name := "isByteCount", desc := "(I)Z" } : Jvm.MethodName)) ∈ lw_tbl := tm (i := 220) (by decide +kernel)
theorem kw_221 : (Jvm.Cond.code ({ cls := "AbnfChart", name := "isByteCount", desc := "(I)Z" } : Jvm.MethodName) prog_1_method_15_code (1 : Nat) (Option.some Jvm.ClassFile.FieldType.boolean)) ∈ lw_tbl := tm (i := 221) (by decide +kernel)
theorem kw_222 : (Jvm.Cond.methodLink "AbnfChart" (48 : Nat) ({ cls := "AbnfChart", name := "areTextCodes", desc := "(JI)Z" } : Jvm.MethodName)) ∈ lw_tbl := tm (i := 222) (by decide +kernel)
theorem kw_223 : (Jvm.Cond.static ({ cls := "AbnfChart", name := "areTextCodes", desc := "(JI)Z" } : Jvm.MethodName)) ∈ lw_tbl := tm (i := 223) (by decide +kernel)
theorem kw_224 : (Jvm.Cond.code ({ cls := "AbnfChart", name := "areTextCodes", desc := "(JI)Z" } : Jvm.MethodName) prog_1_method_16_code (5 : Nat) (Option.some Jvm.ClassFile.FieldType.boolean)) ∈ lw_tbl := tm (i := 224) (by decide +kernel)
theorem kw_225 : (Jvm.Cond.methodLink "AbnfChart" (121 : Nat) ({ cls := "AbnfChart", name := "byteOf", desc := "(JI)I" } : Jvm.MethodName)) ∈ lw_tbl := tm (i := 225) (by decide +kernel)
theorem kw_226 : (Jvm.Cond.static ({ cls := "AbnfChart", name := "byteOf", desc := "(JI)I" } : Jvm.MethodName)) ∈ lw_tbl := tm (i := 226) (by decide +kernel)
theorem kw_227 : (Jvm.Cond.code ({ cls := "AbnfChart", name := "byteOf", desc := "(JI)I" } : Jvm.MethodName) prog_1_method_18_code (3 : Nat) (Option.some Jvm.ClassFile.FieldType.int)) ∈ lw_tbl := tm (i := 227) (by decide +kernel)
theorem kw_228 : (Jvm.Cond.constantLong "AbnfChart" (125 : Nat) (255 : Int64)) ∈ lw_tbl := tm (i := 228) (by decide +kernel)
theorem kw_229 : (Jvm.Cond.classLink "AbnfChart" (52 : Nat) "java/lang/IllegalArgumentException") ∈ lw_tbl := tm (i := 229) (by decide +kernel)
theorem kw_230 : (Jvm.Cond.instantiable "java/lang/IllegalArgumentException" (6 : Nat)) ∈ lw_tbl := tm (i := 230) (by decide +kernel)
theorem kw_231 : (Jvm.Cond.castable "java/lang/IllegalArgumentException" "java/lang/IllegalArgumentException") ∈ lw_tbl := tm (i := 231) (by decide +kernel)
theorem kw_232 : (Jvm.Cond.declares ({ cls := "java/lang/RuntimeException", name := "<init>", desc := "()V" } : Jvm.MethodName)) ∈ lw_tbl := tm (i := 232) (by decide +kernel)
theorem kw_233 : (Jvm.Cond.declares ({ cls := "java/lang/RuntimeException", name := "<init>", desc := "(Ljava/lang/String;)V" } : Jvm.MethodName)) ∈ lw_tbl := tm (i := 233) (by decide +kernel)
theorem kw_234 : (Jvm.Cond.declares ({ cls := "java/lang/Exception", name := "<init>", desc := "()V" } : Jvm.MethodName)) ∈ lw_tbl := tm (i := 234) (by decide +kernel)
theorem kw_235 : (Jvm.Cond.declares ({ cls := "java/lang/Exception", name := "<init>", desc := "(Ljava/lang/String;)V" } : Jvm.MethodName)) ∈ lw_tbl := tm (i := 235) (by decide +kernel)
theorem kw_236 : (Jvm.Cond.declares ({ cls := "java/lang/Throwable", name := "<init>", desc := "()V" } : Jvm.MethodName)) ∈ lw_tbl := tm (i := 236) (by decide +kernel)
theorem kw_237 : (Jvm.Cond.declares ({ cls := "java/lang/Throwable", name := "<init>", desc := "(Ljava/lang/String;)V" } : Jvm.MethodName)) ∈ lw_tbl := tm (i := 237) (by decide +kernel)
theorem kw_238 : (Jvm.Cond.selects "java/lang/IllegalArgumentException" ({ cls := "java/lang/Throwable", name := "fillInStackTrace", desc := "(I)Ljava/lang/Throwable;" } : Jvm.MethodName) ({ cls := "java/lang/Throwable", name := "fillInStackTrace", desc := "(I)Ljava/lang/Throwable;" } : Jvm.MethodName)) ∈ lw_tbl := tm (i := 238) (by decide +kernel)
theorem kw_239 : (Jvm.Cond.selects "java/lang/IllegalArgumentException" ({ cls := "java/lang/Throwable", name := "fillInStackTrace", desc := "()Ljava/lang/Throwable;" } : Jvm.MethodName) ({ cls := "java/lang/Throwable", name := "fillInStackTrace", desc := "()Ljava/lang/Throwable;" } : Jvm.MethodName)) ∈ lw_tbl := tm (i := 239) (by decide +kernel)
theorem kw_250 : (Jvm.Cond.fieldLink "java/lang/Throwable" (198 : Nat) "java/lang/Throwable" "backtrace" "Ljava/lang/Object;") ∈ lw_tbl := tm (i := 250) (by decide +kernel)
theorem kw_252 : (Jvm.Cond.instanceMethod ({ cls := "java/lang/Throwable", name := "<init>", desc := "()V" } : Jvm.MethodName)) ∈ lw_tbl := tm (i := 252) (by decide +kernel)
theorem kw_253 : (Jvm.Cond.code ({ cls := "java/lang/Throwable", name := "<init>", desc := "()V" } : Jvm.MethodName) prog_16_method_1_code (1 : Nat) (Option.none : Option Jvm.ClassFile.FieldType)) ∈ lw_tbl := tm (i := 253) (by decide +kernel)
theorem kw_254 : (Jvm.Cond.methodLink "java/lang/Throwable" (1 : Nat) ({ cls := "java/lang/Object", name := "<init>", desc := "()V" } : Jvm.MethodName)) ∈ lw_tbl := tm (i := 254) (by decide +kernel)
theorem kw_255 : (Jvm.Cond.fieldLink "java/lang/Throwable" (13 : Nat) "java/lang/Throwable" "UNASSIGNED_STACK" "[Ljava/lang/StackTraceElement;") ∈ lw_tbl := tm (i := 255) (by decide +kernel)
theorem kw_256 : (Jvm.Cond.laysStatic "java/lang/Throwable" "UNASSIGNED_STACK" "[Ljava/lang/StackTraceElement;") ∈ lw_tbl := tm (i := 256) (by decide +kernel)
theorem kw_257 : (Jvm.Cond.fieldLink "java/lang/Throwable" (20 : Nat) "java/lang/Throwable" "SUPPRESSED_SENTINEL" "Ljava/util/List;") ∈ lw_tbl := tm (i := 257) (by decide +kernel)
theorem kw_258 : (Jvm.Cond.laysStatic "java/lang/Throwable" "SUPPRESSED_SENTINEL" "Ljava/util/List;") ∈ lw_tbl := tm (i := 258) (by decide +kernel)
theorem kw_259 : (Jvm.Cond.methodLink "java/lang/Throwable" (27 : Nat) ({ cls := "java/lang/Throwable", name := "fillInStackTrace", desc := "()Ljava/lang/Throwable;" } : Jvm.MethodName)) ∈ lw_tbl := tm (i := 259) (by decide +kernel)
theorem kw_260 : (Jvm.Cond.instanceMethod ({ cls := "java/lang/Throwable", name := "fillInStackTrace", desc := "()Ljava/lang/Throwable;" } : Jvm.MethodName)) ∈ lw_tbl := tm (i := 260) (by decide +kernel)
theorem kw_261 : (Jvm.Cond.sameMethod "java/lang/Throwable" "java/lang/Throwable" "fillInStackTrace" "()Ljava/lang/Throwable;") ∈ lw_tbl := tm (i := 261) (by decide +kernel)
theorem kw_262 : (Jvm.Cond.selects "java/lang/IllegalStateException" ({ cls := "java/lang/Throwable", name := "fillInStackTrace", desc := "()Ljava/lang/Throwable;" } : Jvm.MethodName) ({ cls := "java/lang/Throwable", name := "fillInStackTrace", desc := "()Ljava/lang/Throwable;" } : Jvm.MethodName)) ∈ lw_tbl := tm (i := 262) (by decide +kernel)
theorem kw_263 : (Jvm.Cond.selects "java/lang/IndexOutOfBoundsException" ({ cls := "java/lang/Throwable", name := "fillInStackTrace", desc := "()Ljava/lang/Throwable;" } : Jvm.MethodName) ({ cls := "java/lang/Throwable", name := "fillInStackTrace", desc := "()Ljava/lang/Throwable;" } : Jvm.MethodName)) ∈ lw_tbl := tm (i := 263) (by decide +kernel)
theorem kw_264 : (Jvm.Cond.selects "java/util/NoSuchElementException" ({ cls := "java/lang/Throwable", name := "fillInStackTrace", desc := "()Ljava/lang/Throwable;" } : Jvm.MethodName) ({ cls := "java/lang/Throwable", name := "fillInStackTrace", desc := "()Ljava/lang/Throwable;" } : Jvm.MethodName)) ∈ lw_tbl := tm (i := 264) (by decide +kernel)
theorem kw_265 : (Jvm.Cond.codeSync ({ cls := "java/lang/Throwable", name := "fillInStackTrace", desc := "()Ljava/lang/Throwable;" } : Jvm.MethodName) prog_16_method_18_code (1 : Nat) (Option.some (Jvm.ClassFile.FieldType.object "java/lang/Throwable"))) ∈ lw_tbl := tm (i := 265) (by decide +kernel)
theorem kw_266 : (Jvm.Cond.methodLink "java/lang/Throwable" (202 : Nat) ({ cls := "java/lang/Throwable", name := "fillInStackTrace", desc := "(I)Ljava/lang/Throwable;" } : Jvm.MethodName)) ∈ lw_tbl := tm (i := 266) (by decide +kernel)
theorem kw_268 : (Jvm.Cond.instanceMethod ({ cls := "java/lang/Throwable", name := "fillInStackTrace", desc := "(I)Ljava/lang/Throwable;" } : Jvm.MethodName)) ∈ lw_tbl := tm (i := 268) (by decide +kernel)
theorem kw_269 : (Jvm.Cond.instantiable "java/lang/Throwable" (6 : Nat)) ∈ lw_tbl := tm (i := 269) (by decide +kernel)
theorem kw_270 : (Jvm.Cond.native ({ cls := "java/lang/Throwable", name := "fillInStackTrace", desc := "(I)Ljava/lang/Throwable;" } : Jvm.MethodName)) ∈ lw_tbl := tm (i := 270) (by decide +kernel)
theorem kw_271 : (Jvm.Cond.methodLink "AbnfChart" (54 : Nat) ({ cls := "java/lang/IllegalArgumentException", name := "<init>", desc := "()V" } : Jvm.MethodName)) ∈ lw_tbl := tm (i := 271) (by decide +kernel)
theorem kw_272 : (Jvm.Cond.instanceMethod ({ cls := "java/lang/IllegalArgumentException", name := "<init>", desc := "()V" } : Jvm.MethodName)) ∈ lw_tbl := tm (i := 272) (by decide +kernel)
theorem kw_273 : (Jvm.Cond.code ({ cls := "java/lang/IllegalArgumentException", name := "<init>", desc := "()V" } : Jvm.MethodName) prog_11_method_1_code (1 : Nat) (Option.none : Option Jvm.ClassFile.FieldType)) ∈ lw_tbl := tm (i := 273) (by decide +kernel)
theorem kw_274 : (Jvm.Cond.methodLink "java/lang/IllegalArgumentException" (1 : Nat) ({ cls := "java/lang/RuntimeException", name := "<init>", desc := "()V" } : Jvm.MethodName)) ∈ lw_tbl := tm (i := 274) (by decide +kernel)
theorem kw_275 : (Jvm.Cond.instanceMethod ({ cls := "java/lang/RuntimeException", name := "<init>", desc := "()V" } : Jvm.MethodName)) ∈ lw_tbl := tm (i := 275) (by decide +kernel)
theorem kw_276 : (Jvm.Cond.code ({ cls := "java/lang/RuntimeException", name := "<init>", desc := "()V" } : Jvm.MethodName) prog_15_method_1_code (1 : Nat) (Option.none : Option Jvm.ClassFile.FieldType)) ∈ lw_tbl := tm (i := 276) (by decide +kernel)
theorem kw_277 : (Jvm.Cond.methodLink "java/lang/RuntimeException" (1 : Nat) ({ cls := "java/lang/Exception", name := "<init>", desc := "()V" } : Jvm.MethodName)) ∈ lw_tbl := tm (i := 277) (by decide +kernel)
theorem kw_278 : (Jvm.Cond.instanceMethod ({ cls := "java/lang/Exception", name := "<init>", desc := "()V" } : Jvm.MethodName)) ∈ lw_tbl := tm (i := 278) (by decide +kernel)
theorem kw_279 : (Jvm.Cond.code ({ cls := "java/lang/Exception", name := "<init>", desc := "()V" } : Jvm.MethodName) prog_10_method_1_code (1 : Nat) (Option.none : Option Jvm.ClassFile.FieldType)) ∈ lw_tbl := tm (i := 279) (by decide +kernel)
theorem kw_280 : (Jvm.Cond.methodLink "java/lang/Exception" (1 : Nat) ({ cls := "java/lang/Throwable", name := "<init>", desc := "()V" } : Jvm.MethodName)) ∈ lw_tbl := tm (i := 280) (by decide +kernel)
theorem kw_281 : (Jvm.Cond.fieldLink "java/lang/Throwable" (198 : Nat) "java/lang/Throwable" "backtrace" "Ljava/lang/Object;") ∈ lw_tbl := tm (i := 281) (by decide +kernel)
theorem kw_282 : (Jvm.Cond.fieldLink "java/lang/Throwable" (7 : Nat) "java/lang/Throwable" "cause" "Ljava/lang/Throwable;") ∈ lw_tbl := tm (i := 282) (by decide +kernel)
theorem kw_283 : (Jvm.Cond.fieldLink "java/lang/Throwable" (17 : Nat) "java/lang/Throwable" "stackTrace" "[Ljava/lang/StackTraceElement;") ∈ lw_tbl := tm (i := 283) (by decide +kernel)
theorem kw_284 : (Jvm.Cond.fieldLink "java/lang/Throwable" (24 : Nat) "java/lang/Throwable" "suppressedExceptions" "Ljava/util/List;") ∈ lw_tbl := tm (i := 284) (by decide +kernel)
theorem kw_293 : (Jvm.Cond.methodLink "AbnfChart" (55 : Nat) ({ cls := "AbnfChart$Characters", name := "hasRoomFor", desc := "(I)Z" } : Jvm.MethodName)) ∈ lw_tbl := tm (i := 293) (by decide +kernel)
theorem kw_294 : (Jvm.Cond.instanceMethod ({ cls := "AbnfChart$Characters", name := "hasRoomFor", desc := "(I)Z" } : Jvm.MethodName)) ∈ lw_tbl := tm (i := 294) (by decide +kernel)
theorem kw_295 : (Jvm.Cond.selects "AbnfChart$Characters" ({ cls := "AbnfChart$Characters", name := "hasRoomFor", desc := "(I)Z" } : Jvm.MethodName) ({ cls := "AbnfChart$Characters", name := "hasRoomFor", desc := "(I)Z" } : Jvm.MethodName)) ∈ lw_tbl := tm (i := 295) (by decide +kernel)
theorem kw_296 : (Jvm.Cond.code ({ cls := "AbnfChart$Characters", name := "hasRoomFor", desc := "(I)Z" } : Jvm.MethodName) prog_2_method_2_code (2 : Nat) (Option.some Jvm.ClassFile.FieldType.boolean)) ∈ lw_tbl := tm (i := 296) (by decide +kernel)
theorem kw_297 : (Jvm.Cond.classLink "AbnfChart" (58 : Nat) "java/lang/IllegalStateException") ∈ lw_tbl := tm (i := 297) (by decide +kernel)
theorem kw_298 : (Jvm.Cond.instantiable "java/lang/IllegalStateException" (6 : Nat)) ∈ lw_tbl := tm (i := 298) (by decide +kernel)
theorem kw_299 : (Jvm.Cond.castable "java/lang/IllegalStateException" "java/lang/IllegalStateException") ∈ lw_tbl := tm (i := 299) (by decide +kernel)
theorem kw_300 : (Jvm.Cond.selects "java/lang/IllegalStateException" ({ cls := "java/lang/Throwable", name := "fillInStackTrace", desc := "(I)Ljava/lang/Throwable;" } : Jvm.MethodName) ({ cls := "java/lang/Throwable", name := "fillInStackTrace", desc := "(I)Ljava/lang/Throwable;" } : Jvm.MethodName)) ∈ lw_tbl := tm (i := 300) (by decide +kernel)
theorem kw_306 : (Jvm.Cond.methodLink "AbnfChart" (60 : Nat) ({ cls := "java/lang/IllegalStateException", name := "<init>", desc := "()V" } : Jvm.MethodName)) ∈ lw_tbl := tm (i := 306) (by decide +kernel)
theorem kw_307 : (Jvm.Cond.instanceMethod ({ cls := "java/lang/IllegalStateException", name := "<init>", desc := "()V" } : Jvm.MethodName)) ∈ lw_tbl := tm (i := 307) (by decide +kernel)
theorem kw_308 : (Jvm.Cond.code ({ cls := "java/lang/IllegalStateException", name := "<init>", desc := "()V" } : Jvm.MethodName) prog_12_method_1_code (1 : Nat) (Option.none : Option Jvm.ClassFile.FieldType)) ∈ lw_tbl := tm (i := 308) (by decide +kernel)
theorem kw_309 : (Jvm.Cond.methodLink "java/lang/IllegalStateException" (1 : Nat) ({ cls := "java/lang/RuntimeException", name := "<init>", desc := "()V" } : Jvm.MethodName)) ∈ lw_tbl := tm (i := 309) (by decide +kernel)
theorem kw_312 : (Jvm.Cond.methodLink "AbnfChart" (61 : Nat) ({ cls := "AbnfChart$Characters", name := "appendBytes", desc := "(JI)V" } : Jvm.MethodName)) ∈ lw_tbl := tm (i := 312) (by decide +kernel)
theorem kw_313 : (Jvm.Cond.instanceMethod ({ cls := "AbnfChart$Characters", name := "appendBytes", desc := "(JI)V" } : Jvm.MethodName)) ∈ lw_tbl := tm (i := 313) (by decide +kernel)
theorem kw_314 : (Jvm.Cond.selects "AbnfChart$Characters" ({ cls := "AbnfChart$Characters", name := "appendBytes", desc := "(JI)V" } : Jvm.MethodName) ({ cls := "AbnfChart$Characters", name := "appendBytes", desc := "(JI)V" } : Jvm.MethodName)) ∈ lw_tbl := tm (i := 314) (by decide +kernel)
theorem kw_315 : (Jvm.Cond.code ({ cls := "AbnfChart$Characters", name := "appendBytes", desc := "(JI)V" } : Jvm.MethodName) prog_2_method_3_code (5 : Nat) (Option.none : Option Jvm.ClassFile.FieldType)) ∈ lw_tbl := tm (i := 315) (by decide +kernel)
theorem kw_316 : (Jvm.Cond.methodLinkNest "AbnfChart$Characters" (19 : Nat) ({ cls := "AbnfChart", name := "byteOf", desc := "(JI)I" } : Jvm.MethodName) "AbnfChart") ∈ lw_tbl := tm (i := 316) (by decide +kernel)
theorem kw_317 : (Jvm.Cond.methodLink "AbnfChart$Characters" (23 : Nat) ({ cls := "AbnfChart$Characters", name := "append", desc := "(I)V" } : Jvm.MethodName)) ∈ lw_tbl := tm (i := 317) (by decide +kernel)
theorem kw_318 : (Jvm.Cond.instanceMethod ({ cls := "AbnfChart$Characters", name := "append", desc := "(I)V" } : Jvm.MethodName)) ∈ lw_tbl := tm (i := 318) (by decide +kernel)
theorem kw_319 : (Jvm.Cond.selects "AbnfChart$Characters" ({ cls := "AbnfChart$Characters", name := "append", desc := "(I)V" } : Jvm.MethodName) ({ cls := "AbnfChart$Characters", name := "append", desc := "(I)V" } : Jvm.MethodName)) ∈ lw_tbl := tm (i := 319) (by decide +kernel)
theorem kw_320 : (Jvm.Cond.code ({ cls := "AbnfChart$Characters", name := "append", desc := "(I)V" } : Jvm.MethodName) prog_2_method_4_code (2 : Nat) (Option.none : Option Jvm.ClassFile.FieldType)) ∈ lw_tbl := tm (i := 320) (by decide +kernel)
theorem kw_321 : (Jvm.Cond.methodLink "AbnfChartLaw" (63 : Nat) ({ cls := "AbnfChartLaw", name := "read", desc := "(LAbnfChart;[J)I" } : Jvm.MethodName)) ∈ lw_tbl := tm (i := 321) (by decide +kernel)
theorem kw_322 : (Jvm.Cond.static ({ cls := "AbnfChartLaw", name := "read", desc := "(LAbnfChart;[J)I" } : Jvm.MethodName)) ∈ lw_tbl := tm (i := 322) (by decide +kernel)
theorem kw_323 : (Jvm.Cond.codeWith ({ cls := "AbnfChartLaw", name := "read", desc := "(LAbnfChart;[J)I" } : Jvm.MethodName) method_4_code (3 : Nat) (Option.some Jvm.ClassFile.FieldType.int) [((0 : Nat), (8 : Nat), (11 : Nat), (13 : Nat)), ((0 : Nat), (8 : Nat), (14 : Nat), (15 : Nat))]) ∈ lw_tbl := tm (i := 323) (by decide +kernel)
theorem kw_324 : (Jvm.Cond.methodLink "AbnfChartLaw" (17 : Nat) ({ cls := "AbnfChart", name := "read", desc := "()I" } : Jvm.MethodName)) ∈ lw_tbl := tm (i := 324) (by decide +kernel)
theorem kw_325 : (Jvm.Cond.instanceMethod ({ cls := "AbnfChart", name := "read", desc := "()I" } : Jvm.MethodName)) ∈ lw_tbl := tm (i := 325) (by decide +kernel)
theorem kw_326 : (Jvm.Cond.selects "AbnfChart" ({ cls := "AbnfChart", name := "read", desc := "()I" } : Jvm.MethodName) ({ cls := "AbnfChart", name := "read", desc := "()I" } : Jvm.MethodName)) ∈ lw_tbl := tm (i := 326) (by decide +kernel)
theorem kw_327 : (Jvm.Cond.code ({ cls := "AbnfChart", name := "read", desc := "()I" } : Jvm.MethodName) prog_1_method_4_code (1 : Nat) (Option.some Jvm.ClassFile.FieldType.int)) ∈ lw_tbl := tm (i := 327) (by decide +kernel)
theorem kw_328 : (Jvm.Cond.methodLink "AbnfChart" (76 : Nat) ({ cls := "AbnfChart$Reader", name := "readGrammar", desc := "()V" } : Jvm.MethodName)) ∈ lw_tbl := tm (i := 328) (by decide +kernel)
theorem kw_329 : (Jvm.Cond.instanceMethod ({ cls := "AbnfChart$Reader", name := "readGrammar", desc := "()V" } : Jvm.MethodName)) ∈ lw_tbl := tm (i := 329) (by decide +kernel)
theorem kw_330 : (Jvm.Cond.selects "AbnfChart$Reader" ({ cls := "AbnfChart$Reader", name := "readGrammar", desc := "()V" } : Jvm.MethodName) ({ cls := "AbnfChart$Reader", name := "readGrammar", desc := "()V" } : Jvm.MethodName)) ∈ lw_tbl := tm (i := 330) (by decide +kernel)
theorem kw_331 : (Jvm.Cond.code ({ cls := "AbnfChart$Reader", name := "readGrammar", desc := "()V" } : Jvm.MethodName) prog_6_method_2_code (2 : Nat) (Option.none : Option Jvm.ClassFile.FieldType)) ∈ lw_tbl := tm (i := 331) (by decide +kernel)
theorem kw_332 : (Jvm.Cond.methodLink "AbnfChart$Reader" (26 : Nat) ({ cls := "AbnfChart$Grammar", name := "begin", desc := "()V" } : Jvm.MethodName)) ∈ lw_tbl := tm (i := 332) (by decide +kernel)
theorem kw_333 : (Jvm.Cond.instanceMethod ({ cls := "AbnfChart$Grammar", name := "begin", desc := "()V" } : Jvm.MethodName)) ∈ lw_tbl := tm (i := 333) (by decide +kernel)
theorem kw_334 : (Jvm.Cond.selects "AbnfChart$Grammar" ({ cls := "AbnfChart$Grammar", name := "begin", desc := "()V" } : Jvm.MethodName) ({ cls := "AbnfChart$Grammar", name := "begin", desc := "()V" } : Jvm.MethodName)) ∈ lw_tbl := tm (i := 334) (by decide +kernel)
theorem kw_335 : (Jvm.Cond.code ({ cls := "AbnfChart$Grammar", name := "begin", desc := "()V" } : Jvm.MethodName) prog_5_method_2_code (1 : Nat) (Option.none : Option Jvm.ClassFile.FieldType)) ∈ lw_tbl := tm (i := 335) (by decide +kernel)
theorem kw_336 : (Jvm.Cond.methodLink "AbnfChart$Grammar" (45 : Nat) ({ cls := "AbnfChart$Characters", name := "empty", desc := "()I" } : Jvm.MethodName)) ∈ lw_tbl := tm (i := 336) (by decide +kernel)
theorem kw_337 : (Jvm.Cond.methodLink "AbnfChart$Reader" (31 : Nat) ({ cls := "AbnfChart$Reader", name := "fullLineFrom", desc := "(I)I" } : Jvm.MethodName)) ∈ lw_tbl := tm (i := 337) (by decide +kernel)
theorem kw_339 : (Jvm.Cond.instanceMethod ({ cls := "AbnfChart$Reader", name := "fullLineFrom", desc := "(I)I" } : Jvm.MethodName)) ∈ lw_tbl := tm (i := 339) (by decide +kernel)
theorem kw_340 : (Jvm.Cond.code ({ cls := "AbnfChart$Reader", name := "fullLineFrom", desc := "(I)I" } : Jvm.MethodName) prog_6_method_20_code (6 : Nat) (Option.some Jvm.ClassFile.FieldType.int)) ∈ lw_tbl := tm (i := 340) (by decide +kernel)
theorem kw_341 : (Jvm.Cond.methodLink "AbnfChart$Reader" (132 : Nat) ({ cls := "AbnfChart$Characters", name := "codeAt", desc := "(I)I" } : Jvm.MethodName)) ∈ lw_tbl := tm (i := 341) (by decide +kernel)
theorem kw_342 : (Jvm.Cond.instanceMethod ({ cls := "AbnfChart$Characters", name := "codeAt", desc := "(I)I" } : Jvm.MethodName)) ∈ lw_tbl := tm (i := 342) (by decide +kernel)
theorem kw_343 : (Jvm.Cond.selects "AbnfChart$Characters" ({ cls := "AbnfChart$Characters", name := "codeAt", desc := "(I)I" } : Jvm.MethodName) ({ cls := "AbnfChart$Characters", name := "codeAt", desc := "(I)I" } : Jvm.MethodName)) ∈ lw_tbl := tm (i := 343) (by decide +kernel)
theorem kw_344 : (Jvm.Cond.code ({ cls := "AbnfChart$Characters", name := "codeAt", desc := "(I)I" } : Jvm.MethodName) prog_2_method_5_code (2 : Nat) (Option.some Jvm.ClassFile.FieldType.int)) ∈ lw_tbl := tm (i := 344) (by decide +kernel)
theorem kw_345 : (Jvm.Cond.methodLink "AbnfChart$Reader" (35 : Nat) ({ cls := "AbnfChart$Reader", name := "readRule", desc := "()V" } : Jvm.MethodName)) ∈ lw_tbl := tm (i := 345) (by decide +kernel)
theorem kw_347 : (Jvm.Cond.instanceMethod ({ cls := "AbnfChart$Reader", name := "readRule", desc := "()V" } : Jvm.MethodName)) ∈ lw_tbl := tm (i := 347) (by decide +kernel)
theorem kw_348 : (Jvm.Cond.code ({ cls := "AbnfChart$Reader", name := "readRule", desc := "()V" } : Jvm.MethodName) prog_6_method_3_code (4 : Nat) (Option.none : Option Jvm.ClassFile.FieldType)) ∈ lw_tbl := tm (i := 348) (by decide +kernel)
theorem kw_349 : (Jvm.Cond.methodLink "AbnfChart$Reader" (46 : Nat) ({ cls := "AbnfChart$Reader", name := "readName", desc := "()LAbnfChart$Rule;" } : Jvm.MethodName)) ∈ lw_tbl := tm (i := 349) (by decide +kernel)
theorem kw_351 : (Jvm.Cond.instanceMethod ({ cls := "AbnfChart$Reader", name := "readName", desc := "()LAbnfChart$Rule;" } : Jvm.MethodName)) ∈ lw_tbl := tm (i := 351) (by decide +kernel)
theorem kw_352 : (Jvm.Cond.code ({ cls := "AbnfChart$Reader", name := "readName", desc := "()LAbnfChart$Rule;" } : Jvm.MethodName) prog_6_method_18_code (5 : Nat) (Option.some (Jvm.ClassFile.FieldType.object "AbnfChart$Rule"))) ∈ lw_tbl := tm (i := 352) (by decide +kernel)
theorem kw_353 : (Jvm.Cond.methodLink "AbnfChart$Reader" (54 : Nat) ({ cls := "AbnfChart$Reader", name := "peek", desc := "()I" } : Jvm.MethodName)) ∈ lw_tbl := tm (i := 353) (by decide +kernel)
theorem kw_355 : (Jvm.Cond.instanceMethod ({ cls := "AbnfChart$Reader", name := "peek", desc := "()I" } : Jvm.MethodName)) ∈ lw_tbl := tm (i := 355) (by decide +kernel)
theorem kw_356 : (Jvm.Cond.code ({ cls := "AbnfChart$Reader", name := "peek", desc := "()I" } : Jvm.MethodName) prog_6_method_21_code (1 : Nat) (Option.some Jvm.ClassFile.FieldType.int)) ∈ lw_tbl := tm (i := 356) (by decide +kernel)
theorem kw_357 : (Jvm.Cond.methodLinkNest "AbnfChart$Reader" (175 : Nat) ({ cls := "AbnfChart", name := "isLetter", desc := "(I)Z" } : Jvm.MethodName) "AbnfChart") ∈ lw_tbl := tm (i := 357) (by decide +kernel)
theorem kw_358 : (Jvm.Cond.static ({ cls := "AbnfChart", name := "isLetter", desc := "(I)Z" } : Jvm.MethodName)) ∈ lw_tbl := tm (i := 358) (by decide +kernel)
theorem kw_359 : (Jvm.Cond.code ({ cls := "AbnfChart", name := "isLetter", desc := "(I)Z" } : Jvm.MethodName) prog_1_method_19_code (1 : Nat) (Option.some Jvm.ClassFile.FieldType.boolean)) ∈ lw_tbl := tm (i := 359) (by decide +kernel)
theorem kw_360 : (Jvm.Cond.methodLink "AbnfChart$Reader" (58 : Nat) ({ cls := "AbnfChart$Reader", name := "needReadable", desc := "(ZI)V" } : Jvm.MethodName)) ∈ lw_tbl := tm (i := 360) (by decide +kernel)
theorem kw_362 : (Jvm.Cond.instanceMethod ({ cls := "AbnfChart$Reader", name := "needReadable", desc := "(ZI)V" } : Jvm.MethodName)) ∈ lw_tbl := tm (i := 362) (by decide +kernel)
theorem kw_363 : (Jvm.Cond.code ({ cls := "AbnfChart$Reader", name := "needReadable", desc := "(ZI)V" } : Jvm.MethodName) prog_6_method_23_code (3 : Nat) (Option.none : Option Jvm.ClassFile.FieldType)) ∈ lw_tbl := tm (i := 363) (by decide +kernel)
theorem kw_364 : (Jvm.Cond.classLink "AbnfChart$Reader" (201 : Nat) "java/lang/IllegalArgumentException") ∈ lw_tbl := tm (i := 364) (by decide +kernel)
theorem kw_365 : (Jvm.Cond.methodLink "AbnfChart$Reader" (203 : Nat) ({ cls := "java/lang/IllegalArgumentException", name := "<init>", desc := "()V" } : Jvm.MethodName)) ∈ lw_tbl := tm (i := 365) (by decide +kernel)
theorem kw_366 : (Jvm.Cond.methodLink "AbnfChart$Reader" (178 : Nat) ({ cls := "AbnfChart$Reader", name := "isNameCode", desc := "(I)Z" } : Jvm.MethodName)) ∈ lw_tbl := tm (i := 366) (by decide +kernel)
theorem kw_367 : (Jvm.Cond.static ({ cls := "AbnfChart$Reader", name := "isNameCode", desc := "(I)Z" } : Jvm.MethodName)) ∈ lw_tbl := tm (i := 367) (by decide +kernel)
theorem kw_368 : (Jvm.Cond.code ({ cls := "AbnfChart$Reader", name := "isNameCode", desc := "(I)Z" } : Jvm.MethodName) prog_6_method_27_code (1 : Nat) (Option.some Jvm.ClassFile.FieldType.boolean)) ∈ lw_tbl := tm (i := 368) (by decide +kernel)
theorem kw_369 : (Jvm.Cond.methodLinkNest "AbnfChart$Reader" (119 : Nat) ({ cls := "AbnfChart", name := "isDigit", desc := "(I)Z" } : Jvm.MethodName) "AbnfChart") ∈ lw_tbl := tm (i := 369) (by decide +kernel)
theorem kw_370 : (Jvm.Cond.static ({ cls := "AbnfChart", name := "isDigit", desc := "(I)Z" } : Jvm.MethodName)) ∈ lw_tbl := tm (i := 370) (by decide +kernel)
theorem kw_371 : (Jvm.Cond.code ({ cls := "AbnfChart", name := "isDigit", desc := "(I)Z" } : Jvm.MethodName) prog_1_method_20_code (1 : Nat) (Option.some Jvm.ClassFile.FieldType.boolean)) ∈ lw_tbl := tm (i := 371) (by decide +kernel)
theorem kw_372 : (Jvm.Cond.methodLinkNest "AbnfChart$Reader" (135 : Nat) ({ cls := "AbnfChart", name := "smallOf", desc := "(I)I" } : Jvm.MethodName) "AbnfChart") ∈ lw_tbl := tm (i := 372) (by decide +kernel)
theorem kw_373 : (Jvm.Cond.static ({ cls := "AbnfChart", name := "smallOf", desc := "(I)I" } : Jvm.MethodName)) ∈ lw_tbl := tm (i := 373) (by decide +kernel)
theorem kw_374 : (Jvm.Cond.code ({ cls := "AbnfChart", name := "smallOf", desc := "(I)I" } : Jvm.MethodName) prog_1_method_21_code (1 : Nat) (Option.some Jvm.ClassFile.FieldType.int)) ∈ lw_tbl := tm (i := 374) (by decide +kernel)
theorem kw_375 : (Jvm.Cond.methodLink "AbnfChart$Reader" (181 : Nat) ({ cls := "AbnfChart$Grammar", name := "find", desc := "(J)I" } : Jvm.MethodName)) ∈ lw_tbl := tm (i := 375) (by decide +kernel)
theorem kw_376 : (Jvm.Cond.instanceMethod ({ cls := "AbnfChart$Grammar", name := "find", desc := "(J)I" } : Jvm.MethodName)) ∈ lw_tbl := tm (i := 376) (by decide +kernel)
theorem kw_377 : (Jvm.Cond.selects "AbnfChart$Grammar" ({ cls := "AbnfChart$Grammar", name := "find", desc := "(J)I" } : Jvm.MethodName) ({ cls := "AbnfChart$Grammar", name := "find", desc := "(J)I" } : Jvm.MethodName)) ∈ lw_tbl := tm (i := 377) (by decide +kernel)
theorem kw_378 : (Jvm.Cond.code ({ cls := "AbnfChart$Grammar", name := "find", desc := "(J)I" } : Jvm.MethodName) prog_5_method_7_code (4 : Nat) (Option.some Jvm.ClassFile.FieldType.int)) ∈ lw_tbl := tm (i := 378) (by decide +kernel)
theorem kw_379 : (Jvm.Cond.methodLink "AbnfChart$Reader" (189 : Nat) ({ cls := "AbnfChart$Grammar", name := "hasRoomForRule", desc := "()Z" } : Jvm.MethodName)) ∈ lw_tbl := tm (i := 379) (by decide +kernel)
theorem kw_380 : (Jvm.Cond.instanceMethod ({ cls := "AbnfChart$Grammar", name := "hasRoomForRule", desc := "()Z" } : Jvm.MethodName)) ∈ lw_tbl := tm (i := 380) (by decide +kernel)
theorem kw_381 : (Jvm.Cond.selects "AbnfChart$Grammar" ({ cls := "AbnfChart$Grammar", name := "hasRoomForRule", desc := "()Z" } : Jvm.MethodName) ({ cls := "AbnfChart$Grammar", name := "hasRoomForRule", desc := "()Z" } : Jvm.MethodName)) ∈ lw_tbl := tm (i := 381) (by decide +kernel)
theorem kw_382 : (Jvm.Cond.code ({ cls := "AbnfChart$Grammar", name := "hasRoomForRule", desc := "()Z" } : Jvm.MethodName) prog_5_method_8_code (1 : Nat) (Option.some Jvm.ClassFile.FieldType.boolean)) ∈ lw_tbl := tm (i := 382) (by decide +kernel)
theorem kw_383 : (Jvm.Cond.methodLink "AbnfChart$Reader" (148 : Nat) ({ cls := "AbnfChart$Reader", name := "needRoom", desc := "(ZI)V" } : Jvm.MethodName)) ∈ lw_tbl := tm (i := 383) (by decide +kernel)
theorem kw_385 : (Jvm.Cond.instanceMethod ({ cls := "AbnfChart$Reader", name := "needRoom", desc := "(ZI)V" } : Jvm.MethodName)) ∈ lw_tbl := tm (i := 385) (by decide +kernel)
theorem kw_386 : (Jvm.Cond.code ({ cls := "AbnfChart$Reader", name := "needRoom", desc := "(ZI)V" } : Jvm.MethodName) prog_6_method_24_code (3 : Nat) (Option.none : Option Jvm.ClassFile.FieldType)) ∈ lw_tbl := tm (i := 386) (by decide +kernel)
theorem kw_387 : (Jvm.Cond.classLink "AbnfChart$Reader" (204 : Nat) "java/lang/IllegalStateException") ∈ lw_tbl := tm (i := 387) (by decide +kernel)
theorem kw_388 : (Jvm.Cond.methodLink "AbnfChart$Reader" (206 : Nat) ({ cls := "java/lang/IllegalStateException", name := "<init>", desc := "()V" } : Jvm.MethodName)) ∈ lw_tbl := tm (i := 388) (by decide +kernel)
theorem kw_389 : (Jvm.Cond.methodLink "AbnfChart$Reader" (192 : Nat) ({ cls := "AbnfChart$Grammar", name := "addRule", desc := "(J)LAbnfChart$Rule;" } : Jvm.MethodName)) ∈ lw_tbl := tm (i := 389) (by decide +kernel)
theorem kw_390 : (Jvm.Cond.instanceMethod ({ cls := "AbnfChart$Grammar", name := "addRule", desc := "(J)LAbnfChart$Rule;" } : Jvm.MethodName)) ∈ lw_tbl := tm (i := 390) (by decide +kernel)
theorem kw_391 : (Jvm.Cond.selects "AbnfChart$Grammar" ({ cls := "AbnfChart$Grammar", name := "addRule", desc := "(J)LAbnfChart$Rule;" } : Jvm.MethodName) ({ cls := "AbnfChart$Grammar", name := "addRule", desc := "(J)LAbnfChart$Rule;" } : Jvm.MethodName)) ∈ lw_tbl := tm (i := 391) (by decide +kernel)
theorem kw_392 : (Jvm.Cond.code ({ cls := "AbnfChart$Grammar", name := "addRule", desc := "(J)LAbnfChart$Rule;" } : Jvm.MethodName) prog_5_method_10_code (4 : Nat) (Option.some (Jvm.ClassFile.FieldType.object "AbnfChart$Rule"))) ∈ lw_tbl := tm (i := 392) (by decide +kernel)
theorem kw_393 : (Jvm.Cond.methodLink "AbnfChart$Grammar" (60 : Nat) ({ cls := "AbnfChart$Rule", name := "begin", desc := "(J)V" } : Jvm.MethodName)) ∈ lw_tbl := tm (i := 393) (by decide +kernel)
theorem kw_394 : (Jvm.Cond.instanceMethod ({ cls := "AbnfChart$Rule", name := "begin", desc := "(J)V" } : Jvm.MethodName)) ∈ lw_tbl := tm (i := 394) (by decide +kernel)
theorem kw_395 : (Jvm.Cond.selects "AbnfChart$Rule" ({ cls := "AbnfChart$Rule", name := "begin", desc := "(J)V" } : Jvm.MethodName) ({ cls := "AbnfChart$Rule", name := "begin", desc := "(J)V" } : Jvm.MethodName)) ∈ lw_tbl := tm (i := 395) (by decide +kernel)
theorem kw_396 : (Jvm.Cond.code ({ cls := "AbnfChart$Rule", name := "begin", desc := "(J)V" } : Jvm.MethodName) prog_7_method_2_code (3 : Nat) (Option.none : Option Jvm.ClassFile.FieldType)) ∈ lw_tbl := tm (i := 396) (by decide +kernel)
theorem kw_397 : (Jvm.Cond.methodLink "AbnfChart$Reader" (50 : Nat) ({ cls := "AbnfChart$Reader", name := "readGap", desc := "()Z" } : Jvm.MethodName)) ∈ lw_tbl := tm (i := 397) (by decide +kernel)
theorem kw_399 : (Jvm.Cond.instanceMethod ({ cls := "AbnfChart$Reader", name := "readGap", desc := "()Z" } : Jvm.MethodName)) ∈ lw_tbl := tm (i := 399) (by decide +kernel)
theorem kw_400 : (Jvm.Cond.code ({ cls := "AbnfChart$Reader", name := "readGap", desc := "()Z" } : Jvm.MethodName) prog_6_method_19_code (6 : Nat) (Option.some Jvm.ClassFile.FieldType.boolean)) ∈ lw_tbl := tm (i := 400) (by decide +kernel)
theorem kw_401 : (Jvm.Cond.methodLink "AbnfChart$Reader" (62 : Nat) ({ cls := "AbnfChart$Rule", name := "isTold", desc := "()Z" } : Jvm.MethodName)) ∈ lw_tbl := tm (i := 401) (by decide +kernel)
theorem kw_402 : (Jvm.Cond.instanceMethod ({ cls := "AbnfChart$Rule", name := "isTold", desc := "()Z" } : Jvm.MethodName)) ∈ lw_tbl := tm (i := 402) (by decide +kernel)
theorem kw_403 : (Jvm.Cond.selects "AbnfChart$Rule" ({ cls := "AbnfChart$Rule", name := "isTold", desc := "()Z" } : Jvm.MethodName) ({ cls := "AbnfChart$Rule", name := "isTold", desc := "()Z" } : Jvm.MethodName)) ∈ lw_tbl := tm (i := 403) (by decide +kernel)
theorem kw_404 : (Jvm.Cond.code ({ cls := "AbnfChart$Rule", name := "isTold", desc := "()Z" } : Jvm.MethodName) prog_7_method_3_code (1 : Nat) (Option.some Jvm.ClassFile.FieldType.boolean)) ∈ lw_tbl := tm (i := 404) (by decide +kernel)
theorem kw_405 : (Jvm.Cond.methodLink "AbnfChart$Reader" (67 : Nat) ({ cls := "AbnfChart$Reader", name := "readAlternatives", desc := "(I)LAbnfChart$Element;" } : Jvm.MethodName)) ∈ lw_tbl := tm (i := 405) (by decide +kernel)
theorem kw_407 : (Jvm.Cond.instanceMethod ({ cls := "AbnfChart$Reader", name := "readAlternatives", desc := "(I)LAbnfChart$Element;" } : Jvm.MethodName)) ∈ lw_tbl := tm (i := 407) (by decide +kernel)
theorem kw_408 : (Jvm.Cond.code ({ cls := "AbnfChart$Reader", name := "readAlternatives", desc := "(I)LAbnfChart$Element;" } : Jvm.MethodName) prog_6_method_4_code (5 : Nat) (Option.some (Jvm.ClassFile.FieldType.object "AbnfChart$Element"))) ∈ lw_tbl := tm (i := 408) (by decide +kernel)
theorem kw_409 : (Jvm.Cond.methodLink "AbnfChart$Reader" (75 : Nat) ({ cls := "AbnfChart$Reader", name := "beginRow", desc := "(I)LAbnfChart$Element;" } : Jvm.MethodName)) ∈ lw_tbl := tm (i := 409) (by decide +kernel)
theorem kw_411 : (Jvm.Cond.instanceMethod ({ cls := "AbnfChart$Reader", name := "beginRow", desc := "(I)LAbnfChart$Element;" } : Jvm.MethodName)) ∈ lw_tbl := tm (i := 411) (by decide +kernel)
theorem kw_412 : (Jvm.Cond.code ({ cls := "AbnfChart$Reader", name := "beginRow", desc := "(I)LAbnfChart$Element;" } : Jvm.MethodName) prog_6_method_6_code (2 : Nat) (Option.some (Jvm.ClassFile.FieldType.object "AbnfChart$Element"))) ∈ lw_tbl := tm (i := 412) (by decide +kernel)
theorem kw_413 : (Jvm.Cond.methodLink "AbnfChart$Reader" (93 : Nat) ({ cls := "AbnfChart$Reader", name := "beginsRepetition", desc := "(I)Z" } : Jvm.MethodName)) ∈ lw_tbl := tm (i := 413) (by decide +kernel)
theorem kw_414 : (Jvm.Cond.static ({ cls := "AbnfChart$Reader", name := "beginsRepetition", desc := "(I)Z" } : Jvm.MethodName)) ∈ lw_tbl := tm (i := 414) (by decide +kernel)
theorem kw_415 : (Jvm.Cond.code ({ cls := "AbnfChart$Reader", name := "beginsRepetition", desc := "(I)Z" } : Jvm.MethodName) prog_6_method_25_code (1 : Nat) (Option.some Jvm.ClassFile.FieldType.boolean)) ∈ lw_tbl := tm (i := 415) (by decide +kernel)
theorem kw_416 : (Jvm.Cond.methodLink "AbnfChart$Reader" (101 : Nat) ({ cls := "AbnfChart$Reader", name := "beginsRepeat", desc := "(I)Z" } : Jvm.MethodName)) ∈ lw_tbl := tm (i := 416) (by decide +kernel)
theorem kw_417 : (Jvm.Cond.static ({ cls := "AbnfChart$Reader", name := "beginsRepeat", desc := "(I)Z" } : Jvm.MethodName)) ∈ lw_tbl := tm (i := 417) (by decide +kernel)
theorem kw_418 : (Jvm.Cond.code ({ cls := "AbnfChart$Reader", name := "beginsRepeat", desc := "(I)Z" } : Jvm.MethodName) prog_6_method_26_code (1 : Nat) (Option.some Jvm.ClassFile.FieldType.boolean)) ∈ lw_tbl := tm (i := 418) (by decide +kernel)
theorem kw_419 : (Jvm.Cond.methodLink "AbnfChart$Reader" (97 : Nat) ({ cls := "AbnfChart$Reader", name := "addElement", desc := "(II)LAbnfChart$Element;" } : Jvm.MethodName)) ∈ lw_tbl := tm (i := 419) (by decide +kernel)
theorem kw_421 : (Jvm.Cond.instanceMethod ({ cls := "AbnfChart$Reader", name := "addElement", desc := "(II)LAbnfChart$Element;" } : Jvm.MethodName)) ∈ lw_tbl := tm (i := 421) (by decide +kernel)
theorem kw_422 : (Jvm.Cond.code ({ cls := "AbnfChart$Reader", name := "addElement", desc := "(II)LAbnfChart$Element;" } : Jvm.MethodName) prog_6_method_22_code (3 : Nat) (Option.some (Jvm.ClassFile.FieldType.object "AbnfChart$Element"))) ∈ lw_tbl := tm (i := 422) (by decide +kernel)
theorem kw_423 : (Jvm.Cond.methodLink "AbnfChart$Reader" (196 : Nat) ({ cls := "AbnfChart$Grammar", name := "hasRoomForElement", desc := "()Z" } : Jvm.MethodName)) ∈ lw_tbl := tm (i := 423) (by decide +kernel)
theorem kw_424 : (Jvm.Cond.instanceMethod ({ cls := "AbnfChart$Grammar", name := "hasRoomForElement", desc := "()Z" } : Jvm.MethodName)) ∈ lw_tbl := tm (i := 424) (by decide +kernel)
theorem kw_425 : (Jvm.Cond.selects "AbnfChart$Grammar" ({ cls := "AbnfChart$Grammar", name := "hasRoomForElement", desc := "()Z" } : Jvm.MethodName) ({ cls := "AbnfChart$Grammar", name := "hasRoomForElement", desc := "()Z" } : Jvm.MethodName)) ∈ lw_tbl := tm (i := 425) (by decide +kernel)
theorem kw_426 : (Jvm.Cond.code ({ cls := "AbnfChart$Grammar", name := "hasRoomForElement", desc := "()Z" } : Jvm.MethodName) prog_5_method_9_code (1 : Nat) (Option.some Jvm.ClassFile.FieldType.boolean)) ∈ lw_tbl := tm (i := 426) (by decide +kernel)
theorem kw_427 : (Jvm.Cond.methodLink "AbnfChart$Reader" (199 : Nat) ({ cls := "AbnfChart$Grammar", name := "addElement", desc := "(I)LAbnfChart$Element;" } : Jvm.MethodName)) ∈ lw_tbl := tm (i := 427) (by decide +kernel)
theorem kw_428 : (Jvm.Cond.instanceMethod ({ cls := "AbnfChart$Grammar", name := "addElement", desc := "(I)LAbnfChart$Element;" } : Jvm.MethodName)) ∈ lw_tbl := tm (i := 428) (by decide +kernel)
theorem kw_429 : (Jvm.Cond.selects "AbnfChart$Grammar" ({ cls := "AbnfChart$Grammar", name := "addElement", desc := "(I)LAbnfChart$Element;" } : Jvm.MethodName) ({ cls := "AbnfChart$Grammar", name := "addElement", desc := "(I)LAbnfChart$Element;" } : Jvm.MethodName)) ∈ lw_tbl := tm (i := 429) (by decide +kernel)
theorem kw_430 : (Jvm.Cond.code ({ cls := "AbnfChart$Grammar", name := "addElement", desc := "(I)LAbnfChart$Element;" } : Jvm.MethodName) prog_5_method_11_code (3 : Nat) (Option.some (Jvm.ClassFile.FieldType.object "AbnfChart$Element"))) ∈ lw_tbl := tm (i := 430) (by decide +kernel)
theorem kw_431 : (Jvm.Cond.methodLink "AbnfChart$Grammar" (64 : Nat) ({ cls := "AbnfChart$Element", name := "begin", desc := "(I)V" } : Jvm.MethodName)) ∈ lw_tbl := tm (i := 431) (by decide +kernel)
theorem kw_432 : (Jvm.Cond.instanceMethod ({ cls := "AbnfChart$Element", name := "begin", desc := "(I)V" } : Jvm.MethodName)) ∈ lw_tbl := tm (i := 432) (by decide +kernel)
theorem kw_433 : (Jvm.Cond.selects "AbnfChart$Element" ({ cls := "AbnfChart$Element", name := "begin", desc := "(I)V" } : Jvm.MethodName) ({ cls := "AbnfChart$Element", name := "begin", desc := "(I)V" } : Jvm.MethodName)) ∈ lw_tbl := tm (i := 433) (by decide +kernel)
theorem kw_434 : (Jvm.Cond.code ({ cls := "AbnfChart$Element", name := "begin", desc := "(I)V" } : Jvm.MethodName) prog_4_method_2_code (2 : Nat) (Option.none : Option Jvm.ClassFile.FieldType)) ∈ lw_tbl := tm (i := 434) (by decide +kernel)
theorem kw_435 : (Jvm.Cond.methodLink "AbnfChart$Reader" (78 : Nat) ({ cls := "AbnfChart$Reader", name := "readSequence", desc := "(I)LAbnfChart$Element;" } : Jvm.MethodName)) ∈ lw_tbl := tm (i := 435) (by decide +kernel)
theorem kw_437 : (Jvm.Cond.instanceMethod ({ cls := "AbnfChart$Reader", name := "readSequence", desc := "(I)LAbnfChart$Element;" } : Jvm.MethodName)) ∈ lw_tbl := tm (i := 437) (by decide +kernel)
theorem kw_438 : (Jvm.Cond.code ({ cls := "AbnfChart$Reader", name := "readSequence", desc := "(I)LAbnfChart$Element;" } : Jvm.MethodName) prog_6_method_5_code (5 : Nat) (Option.some (Jvm.ClassFile.FieldType.object "AbnfChart$Element"))) ∈ lw_tbl := tm (i := 438) (by decide +kernel)
theorem kw_439 : (Jvm.Cond.methodLink "AbnfChart$Reader" (90 : Nat) ({ cls := "AbnfChart$Reader", name := "readRepetition", desc := "(I)LAbnfChart$Element;" } : Jvm.MethodName)) ∈ lw_tbl := tm (i := 439) (by decide +kernel)
theorem kw_441 : (Jvm.Cond.instanceMethod ({ cls := "AbnfChart$Reader", name := "readRepetition", desc := "(I)LAbnfChart$Element;" } : Jvm.MethodName)) ∈ lw_tbl := tm (i := 441) (by decide +kernel)
theorem kw_442 : (Jvm.Cond.code ({ cls := "AbnfChart$Reader", name := "readRepetition", desc := "(I)LAbnfChart$Element;" } : Jvm.MethodName) prog_6_method_7_code (3 : Nat) (Option.some (Jvm.ClassFile.FieldType.object "AbnfChart$Element"))) ∈ lw_tbl := tm (i := 442) (by decide +kernel)
theorem kw_443 : (Jvm.Cond.methodLink "AbnfChart$Reader" (104 : Nat) ({ cls := "AbnfChart$Reader", name := "readElement", desc := "(I)LAbnfChart$Element;" } : Jvm.MethodName)) ∈ lw_tbl := tm (i := 443) (by decide +kernel)
theorem kw_445 : (Jvm.Cond.instanceMethod ({ cls := "AbnfChart$Reader", name := "readElement", desc := "(I)LAbnfChart$Element;" } : Jvm.MethodName)) ∈ lw_tbl := tm (i := 445) (by decide +kernel)
theorem kw_446 : (Jvm.Cond.code ({ cls := "AbnfChart$Reader", name := "readElement", desc := "(I)LAbnfChart$Element;" } : Jvm.MethodName) prog_6_method_10_code (2 : Nat) (Option.some (Jvm.ClassFile.FieldType.object "AbnfChart$Element"))) ∈ lw_tbl := tm (i := 446) (by decide +kernel)
theorem kw_447 : (Jvm.Cond.methodLink "AbnfChart$Reader" (122 : Nat) ({ cls := "AbnfChart$Reader", name := "readBracket", desc := "(IC)LAbnfChart$Element;" } : Jvm.MethodName)) ∈ lw_tbl := tm (i := 447) (by decide +kernel)
theorem kw_449 : (Jvm.Cond.instanceMethod ({ cls := "AbnfChart$Reader", name := "readBracket", desc := "(IC)LAbnfChart$Element;" } : Jvm.MethodName)) ∈ lw_tbl := tm (i := 449) (by decide +kernel)
theorem kw_450 : (Jvm.Cond.code ({ cls := "AbnfChart$Reader", name := "readBracket", desc := "(IC)LAbnfChart$Element;" } : Jvm.MethodName) prog_6_method_12_code (4 : Nat) (Option.some (Jvm.ClassFile.FieldType.object "AbnfChart$Element"))) ∈ lw_tbl := tm (i := 450) (by decide +kernel)
theorem kw_451 : (Jvm.Cond.methodLink "AbnfChart$Reader" (126 : Nat) ({ cls := "AbnfChart$Reader", name := "readOption", desc := "(I)LAbnfChart$Element;" } : Jvm.MethodName)) ∈ lw_tbl := tm (i := 451) (by decide +kernel)
theorem kw_453 : (Jvm.Cond.instanceMethod ({ cls := "AbnfChart$Reader", name := "readOption", desc := "(I)LAbnfChart$Element;" } : Jvm.MethodName)) ∈ lw_tbl := tm (i := 453) (by decide +kernel)
theorem kw_454 : (Jvm.Cond.code ({ cls := "AbnfChart$Reader", name := "readOption", desc := "(I)LAbnfChart$Element;" } : Jvm.MethodName) prog_6_method_11_code (3 : Nat) (Option.some (Jvm.ClassFile.FieldType.object "AbnfChart$Element"))) ∈ lw_tbl := tm (i := 454) (by decide +kernel)
theorem kw_455 : (Jvm.Cond.methodLink "AbnfChart$Reader" (129 : Nat) ({ cls := "AbnfChart$Reader", name := "readString", desc := "(II)LAbnfChart$Element;" } : Jvm.MethodName)) ∈ lw_tbl := tm (i := 455) (by decide +kernel)
theorem kw_457 : (Jvm.Cond.instanceMethod ({ cls := "AbnfChart$Reader", name := "readString", desc := "(II)LAbnfChart$Element;" } : Jvm.MethodName)) ∈ lw_tbl := tm (i := 457) (by decide +kernel)
theorem kw_458 : (Jvm.Cond.code ({ cls := "AbnfChart$Reader", name := "readString", desc := "(II)LAbnfChart$Element;" } : Jvm.MethodName) prog_6_method_15_code (5 : Nat) (Option.some (Jvm.ClassFile.FieldType.object "AbnfChart$Element"))) ∈ lw_tbl := tm (i := 458) (by decide +kernel)
theorem kw_459 : (Jvm.Cond.methodLink "AbnfChart$Reader" (158 : Nat) ({ cls := "AbnfChart$Reader", name := "isStringCode", desc := "(I)Z" } : Jvm.MethodName)) ∈ lw_tbl := tm (i := 459) (by decide +kernel)
theorem kw_460 : (Jvm.Cond.static ({ cls := "AbnfChart$Reader", name := "isStringCode", desc := "(I)Z" } : Jvm.MethodName)) ∈ lw_tbl := tm (i := 460) (by decide +kernel)
theorem kw_461 : (Jvm.Cond.code ({ cls := "AbnfChart$Reader", name := "isStringCode", desc := "(I)Z" } : Jvm.MethodName) prog_6_method_28_code (1 : Nat) (Option.some Jvm.ClassFile.FieldType.boolean)) ∈ lw_tbl := tm (i := 461) (by decide +kernel)
theorem kw_462 : (Jvm.Cond.methodLink "AbnfChart$Reader" (161 : Nat) ({ cls := "AbnfChart$Characters", name := "append", desc := "(I)V" } : Jvm.MethodName)) ∈ lw_tbl := tm (i := 462) (by decide +kernel)
theorem kw_463 : (Jvm.Cond.methodLink "AbnfChart$Reader" (138 : Nat) ({ cls := "AbnfChart$Reader", name := "readExactString", desc := "()LAbnfChart$Element;" } : Jvm.MethodName)) ∈ lw_tbl := tm (i := 463) (by decide +kernel)
theorem kw_465 : (Jvm.Cond.instanceMethod ({ cls := "AbnfChart$Reader", name := "readExactString", desc := "()LAbnfChart$Element;" } : Jvm.MethodName)) ∈ lw_tbl := tm (i := 465) (by decide +kernel)
theorem kw_466 : (Jvm.Cond.code ({ cls := "AbnfChart$Reader", name := "readExactString", desc := "()LAbnfChart$Element;" } : Jvm.MethodName) prog_6_method_14_code (2 : Nat) (Option.some (Jvm.ClassFile.FieldType.object "AbnfChart$Element"))) ∈ lw_tbl := tm (i := 466) (by decide +kernel)
theorem kw_467 : (Jvm.Cond.methodLink "AbnfChart$Reader" (142 : Nat) ({ cls := "AbnfChart$Reader", name := "readValue", desc := "()LAbnfChart$Element;" } : Jvm.MethodName)) ∈ lw_tbl := tm (i := 467) (by decide +kernel)
theorem kw_469 : (Jvm.Cond.instanceMethod ({ cls := "AbnfChart$Reader", name := "readValue", desc := "()LAbnfChart$Element;" } : Jvm.MethodName)) ∈ lw_tbl := tm (i := 469) (by decide +kernel)
theorem kw_470 : (Jvm.Cond.code ({ cls := "AbnfChart$Reader", name := "readValue", desc := "()LAbnfChart$Element;" } : Jvm.MethodName) prog_6_method_16_code (7 : Nat) (Option.some (Jvm.ClassFile.FieldType.object "AbnfChart$Element"))) ∈ lw_tbl := tm (i := 470) (by decide +kernel)
theorem kw_471 : (Jvm.Cond.methodLink "AbnfChart$Reader" (165 : Nat) ({ cls := "AbnfChart$Reader", name := "readNumber", desc := "(II)I" } : Jvm.MethodName)) ∈ lw_tbl := tm (i := 471) (by decide +kernel)
theorem kw_473 : (Jvm.Cond.instanceMethod ({ cls := "AbnfChart$Reader", name := "readNumber", desc := "(II)I" } : Jvm.MethodName)) ∈ lw_tbl := tm (i := 473) (by decide +kernel)
theorem kw_474 : (Jvm.Cond.code ({ cls := "AbnfChart$Reader", name := "readNumber", desc := "(II)I" } : Jvm.MethodName) prog_6_method_17_code (6 : Nat) (Option.some Jvm.ClassFile.FieldType.int)) ∈ lw_tbl := tm (i := 474) (by decide +kernel)
theorem kw_475 : (Jvm.Cond.methodLink "AbnfChart$Reader" (172 : Nat) ({ cls := "AbnfChart$Reader", name := "digitOf", desc := "(II)I" } : Jvm.MethodName)) ∈ lw_tbl := tm (i := 475) (by decide +kernel)
theorem kw_476 : (Jvm.Cond.static ({ cls := "AbnfChart$Reader", name := "digitOf", desc := "(II)I" } : Jvm.MethodName)) ∈ lw_tbl := tm (i := 476) (by decide +kernel)
theorem kw_477 : (Jvm.Cond.code ({ cls := "AbnfChart$Reader", name := "digitOf", desc := "(II)I" } : Jvm.MethodName) prog_6_method_29_code (2 : Nat) (Option.some Jvm.ClassFile.FieldType.int)) ∈ lw_tbl := tm (i := 477) (by decide +kernel)
theorem kw_478 : (Jvm.Cond.methodLink "AbnfChart$Reader" (145 : Nat) ({ cls := "AbnfChart$Reader", name := "readAskedName", desc := "()LAbnfChart$Element;" } : Jvm.MethodName)) ∈ lw_tbl := tm (i := 478) (by decide +kernel)
theorem kw_480 : (Jvm.Cond.instanceMethod ({ cls := "AbnfChart$Reader", name := "readAskedName", desc := "()LAbnfChart$Element;" } : Jvm.MethodName)) ∈ lw_tbl := tm (i := 480) (by decide +kernel)
theorem kw_481 : (Jvm.Cond.code ({ cls := "AbnfChart$Reader", name := "readAskedName", desc := "()LAbnfChart$Element;" } : Jvm.MethodName) prog_6_method_13_code (4 : Nat) (Option.some (Jvm.ClassFile.FieldType.object "AbnfChart$Element"))) ∈ lw_tbl := tm (i := 481) (by decide +kernel)
theorem kw_482 : (Jvm.Cond.methodLink "AbnfChart$Reader" (107 : Nat) ({ cls := "AbnfChart$Reader", name := "readRepeat", desc := "(LAbnfChart$Element;)V" } : Jvm.MethodName)) ∈ lw_tbl := tm (i := 482) (by decide +kernel)
theorem kw_484 : (Jvm.Cond.instanceMethod ({ cls := "AbnfChart$Reader", name := "readRepeat", desc := "(LAbnfChart$Element;)V" } : Jvm.MethodName)) ∈ lw_tbl := tm (i := 484) (by decide +kernel)
theorem kw_485 : (Jvm.Cond.code ({ cls := "AbnfChart$Reader", name := "readRepeat", desc := "(LAbnfChart$Element;)V" } : Jvm.MethodName) prog_6_method_8_code (4 : Nat) (Option.none : Option Jvm.ClassFile.FieldType)) ∈ lw_tbl := tm (i := 485) (by decide +kernel)
theorem kw_486 : (Jvm.Cond.methodLink "AbnfChart$Reader" (110 : Nat) ({ cls := "AbnfChart$Reader", name := "readDigit", desc := "()I" } : Jvm.MethodName)) ∈ lw_tbl := tm (i := 486) (by decide +kernel)
theorem kw_488 : (Jvm.Cond.instanceMethod ({ cls := "AbnfChart$Reader", name := "readDigit", desc := "()I" } : Jvm.MethodName)) ∈ lw_tbl := tm (i := 488) (by decide +kernel)
theorem kw_489 : (Jvm.Cond.code ({ cls := "AbnfChart$Reader", name := "readDigit", desc := "()I" } : Jvm.MethodName) prog_6_method_9_code (2 : Nat) (Option.some Jvm.ClassFile.FieldType.int)) ∈ lw_tbl := tm (i := 489) (by decide +kernel)
theorem kw_490 : (Jvm.Cond.methodLink "AbnfChart$Reader" (71 : Nat) ({ cls := "AbnfChart$Rule", name := "tell", desc := "(LAbnfChart$Element;)V" } : Jvm.MethodName)) ∈ lw_tbl := tm (i := 490) (by decide +kernel)
theorem kw_491 : (Jvm.Cond.instanceMethod ({ cls := "AbnfChart$Rule", name := "tell", desc := "(LAbnfChart$Element;)V" } : Jvm.MethodName)) ∈ lw_tbl := tm (i := 491) (by decide +kernel)
theorem kw_492 : (Jvm.Cond.selects "AbnfChart$Rule" ({ cls := "AbnfChart$Rule", name := "tell", desc := "(LAbnfChart$Element;)V" } : Jvm.MethodName) ({ cls := "AbnfChart$Rule", name := "tell", desc := "(LAbnfChart$Element;)V" } : Jvm.MethodName)) ∈ lw_tbl := tm (i := 492) (by decide +kernel)
theorem kw_493 : (Jvm.Cond.code ({ cls := "AbnfChart$Rule", name := "tell", desc := "(LAbnfChart$Element;)V" } : Jvm.MethodName) prog_7_method_4_code (2 : Nat) (Option.none : Option Jvm.ClassFile.FieldType)) ∈ lw_tbl := tm (i := 493) (by decide +kernel)
theorem kw_494 : (Jvm.Cond.methodLink "AbnfChart$Reader" (43 : Nat) ({ cls := "AbnfChart$Grammar", name := "end", desc := "()V" } : Jvm.MethodName)) ∈ lw_tbl := tm (i := 494) (by decide +kernel)
theorem kw_495 : (Jvm.Cond.instanceMethod ({ cls := "AbnfChart$Grammar", name := "end", desc := "()V" } : Jvm.MethodName)) ∈ lw_tbl := tm (i := 495) (by decide +kernel)
theorem kw_496 : (Jvm.Cond.selects "AbnfChart$Grammar" ({ cls := "AbnfChart$Grammar", name := "end", desc := "()V" } : Jvm.MethodName) ({ cls := "AbnfChart$Grammar", name := "end", desc := "()V" } : Jvm.MethodName)) ∈ lw_tbl := tm (i := 496) (by decide +kernel)
theorem kw_497 : (Jvm.Cond.code ({ cls := "AbnfChart$Grammar", name := "end", desc := "()V" } : Jvm.MethodName) prog_5_method_3_code (1 : Nat) (Option.none : Option Jvm.ClassFile.FieldType)) ∈ lw_tbl := tm (i := 497) (by decide +kernel)
theorem kw_498 : (Jvm.Cond.methodLink "AbnfChart" (79 : Nat) ({ cls := "AbnfChart$Grammar", name := "ruleTotal", desc := "()I" } : Jvm.MethodName)) ∈ lw_tbl := tm (i := 498) (by decide +kernel)
theorem kw_499 : (Jvm.Cond.instanceMethod ({ cls := "AbnfChart$Grammar", name := "ruleTotal", desc := "()I" } : Jvm.MethodName)) ∈ lw_tbl := tm (i := 499) (by decide +kernel)
theorem kw_500 : (Jvm.Cond.selects "AbnfChart$Grammar" ({ cls := "AbnfChart$Grammar", name := "ruleTotal", desc := "()I" } : Jvm.MethodName) ({ cls := "AbnfChart$Grammar", name := "ruleTotal", desc := "()I" } : Jvm.MethodName)) ∈ lw_tbl := tm (i := 500) (by decide +kernel)
theorem kw_501 : (Jvm.Cond.code ({ cls := "AbnfChart$Grammar", name := "ruleTotal", desc := "()I" } : Jvm.MethodName) prog_5_method_4_code (1 : Nat) (Option.some Jvm.ClassFile.FieldType.int)) ∈ lw_tbl := tm (i := 501) (by decide +kernel)
theorem kw_502 : (Jvm.Cond.methodLink "AbnfChartLaw" (71 : Nat) ({ cls := "AbnfChartLaw", name := "rule", desc := "(LAbnfChart;J[J)I" } : Jvm.MethodName)) ∈ lw_tbl := tm (i := 502) (by decide +kernel)
theorem kw_503 : (Jvm.Cond.static ({ cls := "AbnfChartLaw", name := "rule", desc := "(LAbnfChart;J[J)I" } : Jvm.MethodName)) ∈ lw_tbl := tm (i := 503) (by decide +kernel)
theorem kw_504 : (Jvm.Cond.codeWith ({ cls := "AbnfChartLaw", name := "rule", desc := "(LAbnfChart;J[J)I" } : Jvm.MethodName) method_5_code (5 : Nat) (Option.some Jvm.ClassFile.FieldType.int) [((0 : Nat), (9 : Nat), (12 : Nat), (25 : Nat))]) ∈ lw_tbl := tm (i := 504) (by decide +kernel)
theorem kw_505 : (Jvm.Cond.classLink "AbnfChartLaw" (25 : Nat) "java/util/NoSuchElementException") ∈ lw_tbl := tm (i := 505) (by decide +kernel)
theorem kw_506 : (Jvm.Cond.methodLink "AbnfChartLaw" (21 : Nat) ({ cls := "AbnfChart", name := "rule", desc := "(J)I" } : Jvm.MethodName)) ∈ lw_tbl := tm (i := 506) (by decide +kernel)
theorem kw_507 : (Jvm.Cond.instanceMethod ({ cls := "AbnfChart", name := "rule", desc := "(J)I" } : Jvm.MethodName)) ∈ lw_tbl := tm (i := 507) (by decide +kernel)
theorem kw_508 : (Jvm.Cond.selects "AbnfChart" ({ cls := "AbnfChart", name := "rule", desc := "(J)I" } : Jvm.MethodName) ({ cls := "AbnfChart", name := "rule", desc := "(J)I" } : Jvm.MethodName)) ∈ lw_tbl := tm (i := 508) (by decide +kernel)
theorem kw_509 : (Jvm.Cond.code ({ cls := "AbnfChart", name := "rule", desc := "(J)I" } : Jvm.MethodName) prog_1_method_6_code (4 : Nat) (Option.some Jvm.ClassFile.FieldType.int)) ∈ lw_tbl := tm (i := 509) (by decide +kernel)
theorem kw_510 : (Jvm.Cond.methodLink "AbnfChart" (85 : Nat) ({ cls := "AbnfChart$Grammar", name := "find", desc := "(J)I" } : Jvm.MethodName)) ∈ lw_tbl := tm (i := 510) (by decide +kernel)
theorem kw_511 : (Jvm.Cond.methodLink "AbnfChart" (89 : Nat) ({ cls := "AbnfChart", name := "checkRule", desc := "(I)V" } : Jvm.MethodName)) ∈ lw_tbl := tm (i := 511) (by decide +kernel)
theorem kw_513 : (Jvm.Cond.instanceMethod ({ cls := "AbnfChart", name := "checkRule", desc := "(I)V" } : Jvm.MethodName)) ∈ lw_tbl := tm (i := 513) (by decide +kernel)
theorem kw_514 : (Jvm.Cond.code ({ cls := "AbnfChart", name := "checkRule", desc := "(I)V" } : Jvm.MethodName) prog_1_method_13_code (2 : Nat) (Option.none : Option Jvm.ClassFile.FieldType)) ∈ lw_tbl := tm (i := 514) (by decide +kernel)
theorem kw_515 : (Jvm.Cond.classLink "AbnfChart" (118 : Nat) "java/util/NoSuchElementException") ∈ lw_tbl := tm (i := 515) (by decide +kernel)
theorem kw_516 : (Jvm.Cond.instantiable "java/util/NoSuchElementException" (6 : Nat)) ∈ lw_tbl := tm (i := 516) (by decide +kernel)
theorem kw_517 : (Jvm.Cond.castable "java/util/NoSuchElementException" "java/util/NoSuchElementException") ∈ lw_tbl := tm (i := 517) (by decide +kernel)
theorem kw_518 : (Jvm.Cond.selects "java/util/NoSuchElementException" ({ cls := "java/lang/Throwable", name := "fillInStackTrace", desc := "(I)Ljava/lang/Throwable;" } : Jvm.MethodName) ({ cls := "java/lang/Throwable", name := "fillInStackTrace", desc := "(I)Ljava/lang/Throwable;" } : Jvm.MethodName)) ∈ lw_tbl := tm (i := 518) (by decide +kernel)
theorem kw_524 : (Jvm.Cond.methodLink "AbnfChart" (120 : Nat) ({ cls := "java/util/NoSuchElementException", name := "<init>", desc := "()V" } : Jvm.MethodName)) ∈ lw_tbl := tm (i := 524) (by decide +kernel)
theorem kw_525 : (Jvm.Cond.instanceMethod ({ cls := "java/util/NoSuchElementException", name := "<init>", desc := "()V" } : Jvm.MethodName)) ∈ lw_tbl := tm (i := 525) (by decide +kernel)
theorem kw_526 : (Jvm.Cond.code ({ cls := "java/util/NoSuchElementException", name := "<init>", desc := "()V" } : Jvm.MethodName) prog_17_method_1_code (1 : Nat) (Option.none : Option Jvm.ClassFile.FieldType)) ∈ lw_tbl := tm (i := 526) (by decide +kernel)
theorem kw_527 : (Jvm.Cond.methodLink "java/util/NoSuchElementException" (1 : Nat) ({ cls := "java/lang/RuntimeException", name := "<init>", desc := "()V" } : Jvm.MethodName)) ∈ lw_tbl := tm (i := 527) (by decide +kernel)
theorem kw_530 : (Jvm.Cond.methodLink "AbnfChartLaw" (75 : Nat) ({ cls := "AbnfChartLaw", name := "give", desc := "(LAbnfChart;JI[J)I" } : Jvm.MethodName)) ∈ lw_tbl := tm (i := 530) (by decide +kernel)
theorem kw_531 : (Jvm.Cond.static ({ cls := "AbnfChartLaw", name := "give", desc := "(LAbnfChart;JI[J)I" } : Jvm.MethodName)) ∈ lw_tbl := tm (i := 531) (by decide +kernel)
theorem kw_532 : (Jvm.Cond.codeWith ({ cls := "AbnfChartLaw", name := "give", desc := "(LAbnfChart;JI[J)I" } : Jvm.MethodName) method_6_code (6 : Nat) (Option.some Jvm.ClassFile.FieldType.int) [((0 : Nat), (11 : Nat), (14 : Nat), (13 : Nat)), ((0 : Nat), (11 : Nat), (18 : Nat), (15 : Nat))]) ∈ lw_tbl := tm (i := 532) (by decide +kernel)
theorem kw_533 : (Jvm.Cond.methodLink "AbnfChartLaw" (27 : Nat) ({ cls := "AbnfChart", name := "give", desc := "(JI)I" } : Jvm.MethodName)) ∈ lw_tbl := tm (i := 533) (by decide +kernel)
theorem kw_534 : (Jvm.Cond.instanceMethod ({ cls := "AbnfChart", name := "give", desc := "(JI)I" } : Jvm.MethodName)) ∈ lw_tbl := tm (i := 534) (by decide +kernel)
theorem kw_535 : (Jvm.Cond.selects "AbnfChart" ({ cls := "AbnfChart", name := "give", desc := "(JI)I" } : Jvm.MethodName) ({ cls := "AbnfChart", name := "give", desc := "(JI)I" } : Jvm.MethodName)) ∈ lw_tbl := tm (i := 535) (by decide +kernel)
theorem kw_536 : (Jvm.Cond.code ({ cls := "AbnfChart", name := "give", desc := "(JI)I" } : Jvm.MethodName) prog_1_method_7_code (4 : Nat) (Option.some Jvm.ClassFile.FieldType.int)) ∈ lw_tbl := tm (i := 536) (by decide +kernel)
theorem kw_537 : (Jvm.Cond.methodLink "AbnfChart" (92 : Nat) ({ cls := "AbnfChart", name := "areInputCodes", desc := "(JI)Z" } : Jvm.MethodName)) ∈ lw_tbl := tm (i := 537) (by decide +kernel)
theorem kw_538 : (Jvm.Cond.static ({ cls := "AbnfChart", name := "areInputCodes", desc := "(JI)Z" } : Jvm.MethodName)) ∈ lw_tbl := tm (i := 538) (by decide +kernel)
theorem kw_539 : (Jvm.Cond.code ({ cls := "AbnfChart", name := "areInputCodes", desc := "(JI)Z" } : Jvm.MethodName) prog_1_method_17_code (4 : Nat) (Option.some Jvm.ClassFile.FieldType.boolean)) ∈ lw_tbl := tm (i := 539) (by decide +kernel)
theorem kw_540 : (Jvm.Cond.methodLink "AbnfChartLaw" (82 : Nat) ({ cls := "AbnfChartLaw", name := "matches", desc := "(LAbnfChart;III[J)I" } : Jvm.MethodName)) ∈ lw_tbl := tm (i := 540) (by decide +kernel)
theorem kw_541 : (Jvm.Cond.static ({ cls := "AbnfChartLaw", name := "matches", desc := "(LAbnfChart;III[J)I" } : Jvm.MethodName)) ∈ lw_tbl := tm (i := 541) (by decide +kernel)
theorem kw_542 : (Jvm.Cond.codeWith ({ cls := "AbnfChartLaw", name := "matches", desc := "(LAbnfChart;III[J)I" } : Jvm.MethodName) method_7_code (6 : Nat) (Option.some Jvm.ClassFile.FieldType.int) [((0 : Nat), (19 : Nat), (22 : Nat), (25 : Nat)), ((0 : Nat), (19 : Nat), (26 : Nat), (34 : Nat))]) ∈ lw_tbl := tm (i := 542) (by decide +kernel)
theorem kw_543 : (Jvm.Cond.classLink "AbnfChartLaw" (34 : Nat) "java/lang/IndexOutOfBoundsException") ∈ lw_tbl := tm (i := 543) (by decide +kernel)
theorem kw_544 : (Jvm.Cond.methodLink "AbnfChartLaw" (30 : Nat) ({ cls := "AbnfChart", name := "matches", desc := "(III)Z" } : Jvm.MethodName)) ∈ lw_tbl := tm (i := 544) (by decide +kernel)
theorem kw_545 : (Jvm.Cond.instanceMethod ({ cls := "AbnfChart", name := "matches", desc := "(III)Z" } : Jvm.MethodName)) ∈ lw_tbl := tm (i := 545) (by decide +kernel)
theorem kw_546 : (Jvm.Cond.selects "AbnfChart" ({ cls := "AbnfChart", name := "matches", desc := "(III)Z" } : Jvm.MethodName) ({ cls := "AbnfChart", name := "matches", desc := "(III)Z" } : Jvm.MethodName)) ∈ lw_tbl := tm (i := 546) (by decide +kernel)
theorem kw_547 : (Jvm.Cond.code ({ cls := "AbnfChart", name := "matches", desc := "(III)Z" } : Jvm.MethodName) prog_1_method_9_code (4 : Nat) (Option.some Jvm.ClassFile.FieldType.boolean)) ∈ lw_tbl := tm (i := 547) (by decide +kernel)
theorem kw_548 : (Jvm.Cond.methodLink "AbnfChart" (95 : Nat) ({ cls := "AbnfChart", name := "checkPiece", desc := "(II)V" } : Jvm.MethodName)) ∈ lw_tbl := tm (i := 548) (by decide +kernel)
theorem kw_550 : (Jvm.Cond.instanceMethod ({ cls := "AbnfChart", name := "checkPiece", desc := "(II)V" } : Jvm.MethodName)) ∈ lw_tbl := tm (i := 550) (by decide +kernel)
theorem kw_551 : (Jvm.Cond.code ({ cls := "AbnfChart", name := "checkPiece", desc := "(II)V" } : Jvm.MethodName) prog_1_method_14_code (3 : Nat) (Option.none : Option Jvm.ClassFile.FieldType)) ∈ lw_tbl := tm (i := 551) (by decide +kernel)
theorem kw_552 : (Jvm.Cond.classLink "AbnfChart" (115 : Nat) "java/lang/IndexOutOfBoundsException") ∈ lw_tbl := tm (i := 552) (by decide +kernel)
theorem kw_553 : (Jvm.Cond.instantiable "java/lang/IndexOutOfBoundsException" (6 : Nat)) ∈ lw_tbl := tm (i := 553) (by decide +kernel)
theorem kw_554 : (Jvm.Cond.castable "java/lang/IndexOutOfBoundsException" "java/lang/IndexOutOfBoundsException") ∈ lw_tbl := tm (i := 554) (by decide +kernel)
theorem kw_555 : (Jvm.Cond.selects "java/lang/IndexOutOfBoundsException" ({ cls := "java/lang/Throwable", name := "fillInStackTrace", desc := "(I)Ljava/lang/Throwable;" } : Jvm.MethodName) ({ cls := "java/lang/Throwable", name := "fillInStackTrace", desc := "(I)Ljava/lang/Throwable;" } : Jvm.MethodName)) ∈ lw_tbl := tm (i := 555) (by decide +kernel)
theorem kw_561 : (Jvm.Cond.methodLink "AbnfChart" (117 : Nat) ({ cls := "java/lang/IndexOutOfBoundsException", name := "<init>", desc := "()V" } : Jvm.MethodName)) ∈ lw_tbl := tm (i := 561) (by decide +kernel)
theorem kw_562 : (Jvm.Cond.instanceMethod ({ cls := "java/lang/IndexOutOfBoundsException", name := "<init>", desc := "()V" } : Jvm.MethodName)) ∈ lw_tbl := tm (i := 562) (by decide +kernel)
theorem kw_563 : (Jvm.Cond.code ({ cls := "java/lang/IndexOutOfBoundsException", name := "<init>", desc := "()V" } : Jvm.MethodName) prog_13_method_1_code (1 : Nat) (Option.none : Option Jvm.ClassFile.FieldType)) ∈ lw_tbl := tm (i := 563) (by decide +kernel)
theorem kw_564 : (Jvm.Cond.methodLink "java/lang/IndexOutOfBoundsException" (1 : Nat) ({ cls := "java/lang/RuntimeException", name := "<init>", desc := "()V" } : Jvm.MethodName)) ∈ lw_tbl := tm (i := 564) (by decide +kernel)
theorem kw_567 : (Jvm.Cond.methodLink "AbnfChart" (99 : Nat) ({ cls := "AbnfChart$Chart", name := "endsOf", desc := "(II)I" } : Jvm.MethodName)) ∈ lw_tbl := tm (i := 567) (by decide +kernel)
theorem kw_568 : (Jvm.Cond.instanceMethod ({ cls := "AbnfChart$Chart", name := "endsOf", desc := "(II)I" } : Jvm.MethodName)) ∈ lw_tbl := tm (i := 568) (by decide +kernel)
theorem kw_569 : (Jvm.Cond.selects "AbnfChart$Chart" ({ cls := "AbnfChart$Chart", name := "endsOf", desc := "(II)I" } : Jvm.MethodName) ({ cls := "AbnfChart$Chart", name := "endsOf", desc := "(II)I" } : Jvm.MethodName)) ∈ lw_tbl := tm (i := 569) (by decide +kernel)
theorem kw_570 : (Jvm.Cond.code ({ cls := "AbnfChart$Chart", name := "endsOf", desc := "(II)I" } : Jvm.MethodName) prog_3_method_3_code (3 : Nat) (Option.some Jvm.ClassFile.FieldType.int)) ∈ lw_tbl := tm (i := 570) (by decide +kernel)
theorem kw_571 : (Jvm.Cond.methodLink "AbnfChart$Chart" (23 : Nat) ({ cls := "AbnfChart$Chart", name := "fill", desc := "()V" } : Jvm.MethodName)) ∈ lw_tbl := tm (i := 571) (by decide +kernel)
theorem kw_573 : (Jvm.Cond.instanceMethod ({ cls := "AbnfChart$Chart", name := "fill", desc := "()V" } : Jvm.MethodName)) ∈ lw_tbl := tm (i := 573) (by decide +kernel)
theorem kw_574 : (Jvm.Cond.code ({ cls := "AbnfChart$Chart", name := "fill", desc := "()V" } : Jvm.MethodName) prog_3_method_4_code (4 : Nat) (Option.none : Option Jvm.ClassFile.FieldType)) ∈ lw_tbl := tm (i := 574) (by decide +kernel)
theorem kw_575 : (Jvm.Cond.methodLink "AbnfChart$Chart" (55 : Nat) ({ cls := "AbnfChart$Chart", name := "endsOfCharacters", desc := "(LAbnfChart$Element;I)I" } : Jvm.MethodName)) ∈ lw_tbl := tm (i := 575) (by decide +kernel)
theorem kw_577 : (Jvm.Cond.instanceMethod ({ cls := "AbnfChart$Chart", name := "endsOfCharacters", desc := "(LAbnfChart$Element;I)I" } : Jvm.MethodName)) ∈ lw_tbl := tm (i := 577) (by decide +kernel)
theorem kw_578 : (Jvm.Cond.code ({ cls := "AbnfChart$Chart", name := "endsOfCharacters", desc := "(LAbnfChart$Element;I)I" } : Jvm.MethodName) prog_3_method_6_code (4 : Nat) (Option.some Jvm.ClassFile.FieldType.int)) ∈ lw_tbl := tm (i := 578) (by decide +kernel)
theorem kw_579 : (Jvm.Cond.methodLink "AbnfChart$Chart" (69 : Nat) ({ cls := "AbnfChart$Chart", name := "isStringAt", desc := "(LAbnfChart$Element;I)Z" } : Jvm.MethodName)) ∈ lw_tbl := tm (i := 579) (by decide +kernel)
theorem kw_581 : (Jvm.Cond.instanceMethod ({ cls := "AbnfChart$Chart", name := "isStringAt", desc := "(LAbnfChart$Element;I)Z" } : Jvm.MethodName)) ∈ lw_tbl := tm (i := 581) (by decide +kernel)
theorem kw_582 : (Jvm.Cond.code ({ cls := "AbnfChart$Chart", name := "isStringAt", desc := "(LAbnfChart$Element;I)Z" } : Jvm.MethodName) prog_3_method_7_code (6 : Nat) (Option.some Jvm.ClassFile.FieldType.boolean)) ∈ lw_tbl := tm (i := 582) (by decide +kernel)
theorem kw_583 : (Jvm.Cond.methodLink "AbnfChart$Chart" (79 : Nat) ({ cls := "AbnfChart$Characters", name := "codeAt", desc := "(I)I" } : Jvm.MethodName)) ∈ lw_tbl := tm (i := 583) (by decide +kernel)
theorem kw_584 : (Jvm.Cond.methodLinkNest "AbnfChart$Chart" (86 : Nat) ({ cls := "AbnfChart", name := "smallOf", desc := "(I)I" } : Jvm.MethodName) "AbnfChart") ∈ lw_tbl := tm (i := 584) (by decide +kernel)
theorem kw_585 : (Jvm.Cond.methodLink "AbnfChart$Chart" (59 : Nat) ({ cls := "AbnfChart$Chart", name := "findMore", desc := "(I)Z" } : Jvm.MethodName)) ∈ lw_tbl := tm (i := 585) (by decide +kernel)
theorem kw_587 : (Jvm.Cond.instanceMethod ({ cls := "AbnfChart$Chart", name := "findMore", desc := "(I)Z" } : Jvm.MethodName)) ∈ lw_tbl := tm (i := 587) (by decide +kernel)
theorem kw_588 : (Jvm.Cond.code ({ cls := "AbnfChart$Chart", name := "findMore", desc := "(I)Z" } : Jvm.MethodName) prog_3_method_5_code (6 : Nat) (Option.some Jvm.ClassFile.FieldType.boolean)) ∈ lw_tbl := tm (i := 588) (by decide +kernel)
theorem kw_589 : (Jvm.Cond.methodLink "AbnfChart$Chart" (63 : Nat) ({ cls := "AbnfChart$Chart", name := "endsOfParts", desc := "(LAbnfChart$Element;I)I" } : Jvm.MethodName)) ∈ lw_tbl := tm (i := 589) (by decide +kernel)
theorem kw_591 : (Jvm.Cond.instanceMethod ({ cls := "AbnfChart$Chart", name := "endsOfParts", desc := "(LAbnfChart$Element;I)I" } : Jvm.MethodName)) ∈ lw_tbl := tm (i := 591) (by decide +kernel)
theorem kw_592 : (Jvm.Cond.code ({ cls := "AbnfChart$Chart", name := "endsOfParts", desc := "(LAbnfChart$Element;I)I" } : Jvm.MethodName) prog_3_method_8_code (3 : Nat) (Option.some Jvm.ClassFile.FieldType.int)) ∈ lw_tbl := tm (i := 592) (by decide +kernel)
theorem kw_593 : (Jvm.Cond.methodLink "AbnfChart$Chart" (93 : Nat) ({ cls := "AbnfChart$Chart", name := "endsOfAny", desc := "(LAbnfChart$Element;I)I" } : Jvm.MethodName)) ∈ lw_tbl := tm (i := 593) (by decide +kernel)
theorem kw_595 : (Jvm.Cond.instanceMethod ({ cls := "AbnfChart$Chart", name := "endsOfAny", desc := "(LAbnfChart$Element;I)I" } : Jvm.MethodName)) ∈ lw_tbl := tm (i := 595) (by decide +kernel)
theorem kw_596 : (Jvm.Cond.code ({ cls := "AbnfChart$Chart", name := "endsOfAny", desc := "(LAbnfChart$Element;I)I" } : Jvm.MethodName) prog_3_method_10_code (5 : Nat) (Option.some Jvm.ClassFile.FieldType.int)) ∈ lw_tbl := tm (i := 596) (by decide +kernel)
theorem kw_597 : (Jvm.Cond.methodLink "AbnfChart$Chart" (96 : Nat) ({ cls := "AbnfChart$Chart", name := "endsOfRow", desc := "(LAbnfChart$Element;I)I" } : Jvm.MethodName)) ∈ lw_tbl := tm (i := 597) (by decide +kernel)
theorem kw_599 : (Jvm.Cond.instanceMethod ({ cls := "AbnfChart$Chart", name := "endsOfRow", desc := "(LAbnfChart$Element;I)I" } : Jvm.MethodName)) ∈ lw_tbl := tm (i := 599) (by decide +kernel)
theorem kw_600 : (Jvm.Cond.code ({ cls := "AbnfChart$Chart", name := "endsOfRow", desc := "(LAbnfChart$Element;I)I" } : Jvm.MethodName) prog_3_method_11_code (5 : Nat) (Option.some Jvm.ClassFile.FieldType.int)) ∈ lw_tbl := tm (i := 600) (by decide +kernel)
theorem kw_601 : (Jvm.Cond.methodLink "AbnfChart$Chart" (102 : Nat) ({ cls := "AbnfChart$Chart", name := "goOn", desc := "(ILAbnfChart$Element;I)I" } : Jvm.MethodName)) ∈ lw_tbl := tm (i := 601) (by decide +kernel)
theorem kw_603 : (Jvm.Cond.instanceMethod ({ cls := "AbnfChart$Chart", name := "goOn", desc := "(ILAbnfChart$Element;I)I" } : Jvm.MethodName)) ∈ lw_tbl := tm (i := 603) (by decide +kernel)
theorem kw_604 : (Jvm.Cond.code ({ cls := "AbnfChart$Chart", name := "goOn", desc := "(ILAbnfChart$Element;I)I" } : Jvm.MethodName) prog_3_method_13_code (6 : Nat) (Option.some Jvm.ClassFile.FieldType.int)) ∈ lw_tbl := tm (i := 604) (by decide +kernel)
theorem kw_605 : (Jvm.Cond.methodLink "AbnfChart$Chart" (99 : Nat) ({ cls := "AbnfChart$Chart", name := "endsOfRepetition", desc := "(LAbnfChart$Element;I)I" } : Jvm.MethodName)) ∈ lw_tbl := tm (i := 605) (by decide +kernel)
theorem kw_607 : (Jvm.Cond.instanceMethod ({ cls := "AbnfChart$Chart", name := "endsOfRepetition", desc := "(LAbnfChart$Element;I)I" } : Jvm.MethodName)) ∈ lw_tbl := tm (i := 607) (by decide +kernel)
theorem kw_608 : (Jvm.Cond.code ({ cls := "AbnfChart$Chart", name := "endsOfRepetition", desc := "(LAbnfChart$Element;I)I" } : Jvm.MethodName) prog_3_method_12_code (8 : Nat) (Option.some Jvm.ClassFile.FieldType.int)) ∈ lw_tbl := tm (i := 608) (by decide +kernel)
theorem kw_609 : (Jvm.Cond.methodLink "AbnfChart$Chart" (32 : Nat) ({ cls := "AbnfChart$Chart", name := "endsOfRule", desc := "(LAbnfChart$Rule;I)I" } : Jvm.MethodName)) ∈ lw_tbl := tm (i := 609) (by decide +kernel)
theorem kw_611 : (Jvm.Cond.instanceMethod ({ cls := "AbnfChart$Chart", name := "endsOfRule", desc := "(LAbnfChart$Rule;I)I" } : Jvm.MethodName)) ∈ lw_tbl := tm (i := 611) (by decide +kernel)
theorem kw_612 : (Jvm.Cond.code ({ cls := "AbnfChart$Chart", name := "endsOfRule", desc := "(LAbnfChart$Rule;I)I" } : Jvm.MethodName) prog_3_method_9_code (3 : Nat) (Option.some Jvm.ClassFile.FieldType.int)) ∈ lw_tbl := tm (i := 612) (by decide +kernel)
theorem kw_613 : (Jvm.Cond.methodLink "AbnfChartLaw" (86 : Nat) ({ cls := "AbnfChartLaw", name := "longest", desc := "(LAbnfChart;II[J)I" } : Jvm.MethodName)) ∈ lw_tbl := tm (i := 613) (by decide +kernel)
theorem kw_614 : (Jvm.Cond.static ({ cls := "AbnfChartLaw", name := "longest", desc := "(LAbnfChart;II[J)I" } : Jvm.MethodName)) ∈ lw_tbl := tm (i := 614) (by decide +kernel)
theorem kw_615 : (Jvm.Cond.codeWith ({ cls := "AbnfChartLaw", name := "longest", desc := "(LAbnfChart;II[J)I" } : Jvm.MethodName) method_8_code (5 : Nat) (Option.some Jvm.ClassFile.FieldType.int) [((0 : Nat), (10 : Nat), (13 : Nat), (25 : Nat)), ((0 : Nat), (10 : Nat), (17 : Nat), (34 : Nat))]) ∈ lw_tbl := tm (i := 615) (by decide +kernel)
theorem kw_616 : (Jvm.Cond.methodLink "AbnfChartLaw" (36 : Nat) ({ cls := "AbnfChart", name := "longest", desc := "(II)I" } : Jvm.MethodName)) ∈ lw_tbl := tm (i := 616) (by decide +kernel)
theorem kw_617 : (Jvm.Cond.instanceMethod ({ cls := "AbnfChart", name := "longest", desc := "(II)I" } : Jvm.MethodName)) ∈ lw_tbl := tm (i := 617) (by decide +kernel)
theorem kw_618 : (Jvm.Cond.selects "AbnfChart" ({ cls := "AbnfChart", name := "longest", desc := "(II)I" } : Jvm.MethodName) ({ cls := "AbnfChart", name := "longest", desc := "(II)I" } : Jvm.MethodName)) ∈ lw_tbl := tm (i := 618) (by decide +kernel)
theorem kw_619 : (Jvm.Cond.code ({ cls := "AbnfChart", name := "longest", desc := "(II)I" } : Jvm.MethodName) prog_1_method_10_code (5 : Nat) (Option.some Jvm.ClassFile.FieldType.int)) ∈ lw_tbl := tm (i := 619) (by decide +kernel)
theorem kw_620 : (Jvm.Cond.methodLink "AbnfChartLaw" (90 : Nat) ({ cls := "AbnfChartLaw", name := "pieces", desc := "(LAbnfChart;I[J)I" } : Jvm.MethodName)) ∈ lw_tbl := tm (i := 620) (by decide +kernel)
theorem kw_621 : (Jvm.Cond.static ({ cls := "AbnfChartLaw", name := "pieces", desc := "(LAbnfChart;I[J)I" } : Jvm.MethodName)) ∈ lw_tbl := tm (i := 621) (by decide +kernel)
theorem kw_622 : (Jvm.Cond.codeWith ({ cls := "AbnfChartLaw", name := "pieces", desc := "(LAbnfChart;I[J)I" } : Jvm.MethodName) method_9_code (4 : Nat) (Option.some Jvm.ClassFile.FieldType.int) [((0 : Nat), (9 : Nat), (12 : Nat), (25 : Nat))]) ∈ lw_tbl := tm (i := 622) (by decide +kernel)
theorem kw_623 : (Jvm.Cond.methodLink "AbnfChartLaw" (40 : Nat) ({ cls := "AbnfChart", name := "pieces", desc := "(I)I" } : Jvm.MethodName)) ∈ lw_tbl := tm (i := 623) (by decide +kernel)
theorem kw_624 : (Jvm.Cond.instanceMethod ({ cls := "AbnfChart", name := "pieces", desc := "(I)I" } : Jvm.MethodName)) ∈ lw_tbl := tm (i := 624) (by decide +kernel)
theorem kw_625 : (Jvm.Cond.selects "AbnfChart" ({ cls := "AbnfChart", name := "pieces", desc := "(I)I" } : Jvm.MethodName) ({ cls := "AbnfChart", name := "pieces", desc := "(I)I" } : Jvm.MethodName)) ∈ lw_tbl := tm (i := 625) (by decide +kernel)
theorem kw_626 : (Jvm.Cond.code ({ cls := "AbnfChart", name := "pieces", desc := "(I)I" } : Jvm.MethodName) prog_1_method_11_code (4 : Nat) (Option.some Jvm.ClassFile.FieldType.int)) ∈ lw_tbl := tm (i := 626) (by decide +kernel)
theorem kw_627 : (Jvm.Cond.methodLink "AbnfChart" (103 : Nat) ({ cls := "java/lang/Integer", name := "bitCount", desc := "(I)I" } : Jvm.MethodName)) ∈ lw_tbl := tm (i := 627) (by decide +kernel)
theorem kw_628 : (Jvm.Cond.static ({ cls := "java/lang/Integer", name := "bitCount", desc := "(I)I" } : Jvm.MethodName)) ∈ lw_tbl := tm (i := 628) (by decide +kernel)
theorem kw_629 : (Jvm.Cond.code ({ cls := "java/lang/Integer", name := "bitCount", desc := "(I)I" } : Jvm.MethodName) prog_14_method_49_code (1 : Nat) (Option.some Jvm.ClassFile.FieldType.int)) ∈ lw_tbl := tm (i := 629) (by decide +kernel)
theorem kw_630 : (Jvm.Cond.constant "java/lang/Integer" (265 : Nat) (1431655765 : Int32)) ∈ lw_tbl := tm (i := 630) (by decide +kernel)
theorem kw_631 : (Jvm.Cond.constant "java/lang/Integer" (266 : Nat) (858993459 : Int32)) ∈ lw_tbl := tm (i := 631) (by decide +kernel)
theorem kw_632 : (Jvm.Cond.constant "java/lang/Integer" (267 : Nat) (252645135 : Int32)) ∈ lw_tbl := tm (i := 632) (by decide +kernel)
theorem kw_633 : (Jvm.Cond.methodLink "AbnfChartLaw" (94 : Nat) ({ cls := "AbnfChartLaw", name := "count", desc := "(LAbnfChart;I[J)I" } : Jvm.MethodName)) ∈ lw_tbl := tm (i := 633) (by decide +kernel)
theorem kw_634 : (Jvm.Cond.static ({ cls := "AbnfChartLaw", name := "count", desc := "(LAbnfChart;I[J)I" } : Jvm.MethodName)) ∈ lw_tbl := tm (i := 634) (by decide +kernel)
theorem kw_635 : (Jvm.Cond.codeWith ({ cls := "AbnfChartLaw", name := "count", desc := "(LAbnfChart;I[J)I" } : Jvm.MethodName) method_10_code (4 : Nat) (Option.some Jvm.ClassFile.FieldType.int) [((0 : Nat), (9 : Nat), (12 : Nat), (34 : Nat))]) ∈ lw_tbl := tm (i := 635) (by decide +kernel)
theorem kw_636 : (Jvm.Cond.methodLink "AbnfChartLaw" (44 : Nat) ({ cls := "AbnfChart", name := "count", desc := "(I)I" } : Jvm.MethodName)) ∈ lw_tbl := tm (i := 636) (by decide +kernel)
theorem kw_637 : (Jvm.Cond.instanceMethod ({ cls := "AbnfChart", name := "count", desc := "(I)I" } : Jvm.MethodName)) ∈ lw_tbl := tm (i := 637) (by decide +kernel)
theorem kw_638 : (Jvm.Cond.selects "AbnfChart" ({ cls := "AbnfChart", name := "count", desc := "(I)I" } : Jvm.MethodName) ({ cls := "AbnfChart", name := "count", desc := "(I)I" } : Jvm.MethodName)) ∈ lw_tbl := tm (i := 638) (by decide +kernel)
theorem kw_639 : (Jvm.Cond.code ({ cls := "AbnfChart", name := "count", desc := "(I)I" } : Jvm.MethodName) prog_1_method_12_code (2 : Nat) (Option.some Jvm.ClassFile.FieldType.int)) ∈ lw_tbl := tm (i := 639) (by decide +kernel)
theorem kw_640 : (Jvm.Cond.methodLink "AbnfChart" (109 : Nat) ({ cls := "AbnfChart$Grammar", name := "elementTotal", desc := "()I" } : Jvm.MethodName)) ∈ lw_tbl := tm (i := 640) (by decide +kernel)
theorem kw_641 : (Jvm.Cond.instanceMethod ({ cls := "AbnfChart$Grammar", name := "elementTotal", desc := "()I" } : Jvm.MethodName)) ∈ lw_tbl := tm (i := 641) (by decide +kernel)
theorem kw_642 : (Jvm.Cond.selects "AbnfChart$Grammar" ({ cls := "AbnfChart$Grammar", name := "elementTotal", desc := "()I" } : Jvm.MethodName) ({ cls := "AbnfChart$Grammar", name := "elementTotal", desc := "()I" } : Jvm.MethodName)) ∈ lw_tbl := tm (i := 642) (by decide +kernel)
theorem kw_643 : (Jvm.Cond.code ({ cls := "AbnfChart$Grammar", name := "elementTotal", desc := "()I" } : Jvm.MethodName) prog_5_method_5_code (1 : Nat) (Option.some Jvm.ClassFile.FieldType.int)) ∈ lw_tbl := tm (i := 643) (by decide +kernel)
theorem kw_644 : (Jvm.Cond.methodLink "AbnfChart" (112 : Nat) ({ cls := "AbnfChart$Grammar", name := "toldTotal", desc := "()I" } : Jvm.MethodName)) ∈ lw_tbl := tm (i := 644) (by decide +kernel)
theorem kw_645 : (Jvm.Cond.instanceMethod ({ cls := "AbnfChart$Grammar", name := "toldTotal", desc := "()I" } : Jvm.MethodName)) ∈ lw_tbl := tm (i := 645) (by decide +kernel)
theorem kw_646 : (Jvm.Cond.selects "AbnfChart$Grammar" ({ cls := "AbnfChart$Grammar", name := "toldTotal", desc := "()I" } : Jvm.MethodName) ({ cls := "AbnfChart$Grammar", name := "toldTotal", desc := "()I" } : Jvm.MethodName)) ∈ lw_tbl := tm (i := 646) (by decide +kernel)
theorem kw_647 : (Jvm.Cond.code ({ cls := "AbnfChart$Grammar", name := "toldTotal", desc := "()I" } : Jvm.MethodName) prog_5_method_6_code (3 : Nat) (Option.some Jvm.ClassFile.FieldType.int)) ∈ lw_tbl := tm (i := 647) (by decide +kernel)
theorem kw_648 : (Jvm.Cond.methodLink "AbnfChart$Grammar" (49 : Nat) ({ cls := "AbnfChart$Grammar", name := "ruleTotal", desc := "()I" } : Jvm.MethodName)) ∈ lw_tbl := tm (i := 648) (by decide +kernel)
theorem kw_649 : (Jvm.Cond.methodLink "AbnfChart$Grammar" (52 : Nat) ({ cls := "AbnfChart$Rule", name := "isTold", desc := "()Z" } : Jvm.MethodName)) ∈ lw_tbl := tm (i := 649) (by decide +kernel)
theorem kw_650 : (Jvm.Cond.classLink "AbnfChartLaw" (48 : Nat) "AbnfChartModel") ∈ lw_tbl := tm (i := 650) (by decide +kernel)
theorem kw_651 : (Jvm.Cond.instantiable "AbnfChartModel" (29 : Nat)) ∈ lw_tbl := tm (i := 651) (by decide +kernel)
theorem kw_652 : (Jvm.Cond.methodLink "AbnfChartLaw" (50 : Nat) ({ cls := "AbnfChartModel", name := "<init>", desc := "()V" } : Jvm.MethodName)) ∈ lw_tbl := tm (i := 652) (by decide +kernel)
theorem kw_653 : (Jvm.Cond.instanceMethod ({ cls := "AbnfChartModel", name := "<init>", desc := "()V" } : Jvm.MethodName)) ∈ lw_tbl := tm (i := 653) (by decide +kernel)
theorem kw_654 : (Jvm.Cond.code ({ cls := "AbnfChartModel", name := "<init>", desc := "()V" } : Jvm.MethodName) prog_9_method_1_code (1 : Nat) (Option.none : Option Jvm.ClassFile.FieldType)) ∈ lw_tbl := tm (i := 654) (by decide +kernel)
theorem kw_655 : (Jvm.Cond.methodLink "AbnfChartModel" (1 : Nat) ({ cls := "java/lang/Object", name := "<init>", desc := "()V" } : Jvm.MethodName)) ∈ lw_tbl := tm (i := 655) (by decide +kernel)
theorem kw_656 : (Jvm.Cond.fieldLink "AbnfChartModel" (71 : Nat) "AbnfChartModel" "thrown" "I") ∈ lw_tbl := tm (i := 656) (by decide +kernel)
theorem kw_657 : (Jvm.Cond.fieldLink "AbnfChartModel" (84 : Nat) "AbnfChartModel" "length" "I") ∈ lw_tbl := tm (i := 657) (by decide +kernel)
theorem kw_658 : (Jvm.Cond.fieldLink "AbnfChartModel" (7 : Nat) "AbnfChartModel" "text" "[I") ∈ lw_tbl := tm (i := 658) (by decide +kernel)
theorem kw_659 : (Jvm.Cond.fieldLink "AbnfChartModel" (13 : Nat) "AbnfChartModel" "place" "I") ∈ lw_tbl := tm (i := 659) (by decide +kernel)
theorem kw_660 : (Jvm.Cond.fieldLink "AbnfChartModel" (120 : Nat) "AbnfChartModel" "rules" "I") ∈ lw_tbl := tm (i := 660) (by decide +kernel)
theorem kw_661 : (Jvm.Cond.fieldLink "AbnfChartModel" (17 : Nat) "AbnfChartModel" "names" "[J") ∈ lw_tbl := tm (i := 661) (by decide +kernel)
theorem kw_662 : (Jvm.Cond.fieldLink "AbnfChartModel" (21 : Nat) "AbnfChartModel" "tops" "[I") ∈ lw_tbl := tm (i := 662) (by decide +kernel)
theorem kw_663 : (Jvm.Cond.fieldLink "AbnfChartModel" (110 : Nat) "AbnfChartModel" "elements" "I") ∈ lw_tbl := tm (i := 663) (by decide +kernel)
theorem kw_664 : (Jvm.Cond.fieldLink "AbnfChartModel" (24 : Nat) "AbnfChartModel" "kind" "[I") ∈ lw_tbl := tm (i := 664) (by decide +kernel)
theorem kw_665 : (Jvm.Cond.fieldLink "AbnfChartModel" (27 : Nat) "AbnfChartModel" "one" "[I") ∈ lw_tbl := tm (i := 665) (by decide +kernel)
theorem kw_666 : (Jvm.Cond.fieldLink "AbnfChartModel" (30 : Nat) "AbnfChartModel" "two" "[I") ∈ lw_tbl := tm (i := 666) (by decide +kernel)
theorem kw_667 : (Jvm.Cond.fieldLink "AbnfChartModel" (33 : Nat) "AbnfChartModel" "exact" "[Z") ∈ lw_tbl := tm (i := 667) (by decide +kernel)
theorem kw_668 : (Jvm.Cond.fieldLink "AbnfChartModel" (37 : Nat) "AbnfChartModel" "first" "[I") ∈ lw_tbl := tm (i := 668) (by decide +kernel)
theorem kw_669 : (Jvm.Cond.fieldLink "AbnfChartModel" (40 : Nat) "AbnfChartModel" "next" "[I") ∈ lw_tbl := tm (i := 669) (by decide +kernel)
theorem kw_670 : (Jvm.Cond.fieldLink "AbnfChartModel" (165 : Nat) "AbnfChartModel" "used" "I") ∈ lw_tbl := tm (i := 670) (by decide +kernel)
theorem kw_671 : (Jvm.Cond.fieldLink "AbnfChartModel" (43 : Nat) "AbnfChartModel" "characters" "[I") ∈ lw_tbl := tm (i := 671) (by decide +kernel)
theorem kw_672 : (Jvm.Cond.fieldLink "AbnfChartModel" (87 : Nat) "AbnfChartModel" "at" "I") ∈ lw_tbl := tm (i := 672) (by decide +kernel)
theorem kw_673 : (Jvm.Cond.fieldLink "AbnfChartModel" (90 : Nat) "AbnfChartModel" "bad" "I") ∈ lw_tbl := tm (i := 673) (by decide +kernel)
theorem kw_674 : (Jvm.Cond.fieldLink "AbnfChartModel" (123 : Nat) "AbnfChartModel" "open" "I") ∈ lw_tbl := tm (i := 674) (by decide +kernel)
theorem kw_675 : (Jvm.Cond.fieldLink "AbnfChartModel" (46 : Nat) "AbnfChartModel" "sort" "[I") ∈ lw_tbl := tm (i := 675) (by decide +kernel)
theorem kw_676 : (Jvm.Cond.fieldLink "AbnfChartModel" (49 : Nat) "AbnfChartModel" "option" "[I") ∈ lw_tbl := tm (i := 676) (by decide +kernel)
theorem kw_677 : (Jvm.Cond.fieldLink "AbnfChartModel" (52 : Nat) "AbnfChartModel" "choice" "[I") ∈ lw_tbl := tm (i := 677) (by decide +kernel)
theorem kw_678 : (Jvm.Cond.fieldLink "AbnfChartModel" (55 : Nat) "AbnfChartModel" "sequence" "[I") ∈ lw_tbl := tm (i := 678) (by decide +kernel)
theorem kw_679 : (Jvm.Cond.fieldLink "AbnfChartModel" (58 : Nat) "AbnfChartModel" "repeat" "[I") ∈ lw_tbl := tm (i := 679) (by decide +kernel)
theorem kw_680 : (Jvm.Cond.fieldLink "AbnfChartModel" (185 : Nat) "AbnfChartModel" "given" "I") ∈ lw_tbl := tm (i := 680) (by decide +kernel)
theorem kw_681 : (Jvm.Cond.fieldLink "AbnfChartModel" (61 : Nat) "AbnfChartModel" "input" "[I") ∈ lw_tbl := tm (i := 681) (by decide +kernel)
theorem kw_682 : (Jvm.Cond.fieldLink "AbnfChartModel" (64 : Nat) "AbnfChartModel" "stale" "Z") ∈ lw_tbl := tm (i := 682) (by decide +kernel)
theorem kw_683 : (Jvm.Cond.fieldLink "AbnfChartModel" (68 : Nat) "AbnfChartModel" "ends" "[I") ∈ lw_tbl := tm (i := 683) (by decide +kernel)
theorem kw_684 : (Jvm.Cond.fieldLink "AbnfChartModel" (142 : Nat) "AbnfChartModel" "pending" "Z") ∈ lw_tbl := tm (i := 684) (by decide +kernel)
theorem kw_744 : (Jvm.Cond.arrayClass Jvm.ClassFile.FieldType.long) ∈ lw_tbl := tm (i := 744) (by decide +kernel)
theorem kw_745 : (Jvm.Cond.arrayClass Jvm.ClassFile.FieldType.boolean) ∈ lw_tbl := tm (i := 745) (by decide +kernel)
theorem kw_746 : (Jvm.Cond.methodLink "AbnfChartLaw" (58 : Nat) ({ cls := "AbnfChartModel", name := "write", desc := "(JI)I" } : Jvm.MethodName)) ∈ lw_tbl := tm (i := 746) (by decide +kernel)
theorem kw_747 : (Jvm.Cond.instanceMethod ({ cls := "AbnfChartModel", name := "write", desc := "(JI)I" } : Jvm.MethodName)) ∈ lw_tbl := tm (i := 747) (by decide +kernel)
theorem kw_748 : (Jvm.Cond.selects "AbnfChartModel" ({ cls := "AbnfChartModel", name := "write", desc := "(JI)I" } : Jvm.MethodName) ({ cls := "AbnfChartModel", name := "write", desc := "(JI)I" } : Jvm.MethodName)) ∈ lw_tbl := tm (i := 748) (by decide +kernel)
theorem kw_749 : (Jvm.Cond.code ({ cls := "AbnfChartModel", name := "write", desc := "(JI)I" } : Jvm.MethodName) prog_9_method_5_code (7 : Nat) (Option.some Jvm.ClassFile.FieldType.int)) ∈ lw_tbl := tm (i := 749) (by decide +kernel)
theorem kw_750 : (Jvm.Cond.methodLink "AbnfChartModel" (74 : Nat) ({ cls := "AbnfChartModel", name := "within", desc := "(III)Z" } : Jvm.MethodName)) ∈ lw_tbl := tm (i := 750) (by decide +kernel)
theorem kw_751 : (Jvm.Cond.static ({ cls := "AbnfChartModel", name := "within", desc := "(III)Z" } : Jvm.MethodName)) ∈ lw_tbl := tm (i := 751) (by decide +kernel)
theorem kw_752 : (Jvm.Cond.code ({ cls := "AbnfChartModel", name := "within", desc := "(III)Z" } : Jvm.MethodName) prog_9_method_4_code (3 : Nat) (Option.some Jvm.ClassFile.FieldType.boolean)) ∈ lw_tbl := tm (i := 752) (by decide +kernel)
theorem kw_753 : (Jvm.Cond.methodLink "AbnfChartModel" (78 : Nat) ({ cls := "AbnfChartModel", name := "fail", desc := "(I)I" } : Jvm.MethodName)) ∈ lw_tbl := tm (i := 753) (by decide +kernel)
theorem kw_755 : (Jvm.Cond.instanceMethod ({ cls := "AbnfChartModel", name := "fail", desc := "(I)I" } : Jvm.MethodName)) ∈ lw_tbl := tm (i := 755) (by decide +kernel)
theorem kw_756 : (Jvm.Cond.code ({ cls := "AbnfChartModel", name := "fail", desc := "(I)I" } : Jvm.MethodName) prog_9_method_3_code (2 : Nat) (Option.some Jvm.ClassFile.FieldType.int)) ∈ lw_tbl := tm (i := 756) (by decide +kernel)
theorem kw_757 : (Jvm.Cond.constantLong "AbnfChartModel" (82 : Nat) (255 : Int64)) ∈ lw_tbl := tm (i := 757) (by decide +kernel)
theorem kw_758 : (Jvm.Cond.methodLink "AbnfChartLaw" (62 : Nat) ({ cls := "AbnfChartModel", name := "erase", desc := "()I" } : Jvm.MethodName)) ∈ lw_tbl := tm (i := 758) (by decide +kernel)
theorem kw_759 : (Jvm.Cond.instanceMethod ({ cls := "AbnfChartModel", name := "erase", desc := "()I" } : Jvm.MethodName)) ∈ lw_tbl := tm (i := 759) (by decide +kernel)
theorem kw_760 : (Jvm.Cond.selects "AbnfChartModel" ({ cls := "AbnfChartModel", name := "erase", desc := "()I" } : Jvm.MethodName) ({ cls := "AbnfChartModel", name := "erase", desc := "()I" } : Jvm.MethodName)) ∈ lw_tbl := tm (i := 760) (by decide +kernel)
theorem kw_761 : (Jvm.Cond.code ({ cls := "AbnfChartModel", name := "erase", desc := "()I" } : Jvm.MethodName) prog_9_method_6_code (2 : Nat) (Option.some Jvm.ClassFile.FieldType.int)) ∈ lw_tbl := tm (i := 761) (by decide +kernel)
theorem kw_762 : (Jvm.Cond.methodLink "AbnfChartLaw" (66 : Nat) ({ cls := "AbnfChartModel", name := "read", desc := "()I" } : Jvm.MethodName)) ∈ lw_tbl := tm (i := 762) (by decide +kernel)
theorem kw_763 : (Jvm.Cond.instanceMethod ({ cls := "AbnfChartModel", name := "read", desc := "()I" } : Jvm.MethodName)) ∈ lw_tbl := tm (i := 763) (by decide +kernel)
theorem kw_764 : (Jvm.Cond.selects "AbnfChartModel" ({ cls := "AbnfChartModel", name := "read", desc := "()I" } : Jvm.MethodName) ({ cls := "AbnfChartModel", name := "read", desc := "()I" } : Jvm.MethodName)) ∈ lw_tbl := tm (i := 764) (by decide +kernel)
theorem kw_765 : (Jvm.Cond.code ({ cls := "AbnfChartModel", name := "read", desc := "()I" } : Jvm.MethodName) prog_9_method_30_code (2 : Nat) (Option.some Jvm.ClassFile.FieldType.int)) ∈ lw_tbl := tm (i := 765) (by decide +kernel)
theorem kw_766 : (Jvm.Cond.methodLink "AbnfChartModel" (100 : Nat) ({ cls := "AbnfChartModel", name := "line", desc := "(I)I" } : Jvm.MethodName)) ∈ lw_tbl := tm (i := 766) (by decide +kernel)
theorem kw_768 : (Jvm.Cond.instanceMethod ({ cls := "AbnfChartModel", name := "line", desc := "(I)I" } : Jvm.MethodName)) ∈ lw_tbl := tm (i := 768) (by decide +kernel)
theorem kw_769 : (Jvm.Cond.code ({ cls := "AbnfChartModel", name := "line", desc := "(I)I" } : Jvm.MethodName) prog_9_method_13_code (4 : Nat) (Option.some Jvm.ClassFile.FieldType.int)) ∈ lw_tbl := tm (i := 769) (by decide +kernel)
theorem kw_770 : (Jvm.Cond.methodLink "AbnfChartModel" (93 : Nat) ({ cls := "AbnfChartModel", name := "rest", desc := "(I)I" } : Jvm.MethodName)) ∈ lw_tbl := tm (i := 770) (by decide +kernel)
theorem kw_772 : (Jvm.Cond.instanceMethod ({ cls := "AbnfChartModel", name := "rest", desc := "(I)I" } : Jvm.MethodName)) ∈ lw_tbl := tm (i := 772) (by decide +kernel)
theorem kw_773 : (Jvm.Cond.code ({ cls := "AbnfChartModel", name := "rest", desc := "(I)I" } : Jvm.MethodName) prog_9_method_12_code (3 : Nat) (Option.some Jvm.ClassFile.FieldType.int)) ∈ lw_tbl := tm (i := 773) (by decide +kernel)
theorem kw_774 : (Jvm.Cond.methodLink "AbnfChartModel" (96 : Nat) ({ cls := "AbnfChartModel", name := "here", desc := "()I" } : Jvm.MethodName)) ∈ lw_tbl := tm (i := 774) (by decide +kernel)
theorem kw_776 : (Jvm.Cond.instanceMethod ({ cls := "AbnfChartModel", name := "here", desc := "()I" } : Jvm.MethodName)) ∈ lw_tbl := tm (i := 776) (by decide +kernel)
theorem kw_777 : (Jvm.Cond.code ({ cls := "AbnfChartModel", name := "here", desc := "()I" } : Jvm.MethodName) prog_9_method_7_code (1 : Nat) (Option.some Jvm.ClassFile.FieldType.int)) ∈ lw_tbl := tm (i := 777) (by decide +kernel)
theorem kw_778 : (Jvm.Cond.methodLink "AbnfChartModel" (103 : Nat) ({ cls := "AbnfChartModel", name := "letter", desc := "(I)Z" } : Jvm.MethodName)) ∈ lw_tbl := tm (i := 778) (by decide +kernel)
theorem kw_779 : (Jvm.Cond.static ({ cls := "AbnfChartModel", name := "letter", desc := "(I)Z" } : Jvm.MethodName)) ∈ lw_tbl := tm (i := 779) (by decide +kernel)
theorem kw_780 : (Jvm.Cond.code ({ cls := "AbnfChartModel", name := "letter", desc := "(I)Z" } : Jvm.MethodName) prog_9_method_8_code (1 : Nat) (Option.some Jvm.ClassFile.FieldType.boolean)) ∈ lw_tbl := tm (i := 780) (by decide +kernel)
theorem kw_781 : (Jvm.Cond.methodLink "AbnfChartModel" (180 : Nat) ({ cls := "AbnfChartModel", name := "readRule", desc := "()V" } : Jvm.MethodName)) ∈ lw_tbl := tm (i := 781) (by decide +kernel)
theorem kw_783 : (Jvm.Cond.instanceMethod ({ cls := "AbnfChartModel", name := "readRule", desc := "()V" } : Jvm.MethodName)) ∈ lw_tbl := tm (i := 783) (by decide +kernel)
theorem kw_784 : (Jvm.Cond.code ({ cls := "AbnfChartModel", name := "readRule", desc := "()V" } : Jvm.MethodName) prog_9_method_29_code (5 : Nat) (Option.none : Option Jvm.ClassFile.FieldType)) ∈ lw_tbl := tm (i := 784) (by decide +kernel)
theorem kw_785 : (Jvm.Cond.methodLink "AbnfChartModel" (148 : Nat) ({ cls := "AbnfChartModel", name := "name", desc := "()I" } : Jvm.MethodName)) ∈ lw_tbl := tm (i := 785) (by decide +kernel)
theorem kw_787 : (Jvm.Cond.instanceMethod ({ cls := "AbnfChartModel", name := "name", desc := "()I" } : Jvm.MethodName)) ∈ lw_tbl := tm (i := 787) (by decide +kernel)
theorem kw_788 : (Jvm.Cond.code ({ cls := "AbnfChartModel", name := "name", desc := "()I" } : Jvm.MethodName) prog_9_method_18_code (6 : Nat) (Option.some Jvm.ClassFile.FieldType.int)) ∈ lw_tbl := tm (i := 788) (by decide +kernel)
theorem kw_789 : (Jvm.Cond.methodLink "AbnfChartModel" (107 : Nat) ({ cls := "AbnfChartModel", name := "digit", desc := "(I)Z" } : Jvm.MethodName)) ∈ lw_tbl := tm (i := 789) (by decide +kernel)
theorem kw_790 : (Jvm.Cond.static ({ cls := "AbnfChartModel", name := "digit", desc := "(I)Z" } : Jvm.MethodName)) ∈ lw_tbl := tm (i := 790) (by decide +kernel)
theorem kw_791 : (Jvm.Cond.code ({ cls := "AbnfChartModel", name := "digit", desc := "(I)Z" } : Jvm.MethodName) prog_9_method_9_code (1 : Nat) (Option.some Jvm.ClassFile.FieldType.boolean)) ∈ lw_tbl := tm (i := 791) (by decide +kernel)
theorem kw_792 : (Jvm.Cond.methodLink "AbnfChartModel" (117 : Nat) ({ cls := "AbnfChartModel", name := "small", desc := "(I)I" } : Jvm.MethodName)) ∈ lw_tbl := tm (i := 792) (by decide +kernel)
theorem kw_793 : (Jvm.Cond.static ({ cls := "AbnfChartModel", name := "small", desc := "(I)I" } : Jvm.MethodName)) ∈ lw_tbl := tm (i := 793) (by decide +kernel)
theorem kw_794 : (Jvm.Cond.code ({ cls := "AbnfChartModel", name := "small", desc := "(I)I" } : Jvm.MethodName) prog_9_method_10_code (1 : Nat) (Option.some Jvm.ClassFile.FieldType.int)) ∈ lw_tbl := tm (i := 794) (by decide +kernel)
theorem kw_795 : (Jvm.Cond.methodLink "AbnfChartModel" (113 : Nat) ({ cls := "AbnfChartModel", name := "wrong", desc := "(II)V" } : Jvm.MethodName)) ∈ lw_tbl := tm (i := 795) (by decide +kernel)
theorem kw_797 : (Jvm.Cond.instanceMethod ({ cls := "AbnfChartModel", name := "wrong", desc := "(II)V" } : Jvm.MethodName)) ∈ lw_tbl := tm (i := 797) (by decide +kernel)
theorem kw_798 : (Jvm.Cond.code ({ cls := "AbnfChartModel", name := "wrong", desc := "(II)V" } : Jvm.MethodName) prog_9_method_11_code (3 : Nat) (Option.none : Option Jvm.ClassFile.FieldType)) ∈ lw_tbl := tm (i := 798) (by decide +kernel)
theorem kw_799 : (Jvm.Cond.methodLink "AbnfChartModel" (139 : Nat) ({ cls := "AbnfChartModel", name := "gap", desc := "()V" } : Jvm.MethodName)) ∈ lw_tbl := tm (i := 799) (by decide +kernel)
theorem kw_801 : (Jvm.Cond.instanceMethod ({ cls := "AbnfChartModel", name := "gap", desc := "()V" } : Jvm.MethodName)) ∈ lw_tbl := tm (i := 801) (by decide +kernel)
theorem kw_802 : (Jvm.Cond.code ({ cls := "AbnfChartModel", name := "gap", desc := "()V" } : Jvm.MethodName) prog_9_method_14_code (3 : Nat) (Option.none : Option Jvm.ClassFile.FieldType)) ∈ lw_tbl := tm (i := 802) (by decide +kernel)
theorem kw_803 : (Jvm.Cond.methodLink "AbnfChartModel" (155 : Nat) ({ cls := "AbnfChartModel", name := "enter", desc := "(II)V" } : Jvm.MethodName)) ∈ lw_tbl := tm (i := 803) (by decide +kernel)
theorem kw_805 : (Jvm.Cond.instanceMethod ({ cls := "AbnfChartModel", name := "enter", desc := "(II)V" } : Jvm.MethodName)) ∈ lw_tbl := tm (i := 805) (by decide +kernel)
theorem kw_806 : (Jvm.Cond.code ({ cls := "AbnfChartModel", name := "enter", desc := "(II)V" } : Jvm.MethodName) prog_9_method_21_code (3 : Nat) (Option.none : Option Jvm.ClassFile.FieldType)) ∈ lw_tbl := tm (i := 806) (by decide +kernel)
theorem kw_807 : (Jvm.Cond.methodLink "AbnfChartModel" (129 : Nat) ({ cls := "AbnfChartModel", name := "begins", desc := "(I)Z" } : Jvm.MethodName)) ∈ lw_tbl := tm (i := 807) (by decide +kernel)
theorem kw_808 : (Jvm.Cond.static ({ cls := "AbnfChartModel", name := "begins", desc := "(I)Z" } : Jvm.MethodName)) ∈ lw_tbl := tm (i := 808) (by decide +kernel)
theorem kw_809 : (Jvm.Cond.code ({ cls := "AbnfChartModel", name := "begins", desc := "(I)Z" } : Jvm.MethodName) prog_9_method_15_code (1 : Nat) (Option.some Jvm.ClassFile.FieldType.boolean)) ∈ lw_tbl := tm (i := 809) (by decide +kernel)
theorem kw_810 : (Jvm.Cond.methodLink "AbnfChartModel" (132 : Nat) ({ cls := "AbnfChartModel", name := "element", desc := "(II)I" } : Jvm.MethodName)) ∈ lw_tbl := tm (i := 810) (by decide +kernel)
theorem kw_812 : (Jvm.Cond.instanceMethod ({ cls := "AbnfChartModel", name := "element", desc := "(II)I" } : Jvm.MethodName)) ∈ lw_tbl := tm (i := 812) (by decide +kernel)
theorem kw_813 : (Jvm.Cond.code ({ cls := "AbnfChartModel", name := "element", desc := "(II)I" } : Jvm.MethodName) prog_9_method_16_code (3 : Nat) (Option.some Jvm.ClassFile.FieldType.int)) ∈ lw_tbl := tm (i := 813) (by decide +kernel)
theorem kw_814 : (Jvm.Cond.methodLink "AbnfChartModel" (174 : Nat) ({ cls := "AbnfChartModel", name := "sequence", desc := "()V" } : Jvm.MethodName)) ∈ lw_tbl := tm (i := 814) (by decide +kernel)
theorem kw_816 : (Jvm.Cond.instanceMethod ({ cls := "AbnfChartModel", name := "sequence", desc := "()V" } : Jvm.MethodName)) ∈ lw_tbl := tm (i := 816) (by decide +kernel)
theorem kw_817 : (Jvm.Cond.code ({ cls := "AbnfChartModel", name := "sequence", desc := "()V" } : Jvm.MethodName) prog_9_method_20_code (2 : Nat) (Option.none : Option Jvm.ClassFile.FieldType)) ∈ lw_tbl := tm (i := 817) (by decide +kernel)
theorem kw_818 : (Jvm.Cond.methodLink "AbnfChartModel" (126 : Nat) ({ cls := "AbnfChartModel", name := "append", desc := "(II)V" } : Jvm.MethodName)) ∈ lw_tbl := tm (i := 818) (by decide +kernel)
theorem kw_820 : (Jvm.Cond.instanceMethod ({ cls := "AbnfChartModel", name := "append", desc := "(II)V" } : Jvm.MethodName)) ∈ lw_tbl := tm (i := 820) (by decide +kernel)
theorem kw_821 : (Jvm.Cond.code ({ cls := "AbnfChartModel", name := "append", desc := "(II)V" } : Jvm.MethodName) prog_9_method_17_code (4 : Nat) (Option.none : Option Jvm.ClassFile.FieldType)) ∈ lw_tbl := tm (i := 821) (by decide +kernel)
theorem kw_822 : (Jvm.Cond.methodLink "AbnfChartModel" (136 : Nat) ({ cls := "AbnfChartModel", name := "repetition", desc := "()V" } : Jvm.MethodName)) ∈ lw_tbl := tm (i := 822) (by decide +kernel)
theorem kw_824 : (Jvm.Cond.instanceMethod ({ cls := "AbnfChartModel", name := "repetition", desc := "()V" } : Jvm.MethodName)) ∈ lw_tbl := tm (i := 824) (by decide +kernel)
theorem kw_825 : (Jvm.Cond.code ({ cls := "AbnfChartModel", name := "repetition", desc := "()V" } : Jvm.MethodName) prog_9_method_22_code (5 : Nat) (Option.none : Option Jvm.ClassFile.FieldType)) ∈ lw_tbl := tm (i := 825) (by decide +kernel)
theorem kw_826 : (Jvm.Cond.methodLink "AbnfChartModel" (145 : Nat) ({ cls := "AbnfChartModel", name := "single", desc := "()V" } : Jvm.MethodName)) ∈ lw_tbl := tm (i := 826) (by decide +kernel)
theorem kw_828 : (Jvm.Cond.instanceMethod ({ cls := "AbnfChartModel", name := "single", desc := "()V" } : Jvm.MethodName)) ∈ lw_tbl := tm (i := 828) (by decide +kernel)
theorem kw_829 : (Jvm.Cond.code ({ cls := "AbnfChartModel", name := "single", desc := "()V" } : Jvm.MethodName) prog_9_method_23_code (5 : Nat) (Option.none : Option Jvm.ClassFile.FieldType)) ∈ lw_tbl := tm (i := 829) (by decide +kernel)
theorem kw_830 : (Jvm.Cond.methodLink "AbnfChartModel" (151 : Nat) ({ cls := "AbnfChartModel", name := "placed", desc := "(I)V" } : Jvm.MethodName)) ∈ lw_tbl := tm (i := 830) (by decide +kernel)
theorem kw_832 : (Jvm.Cond.instanceMethod ({ cls := "AbnfChartModel", name := "placed", desc := "(I)V" } : Jvm.MethodName)) ∈ lw_tbl := tm (i := 832) (by decide +kernel)
theorem kw_833 : (Jvm.Cond.code ({ cls := "AbnfChartModel", name := "placed", desc := "(I)V" } : Jvm.MethodName) prog_9_method_19_code (3 : Nat) (Option.none : Option Jvm.ClassFile.FieldType)) ∈ lw_tbl := tm (i := 833) (by decide +kernel)
theorem kw_834 : (Jvm.Cond.methodLink "AbnfChartModel" (158 : Nat) ({ cls := "AbnfChartModel", name := "string", desc := "(I)V" } : Jvm.MethodName)) ∈ lw_tbl := tm (i := 834) (by decide +kernel)
theorem kw_836 : (Jvm.Cond.instanceMethod ({ cls := "AbnfChartModel", name := "string", desc := "(I)V" } : Jvm.MethodName)) ∈ lw_tbl := tm (i := 836) (by decide +kernel)
theorem kw_837 : (Jvm.Cond.code ({ cls := "AbnfChartModel", name := "string", desc := "(I)V" } : Jvm.MethodName) prog_9_method_24_code (3 : Nat) (Option.none : Option Jvm.ClassFile.FieldType)) ∈ lw_tbl := tm (i := 837) (by decide +kernel)
theorem kw_838 : (Jvm.Cond.methodLink "AbnfChartModel" (161 : Nat) ({ cls := "AbnfChartModel", name := "numbers", desc := "(III)V" } : Jvm.MethodName)) ∈ lw_tbl := tm (i := 838) (by decide +kernel)
theorem kw_840 : (Jvm.Cond.instanceMethod ({ cls := "AbnfChartModel", name := "numbers", desc := "(III)V" } : Jvm.MethodName)) ∈ lw_tbl := tm (i := 840) (by decide +kernel)
theorem kw_841 : (Jvm.Cond.code ({ cls := "AbnfChartModel", name := "numbers", desc := "(III)V" } : Jvm.MethodName) prog_9_method_27_code (6 : Nat) (Option.none : Option Jvm.ClassFile.FieldType)) ∈ lw_tbl := tm (i := 841) (by decide +kernel)
theorem kw_842 : (Jvm.Cond.methodLink "AbnfChartModel" (171 : Nat) ({ cls := "AbnfChartModel", name := "number", desc := "(II)I" } : Jvm.MethodName)) ∈ lw_tbl := tm (i := 842) (by decide +kernel)
theorem kw_844 : (Jvm.Cond.instanceMethod ({ cls := "AbnfChartModel", name := "number", desc := "(II)I" } : Jvm.MethodName)) ∈ lw_tbl := tm (i := 844) (by decide +kernel)
theorem kw_845 : (Jvm.Cond.code ({ cls := "AbnfChartModel", name := "number", desc := "(II)I" } : Jvm.MethodName) prog_9_method_26_code (5 : Nat) (Option.some Jvm.ClassFile.FieldType.int)) ∈ lw_tbl := tm (i := 845) (by decide +kernel)
theorem kw_846 : (Jvm.Cond.methodLink "AbnfChartModel" (168 : Nat) ({ cls := "AbnfChartModel", name := "figure", desc := "(II)I" } : Jvm.MethodName)) ∈ lw_tbl := tm (i := 846) (by decide +kernel)
theorem kw_847 : (Jvm.Cond.static ({ cls := "AbnfChartModel", name := "figure", desc := "(II)I" } : Jvm.MethodName)) ∈ lw_tbl := tm (i := 847) (by decide +kernel)
theorem kw_848 : (Jvm.Cond.code ({ cls := "AbnfChartModel", name := "figure", desc := "(II)I" } : Jvm.MethodName) prog_9_method_25_code (2 : Nat) (Option.some Jvm.ClassFile.FieldType.int)) ∈ lw_tbl := tm (i := 848) (by decide +kernel)
theorem kw_849 : (Jvm.Cond.methodLink "AbnfChartModel" (176 : Nat) ({ cls := "AbnfChartModel", name := "goesOn", desc := "()Z" } : Jvm.MethodName)) ∈ lw_tbl := tm (i := 849) (by decide +kernel)
theorem kw_851 : (Jvm.Cond.instanceMethod ({ cls := "AbnfChartModel", name := "goesOn", desc := "()Z" } : Jvm.MethodName)) ∈ lw_tbl := tm (i := 851) (by decide +kernel)
theorem kw_852 : (Jvm.Cond.code ({ cls := "AbnfChartModel", name := "goesOn", desc := "()Z" } : Jvm.MethodName) prog_9_method_28_code (5 : Nat) (Option.some Jvm.ClassFile.FieldType.boolean)) ∈ lw_tbl := tm (i := 852) (by decide +kernel)
theorem kw_853 : (Jvm.Cond.methodLink "AbnfChartLaw" (70 : Nat) ({ cls := "AbnfChartModel", name := "place", desc := "()I" } : Jvm.MethodName)) ∈ lw_tbl := tm (i := 853) (by decide +kernel)
theorem kw_854 : (Jvm.Cond.instanceMethod ({ cls := "AbnfChartModel", name := "place", desc := "()I" } : Jvm.MethodName)) ∈ lw_tbl := tm (i := 854) (by decide +kernel)
theorem kw_855 : (Jvm.Cond.selects "AbnfChartModel" ({ cls := "AbnfChartModel", name := "place", desc := "()I" } : Jvm.MethodName) ({ cls := "AbnfChartModel", name := "place", desc := "()I" } : Jvm.MethodName)) ∈ lw_tbl := tm (i := 855) (by decide +kernel)
theorem kw_856 : (Jvm.Cond.code ({ cls := "AbnfChartModel", name := "place", desc := "()I" } : Jvm.MethodName) prog_9_method_31_code (1 : Nat) (Option.some Jvm.ClassFile.FieldType.int)) ∈ lw_tbl := tm (i := 856) (by decide +kernel)
theorem kw_857 : (Jvm.Cond.methodLink "AbnfChartLaw" (74 : Nat) ({ cls := "AbnfChartModel", name := "rule", desc := "(J)I" } : Jvm.MethodName)) ∈ lw_tbl := tm (i := 857) (by decide +kernel)
theorem kw_858 : (Jvm.Cond.instanceMethod ({ cls := "AbnfChartModel", name := "rule", desc := "(J)I" } : Jvm.MethodName)) ∈ lw_tbl := tm (i := 858) (by decide +kernel)
theorem kw_859 : (Jvm.Cond.selects "AbnfChartModel" ({ cls := "AbnfChartModel", name := "rule", desc := "(J)I" } : Jvm.MethodName) ({ cls := "AbnfChartModel", name := "rule", desc := "(J)I" } : Jvm.MethodName)) ∈ lw_tbl := tm (i := 859) (by decide +kernel)
theorem kw_860 : (Jvm.Cond.code ({ cls := "AbnfChartModel", name := "rule", desc := "(J)I" } : Jvm.MethodName) prog_9_method_32_code (4 : Nat) (Option.some Jvm.ClassFile.FieldType.int)) ∈ lw_tbl := tm (i := 860) (by decide +kernel)
theorem kw_861 : (Jvm.Cond.methodLink "AbnfChartLaw" (77 : Nat) ({ cls := "AbnfChartModel", name := "give", desc := "(JI)I" } : Jvm.MethodName)) ∈ lw_tbl := tm (i := 861) (by decide +kernel)
theorem kw_862 : (Jvm.Cond.instanceMethod ({ cls := "AbnfChartModel", name := "give", desc := "(JI)I" } : Jvm.MethodName)) ∈ lw_tbl := tm (i := 862) (by decide +kernel)
theorem kw_863 : (Jvm.Cond.selects "AbnfChartModel" ({ cls := "AbnfChartModel", name := "give", desc := "(JI)I" } : Jvm.MethodName) ({ cls := "AbnfChartModel", name := "give", desc := "(JI)I" } : Jvm.MethodName)) ∈ lw_tbl := tm (i := 863) (by decide +kernel)
theorem kw_864 : (Jvm.Cond.code ({ cls := "AbnfChartModel", name := "give", desc := "(JI)I" } : Jvm.MethodName) prog_9_method_33_code (6 : Nat) (Option.some Jvm.ClassFile.FieldType.int)) ∈ lw_tbl := tm (i := 864) (by decide +kernel)
theorem kw_865 : (Jvm.Cond.constantLong "AbnfChartModel" (183 : Nat) (128 : Int64)) ∈ lw_tbl := tm (i := 865) (by decide +kernel)
theorem kw_866 : (Jvm.Cond.methodLink "AbnfChartLaw" (81 : Nat) ({ cls := "AbnfChartModel", name := "drop", desc := "()I" } : Jvm.MethodName)) ∈ lw_tbl := tm (i := 866) (by decide +kernel)
theorem kw_867 : (Jvm.Cond.instanceMethod ({ cls := "AbnfChartModel", name := "drop", desc := "()I" } : Jvm.MethodName)) ∈ lw_tbl := tm (i := 867) (by decide +kernel)
theorem kw_868 : (Jvm.Cond.selects "AbnfChartModel" ({ cls := "AbnfChartModel", name := "drop", desc := "()I" } : Jvm.MethodName) ({ cls := "AbnfChartModel", name := "drop", desc := "()I" } : Jvm.MethodName)) ∈ lw_tbl := tm (i := 868) (by decide +kernel)
theorem kw_869 : (Jvm.Cond.code ({ cls := "AbnfChartModel", name := "drop", desc := "()I" } : Jvm.MethodName) prog_9_method_34_code (2 : Nat) (Option.some Jvm.ClassFile.FieldType.int)) ∈ lw_tbl := tm (i := 869) (by decide +kernel)
theorem kw_870 : (Jvm.Cond.methodLink "AbnfChartLaw" (85 : Nat) ({ cls := "AbnfChartModel", name := "matches", desc := "(III)Z" } : Jvm.MethodName)) ∈ lw_tbl := tm (i := 870) (by decide +kernel)
theorem kw_871 : (Jvm.Cond.instanceMethod ({ cls := "AbnfChartModel", name := "matches", desc := "(III)Z" } : Jvm.MethodName)) ∈ lw_tbl := tm (i := 871) (by decide +kernel)
theorem kw_872 : (Jvm.Cond.selects "AbnfChartModel" ({ cls := "AbnfChartModel", name := "matches", desc := "(III)Z" } : Jvm.MethodName) ({ cls := "AbnfChartModel", name := "matches", desc := "(III)Z" } : Jvm.MethodName)) ∈ lw_tbl := tm (i := 872) (by decide +kernel)
theorem kw_873 : (Jvm.Cond.code ({ cls := "AbnfChartModel", name := "matches", desc := "(III)Z" } : Jvm.MethodName) prog_9_method_41_code (4 : Nat) (Option.some Jvm.ClassFile.FieldType.boolean)) ∈ lw_tbl := tm (i := 873) (by decide +kernel)
theorem kw_874 : (Jvm.Cond.methodLink "AbnfChartModel" (204 : Nat) ({ cls := "AbnfChartModel", name := "endsOf", desc := "(II)I" } : Jvm.MethodName)) ∈ lw_tbl := tm (i := 874) (by decide +kernel)
theorem kw_876 : (Jvm.Cond.instanceMethod ({ cls := "AbnfChartModel", name := "endsOf", desc := "(II)I" } : Jvm.MethodName)) ∈ lw_tbl := tm (i := 876) (by decide +kernel)
theorem kw_877 : (Jvm.Cond.code ({ cls := "AbnfChartModel", name := "endsOf", desc := "(II)I" } : Jvm.MethodName) prog_9_method_40_code (3 : Nat) (Option.some Jvm.ClassFile.FieldType.int)) ∈ lw_tbl := tm (i := 877) (by decide +kernel)
theorem kw_878 : (Jvm.Cond.methodLink "AbnfChartModel" (201 : Nat) ({ cls := "AbnfChartModel", name := "chart", desc := "()V" } : Jvm.MethodName)) ∈ lw_tbl := tm (i := 878) (by decide +kernel)
theorem kw_880 : (Jvm.Cond.instanceMethod ({ cls := "AbnfChartModel", name := "chart", desc := "()V" } : Jvm.MethodName)) ∈ lw_tbl := tm (i := 880) (by decide +kernel)
theorem kw_881 : (Jvm.Cond.code ({ cls := "AbnfChartModel", name := "chart", desc := "()V" } : Jvm.MethodName) prog_9_method_39_code (5 : Nat) (Option.none : Option Jvm.ClassFile.FieldType)) ∈ lw_tbl := tm (i := 881) (by decide +kernel)
theorem kw_882 : (Jvm.Cond.methodLink "AbnfChartModel" (198 : Nat) ({ cls := "AbnfChartModel", name := "fits", desc := "(II)I" } : Jvm.MethodName)) ∈ lw_tbl := tm (i := 882) (by decide +kernel)
theorem kw_884 : (Jvm.Cond.instanceMethod ({ cls := "AbnfChartModel", name := "fits", desc := "(II)I" } : Jvm.MethodName)) ∈ lw_tbl := tm (i := 884) (by decide +kernel)
theorem kw_885 : (Jvm.Cond.code ({ cls := "AbnfChartModel", name := "fits", desc := "(II)I" } : Jvm.MethodName) prog_9_method_38_code (5 : Nat) (Option.some Jvm.ClassFile.FieldType.int)) ∈ lw_tbl := tm (i := 885) (by decide +kernel)
theorem kw_886 : (Jvm.Cond.methodLink "AbnfChartModel" (191 : Nat) ({ cls := "AbnfChartModel", name := "same", desc := "(IIZ)Z" } : Jvm.MethodName)) ∈ lw_tbl := tm (i := 886) (by decide +kernel)
theorem kw_888 : (Jvm.Cond.instanceMethod ({ cls := "AbnfChartModel", name := "same", desc := "(IIZ)Z" } : Jvm.MethodName)) ∈ lw_tbl := tm (i := 888) (by decide +kernel)
theorem kw_889 : (Jvm.Cond.code ({ cls := "AbnfChartModel", name := "same", desc := "(IIZ)Z" } : Jvm.MethodName) prog_9_method_35_code (4 : Nat) (Option.some Jvm.ClassFile.FieldType.boolean)) ∈ lw_tbl := tm (i := 889) (by decide +kernel)
theorem kw_890 : (Jvm.Cond.methodLink "AbnfChartModel" (195 : Nat) ({ cls := "AbnfChartModel", name := "times", desc := "(II)I" } : Jvm.MethodName)) ∈ lw_tbl := tm (i := 890) (by decide +kernel)
theorem kw_892 : (Jvm.Cond.instanceMethod ({ cls := "AbnfChartModel", name := "times", desc := "(II)I" } : Jvm.MethodName)) ∈ lw_tbl := tm (i := 892) (by decide +kernel)
theorem kw_893 : (Jvm.Cond.code ({ cls := "AbnfChartModel", name := "times", desc := "(II)I" } : Jvm.MethodName) prog_9_method_37_code (7 : Nat) (Option.some Jvm.ClassFile.FieldType.int)) ∈ lw_tbl := tm (i := 893) (by decide +kernel)
theorem kw_894 : (Jvm.Cond.methodLink "AbnfChartModel" (188 : Nat) ({ cls := "AbnfChartModel", name := "step", desc := "(II)I" } : Jvm.MethodName)) ∈ lw_tbl := tm (i := 894) (by decide +kernel)
theorem kw_896 : (Jvm.Cond.instanceMethod ({ cls := "AbnfChartModel", name := "step", desc := "(II)I" } : Jvm.MethodName)) ∈ lw_tbl := tm (i := 896) (by decide +kernel)
theorem kw_897 : (Jvm.Cond.code ({ cls := "AbnfChartModel", name := "step", desc := "(II)I" } : Jvm.MethodName) prog_9_method_36_code (5 : Nat) (Option.some Jvm.ClassFile.FieldType.int)) ∈ lw_tbl := tm (i := 897) (by decide +kernel)
theorem kw_898 : (Jvm.Cond.methodLink "AbnfChartLaw" (89 : Nat) ({ cls := "AbnfChartModel", name := "longest", desc := "(II)I" } : Jvm.MethodName)) ∈ lw_tbl := tm (i := 898) (by decide +kernel)
theorem kw_899 : (Jvm.Cond.instanceMethod ({ cls := "AbnfChartModel", name := "longest", desc := "(II)I" } : Jvm.MethodName)) ∈ lw_tbl := tm (i := 899) (by decide +kernel)
theorem kw_900 : (Jvm.Cond.selects "AbnfChartModel" ({ cls := "AbnfChartModel", name := "longest", desc := "(II)I" } : Jvm.MethodName) ({ cls := "AbnfChartModel", name := "longest", desc := "(II)I" } : Jvm.MethodName)) ∈ lw_tbl := tm (i := 900) (by decide +kernel)
theorem kw_901 : (Jvm.Cond.code ({ cls := "AbnfChartModel", name := "longest", desc := "(II)I" } : Jvm.MethodName) prog_9_method_42_code (5 : Nat) (Option.some Jvm.ClassFile.FieldType.int)) ∈ lw_tbl := tm (i := 901) (by decide +kernel)
theorem kw_902 : (Jvm.Cond.methodLink "AbnfChartLaw" (93 : Nat) ({ cls := "AbnfChartModel", name := "pieces", desc := "(I)I" } : Jvm.MethodName)) ∈ lw_tbl := tm (i := 902) (by decide +kernel)
theorem kw_903 : (Jvm.Cond.instanceMethod ({ cls := "AbnfChartModel", name := "pieces", desc := "(I)I" } : Jvm.MethodName)) ∈ lw_tbl := tm (i := 903) (by decide +kernel)
theorem kw_904 : (Jvm.Cond.selects "AbnfChartModel" ({ cls := "AbnfChartModel", name := "pieces", desc := "(I)I" } : Jvm.MethodName) ({ cls := "AbnfChartModel", name := "pieces", desc := "(I)I" } : Jvm.MethodName)) ∈ lw_tbl := tm (i := 904) (by decide +kernel)
theorem kw_905 : (Jvm.Cond.code ({ cls := "AbnfChartModel", name := "pieces", desc := "(I)I" } : Jvm.MethodName) prog_9_method_43_code (5 : Nat) (Option.some Jvm.ClassFile.FieldType.int)) ∈ lw_tbl := tm (i := 905) (by decide +kernel)
theorem kw_906 : (Jvm.Cond.methodLink "AbnfChartLaw" (96 : Nat) ({ cls := "AbnfChartModel", name := "count", desc := "(I)I" } : Jvm.MethodName)) ∈ lw_tbl := tm (i := 906) (by decide +kernel)
theorem kw_907 : (Jvm.Cond.instanceMethod ({ cls := "AbnfChartModel", name := "count", desc := "(I)I" } : Jvm.MethodName)) ∈ lw_tbl := tm (i := 907) (by decide +kernel)
theorem kw_908 : (Jvm.Cond.selects "AbnfChartModel" ({ cls := "AbnfChartModel", name := "count", desc := "(I)I" } : Jvm.MethodName) ({ cls := "AbnfChartModel", name := "count", desc := "(I)I" } : Jvm.MethodName)) ∈ lw_tbl := tm (i := 908) (by decide +kernel)
theorem kw_909 : (Jvm.Cond.code ({ cls := "AbnfChartModel", name := "count", desc := "(I)I" } : Jvm.MethodName) prog_9_method_44_code (4 : Nat) (Option.some Jvm.ClassFile.FieldType.int)) ∈ lw_tbl := tm (i := 909) (by decide +kernel)
theorem kw_910 : (Jvm.Cond.constantLong "AbnfChartLaw" (51 : Nat) (4294967295 : Int64)) ∈ lw_tbl := tm (i := 910) (by decide +kernel)
theorem kw_911 : (Jvm.Cond.sameMethod "java/lang/Throwable" "java/lang/Throwable" "fillInStackTrace" "(I)Ljava/lang/Throwable;") ∈ lw_tbl := tm (i := 911) (by decide +kernel)
end
section
/-! Words of all methods in one list; the flat world: cells by their numbers (fw n ad mem: n cells, cell j at the address ad j holds mem j); rows over it. -/
def tg : List Cond := lw_tbl.filter goodWord
def nstw : Cond → Bool
  | .fieldLinkNest .. => true
  | .methodLinkNest .. => true
  | .declares _ => true
  | .castable .. => true
  | .arrayOver (.object _) => true
  | _ => false
def TB : List Cond := lw_tbl.filter (fun w => goodWord w || nstw w)
theorem tg_of {w : Cond} (h : w ∈ lw_tbl) (g : goodWord w = true) : w ∈ tg := List.mem_filter.mpr ⟨h, g⟩
theorem tb {w : Cond} (h : w ∈ lw_tbl) (g : (goodWord w || nstw w) = true) : w ∈ TB := List.mem_filter.mpr ⟨h, g⟩
theorem tb_g {w : Cond} (h : w ∈ lw_tbl) (g : goodWord w = true) : w ∈ TB := tb h (by rw [g]; rfl)
theorem tg_in : GoodIn TB tg := fun w h => ⟨tb_g (List.mem_filter.mp h).1 (List.mem_filter.mp h).2, good_of_word (List.mem_filter.mp h).2⟩
theorem gdC {w : Cond} (h : w ∈ lw_tbl) (g : goodWord w = true) : GoodIn TB (w :: tg) := fun w' h' => (List.mem_cons.mp h').elim (fun e => by subst e; exact ⟨tb_g h g, good_of_word g⟩) (tg_in w')
theorem gdV {own C : String} {idx n : Nat} {y : MethodName} {bytes : ByteArray} {r : Option FieldType} (h1 : Cond.methodLink own idx y ∈ lw_tbl) (h2 : Cond.instanceMethod y ∈ lw_tbl) (h3 : Cond.selects C y y ∈ lw_tbl) (h4 : Cond.initialized C ∈ lw_tbl) (h5 : Cond.code y bytes n r ∈ lw_tbl) : GoodIn TB (wsV own idx C y (.code y bytes n r :: tg)) := by
  intro w h
  unfold wsV at h
  rcases List.mem_append.mp h with h | h
  · simp only [List.mem_cons, List.not_mem_nil, or_false] at h
    rcases h with rfl | rfl | rfl | rfl
    · exact ⟨tb_g h1 rfl, good_of_word rfl⟩
    · exact ⟨tb_g h2 rfl, good_of_word rfl⟩
    · exact ⟨tb_g h3 rfl, good_of_word rfl⟩
    · exact ⟨tb_g h4 rfl, good_of_word rfl⟩
  · exact gdC h5 rfl w h
theorem gdS {own : String} {idx n : Nat} {y : MethodName} {bytes : ByteArray} {r : Option FieldType} (h1 : Cond.methodLink own idx y ∈ lw_tbl) (h2 : Cond.static y ∈ lw_tbl) (h4 : Cond.initialized own ∈ lw_tbl) (h5 : Cond.code y bytes n r ∈ lw_tbl) : GoodIn TB (wsS own idx y (.code y bytes n r :: tg)) := by
  intro w h
  unfold wsS at h
  rcases List.mem_append.mp h with h | h
  · simp only [List.mem_cons, List.not_mem_nil, or_false] at h
    rcases h with rfl | rfl | rfl
    · exact ⟨tb_g h1 rfl, good_of_word rfl⟩
    · exact ⟨tb_g h2 rfl, good_of_word rfl⟩
    · exact ⟨tb_g h4 rfl, good_of_word rfl⟩
  · exact gdC h5 rfl w h
theorem uw_good {C : String} {T : u_T} {N : Nat} : ∀ w ∈ u_ws C T N, goodWord w = true := by
  intro w h
  unfold u_ws at h
  obtain ⟨k, -, rfl⟩ := List.mem_map.mp h
  unfold u_lay
  split <;> rfl
theorem uw_tb {C : String} {T : u_T} {N : Nat} (h : ∀ w ∈ u_ws C T N, w ∈ lw_tbl) : ∀ w ∈ u_ws C T N, w ∈ TB := fun w hw => tb_g (h w hw) (uw_good w hw)
def NW (U : State) : Prop := ∀ w ∈ lw_tbl, nstw w = true → w.before #[] U = true
theorem NW.warm {s U : State} (hW : s.WarmedH U.vm) (h : NW s) : NW U := by
  intro w hw hn
  have h1 := h w hw hn
  cases w
  case fieldLinkNest => exact va_Nw.warmF hW h1
  case methodLinkNest => exact va_Nw.warmM hW h1
  case declares => exact va_Nw.warmD hW h1
  case castable => exact va_Nw.warmC hW h1
  case arrayOver ty =>
    cases ty
    case object C => exact va_AO.moved hW.alike h1
    all_goals cases hn
  all_goals cases hn
theorem NW.use {U : State} {args : Array Value} (h : NW U) {w : Cond} (hw : w ∈ lw_tbl) (hn : nstw w = true) : w.before args U = true := by
  have h1 := h w hw hn
  cases w
  case fieldLinkNest => exact va_tabs rfl rfl h1
  case methodLinkNest => exact va_tabs rfl rfl h1
  case declares => exact va_tabs rfl rfl h1
  case castable => exact va_tabs rfl rfl h1
  case arrayOver ty =>
    cases ty
    case object C => exact h1
    all_goals cases hn
  all_goals cases hn
/-- in a body: all words of TB, out of the method's own list and of NW -/
theorem tb_all {s : State} {args : Array Value} {cw : Cond} (h : ∀ w ∈ (cw :: tg), w.before args s = true) (hN : NW s) : ∀ w ∈ TB, w.before args s = true := by
  intro w hw
  obtain ⟨h1, h2⟩ := List.mem_filter.mp hw
  by_cases g : goodWord w = true
  · exact h w (List.mem_cons_of_mem _ (tg_of h1 g))
  · have g' : nstw w = true := by
      cases hg : goodWord w
      · rw [hg] at h2; simpa using h2
      · exact absurd hg g
    exact hN.use h1 g'
def fw (n : Nat) (ad : Nat → Nat) (mem : Nat → va_E) : va_W := (List.range n).map (fun j => (ad j, mem j))
theorem fw_at {n j : Nat} {ad : Nat → Nat} {mem : Nat → va_E} (h : j < n) : (fw n ad mem)[j]? = some (ad j, mem j) := by
  unfold fw
  rw [List.getElem?_map, List.getElem?_range h]
  rfl
theorem fw_atm {n j : Nat} {ad : Nat → Nat} {mem : Nat → va_E} {e : va_E} (h : j < n) (hm : mem j = e) : (fw n ad mem)[j]? = some (ad j, e) := by rw [fw_at h, hm]
theorem fw_ge {n j : Nat} {ad : Nat → Nat} {mem : Nat → va_E} (h : n ≤ j) : (fw n ad mem)[j]? = none := by
  unfold fw
  simp [h]
theorem fw_get {n j : Nat} {ad : Nat → Nat} {mem : Nat → va_E} {q : Nat × va_E} (h : (fw n ad mem)[j]? = some q) : j < n ∧ q = (ad j, mem j) := by
  by_cases hj : j < n
  · rw [fw_at hj] at h
    exact ⟨hj, (Option.some.inj h).symm⟩
  · rw [fw_ge (Nat.le_of_not_lt hj)] at h
    cases h
theorem fw_set {n j : Nat} {ad : Nat → Nat} {mem : Nat → va_E} {e : va_E} (h : j < n) : (fw n ad mem).set j (ad j, e) = fw n ad (va_up mem j e) := by
  apply List.ext_getElem?
  intro k
  by_cases hk : k = j
  · subst hk
    rw [List.getElem?_set_self (by unfold fw; simpa using h), fw_at h, va_up_self]
  · rw [List.getElem?_set_ne (Ne.symm hk)]
    by_cases hn : k < n
    · rw [fw_at hn, fw_at hn, va_up_ne _ _ hk]
    · rw [fw_ge (Nat.le_of_not_lt hn), fw_ge (Nat.le_of_not_lt hn)]
theorem fw_push {n q : Nat} {ad : Nat → Nat} {mem : Nat → va_E} {e : va_E} : fw n ad mem ++ [(q, e)] = fw (n + 1) (va_up ad n q) (va_up mem n e) := by
  unfold fw
  rw [List.range_succ, List.map_append]
  congr 1
  · apply List.map_congr_left
    intro k hk
    have : k ≠ n := Nat.ne_of_lt (List.mem_range.mp hk)
    rw [va_up_ne _ _ this, va_up_ne _ _ this]
  · simp [va_up_self]
theorem fw_D {A : Nat → Prop} {n : Nat} {ad : Nat → Nat} {mem mem' : Nat → va_E} (h : va_D A (fw n ad mem)) : va_D A (fw n ad mem') := by
  refine ⟨fun i j x y hx hy hxy => ?_, fun k q hk => ?_⟩
  · obtain ⟨h1, rfl⟩ := fw_get hx
    obtain ⟨h2, rfl⟩ := fw_get hy
    exact h.1 i j _ _ (fw_at h1) (fw_at h2) hxy
  · obtain ⟨h1, rfl⟩ := fw_get hk
    exact h.2 k (ad k, mem k) (fw_at h1)
abbrev ty6 (cy : Nat → ClassId) : List (ClassId × FieldType) := [(cy 0, .char), (cy 1, .int), (cy 2, .long), (cy 3, .boolean), (cy 4, .object "AbnfChart$Element"), (cy 5, .object "AbnfChart$Rule")]
abbrev Az (sz : Nat) : Nat → Prop := fun q => sz ≤ q
def EV (D : va_G) (cy : Nat → ClassId) (sz : Nat) (U : State) : Prop :=
  va_K D vcl (ty6 cy) U ∧ NW U ∧ vx_Zq Bundle.tN "UNASSIGNED_STACK" Bundle.steD (Az sz) U U.heap ∧ vx_Zq Bundle.tN "SUPPRESSED_SENTINEL" Bundle.listD (Az sz) U U.heap ∧ sz ≤ U.heap.size ∧ va_Nc "java/lang/IllegalStateException" "java/lang/IllegalArgumentException" U ∧ va_Nc "java/lang/IndexOutOfBoundsException" "java/util/NoSuchElementException" U
def PR (D : va_G) (cy : Nat → ClassId) (sz n : Nat) (ad : Nat → Nat) (mem : Nat → va_E) (U : State) : Prop := EV D cy sz U ∧ va_P D vcl (fw n ad mem) U.heap ∧ va_D (Az sz) (fw n ad mem)
abbrev PP (D : va_G) (n : Nat) (ad : Nat → Nat) (mem : Nat → va_E) (t : State) : Prop := va_P D vcl (fw n ad mem) t.heap
theorem EV.at {D : va_G} {cy : Nat → ClassId} {sz : Nat} {s U : State} {H : Heap} {locs : List Loc} (h : EV D cy sz s) (hS : va_S (Az sz) s.heap H locs) (hU : U.heap = H) (hW : s.WarmedH U.vm) : EV D cy sz U := by
  obtain ⟨h1, h2, h3, h4, h5, h6, h7⟩ := h
  refine ⟨va_K.moved hW.alike h1, h2.warm hW, ?_, ?_, ?_, va_Nc.moved hW.alike h6, va_Nc.moved hW.alike h7⟩
  · rw [hU]; exact vx_Zq.moved hW.alike (h3.kept hS.2.1)
  · rw [hU]; exact vx_Zq.moved hW.alike (h4.kept hS.2.1)
  · rw [hU]; exact Nat.le_trans h5 hS.1
theorem EV.call {D : va_G} {cy : Nat → ClassId} {sz : Nat} {U : State} {g : JFrame} {mk : MethodId} {a : Array Value} (h : EV D cy sz U) : EV D cy sz (U.calling g mk a) := by
  obtain ⟨h1, h2, h3, h4, h5, h6, h7⟩ := h
  exact ⟨va_K.moved (u := U) (U := U.calling g mk a) (Vm.Alike.refl U.vm) h1, h2.warm (s := U) (U := U.calling g mk a) (State.WarmedH.refl U), vx_Zq.moved (u := U) (U := U.calling g mk a) (Vm.Alike.refl U.vm) h3, vx_Zq.moved (u := U) (U := U.calling g mk a) (Vm.Alike.refl U.vm) h4, h5, va_Nc.moved (u := U) (U := U.calling g mk a) (Vm.Alike.refl U.vm) h6, va_Nc.moved (u := U) (U := U.calling g mk a) (Vm.Alike.refl U.vm) h7⟩
theorem PR.blind {D : va_G} {cy : Nat → ClassId} {sz n : Nat} {ad : Nat → Nat} {mem : Nat → va_E} {av : List Value} : FrameBlind (va_Pc av (PR D cy sz n ad mem)) := fun a U g mk q => ⟨q.1, q.2.1.call, q.2.2.1, q.2.2.2⟩
end
section
/-! rows over the flat world: fields, arrays, calls, ends -/
def MB (p : Program) (s : State) (m : MethodId) (args : Array Value) (c : Code) (cc : ByteArray) (own : String) (D : va_G) (cy : Nat → ClassId) : Prop :=
  p.tables.exec = Jvm.exec ∧ c.code = cc ∧ (∀ w ∈ TB, w.before args s = true) ∧ s.vm.findClass own = some m.cls ∧ va_K D vcl (ty6 cy) s
section RW
variable {p : Program} {l : Launch} {e : Env} {R : Room} {s : State} {m : MethodId} {args : Array Value} {below : List Frame} {meth : Method} {c : Code} {H : Heap} {locs : List Loc} {cells slots : Nat} {Q : State → Prop}
variable {cc : ByteArray} {pc : Nat} {ls : Array Slot} {rest st0 : List Value} {D : va_G} {cy : Nat → ClassId} {own C host : String} {T : u_T} {N ci index sz n j : Nat} {ad : Nat → Nat} {mem : Nat → va_E} {H0 : Heap} {fs : List Value}
theorem f_get (B : MB p s m args c cc own D cy) (hP : va_P D vcl (fw n ad mem) H) (hj : j < n) (hm : mem j = .inr (ci, fs)) (hc : vcl[ci]? = some (C, T, N)) (hin : ∀ w ∈ u_ws C T N, w ∈ lw_tbl) (k : Nat) (hk : k < N) (hl : Cond.fieldLink own index C (T k).2.1 (T k).2.2.1 ∈ lw_tbl) (hcl : (T k).1 = C) {v : Value} (hv : fs[k]? = some v) (hdg : decode cc pc = .ok (.getfield index, 3))
    (kk : W p l e R s m args below meth c H locs cells slots Q (F0 m (pc + 3) ls (v :: rest))) : W p l e R s m args below meth c H locs cells slots Q (F0 m pc ls (.ref (ad j) :: rest)) :=
  va_get B.1 B.2.1 B.2.2.1 (uw_tb hin) B.2.2.2.1 B.2.2.2.2 hP j (fw_atm hj hm) hc k hk (B.2.2.1 _ (tb_g hl rfl)) (fun x h => by rw [← hcl]; exact h) hv hdg kk
theorem f_getN (B : MB p s m args c cc own D cy) (hP : va_P D vcl (fw n ad mem) H) (hj : j < n) (hm : mem j = .inr (ci, fs)) (hc : vcl[ci]? = some (C, T, N)) (hin : ∀ w ∈ u_ws C T N, w ∈ lw_tbl) (k : Nat) (hk : k < N) (hl : Cond.fieldLinkNest own index C (T k).2.1 (T k).2.2.1 host ∈ lw_tbl) (hcl : (T k).1 = C) {v : Value} (hv : fs[k]? = some v) (hdg : decode cc pc = .ok (.getfield index, 3))
    (kk : W p l e R s m args below meth c H locs cells slots Q (F0 m (pc + 3) ls (v :: rest))) : W p l e R s m args below meth c H locs cells slots Q (F0 m pc ls (.ref (ad j) :: rest)) :=
  va_getN B.1 B.2.1 B.2.2.1 (uw_tb hin) B.2.2.2.1 B.2.2.2.2 hP j (fw_atm hj hm) hc k hk (B.2.2.1 _ (tb hl rfl)) (fun x h => by rw [← hcl]; exact h) hv hdg kk
theorem f_put (B : MB p s m args c cc own D cy) (hP : va_P D vcl (fw n ad mem) H) (hD : va_D (Az sz) (fw n ad mem)) (hS : va_S (Az sz) H0 H locs) (hj : j < n) (hm : mem j = .inr (ci, fs)) (hc : vcl[ci]? = some (C, T, N)) (hin : ∀ w ∈ u_ws C T N, w ∈ lw_tbl) (ty0 : Nat → FieldType) (hty : ∀ k, k < N → parseFieldDescriptor (T k).2.2.1 = some (ty0 k)) (hnm : ∀ a, a < N → ∀ b, b < N → a ≠ b → (T a).2.1 ≠ (T b).2.1) (k : Nat) (hk : k < N) (hl : Cond.fieldLink own index C (T k).2.1 (T k).2.2.1 ∈ lw_tbl) (hcl : (T k).1 = C) (hfin : (T k).2.2.2 = false) {v : Value} (hn : narrow (ty0 k) v = v) (hfit : fits (ty0 k) v = true) (hlen : k < fs.length) (hdg : decode cc pc = .ok (.putfield index, 3))
    (kk : ∀ (H1 : Heap) (locs1 : List Loc), va_P D vcl (fw n ad (va_up mem j (.inr (ci, fs.set k v)))) H1 → va_S (Az sz) H0 H1 locs1 → W p l e R s m args below meth c H1 locs1 cells slots Q (F0 m (pc + 3) ls rest)) : W p l e R s m args below meth c H locs cells slots Q (F0 m pc ls (v :: .ref (ad j) :: rest)) :=
  va_put B.1 B.2.1 B.2.2.1 (uw_tb hin) ty0 hty hnm B.2.2.2.1 B.2.2.2.2 hP hD hS j (fw_atm hj hm) hc k hk (B.2.2.1 _ (tb_g hl rfl)) (fun x h => by rw [← hcl]; exact h) hfin (hty k hk) hn hfit hlen hdg (fun H1 locs1 hP1 _ hS1 => kk H1 locs1 (by rw [← fw_set hj]; exact hP1) hS1)
theorem f_putN (B : MB p s m args c cc own D cy) (hP : va_P D vcl (fw n ad mem) H) (hD : va_D (Az sz) (fw n ad mem)) (hS : va_S (Az sz) H0 H locs) (hj : j < n) (hm : mem j = .inr (ci, fs)) (hc : vcl[ci]? = some (C, T, N)) (hin : ∀ w ∈ u_ws C T N, w ∈ lw_tbl) (ty0 : Nat → FieldType) (hty : ∀ k, k < N → parseFieldDescriptor (T k).2.2.1 = some (ty0 k)) (hnm : ∀ a, a < N → ∀ b, b < N → a ≠ b → (T a).2.1 ≠ (T b).2.1) (k : Nat) (hk : k < N) (hl : Cond.fieldLinkNest own index C (T k).2.1 (T k).2.2.1 host ∈ lw_tbl) (hcl : (T k).1 = C) (hfin : (T k).2.2.2 = false) {v : Value} (hn : narrow (ty0 k) v = v) (hfit : fits (ty0 k) v = true) (hlen : k < fs.length) (hdg : decode cc pc = .ok (.putfield index, 3))
    (kk : ∀ (H1 : Heap) (locs1 : List Loc), va_P D vcl (fw n ad (va_up mem j (.inr (ci, fs.set k v)))) H1 → va_S (Az sz) H0 H1 locs1 → W p l e R s m args below meth c H1 locs1 cells slots Q (F0 m (pc + 3) ls rest)) : W p l e R s m args below meth c H locs cells slots Q (F0 m pc ls (v :: .ref (ad j) :: rest)) :=
  va_putN B.1 B.2.1 B.2.2.1 (uw_tb hin) ty0 hty hnm B.2.2.2.1 B.2.2.2.2 hP hD hS j (fw_atm hj hm) hc k hk (B.2.2.1 _ (tb hl rfl)) (fun x h => by rw [← hcl]; exact h) hfin (hty k hk) hn hfit hlen hdg (fun H1 locs1 hP1 _ hS1 => kk H1 locs1 (by rw [← fw_set hj]; exact hP1) hS1)
/-- a final field, in a constructor of its class -/
theorem f_putF (B : MB p s m args c cc own D cy) (hini : meth.name = "<init>") (hP : va_P D vcl (fw n ad mem) H) (hD : va_D (Az sz) (fw n ad mem)) (hS : va_S (Az sz) H0 H locs) (hj : j < n) (hm : mem j = .inr (ci, fs)) (hc : vcl[ci]? = some (own, T, N)) (hin : ∀ w ∈ u_ws own T N, w ∈ lw_tbl) (ty0 : Nat → FieldType) (hty : ∀ k, k < N → parseFieldDescriptor (T k).2.2.1 = some (ty0 k)) (hnm : ∀ a, a < N → ∀ b, b < N → a ≠ b → (T a).2.1 ≠ (T b).2.1) (k : Nat) (hk : k < N) (hl : Cond.fieldLink own index own (T k).2.1 (T k).2.2.1 ∈ lw_tbl) (hcl : (T k).1 = own) (hfin : (T k).2.2.2 = true) {v : Value} (hn : narrow (ty0 k) v = v) (hfit : fits (ty0 k) v = true) (hlen : k < fs.length) (hdg : decode cc pc = .ok (.putfield index, 3))
    (kk : ∀ (H1 : Heap) (locs1 : List Loc), va_P D vcl (fw n ad (va_up mem j (.inr (ci, fs.set k v)))) H1 → va_S (Az sz) H0 H1 locs1 → W p l e R s m args below meth c H1 locs1 cells slots Q (F0 m (pc + 3) ls rest)) : W p l e R s m args below meth c H locs cells slots Q (F0 m pc ls (v :: .ref (ad j) :: rest)) :=
  va_putF B.1 B.2.1 B.2.2.1 (uw_tb hin) ty0 hty hnm B.2.2.2.1 B.2.2.2.2 hP hD hS j (fw_atm hj hm) hc k hk (B.2.2.1 _ (tb_g hl rfl)) (fun x h => by rw [← hcl]; exact h) hfin hini hcl (hty k hk) hn hfit hlen hdg (fun H1 locs1 hP1 _ hS1 => kk H1 locs1 (by rw [← fw_set hj]; exact hP1) hS1)
theorem f_cald {N' : Nat} {f : Nat → Int32} (B : MB p s m args c cc own D cy) (hP : va_P D vcl (fw n ad mem) H) (hj : j < n) (hm : mem j = .inl (cy 0, N', .inl f)) {i : Int32} (hi : vp_in i N') (hdg : decode cc pc = .ok (.caload, 1)) (kk : W p l e R s m args below meth c H locs cells slots Q (F0 m (pc + 1) ls (.int (f i.toNatClampNeg) :: rest))) : W p l e R s m args below meth c H locs cells slots Q (F0 m pc ls (.int i :: .ref (ad j) :: rest)) :=
  va_cald B.1 B.2.1 B.2.2.2.2 hP j 0 (fw_atm hj hm) rfl hi hdg kk
theorem f_iald {N' : Nat} {f : Nat → Int32} (B : MB p s m args c cc own D cy) (hP : va_P D vcl (fw n ad mem) H) (hj : j < n) (hm : mem j = .inl (cy 1, N', .inl f)) {i : Int32} (hi : vp_in i N') (hdg : decode cc pc = .ok (.iaload, 1)) (kk : W p l e R s m args below meth c H locs cells slots Q (F0 m (pc + 1) ls (.int (f i.toNatClampNeg) :: rest))) : W p l e R s m args below meth c H locs cells slots Q (F0 m pc ls (.int i :: .ref (ad j) :: rest)) :=
  va_iald B.1 B.2.1 B.2.2.2.2 hP j 1 (fw_atm hj hm) rfl hi hdg kk
theorem f_lald {N' : Nat} {f : Nat → Int64} (B : MB p s m args c cc own D cy) (hP : va_P D vcl (fw n ad mem) H) (hj : j < n) (hm : mem j = .inl (cy 2, N', .inr (.inl f))) {i : Int32} (hi : vp_in i N') (hdg : decode cc pc = .ok (.laload, 1)) (kk : W p l e R s m args below meth c H locs cells slots Q (F0 m (pc + 1) ls (.long (f i.toNatClampNeg) :: rest))) : W p l e R s m args below meth c H locs cells slots Q (F0 m pc ls (.int i :: .ref (ad j) :: rest)) :=
  va_lald B.1 B.2.1 B.2.2.2.2 hP j 2 (fw_atm hj hm) rfl hi hdg kk
theorem f_cast {N' : Nat} {f : Nat → Int32} (B : MB p s m args c cc own D cy) (hP : va_P D vcl (fw n ad mem) H) (hD : va_D (Az sz) (fw n ad mem)) (hS : va_S (Az sz) H0 H locs) (hj : j < n) (hm : mem j = .inl (cy 0, N', .inl f)) {i x : Int32} (hi : vp_in i N') (hdg : decode cc pc = .ok (.castore, 1))
    (kk : ∀ (H1 : Heap) (locs1 : List Loc), va_P D vcl (fw n ad (va_up mem j (.inl (cy 0, N', .inl (upd f i.toNatClampNeg (vp_nar .char x)))))) H1 → va_S (Az sz) H0 H1 locs1 → W p l e R s m args below meth c H1 locs1 cells slots Q (F0 m (pc + 1) ls rest)) : W p l e R s m args below meth c H locs cells slots Q (F0 m pc ls (.int x :: .int i :: .ref (ad j) :: rest)) :=
  va_cast B.1 B.2.1 B.2.2.2.2 hP hD hS j 0 (fw_atm hj hm) rfl hi hdg (fun H1 locs1 hP1 _ hS1 => kk H1 locs1 (by rw [← fw_set hj]; exact hP1) hS1)
theorem f_iast {N' : Nat} {f : Nat → Int32} (B : MB p s m args c cc own D cy) (hP : va_P D vcl (fw n ad mem) H) (hD : va_D (Az sz) (fw n ad mem)) (hS : va_S (Az sz) H0 H locs) (hj : j < n) (hm : mem j = .inl (cy 1, N', .inl f)) {i x : Int32} (hi : vp_in i N') (hdg : decode cc pc = .ok (.iastore, 1))
    (kk : ∀ (H1 : Heap) (locs1 : List Loc), va_P D vcl (fw n ad (va_up mem j (.inl (cy 1, N', .inl (upd f i.toNatClampNeg x))))) H1 → va_S (Az sz) H0 H1 locs1 → W p l e R s m args below meth c H1 locs1 cells slots Q (F0 m (pc + 1) ls rest)) : W p l e R s m args below meth c H locs cells slots Q (F0 m pc ls (.int x :: .int i :: .ref (ad j) :: rest)) :=
  va_iast B.1 B.2.1 B.2.2.2.2 hP hD hS j 1 (fw_atm hj hm) rfl hi hdg (fun H1 locs1 hP1 _ hS1 => kk H1 locs1 (by rw [← fw_set hj]; exact hP1) hS1)
theorem f_last {N' : Nat} {f : Nat → Int64} (B : MB p s m args c cc own D cy) (hP : va_P D vcl (fw n ad mem) H) (hD : va_D (Az sz) (fw n ad mem)) (hS : va_S (Az sz) H0 H locs) (hj : j < n) (hm : mem j = .inl (cy 2, N', .inr (.inl f))) {i : Int32} {x : Int64} (hi : vp_in i N') (hdg : decode cc pc = .ok (.lastore, 1))
    (kk : ∀ (H1 : Heap) (locs1 : List Loc), va_P D vcl (fw n ad (va_up mem j (.inl (cy 2, N', .inr (.inl (vp_updL f i.toNatClampNeg x)))))) H1 → va_S (Az sz) H0 H1 locs1 → W p l e R s m args below meth c H1 locs1 cells slots Q (F0 m (pc + 1) ls rest)) : W p l e R s m args below meth c H locs cells slots Q (F0 m pc ls (.long x :: .int i :: .ref (ad j) :: rest)) :=
  va_last B.1 B.2.1 B.2.2.2.2 hP hD hS j 2 (fw_atm hj hm) rfl hi hdg (fun H1 locs1 hP1 _ hS1 => kk H1 locs1 (by rw [← fw_set hj]; exact hP1) hS1)
theorem f_alen {t0 : Nat} {ty : FieldType} {cA : ClassId} {x : vp_A} (B : MB p s m args c cc own D cy) (hP : va_P D vcl (fw n ad mem) H) (hj : j < n) (hm : mem j = .inl (cA, x)) (ht : (ty6 cy)[t0]? = some (cA, ty)) {v : Int32} (hv : Int32.ofNat x.1 = v) (hdg : decode cc pc = .ok (.arraylength, 1)) (kk : W p l e R s m args below meth c H locs cells slots Q (F0 m (pc + 1) ls (.int v :: rest))) : W p l e R s m args below meth c H locs cells slots Q (F0 m pc ls (.ref (ad j) :: rest)) :=
  va_alen B.1 B.2.1 B.2.2.2.2 hP j t0 (fw_atm hj hm) ht hv hdg kk
end RW
section RC
variable {p : Program} {l : Launch} {e : Env} {R : Room} {s : State} {m : MethodId} {args : Array Value} {below : List Frame} {meth : Method} {c : Code} {H : Heap} {locs : List Loc} {cells slots : Nat} {Q : State → Prop}
variable {cc : ByteArray} {pc nL : Nat} {ls : Array Slot} {rest : List Value} {D : va_G} {cy : Nat → ClassId} {own C host : String} {T : u_T} {N ci index sz n j maxL na : Nat} {ad : Nat → Nat} {mem : Nat → va_E} {fs As : List Value} {y : MethodName} {bytes : ByteArray} {ret : Option FieldType} {rm : Room}
/-- a method's own int answer and new world -/
abbrev MI (l : Launch) (D : va_G) (cy : Nat → ClassId) (sz n : Nat) (ad : Nat → Nat) (y : MethodName) (bytes : ByteArray) (maxL : Nat) (ret : Option FieldType) (rm : Room) (mem : Nat → va_E) (av : List Value) (post : Int32 → (Nat → va_E) → Prop) : Prop :=
  Met l y (.code y bytes maxL ret :: tg) rm (va_Pc av (PR D cy sz n ad mem)) (va_Qi post (PP D n ad) (Az sz)) 0 0 (Az sz)
abbrev MV (l : Launch) (D : va_G) (cy : Nat → ClassId) (sz n : Nat) (ad : Nat → Nat) (y : MethodName) (bytes : ByteArray) (maxL : Nat) (rm : Room) (mem : Nat → va_E) (av : List Value) (post : (Nat → va_E) → Prop) : Prop :=
  Met l y (.code y bytes maxL none :: tg) rm (va_Pc av (PR D cy sz n ad mem)) (va_Qv post (PP D n ad) (Az sz)) 0 0 (Az sz)
theorem f_preV (B : MB p s m args c cc own D cy) (E : EV D cy sz s) (hP : va_P D vcl (fw n ad mem) H) (hD : va_D (Az sz) (fw n ad mem)) (hS : va_S (Az sz) s.heap H locs) (hj : j < n) (hm : mem j = .inr (ci, fs)) (hc : vcl[ci]? = some (C, T, N)) : PreV s H C (ad j) (va_Pc (.ref (ad j) :: As) (PR D cy sz n ad mem)) As :=
  ⟨PR.blind, va_recv B.2.2.2.2 hP hc (fw_atm hj hm), fun U hU hW => ⟨rfl, E.at hS hU hW, by rw [hU]; exact hP, hD⟩⟩
theorem f_preS (E : EV D cy sz s) (hP : va_P D vcl (fw n ad mem) H) (hD : va_D (Az sz) (fw n ad mem)) (hS : va_S (Az sz) s.heap H locs) : PreS s H (va_Pc As (PR D cy sz n ad mem)) As :=
  ⟨PR.blind, fun U hU hW => ⟨rfl, E.at hS hU hW, by rw [hU]; exact hP, hD⟩⟩
theorem f_callVi {post : Int32 → (Nat → va_E) → Prop} (B : MB p s m args c cc own D cy) (hml : c.maxLocals = nL) (E : EV D cy sz s) (hP : va_P D vcl (fw n ad mem) H) (hD : va_D (Az sz) (fw n ad mem)) (hS : va_S (Az sz) s.heap H locs) (hj : j < n) (hm : mem j = .inr (ci, fs)) (hc : vcl[ci]? = some (C, T, N))
    (M : MI l D cy sz n ad y bytes maxL ret rm mem (.ref (ad j) :: As) post) (h1 : Cond.methodLink own index y ∈ lw_tbl) (h2 : Cond.instanceMethod y ∈ lw_tbl) (h3 : Cond.selects C y y ∈ lw_tbl) (h4 : Cond.initialized C ∈ lw_tbl) (h5 : Cond.code y bytes maxL ret ∈ lw_tbl)
    (hd : y.cls = C ∧ y.cls ≠ "java/lang/invoke/MethodHandle" ∧ y.cls ≠ "java/lang/invoke/VarHandle" ∧ (parseMethodDescriptor y.desc).map (fun d => d.parameters.length) = some na) (hrm : rm.cells = 0 ∧ rm.slots = 0) (hR : rm.frames + 1 ≤ R.frames ∧ 8 + (maxL + 11) + rm.locals ≤ R.locals) (hn : As.length = na) (hsz : ls.size = nL) (hw : (rest.map fun v => v.category).sum ≤ 8) (hdg : decode cc pc = .ok (.invokevirtual index, 3)) (hf : cells ≤ R.cells ∧ slots ≤ R.slots)
    (kk : ∀ (r : Int32) (mem' : Nat → va_E) (H1 : Heap) (locs1 : List Loc), post r mem' → va_P D vcl (fw n ad mem') H1 → va_S (Az sz) s.heap H1 locs1 → W p l e R s m args below meth c H1 locs1 cells slots Q (F0 m (pc + 3) ls (.int r :: rest))) :
    W p l e R s m args below meth c H locs cells slots Q (F0 m pc ls (As.reverse ++ .ref (ad j) :: rest)) :=
  va_calli (va_runV (As := As) (rest := rest) ⟨B.1, B.2.1, hml, B.2.2.2.1, B.2.2.1⟩ M (cwV na B.2.2.1 (gdV h1 h2 h3 h4 h5) rfl hrm.1 hrm.2 hd hR) (f_preV B E hP hD hS hj hm hc) rfl hn hsz rfl (lv_room hw) hdg hf) hS (fun q _ h => h) (fun q h => h)
    (fun r u t H1 locs1 ht _ hp hb _ _ hS1 => kk r u H1 locs1 hp (by rw [← ht]; exact hb) hS1)
theorem f_callVv {post : (Nat → va_E) → Prop} (B : MB p s m args c cc own D cy) (hml : c.maxLocals = nL) (E : EV D cy sz s) (hP : va_P D vcl (fw n ad mem) H) (hD : va_D (Az sz) (fw n ad mem)) (hS : va_S (Az sz) s.heap H locs) (hj : j < n) (hm : mem j = .inr (ci, fs)) (hc : vcl[ci]? = some (C, T, N))
    (M : MV l D cy sz n ad y bytes maxL rm mem (.ref (ad j) :: As) post) (h1 : Cond.methodLink own index y ∈ lw_tbl) (h2 : Cond.instanceMethod y ∈ lw_tbl) (h3 : Cond.selects C y y ∈ lw_tbl) (h4 : Cond.initialized C ∈ lw_tbl) (h5 : Cond.code y bytes maxL none ∈ lw_tbl)
    (hd : y.cls = C ∧ y.cls ≠ "java/lang/invoke/MethodHandle" ∧ y.cls ≠ "java/lang/invoke/VarHandle" ∧ (parseMethodDescriptor y.desc).map (fun d => d.parameters.length) = some na) (hrm : rm.cells = 0 ∧ rm.slots = 0) (hR : rm.frames + 1 ≤ R.frames ∧ 8 + (maxL + 11) + rm.locals ≤ R.locals) (hn : As.length = na) (hsz : ls.size = nL) (hw : (rest.map fun v => v.category).sum ≤ 8) (hdg : decode cc pc = .ok (.invokevirtual index, 3)) (hf : cells ≤ R.cells ∧ slots ≤ R.slots)
    (kk : ∀ (mem' : Nat → va_E) (H1 : Heap) (locs1 : List Loc), post mem' → va_P D vcl (fw n ad mem') H1 → va_S (Az sz) s.heap H1 locs1 → W p l e R s m args below meth c H1 locs1 cells slots Q (F0 m (pc + 3) ls rest)) :
    W p l e R s m args below meth c H locs cells slots Q (F0 m pc ls (As.reverse ++ .ref (ad j) :: rest)) :=
  va_callv (va_runV (As := As) (rest := rest) ⟨B.1, B.2.1, hml, B.2.2.2.1, B.2.2.1⟩ M (cwV na B.2.2.1 (gdV h1 h2 h3 h4 h5) rfl hrm.1 hrm.2 hd hR) (f_preV B E hP hD hS hj hm hc) rfl hn hsz rfl (lv_room hw) hdg hf) hS (fun q _ h => h) (fun q h => h)
    (fun u t H1 locs1 ht _ hp hb _ _ hS1 => kk u H1 locs1 hp (by rw [← ht]; exact hb) hS1)
/-- a static method that looks at no cell -/
abbrev MS (l : Launch) (y : MethodName) (bytes : ByteArray) (maxL : Nat) (ret : Option FieldType) (rm : Room) (av : List Value) (post : Int32 → Prop) : Prop :=
  Met l y (.code y bytes maxL ret :: tg) rm (va_Pc av NW) (vp_Si post) 0 0 (fun _ => False)
theorem f_callSi {post : Int32 → Prop} {K : Prop} (B : p.tables.exec = Jvm.exec ∧ c.code = cc ∧ (∀ w ∈ TB, w.before args s = true) ∧ s.vm.findClass own = some m.cls ∧ K) (hml : c.maxLocals = nL) (hN : NW s)
    (M : MS l y bytes maxL ret rm As post) (h1 : Cond.methodLink own index y ∈ lw_tbl) (h2 : Cond.static y ∈ lw_tbl) (h4 : Cond.initialized own ∈ lw_tbl) (h5 : Cond.code y bytes maxL ret ∈ lw_tbl)
    (hd : y.cls = own ∧ y.cls ≠ "java/lang/invoke/MethodHandle" ∧ y.cls ≠ "java/lang/invoke/VarHandle" ∧ (parseMethodDescriptor y.desc).map (fun d => d.parameters.length) = some na) (hrm : rm.cells = 0 ∧ rm.slots = 0) (hR : rm.frames + 1 ≤ R.frames ∧ 8 + (maxL + 11) + rm.locals ≤ R.locals) (hn : As.length = na) (hsz : ls.size = nL) (hw : (rest.map fun v => v.category).sum ≤ 8) (hdg : decode cc pc = .ok (.invokestatic index, 3)) (hf : cells ≤ R.cells ∧ slots ≤ R.slots)
    (kk : ∀ r : Int32, post r → W p l e R s m args below meth c H locs cells slots Q (F0 m (pc + 3) ls (.int r :: rest))) :
    W p l e R s m args below meth c H locs cells slots Q (F0 m pc ls (As.reverse ++ rest)) := by
  have hr := va_runS (H := H) (locs := locs) (cells := cells) (slots := slots) (g := F0 m pc ls (As.reverse ++ rest)) (As := As) (rest := rest) (e := e) (below := below) (meth := meth) ⟨B.1, B.2.1, hml, B.2.2.2.1, B.2.2.1⟩ M (cwS na B.2.2.1 (gdS h1 h2 h4 h5) rfl hrm.1 hrm.2 hd hR) ⟨fun a U g mk q => ⟨q.1, q.2.warm (s := U) (U := U.calling g mk a) (State.WarmedH.refl U)⟩, fun U hU hW => ⟨rfl, hN.warm hW⟩⟩ rfl hn hsz rfl (lv_room hw) hdg hf
  intro X hX Y
  obtain ⟨v, st₀, t, T', L, h0, X', hL, e1, -, ⟨r, hv, hp, hh⟩, st⟩ := hr X hX Y
  cases hv
  obtain ⟨t2, a1, b1⟩ := kk r hp T' (by rw [e1, hh, h0]) (Stand.forget X' (fun q h => (hL q h).elim))
  exact ⟨t2, st t2 a1, b1⟩
theorem f_callSNi {post : Int32 → Prop} {K : Prop} (B : p.tables.exec = Jvm.exec ∧ c.code = cc ∧ (∀ w ∈ TB, w.before args s = true) ∧ s.vm.findClass own = some m.cls ∧ K) (hml : c.maxLocals = nL) (hN : NW s)
    (M : MS l y bytes maxL ret rm As post) (h1 : Cond.methodLinkNest own index y host ∈ lw_tbl) (h2 : Cond.static y ∈ lw_tbl) (h4 : Cond.initialized y.cls ∈ lw_tbl) (h5 : Cond.code y bytes maxL ret ∈ lw_tbl)
    (hd : y.cls ≠ "java/lang/invoke/MethodHandle" ∧ y.cls ≠ "java/lang/invoke/VarHandle" ∧ (parseMethodDescriptor y.desc).map (fun d => d.parameters.length) = some na) (hrm : rm.cells = 0 ∧ rm.slots = 0) (hR : rm.frames + 1 ≤ R.frames ∧ 8 + (maxL + 11) + rm.locals ≤ R.locals) (hn : As.length = na) (hsz : ls.size = nL) (hw : (rest.map fun v => v.category).sum ≤ 8) (hdg : decode cc pc = .ok (.invokestatic index, 3)) (hf : cells ≤ R.cells ∧ slots ≤ R.slots)
    (kk : ∀ r : Int32, post r → W p l e R s m args below meth c H locs cells slots Q (F0 m (pc + 3) ls (.int r :: rest))) :
    W p l e R s m args below meth c H locs cells slots Q (F0 m pc ls (As.reverse ++ rest)) := by
  have hr := va_runSN (H := H) (locs := locs) (cells := cells) (slots := slots) (g := F0 m pc ls (As.reverse ++ rest)) (As := As) (rest := rest) (e := e) (below := below) (meth := meth) ⟨B.1, B.2.1, hml, B.2.2.2.1, B.2.2.1⟩ M ⟨va_cnB na B.2.2.1 (gdC h5 rfl) rfl hrm.1 hrm.2 (va_Nw.of rfl (B.2.2.1 _ (tb h1 rfl))) (B.2.2.1 _ (tb_g h4 rfl)) hd hR, B.2.2.1 _ (tb_g h2 rfl), trivial⟩ ⟨fun a U g mk q => ⟨q.1, q.2.warm (s := U) (U := U.calling g mk a) (State.WarmedH.refl U)⟩, fun U hU hW => ⟨rfl, hN.warm hW⟩⟩ rfl hn hsz rfl (lv_room hw) hdg hf
  intro X hX Y
  obtain ⟨v, st₀, t, T', L, h0, X', hL, e1, -, ⟨r, hv, hp, hh⟩, st⟩ := hr X hX Y
  cases hv
  obtain ⟨t2, a1, b1⟩ := kk r hp T' (by rw [e1, hh, h0]) (Stand.forget X' (fun q h => (hL q h).elim))
  exact ⟨t2, st t2 a1, b1⟩
end RC
end
section
/-! methods that throw, in the flat world -/
abbrev cIA : String := "java/lang/IllegalArgumentException"
abbrev cIS : String := "java/lang/IllegalStateException"
abbrev cNS : String := "java/util/NoSuchElementException"
abbrev cIO : String := "java/lang/IndexOutOfBoundsException"
abbrev xnm : List String := ["java/lang/RuntimeException", "java/lang/Exception"]
theorem at_Ab_IA : ∀ w ∈ vx_at0 "AbnfChart" 54 cIA xnm, w ∈ TB ∧ vx_ot w = true := by decide +kernel
theorem at_Ab_IS : ∀ w ∈ vx_at0 "AbnfChart" 60 cIS xnm, w ∈ TB ∧ vx_ot w = true := by decide +kernel
theorem at_Ab_NS : ∀ w ∈ vx_at0 "AbnfChart" 120 cNS xnm, w ∈ TB ∧ vx_ot w = true := by decide +kernel
theorem at_Ab_IO : ∀ w ∈ vx_at0 "AbnfChart" 117 cIO xnm, w ∈ TB ∧ vx_ot w = true := by decide +kernel
theorem at_Rd_IA : ∀ w ∈ vx_at0 "AbnfChart$Reader" 203 cIA xnm, w ∈ TB ∧ vx_ot w = true := by decide +kernel
theorem at_Rd_IS : ∀ w ∈ vx_at0 "AbnfChart$Reader" 206 cIS xnm, w ∈ TB ∧ vx_ot w = true := by decide +kernel
theorem xnm_fit : ∀ n ∈ xnm, Bundle.fit n = true := by decide +kernel
section TW
variable {p : Program} {l : Launch} {e : Env} {R : Room} {s : State} {m : MethodId} {args : Array Value} {below : List Frame} {meth : Method} {c : Code} {H : Heap} {locs : List Loc} {cells slots : Nat} {Q : State → Prop}
variable {cc : ByteArray} {pc nL : Nat} {ls : Array Slot} {rest : List Value} {D : va_G} {cy : Nat → ClassId} {own C host : String} {T : u_T} {N ci index sz n j maxL na ik ic : Nat} {ad : Nat → Nat} {mem : Nat → va_E} {fs As : List Value} {y : MethodName} {bytes : ByteArray} {ret : Option FieldType} {rm : Room}
/-- what a thrown exception's class and the world behind it are -/
abbrev XQ (D : va_G) (sz n : Nat) (ad : Nat → Nat) (px : String → (Nat → va_E) → Prop) : String → State → State → Prop := vx_X (fun _ : Nat → va_E => True) (fun E u t => px E u ∧ PP D n ad u t) (Az sz)
abbrev MXi (l : Launch) (D : va_G) (cy : Nat → ClassId) (sz n : Nat) (ad : Nat → Nat) (y : MethodName) (bytes : ByteArray) (maxL : Nat) (ret : Option FieldType) (rm : Room) (mem : Nat → va_E) (av : List Value) (post : Int32 → (Nat → va_E) → Prop) (px : String → (Nat → va_E) → Prop) : Prop :=
  vx_Met l y (.code y bytes maxL ret :: tg) rm (va_Pc av (PR D cy sz n ad mem)) (va_Qi post (PP D n ad) (Az sz)) (XQ D sz n ad px) 1 6 (Az sz)
abbrev MXv (l : Launch) (D : va_G) (cy : Nat → ClassId) (sz n : Nat) (ad : Nat → Nat) (y : MethodName) (bytes : ByteArray) (maxL : Nat) (rm : Room) (mem : Nat → va_E) (av : List Value) (post : (Nat → va_E) → Prop) (px : String → (Nat → va_E) → Prop) : Prop :=
  vx_Met l y (.code y bytes maxL none :: tg) rm (va_Pc av (PR D cy sz n ad mem)) (va_Qv post (PP D n ad) (Az sz)) (XQ D sz n ad px) 1 6 (Az sz)
/-- throw new E() in a method without handlers -/
theorem f_throw {Qc : Array Value → State → Outcome → State → Prop} {px : String → (Nat → va_E) → Prop} {cls : String} (hlt : l.stackTraces = false) (B : MB p s m args c cc own D cy) (hml : c.maxLocals = nL) (hlocks : meth.locks = false) (hno : ∀ x ∈ c.exceptionTable.toList, False) (E : EV D cy sz s) (hP : va_P D vcl (fw n ad mem) H) (hS : va_S (Az sz) s.heap H locs)
    (hcls : Bundle.fit cls = true) (hk : Cond.classLink own ik cls ∈ lw_tbl) (hini : Cond.initialized cls ∈ lw_tbl) (hat : ∀ w ∈ vx_at0 own ic cls xnm, w ∈ TB ∧ vx_ot w = true) (hsz : ls.size = nL)
    (d0 : decode cc pc = .ok (.new ik, 3)) (d3 : decode cc (pc + 3) = .ok (.dup, 1)) (d4 : decode cc (pc + 4) = .ok (.invokespecial ic, 3)) (d7 : decode cc (pc + 7) = .ok (.athrow, 1))
    (hR : 5 < R.frames ∧ (rest.map fun v => v.category).sum + 81 ≤ R.locals ∧ cells + 1 ≤ R.cells ∧ slots + 6 ≤ R.slots) (hc : cells + 1 ≤ 1 ∧ slots + 6 ≤ 6) (hpx : px cls mem) :
    W p l e R s m args below meth c H locs cells slots (vx_MQ below Qc (XQ D sz n ad px) args s 1 6 (Az sz)) (F0 m pc ls rest) :=
  vx_throw0 B.1 B.2.1 hlt B.2.2.2.1 hcls xnm_fit (B.2.2.1 _ (tb_g hk rfl)) (B.2.2.1 _ (tb_g hini rfl)) (fun w hw => B.2.2.1 w (hat w hw).1)
    (fun w hw => by
      rcases List.mem_cons.mp hw with rfl | hw
      · rfl
      · rcases List.mem_cons.mp hw with rfl | hw
        · rfl
        · exact (hat w hw).2) E.2.2.1 E.2.2.2.1 hS (hsz.trans hml.symm) d0 d3 d4 d7 (fun x hx => (hno x hx).elim) hR.1 hR.2.1 hR.2.2.1 hR.2.2.2 hlocks
    (fun t hvm h1 h2 => ⟨mem, trivial, ⟨hpx, hP.kept (fun k q hq => h2 _ (hP k q hq).lt)⟩, Nat.le_trans hS.1 h1, fun q hq hz => by rw [h2 q (Nat.lt_of_lt_of_le hq hS.1)]; exact hS.2.1 q hq hz⟩) hS.2.2 hc.1 hc.2
/-- an exception goes on to the caller -/
theorem f_out {Qc : Array Value → State → Outcome → State → Prop} {px : String → (Nat → va_E) → Prop} {X : String} {ce : Cell} {q : Addr} (hlocks : meth.locks = false) (hno : ∀ x ∈ c.exceptionTable.toList, False) (hP : va_P D vcl (fw n ad mem) H) (hS : va_S (Az sz) s.heap H locs) (hcell : H[q]? = some ce) (hv : ce.vm = .none) (hcl : s.vm.findClass X = some ce.cls) (hc : cells ≤ 1 ∧ slots ≤ 6) (hpx : px X mem) :
    vx_W p l e R s m args below meth c H locs cells slots (vx_MQ below Qc (XQ D sz n ad px) args s 1 6 (Az sz)) (F0 m pc ls rest) q :=
  vx_out (fun x hx => (hno x hx).elim) hlocks hcell hv hcl (fun t ht _ => ⟨mem, trivial, ⟨hpx, by show va_P _ _ _ t.heap; rw [ht]; exact hP⟩, hS.F ht⟩) hS.2.2 hc.1 hc.2
theorem f_callVXi {post : Int32 → (Nat → va_E) → Prop} {px : String → (Nat → va_E) → Prop} (B : MB p s m args c cc own D cy) (hml : c.maxLocals = nL) (E : EV D cy sz s) (hP : va_P D vcl (fw n ad mem) H) (hD : va_D (Az sz) (fw n ad mem)) (hS : va_S (Az sz) s.heap H locs) (hj : j < n) (hm : mem j = .inr (ci, fs)) (hc : vcl[ci]? = some (C, T, N))
    (M : MXi l D cy sz n ad y bytes maxL ret rm mem (.ref (ad j) :: As) post px) (h1 : Cond.methodLink own index y ∈ lw_tbl) (h2 : Cond.instanceMethod y ∈ lw_tbl) (h3 : Cond.selects C y y ∈ lw_tbl) (h4 : Cond.initialized C ∈ lw_tbl) (h5 : Cond.code y bytes maxL ret ∈ lw_tbl)
    (hd : y.cls = C ∧ y.cls ≠ "java/lang/invoke/MethodHandle" ∧ y.cls ≠ "java/lang/invoke/VarHandle" ∧ (parseMethodDescriptor y.desc).map (fun d => d.parameters.length) = some na) (hrm : rm.cells = 1 ∧ rm.slots = 6) (hR : rm.frames + 1 ≤ R.frames ∧ 8 + (maxL + 11) + rm.locals ≤ R.locals) (hn : As.length = na) (hsz : ls.size = nL) (hw : (rest.map fun v => v.category).sum ≤ 8) (hdg : decode cc pc = .ok (.invokevirtual index, 3)) (hf : cells + 1 ≤ R.cells ∧ slots + 6 ≤ R.slots)
    (kx : ∀ (X : String) (ce : Cell) (q9 : Addr) (mem' : Nat → va_E) (H1 : Heap) (locs1 : List Loc), px X mem' → va_P D vcl (fw n ad mem') H1 → va_S (Az sz) s.heap H1 locs1 → H1[q9]? = some ce → ce.vm = .none → s.vm.findClass X = some ce.cls → vx_W p l e R s m args below meth c H1 locs1 (cells + 1) (slots + 6) Q (F0 m pc ls rest) q9)
    (kk : ∀ (r : Int32) (mem' : Nat → va_E) (H1 : Heap) (locs1 : List Loc), post r mem' → va_P D vcl (fw n ad mem') H1 → va_S (Az sz) s.heap H1 locs1 → W p l e R s m args below meth c H1 locs1 (cells + 1) (slots + 6) Q (F0 m (pc + 3) ls (.int r :: rest))) :
    W p l e R s m args below meth c H locs cells slots Q (F0 m pc ls (As.reverse ++ .ref (ad j) :: rest)) :=
  vx_calli (vx_runV (As := As) (rest := rest) ⟨B.1, B.2.1, hml, B.2.2.2.1, B.2.2.1⟩ M (cwV na B.2.2.1 (gdV h1 h2 h3 h4 h5) rfl hrm.1 hrm.2 hd hR) (f_preV B E hP hD hS hj hm hc) rfl hn hsz rfl (lv_room hw) hdg hf) hS (fun q _ h => h) (fun q h => h) (fun q _ h => h)
    (fun X ce q9 u t H1 locs1 ht _ _ hb _ _ hS1 g1 g2 g3 => kx X ce q9 u H1 locs1 hb.1 (by rw [← ht]; exact hb.2) hS1 g1 g2 g3)
    (fun r u t H1 locs1 ht _ hp hb _ _ hS1 => kk r u H1 locs1 hp (by rw [← ht]; exact hb) hS1)
theorem f_callVXv {post : (Nat → va_E) → Prop} {px : String → (Nat → va_E) → Prop} (B : MB p s m args c cc own D cy) (hml : c.maxLocals = nL) (E : EV D cy sz s) (hP : va_P D vcl (fw n ad mem) H) (hD : va_D (Az sz) (fw n ad mem)) (hS : va_S (Az sz) s.heap H locs) (hj : j < n) (hm : mem j = .inr (ci, fs)) (hc : vcl[ci]? = some (C, T, N))
    (M : MXv l D cy sz n ad y bytes maxL rm mem (.ref (ad j) :: As) post px) (h1 : Cond.methodLink own index y ∈ lw_tbl) (h2 : Cond.instanceMethod y ∈ lw_tbl) (h3 : Cond.selects C y y ∈ lw_tbl) (h4 : Cond.initialized C ∈ lw_tbl) (h5 : Cond.code y bytes maxL none ∈ lw_tbl)
    (hd : y.cls = C ∧ y.cls ≠ "java/lang/invoke/MethodHandle" ∧ y.cls ≠ "java/lang/invoke/VarHandle" ∧ (parseMethodDescriptor y.desc).map (fun d => d.parameters.length) = some na) (hrm : rm.cells = 1 ∧ rm.slots = 6) (hR : rm.frames + 1 ≤ R.frames ∧ 8 + (maxL + 11) + rm.locals ≤ R.locals) (hn : As.length = na) (hsz : ls.size = nL) (hw : (rest.map fun v => v.category).sum ≤ 8) (hdg : decode cc pc = .ok (.invokevirtual index, 3)) (hf : cells + 1 ≤ R.cells ∧ slots + 6 ≤ R.slots)
    (kx : ∀ (X : String) (ce : Cell) (q9 : Addr) (mem' : Nat → va_E) (H1 : Heap) (locs1 : List Loc), px X mem' → va_P D vcl (fw n ad mem') H1 → va_S (Az sz) s.heap H1 locs1 → H1[q9]? = some ce → ce.vm = .none → s.vm.findClass X = some ce.cls → vx_W p l e R s m args below meth c H1 locs1 (cells + 1) (slots + 6) Q (F0 m pc ls rest) q9)
    (kk : ∀ (mem' : Nat → va_E) (H1 : Heap) (locs1 : List Loc), post mem' → va_P D vcl (fw n ad mem') H1 → va_S (Az sz) s.heap H1 locs1 → W p l e R s m args below meth c H1 locs1 (cells + 1) (slots + 6) Q (F0 m (pc + 3) ls rest)) :
    W p l e R s m args below meth c H locs cells slots Q (F0 m pc ls (As.reverse ++ .ref (ad j) :: rest)) :=
  vx_callv (vx_runV (As := As) (rest := rest) ⟨B.1, B.2.1, hml, B.2.2.2.1, B.2.2.1⟩ M (cwV na B.2.2.1 (gdV h1 h2 h3 h4 h5) rfl hrm.1 hrm.2 hd hR) (f_preV B E hP hD hS hj hm hc) rfl hn hsz rfl (lv_room hw) hdg hf) hS (fun q _ h => h) (fun q h => h) (fun q _ h => h)
    (fun X ce q9 u t H1 locs1 ht _ _ hb _ _ hS1 g1 g2 g3 => kx X ce q9 u H1 locs1 hb.1 (by rw [← ht]; exact hb.2) hS1 g1 g2 g3)
    (fun u t H1 locs1 ht _ hp hb _ _ hS1 => kk u H1 locs1 hp (by rw [← ht]; exact hb) hS1)
end TW
end
section
theorem sel_Rd_fullLineFrom : Cond.selects "AbnfChart$Reader" y_Rd_fullLineFrom y_Rd_fullLineFrom ∈ lw_tbl := List.mem_append_left _ (by decide +kernel)
theorem sel_Rd_readRule : Cond.selects "AbnfChart$Reader" y_Rd_readRule y_Rd_readRule ∈ lw_tbl := List.mem_append_left _ (by decide +kernel)
theorem sel_Rd_readName : Cond.selects "AbnfChart$Reader" y_Rd_readName y_Rd_readName ∈ lw_tbl := List.mem_append_left _ (by decide +kernel)
theorem sel_Rd_peek : Cond.selects "AbnfChart$Reader" y_Rd_peek y_Rd_peek ∈ lw_tbl := List.mem_append_left _ (by decide +kernel)
theorem sel_Rd_needReadable : Cond.selects "AbnfChart$Reader" y_Rd_needReadable y_Rd_needReadable ∈ lw_tbl := List.mem_append_left _ (by decide +kernel)
theorem sel_Rd_needRoom : Cond.selects "AbnfChart$Reader" y_Rd_needRoom y_Rd_needRoom ∈ lw_tbl := List.mem_append_left _ (by decide +kernel)
theorem sel_Rd_readGap : Cond.selects "AbnfChart$Reader" y_Rd_readGap y_Rd_readGap ∈ lw_tbl := List.mem_append_left _ (by decide +kernel)
theorem sel_Rd_readAlternatives : Cond.selects "AbnfChart$Reader" y_Rd_readAlternatives y_Rd_readAlternatives ∈ lw_tbl := List.mem_append_left _ (by decide +kernel)
theorem sel_Rd_beginRow : Cond.selects "AbnfChart$Reader" y_Rd_beginRow y_Rd_beginRow ∈ lw_tbl := List.mem_append_left _ (by decide +kernel)
theorem sel_Rd_addElement : Cond.selects "AbnfChart$Reader" y_Rd_addElement y_Rd_addElement ∈ lw_tbl := List.mem_append_left _ (by decide +kernel)
theorem sel_Rd_readSequence : Cond.selects "AbnfChart$Reader" y_Rd_readSequence y_Rd_readSequence ∈ lw_tbl := List.mem_append_left _ (by decide +kernel)
theorem sel_Rd_readRepetition : Cond.selects "AbnfChart$Reader" y_Rd_readRepetition y_Rd_readRepetition ∈ lw_tbl := List.mem_append_left _ (by decide +kernel)
theorem sel_Rd_readElement : Cond.selects "AbnfChart$Reader" y_Rd_readElement y_Rd_readElement ∈ lw_tbl := List.mem_append_left _ (by decide +kernel)
theorem sel_Rd_readBracket : Cond.selects "AbnfChart$Reader" y_Rd_readBracket y_Rd_readBracket ∈ lw_tbl := List.mem_append_left _ (by decide +kernel)
theorem sel_Rd_readOption : Cond.selects "AbnfChart$Reader" y_Rd_readOption y_Rd_readOption ∈ lw_tbl := List.mem_append_left _ (by decide +kernel)
theorem sel_Rd_readString : Cond.selects "AbnfChart$Reader" y_Rd_readString y_Rd_readString ∈ lw_tbl := List.mem_append_left _ (by decide +kernel)
theorem sel_Rd_readExactString : Cond.selects "AbnfChart$Reader" y_Rd_readExactString y_Rd_readExactString ∈ lw_tbl := List.mem_append_left _ (by decide +kernel)
theorem sel_Rd_readValue : Cond.selects "AbnfChart$Reader" y_Rd_readValue y_Rd_readValue ∈ lw_tbl := List.mem_append_left _ (by decide +kernel)
theorem sel_Rd_readNumber : Cond.selects "AbnfChart$Reader" y_Rd_readNumber y_Rd_readNumber ∈ lw_tbl := List.mem_append_left _ (by decide +kernel)
theorem sel_Rd_readAskedName : Cond.selects "AbnfChart$Reader" y_Rd_readAskedName y_Rd_readAskedName ∈ lw_tbl := List.mem_append_left _ (by decide +kernel)
theorem sel_Rd_readRepeat : Cond.selects "AbnfChart$Reader" y_Rd_readRepeat y_Rd_readRepeat ∈ lw_tbl := List.mem_append_left _ (by decide +kernel)
theorem sel_Rd_readDigit : Cond.selects "AbnfChart$Reader" y_Rd_readDigit y_Rd_readDigit ∈ lw_tbl := List.mem_append_left _ (by decide +kernel)
theorem sel_Ab_checkRule : Cond.selects "AbnfChart" y_Ab_checkRule y_Ab_checkRule ∈ lw_tbl := List.mem_append_left _ (by decide +kernel)
theorem sel_Ab_checkPiece : Cond.selects "AbnfChart" y_Ab_checkPiece y_Ab_checkPiece ∈ lw_tbl := List.mem_append_left _ (by decide +kernel)
theorem sel_Ct_fill : Cond.selects "AbnfChart$Chart" y_Ct_fill y_Ct_fill ∈ lw_tbl := List.mem_append_left _ (by decide +kernel)
theorem sel_Ct_endsOfCharacters : Cond.selects "AbnfChart$Chart" y_Ct_endsOfCharacters y_Ct_endsOfCharacters ∈ lw_tbl := List.mem_append_left _ (by decide +kernel)
theorem sel_Ct_isStringAt : Cond.selects "AbnfChart$Chart" y_Ct_isStringAt y_Ct_isStringAt ∈ lw_tbl := List.mem_append_left _ (by decide +kernel)
theorem sel_Ct_findMore : Cond.selects "AbnfChart$Chart" y_Ct_findMore y_Ct_findMore ∈ lw_tbl := List.mem_append_left _ (by decide +kernel)
theorem sel_Ct_endsOfParts : Cond.selects "AbnfChart$Chart" y_Ct_endsOfParts y_Ct_endsOfParts ∈ lw_tbl := List.mem_append_left _ (by decide +kernel)
theorem sel_Ct_endsOfAny : Cond.selects "AbnfChart$Chart" y_Ct_endsOfAny y_Ct_endsOfAny ∈ lw_tbl := List.mem_append_left _ (by decide +kernel)
theorem sel_Ct_endsOfRow : Cond.selects "AbnfChart$Chart" y_Ct_endsOfRow y_Ct_endsOfRow ∈ lw_tbl := List.mem_append_left _ (by decide +kernel)
theorem sel_Ct_goOn : Cond.selects "AbnfChart$Chart" y_Ct_goOn y_Ct_goOn ∈ lw_tbl := List.mem_append_left _ (by decide +kernel)
theorem sel_Ct_endsOfRepetition : Cond.selects "AbnfChart$Chart" y_Ct_endsOfRepetition y_Ct_endsOfRepetition ∈ lw_tbl := List.mem_append_left _ (by decide +kernel)
theorem sel_Ct_endsOfRule : Cond.selects "AbnfChart$Chart" y_Ct_endsOfRule y_Ct_endsOfRule ∈ lw_tbl := List.mem_append_left _ (by decide +kernel)
theorem sel_Mo_fail : Cond.selects "AbnfChartModel" y_Mo_fail y_Mo_fail ∈ lw_tbl := List.mem_append_left _ (by decide +kernel)
theorem sel_Mo_line : Cond.selects "AbnfChartModel" y_Mo_line y_Mo_line ∈ lw_tbl := List.mem_append_left _ (by decide +kernel)
theorem sel_Mo_rest : Cond.selects "AbnfChartModel" y_Mo_rest y_Mo_rest ∈ lw_tbl := List.mem_append_left _ (by decide +kernel)
theorem sel_Mo_here : Cond.selects "AbnfChartModel" y_Mo_here y_Mo_here ∈ lw_tbl := List.mem_append_left _ (by decide +kernel)
theorem sel_Mo_readRule : Cond.selects "AbnfChartModel" y_Mo_readRule y_Mo_readRule ∈ lw_tbl := List.mem_append_left _ (by decide +kernel)
theorem sel_Mo_name : Cond.selects "AbnfChartModel" y_Mo_name y_Mo_name ∈ lw_tbl := List.mem_append_left _ (by decide +kernel)
theorem sel_Mo_wrong : Cond.selects "AbnfChartModel" y_Mo_wrong y_Mo_wrong ∈ lw_tbl := List.mem_append_left _ (by decide +kernel)
theorem sel_Mo_gap : Cond.selects "AbnfChartModel" y_Mo_gap y_Mo_gap ∈ lw_tbl := List.mem_append_left _ (by decide +kernel)
theorem sel_Mo_enter : Cond.selects "AbnfChartModel" y_Mo_enter y_Mo_enter ∈ lw_tbl := List.mem_append_left _ (by decide +kernel)
theorem sel_Mo_element : Cond.selects "AbnfChartModel" y_Mo_element y_Mo_element ∈ lw_tbl := List.mem_append_left _ (by decide +kernel)
theorem sel_Mo_sequence : Cond.selects "AbnfChartModel" y_Mo_sequence y_Mo_sequence ∈ lw_tbl := List.mem_append_left _ (by decide +kernel)
theorem sel_Mo_append : Cond.selects "AbnfChartModel" y_Mo_append y_Mo_append ∈ lw_tbl := List.mem_append_left _ (by decide +kernel)
theorem sel_Mo_repetition : Cond.selects "AbnfChartModel" y_Mo_repetition y_Mo_repetition ∈ lw_tbl := List.mem_append_left _ (by decide +kernel)
theorem sel_Mo_single : Cond.selects "AbnfChartModel" y_Mo_single y_Mo_single ∈ lw_tbl := List.mem_append_left _ (by decide +kernel)
theorem sel_Mo_placed : Cond.selects "AbnfChartModel" y_Mo_placed y_Mo_placed ∈ lw_tbl := List.mem_append_left _ (by decide +kernel)
theorem sel_Mo_string : Cond.selects "AbnfChartModel" y_Mo_string y_Mo_string ∈ lw_tbl := List.mem_append_left _ (by decide +kernel)
theorem sel_Mo_numbers : Cond.selects "AbnfChartModel" y_Mo_numbers y_Mo_numbers ∈ lw_tbl := List.mem_append_left _ (by decide +kernel)
theorem sel_Mo_number : Cond.selects "AbnfChartModel" y_Mo_number y_Mo_number ∈ lw_tbl := List.mem_append_left _ (by decide +kernel)
theorem sel_Mo_goesOn : Cond.selects "AbnfChartModel" y_Mo_goesOn y_Mo_goesOn ∈ lw_tbl := List.mem_append_left _ (by decide +kernel)
theorem sel_Mo_endsOf : Cond.selects "AbnfChartModel" y_Mo_endsOf y_Mo_endsOf ∈ lw_tbl := List.mem_append_left _ (by decide +kernel)
theorem sel_Mo_chart : Cond.selects "AbnfChartModel" y_Mo_chart y_Mo_chart ∈ lw_tbl := List.mem_append_left _ (by decide +kernel)
theorem sel_Mo_fits : Cond.selects "AbnfChartModel" y_Mo_fits y_Mo_fits ∈ lw_tbl := List.mem_append_left _ (by decide +kernel)
theorem sel_Mo_same : Cond.selects "AbnfChartModel" y_Mo_same y_Mo_same ∈ lw_tbl := List.mem_append_left _ (by decide +kernel)
theorem sel_Mo_times : Cond.selects "AbnfChartModel" y_Mo_times y_Mo_times ∈ lw_tbl := List.mem_append_left _ (by decide +kernel)
theorem sel_Mo_step : Cond.selects "AbnfChartModel" y_Mo_step y_Mo_step ∈ lw_tbl := List.mem_append_left _ (by decide +kernel)
end
section
/-! making cells: addresses one behind the other from base on -/
def adB (base : Nat) : Nat → Nat := fun k => base + k
theorem adB_up {base n : Nat} : va_up (adB base) n (base + n) = adB base := by
  funext i
  unfold va_up adB
  split
  · subst_vars; rfl
  · rfl
theorem fwB_push {base n : Nat} {mem : Nat → va_E} {e : va_E} : fw n (adB base) mem ++ [(base + n, e)] = fw (n + 1) (adB base) (va_up mem n e) := by rw [fw_push, adB_up]
theorem adB_D {base n sz : Nat} {mem : Nat → va_E} (h : sz ≤ base) : va_D (Az sz) (fw n (adB base) mem) := by
  refine ⟨fun i j x y hx hy hxy => ?_, fun k q hk => ?_⟩
  · obtain ⟨-, rfl⟩ := fw_get hx
    obtain ⟨-, rfl⟩ := fw_get hy
    have : base + i = base + j := hxy
    omega
  · obtain ⟨-, rfl⟩ := fw_get hk
    show sz ≤ base + k
    omega
abbrev PC (D : va_G) (cy : Nat → ClassId) (sz base n : Nat) (mem : Nat → va_E) (U : State) : Prop := PR D cy sz n (adB base) mem U ∧ U.heap.size = base + n
/-- a constructor: n cells before, n' behind -/
abbrev MC (l : Launch) (D : va_G) (cy : Nat → ClassId) (sz base n n' : Nat) (y : MethodName) (bytes : ByteArray) (maxL : Nat) (rm : Room) (mem : Nat → va_E) (av : List Value) (post : (Nat → va_E) → Prop) (mc ms : Nat) : Prop :=
  Met l y (.code y bytes maxL none :: tg) rm (va_Pc av (PC D cy sz base n mem)) (va_Qv post (fun u t => va_P D vcl (fw n' (adB base) u) t.heap ∧ t.heap.size = base + n') (Az sz)) mc ms (Az sz)
section CW
variable {p : Program} {l : Launch} {e : Env} {R : Room} {s : State} {m : MethodId} {args : Array Value} {below : List Frame} {meth : Method} {c : Code} {H : Heap} {locs : List Loc} {cells slots : Nat} {Q : State → Prop}
variable {cc : ByteArray} {pc nL : Nat} {ls : Array Slot} {rest : List Value} {D : va_G} {cy : Nat → ClassId} {own C host : String} {T : u_T} {N ci index sz n n' base j maxL na : Nat} {mem : Nat → va_E} {fs As : List Value} {y : MethodName} {bytes : ByteArray} {rm : Room} {H0 : Heap}
theorem c_grow {H1 : Heap} {e1 : va_E} (hP : va_P D vcl (fw n (adB base) mem) H) (hz : H.size = base + n) (o1 : ∀ q, q < base + n → H1[q]? = H[q]?) (he : va_at D vcl (base + n, e1) H1) : va_P D vcl (fw (n + 1) (adB base) (va_up mem n e1)) H1 := by
  rw [← fwB_push]
  refine (hP.kept (fun k x hx => o1 x.1 (by rw [← hz]; exact (hP k x hx).lt))).app (fun k x hx => ?_)
  have hk : k < 1 := (List.getElem?_eq_some_iff.mp hx).1
  rw [show k = 0 by omega] at hx
  cases hx
  exact he
theorem c_S {H1 : Heap} (hS : va_S (Az sz) H0 H locs) (hz : H.size = base + n) (z1 : H1.size = base + n + 1) (o1 : ∀ q, q < base + n → H1[q]? = H[q]?) : va_S (Az sz) H0 H1 locs :=
  ⟨Nat.le_trans hS.1 (by omega), fun x h1 h2 => (o1 x (Nat.lt_of_lt_of_le h1 (by rw [← hz]; exact hS.1))).trans (hS.2.1 x h1 h2), hS.2.2⟩
theorem f_new (B : MB p s m args c cc own D cy) (hP : va_P D vcl (fw n (adB base) mem) H) (hS : va_S (Az sz) H0 H locs) (hz : H.size = base + n) (hc : vcl[ci]? = some (C, T, N)) (hin : ∀ w ∈ u_ws C T N, w ∈ lw_tbl) (ty : Nat → FieldType) (hty : ∀ k, k < N → parseFieldDescriptor (T k).2.2.1 = some (ty k)) (hcl : Cond.classLink own index C ∈ lw_tbl) (hinst : Cond.instantiable C N ∈ lw_tbl) (hini : Cond.initialized C ∈ lw_tbl) (fs : List Value) (hfs : ∀ j, j < N → defaultValue (ty j) = vp_V fs j) (hcells : cells + 1 ≤ R.cells) (hslots : slots + N ≤ R.slots) (hdg : decode cc pc = .ok (.new index, 3))
    (kk : ∀ H1 : Heap, va_P D vcl (fw (n + 1) (adB base) (va_up mem n (.inr (ci, fs)))) H1 → va_S (Az sz) H0 H1 locs → H1.size = base + (n + 1) → W p l e R s m args below meth c H1 locs (cells + 1) (slots + N) Q (F0 m (pc + 3) ls (.ref ((adB base) (n)) :: rest))) : W p l e R s m args below meth c H locs cells slots Q (F0 m pc ls rest) := by
  have hKn := B.2.2.2.2.1 ci _ hc
  refine W.newcK B.1 B.2.1 B.2.2.2.1 (B.2.2.1 _ (tb_g hcl rfl)) (B.2.2.1 _ (tb_g hinst rfl)) (B.2.2.1 _ (tb_g hini rfl)) rfl hdg hcells hslots hKn.2.1 hz (fun H1 kC hkC e1 z1 o1 => ?_)
  exact kk H1 (c_grow hP hz o1 ⟨_, hc, (u_born ty B.2.2.1 (uw_tb hin) hKn hkC e1 hty).to hfs⟩) (c_S hS hz z1 o1) (by rw [z1]; omega)
theorem f_newa {atype : ArrayType} {t0 : Nat} {k : Int32} {N' : Nat} (B : MB p s m args c cc own D cy) (hP : va_P D vcl (fw n (adB base) mem) H) (hS : va_S (Az sz) H0 H locs) (hz : H.size = base + n) (harr : Cond.arrayClass (newarray.typeOf atype) ∈ lw_tbl) (hra : s.vm.findClass ("[" ++ (newarray.typeOf atype).toString) = some (cy t0)) (a0 : vp_A) (ha : ∀ cA : ClassId, vp_cell cA a0 = arrV cA N' (fun _ => defaultValue (newarray.typeOf atype))) (hn : ¬ k < 0) (hN : k.toNatClampNeg = N') (hb : N' * componentBytes (newarray.typeOf atype) ≤ 536870912) (hcells : cells + 1 ≤ R.cells) (hslots : slots + N' ≤ R.slots) (hdg : decode cc pc = .ok (.newarray atype, 2))
    (kk : ∀ H1 : Heap, va_P D vcl (fw (n + 1) (adB base) (va_up mem n (.inl (cy t0, a0)))) H1 → va_S (Az sz) H0 H1 locs → H1.size = base + (n + 1) → W p l e R s m args below meth c H1 locs (cells + 1) (slots + N') Q (F0 m (pc + 2) ls (.ref ((adB base) (n)) :: rest))) : W p l e R s m args below meth c H locs cells slots Q (F0 m pc ls (.int k :: rest)) := by
  refine va_newaK B.1 B.2.1 (B.2.2.1 _ (tb_g harr rfl)) rfl hdg rfl hn hN hb hcells hslots hz (fun H1 cA e1 z1 o1 _ hNm => ?_)
  have hcA : cA = cy t0 := Option.some.inj (hNm.symm.trans hra)
  subst hcA
  exact kk H1 (c_grow hP hz o1 (by show H1[base + n]? = some (vp_cell _ _); rw [ha]; exact e1)) (c_S hS hz z1 o1) (by rw [z1]; omega)
theorem f_anew {t0 : Nat} {k : Int32} {N' : Nat} (B : MB p s m args c cc own D cy) (hP : va_P D vcl (fw n (adB base) mem) H) (hS : va_S (Az sz) H0 H locs) (hz : H.size = base + n) (hcl : Cond.classLink own index C ∈ lw_tbl) (hov : Cond.arrayOver (.object C) ∈ lw_tbl) (ht : (ty6 cy)[t0]? = some (cy t0, .object C)) (hn : ¬ k < 0) (hN : k.toNatClampNeg = N') (hb : N' * 4 ≤ 536870912) (hcells : cells + 1 ≤ R.cells) (hslots : slots + N' ≤ R.slots) (hdg : decode cc pc = .ok (.anewarray index, 3))
    (kk : ∀ H1 : Heap, va_P D vcl (fw (n + 1) (adB base) (va_up mem n (.inl (cy t0, N', .inr (.inr (.inr (.inr (fun _ => none)))))))) H1 → va_S (Az sz) H0 H1 locs → H1.size = base + (n + 1) → W p l e R s m args below meth c H1 locs (cells + 1) (slots + N') Q (F0 m (pc + 3) ls (.ref ((adB base) (n)) :: rest))) : W p l e R s m args below meth c H locs cells slots Q (F0 m pc ls (.int k :: rest)) := by
  subst hN
  refine W.anew B.1 B.2.1 B.2.2.2.1 (B.2.2.1 _ (tb_g hcl rfl)) (B.2.2.1 _ (tb hov rfl)) rfl hdg rfl hn hb hcells hslots fun cA kA comp f1 f2 f3 f4 => ?_
  obtain ⟨kA', comp', -, -, -, h4⟩ := (B.2.2.2.2.2 t0 _ ht).2
  have hcA : cA = cy t0 := Option.some.inj (f1.symm.trans h4)
  subst hcA
  generalize hH1 : H.push ({ cls := cy t0, slots := Array.replicate k.toNatClampNeg .null, vm := .none } : Cell) = H1
  have z1 : H1.size = base + n + 1 := by rw [← hH1, Array.size_push, hz]
  have e1 : H1[base + n]? = some (arrV (cy t0) k.toNatClampNeg (fun _ => .null)) := by rw [← hH1, ← hz, Array.getElem?_push_size, ← arrV_new]
  have o1 : ∀ q : Nat, q < base + n → H1[q]? = H[q]? := fun q hq => by rw [← hH1, Array.getElem?_push, if_neg (by omega)]
  have hk := kk H1 (c_grow hP hz o1 (by show H1[base + n]? = some (vp_cell _ _); rw [vp_cell_q]; exact e1)) (c_S hS hz z1 o1) (by rw [z1]; omega)
  rw [show (adB base) n = H.size from hz.symm] at hk
  exact hk
theorem f_aast {j2 t0 ci2 N' : Nat} {f : Nat → Option Nat} {r : vw_C} {vs : List Value} {ad : Nat → Nat} (B : MB p s m args c cc own D cy) (hP : va_P D vcl (fw n ad mem) H) (hD : va_D (Az sz) (fw n ad mem)) (hS : va_S (Az sz) H0 H locs) (hj : j < n) (hm : mem j = .inl (cy t0, N', .inr (.inr (.inr (.inr f))))) (ht : (ty6 cy)[t0]? = some (cy t0, .object r.1)) (hj2 : j2 < n) (hm2 : mem j2 = .inr (ci2, vs)) (hc : vcl[ci2]? = some r) {i : Int32} (hi : vp_in i N') (hdg : decode cc pc = .ok (.aastore, 1))
    (kk : ∀ (H1 : Heap) (locs1 : List Loc), va_P D vcl (fw n ad (va_up mem j (.inl (cy t0, N', .inr (.inr (.inr (.inr (va_up f i.toNatClampNeg (some (ad j2)))))))))) H1 → va_S (Az sz) H0 H1 locs1 → W p l e R s m args below meth c H1 locs1 cells slots Q (F0 m (pc + 1) ls rest)) : W p l e R s m args below meth c H locs cells slots Q (F0 m pc ls (.ref (ad j2) :: .int i :: .ref (ad j) :: rest)) :=
  va_astq B.1 B.2.1 B.2.2.2.2 hP hD hS j t0 j2 ci2 (fw_atm hj hm) ht (fw_atm hj2 hm2) hc hi hdg (fun H1 locs1 hP1 _ hS1 => kk H1 locs1 (by rw [← fw_set hj]; exact hP1) hS1)
theorem c_size (hP : va_P D vcl (fw n (adB base) mem) H) (hs : s.heap.size + cells = base + n) (hn : 0 < n) {g : JFrame} (kk : H.size = base + n → W p l e R s m args below meth c H locs cells slots Q g) : W p l e R s m args below meth c H locs cells slots Q g := by
  intro T hT X
  have h1 : adB base (n - 1) < H.size := (hP (n - 1) _ (fw_at (by omega))).lt
  have h2 := X.heapSize
  rw [hT] at h2
  exact kk (by unfold adB at h1; omega) T hT X
theorem f_preC (E : EV D cy sz s) (hP : va_P D vcl (fw n (adB base) mem) H) (hS : va_S (Az sz) s.heap H locs) (hbz : sz ≤ base) (hz : H.size = base + n) : PreS s H (va_Pc As (PC D cy sz base n mem)) As :=
  ⟨fun a U g mk q => ⟨q.1, ⟨q.2.1.1.call, q.2.1.2.1, q.2.1.2.2⟩, q.2.2⟩, fun U hU hW => ⟨rfl, ⟨E.at hS hU hW, by rw [hU]; exact hP, adB_D hbz⟩, by rw [hU]; exact hz⟩⟩
theorem f_callI {post : (Nat → va_E) → Prop} {mc ms : Nat} (B : MB p s m args c cc own D cy) (hml : c.maxLocals = nL) (E : EV D cy sz s) (hP : va_P D vcl (fw n (adB base) mem) H) (hS : va_S (Az sz) s.heap H locs) (hbz : sz ≤ base) (hz : H.size = base + n)
    (M : MC l D cy sz base n n' y bytes maxL rm mem (.ref ((adB base) j) :: As) post mc ms) (h1 : Cond.methodLink own index y ∈ lw_tbl) (h2 : Cond.instanceMethod y ∈ lw_tbl) (h4 : Cond.initialized y.cls ∈ lw_tbl) (h5 : Cond.code y bytes maxL none ∈ lw_tbl) (hy1 : y.name = "<init>")
    (hd : y.cls ≠ "java/lang/invoke/MethodHandle" ∧ y.cls ≠ "java/lang/invoke/VarHandle" ∧ (parseMethodDescriptor y.desc).map (fun d => d.parameters.length) = some na) (hrm : rm.cells = mc ∧ rm.slots = ms) (hR : rm.frames + 1 ≤ R.frames ∧ 8 + (maxL + 11) + rm.locals ≤ R.locals) (hn : As.length = na) (hsz : ls.size = nL) (hw : (rest.map fun v => v.category).sum ≤ 8) (hdg : decode cc pc = .ok (.invokespecial index, 3)) (hf : cells + mc ≤ R.cells ∧ slots + ms ≤ R.slots)
    (kk : ∀ (mem' : Nat → va_E) (H1 : Heap) (locs1 : List Loc), post mem' → va_P D vcl (fw n' (adB base) mem') H1 → va_S (Az sz) s.heap H1 locs1 → H1.size = base + n' → W p l e R s m args below meth c H1 locs1 (cells + mc) (slots + ms) Q (F0 m (pc + 3) ls rest)) :
    W p l e R s m args below meth c H locs cells slots Q (F0 m pc ls (As.reverse ++ .ref ((adB base) j) :: rest)) :=
  va_callv (va_runI (As := As) (rest := rest) ⟨B.1, B.2.1, hml, B.2.2.2.1, B.2.2.1⟩ M (cwI na B.2.2.1 (gdC h5 rfl) rfl hrm.1 hrm.2 (B.2.2.1 _ (tb_g h4 rfl)) (B.2.2.1 _ (tb_g h1 rfl)) (B.2.2.1 _ (tb_g h2 rfl)) hy1 hd hR) (f_preC E hP hS hbz hz) rfl hn hsz rfl (lv_room hw) hdg hf) hS (fun q _ h => h) (fun q h => h)
    (fun u t H1 locs1 ht _ hp hb _ _ hS1 => kk u H1 locs1 hp (by rw [← ht]; exact hb.1) hS1 (by rw [← ht]; exact hb.2))
theorem f_callIN {post : (Nat → va_E) → Prop} {mc ms : Nat} (B : MB p s m args c cc own D cy) (hml : c.maxLocals = nL) (E : EV D cy sz s) (hP : va_P D vcl (fw n (adB base) mem) H) (hS : va_S (Az sz) s.heap H locs) (hbz : sz ≤ base) (hz : H.size = base + n)
    (M : MC l D cy sz base n n' y bytes maxL rm mem (.ref ((adB base) j) :: As) post mc ms) (h1 : Cond.methodLinkNest own index y host ∈ lw_tbl) (h2 : Cond.instanceMethod y ∈ lw_tbl) (h4 : Cond.initialized y.cls ∈ lw_tbl) (h5 : Cond.code y bytes maxL none ∈ lw_tbl) (hy1 : y.name = "<init>")
    (hd : y.cls ≠ "java/lang/invoke/MethodHandle" ∧ y.cls ≠ "java/lang/invoke/VarHandle" ∧ (parseMethodDescriptor y.desc).map (fun d => d.parameters.length) = some na) (hrm : rm.cells = mc ∧ rm.slots = ms) (hR : rm.frames + 1 ≤ R.frames ∧ 8 + (maxL + 11) + rm.locals ≤ R.locals) (hn : As.length = na) (hsz : ls.size = nL) (hw : (rest.map fun v => v.category).sum ≤ 8) (hdg : decode cc pc = .ok (.invokespecial index, 3)) (hf : cells + mc ≤ R.cells ∧ slots + ms ≤ R.slots)
    (kk : ∀ (mem' : Nat → va_E) (H1 : Heap) (locs1 : List Loc), post mem' → va_P D vcl (fw n' (adB base) mem') H1 → va_S (Az sz) s.heap H1 locs1 → H1.size = base + n' → W p l e R s m args below meth c H1 locs1 (cells + mc) (slots + ms) Q (F0 m (pc + 3) ls rest)) :
    W p l e R s m args below meth c H locs cells slots Q (F0 m pc ls (As.reverse ++ .ref ((adB base) j) :: rest)) :=
  va_callv (va_runIN (As := As) (rest := rest) ⟨B.1, B.2.1, hml, B.2.2.2.1, B.2.2.1⟩ M ⟨va_cnB na B.2.2.1 (gdC h5 rfl) rfl hrm.1 hrm.2 (va_Nw.of rfl (B.2.2.1 _ (tb h1 rfl))) (B.2.2.1 _ (tb_g h4 rfl)) hd hR, hy1, B.2.2.1 _ (tb_g h2 rfl)⟩ (f_preC E hP hS hbz hz) rfl hn hsz rfl (lv_room hw) hdg hf) hS (fun q _ h => h) (fun q h => h)
    (fun u t H1 locs1 ht _ hp hb _ _ hS1 => kk u H1 locs1 hp (by rw [← ht]; exact hb.1) hS1 (by rw [← ht]; exact hb.2))
end CW
end
section
theorem d_Ab_isByteCount_0 : decode c_Ab_isByteCount 0 = .ok (.iload_n 0, 1) := by decide +kernel
theorem d_Ab_isByteCount_1 : decode c_Ab_isByteCount 1 = .ok (.iconst 1, 1) := by decide +kernel
theorem d_Ab_isByteCount_2 : decode c_Ab_isByteCount 2 = .ok (.if_icmp .lt 13, 3) := by decide +kernel
theorem d_Ab_isByteCount_5 : decode c_Ab_isByteCount 5 = .ok (.iload_n 0, 1) := by decide +kernel
theorem d_Ab_isByteCount_6 : decode c_Ab_isByteCount 6 = .ok (.bipush 8, 2) := by decide +kernel
theorem d_Ab_isByteCount_8 : decode c_Ab_isByteCount 8 = .ok (.if_icmp .gt 7, 3) := by decide +kernel
theorem d_Ab_isByteCount_11 : decode c_Ab_isByteCount 11 = .ok (.iconst 1, 1) := by decide +kernel
theorem d_Ab_isByteCount_12 : decode c_Ab_isByteCount 12 = .ok (.goto 4, 3) := by decide +kernel
theorem d_Ab_isByteCount_15 : decode c_Ab_isByteCount 15 = .ok (.iconst 0, 1) := by decide +kernel
theorem d_Ab_isByteCount_16 : decode c_Ab_isByteCount 16 = .ok (.ireturn, 1) := by decide +kernel
theorem d_Ab_byteOf_0 : decode c_Ab_byteOf 0 = .ok (.lload_n 0, 1) := by decide +kernel
theorem d_Ab_byteOf_1 : decode c_Ab_byteOf 1 = .ok (.bipush 8, 2) := by decide +kernel
theorem d_Ab_byteOf_3 : decode c_Ab_byteOf 3 = .ok (.iload_n 2, 1) := by decide +kernel
theorem d_Ab_byteOf_4 : decode c_Ab_byteOf 4 = .ok (.imul, 1) := by decide +kernel
theorem d_Ab_byteOf_5 : decode c_Ab_byteOf 5 = .ok (.lushr, 1) := by decide +kernel
theorem d_Ab_byteOf_6 : decode c_Ab_byteOf 6 = .ok (.ldc2_w 125, 3) := by decide +kernel
theorem d_Ab_byteOf_9 : decode c_Ab_byteOf 9 = .ok (.land, 1) := by decide +kernel
theorem d_Ab_byteOf_10 : decode c_Ab_byteOf 10 = .ok (.l2i, 1) := by decide +kernel
theorem d_Ab_byteOf_11 : decode c_Ab_byteOf 11 = .ok (.ireturn, 1) := by decide +kernel
theorem d_Ab_areTextCodes_0 : decode c_Ab_areTextCodes 0 = .ok (.iconst 0, 1) := by decide +kernel
theorem d_Ab_areTextCodes_1 : decode c_Ab_areTextCodes 1 = .ok (.istore_n 3, 1) := by decide +kernel
theorem d_Ab_areTextCodes_2 : decode c_Ab_areTextCodes 2 = .ok (.iload_n 3, 1) := by decide +kernel
theorem d_Ab_areTextCodes_3 : decode c_Ab_areTextCodes 3 = .ok (.iload_n 2, 1) := by decide +kernel
theorem d_Ab_areTextCodes_4 : decode c_Ab_areTextCodes 4 = .ok (.if_icmp .ge 39, 3) := by decide +kernel
theorem d_Ab_areTextCodes_7 : decode c_Ab_areTextCodes 7 = .ok (.lload_n 0, 1) := by decide +kernel
theorem d_Ab_areTextCodes_8 : decode c_Ab_areTextCodes 8 = .ok (.iload_n 3, 1) := by decide +kernel
theorem d_Ab_areTextCodes_9 : decode c_Ab_areTextCodes 9 = .ok (.invokestatic 121, 3) := by decide +kernel
theorem d_Ab_areTextCodes_12 : decode c_Ab_areTextCodes 12 = .ok (.istore 4, 2) := by decide +kernel
theorem d_Ab_areTextCodes_14 : decode c_Ab_areTextCodes 14 = .ok (.iload 4, 2) := by decide +kernel
theorem d_Ab_areTextCodes_16 : decode c_Ab_areTextCodes 16 = .ok (.bipush 10, 2) := by decide +kernel
theorem d_Ab_areTextCodes_18 : decode c_Ab_areTextCodes 18 = .ok (.if_icmp .eq 19, 3) := by decide +kernel
theorem d_Ab_areTextCodes_21 : decode c_Ab_areTextCodes 21 = .ok (.iload 4, 2) := by decide +kernel
theorem d_Ab_areTextCodes_23 : decode c_Ab_areTextCodes 23 = .ok (.bipush 32, 2) := by decide +kernel
theorem d_Ab_areTextCodes_25 : decode c_Ab_areTextCodes 25 = .ok (.if_icmp .lt 10, 3) := by decide +kernel
theorem d_Ab_areTextCodes_28 : decode c_Ab_areTextCodes 28 = .ok (.iload 4, 2) := by decide +kernel
theorem d_Ab_areTextCodes_30 : decode c_Ab_areTextCodes 30 = .ok (.bipush 126, 2) := by decide +kernel
theorem d_Ab_areTextCodes_32 : decode c_Ab_areTextCodes 32 = .ok (.if_icmp .le 5, 3) := by decide +kernel
theorem d_Ab_areTextCodes_35 : decode c_Ab_areTextCodes 35 = .ok (.iconst 0, 1) := by decide +kernel
theorem d_Ab_areTextCodes_36 : decode c_Ab_areTextCodes 36 = .ok (.ireturn, 1) := by decide +kernel
theorem d_Ab_areTextCodes_37 : decode c_Ab_areTextCodes 37 = .ok (.iinc 3 1, 3) := by decide +kernel
theorem d_Ab_areTextCodes_40 : decode c_Ab_areTextCodes 40 = .ok (.goto (-38), 3) := by decide +kernel
theorem d_Ab_areTextCodes_43 : decode c_Ab_areTextCodes 43 = .ok (.iconst 1, 1) := by decide +kernel
theorem d_Ab_areTextCodes_44 : decode c_Ab_areTextCodes 44 = .ok (.ireturn, 1) := by decide +kernel
theorem d_Ab_areInputCodes_0 : decode c_Ab_areInputCodes 0 = .ok (.iconst 0, 1) := by decide +kernel
theorem d_Ab_areInputCodes_1 : decode c_Ab_areInputCodes 1 = .ok (.istore_n 3, 1) := by decide +kernel
theorem d_Ab_areInputCodes_2 : decode c_Ab_areInputCodes 2 = .ok (.iload_n 3, 1) := by decide +kernel
theorem d_Ab_areInputCodes_3 : decode c_Ab_areInputCodes 3 = .ok (.iload_n 2, 1) := by decide +kernel
theorem d_Ab_areInputCodes_4 : decode c_Ab_areInputCodes 4 = .ok (.if_icmp .ge 21, 3) := by decide +kernel
theorem d_Ab_areInputCodes_7 : decode c_Ab_areInputCodes 7 = .ok (.lload_n 0, 1) := by decide +kernel
theorem d_Ab_areInputCodes_8 : decode c_Ab_areInputCodes 8 = .ok (.iload_n 3, 1) := by decide +kernel
theorem d_Ab_areInputCodes_9 : decode c_Ab_areInputCodes 9 = .ok (.invokestatic 121, 3) := by decide +kernel
theorem d_Ab_areInputCodes_12 : decode c_Ab_areInputCodes 12 = .ok (.bipush 127, 2) := by decide +kernel
theorem d_Ab_areInputCodes_14 : decode c_Ab_areInputCodes 14 = .ok (.if_icmp .le 5, 3) := by decide +kernel
theorem d_Ab_areInputCodes_17 : decode c_Ab_areInputCodes 17 = .ok (.iconst 0, 1) := by decide +kernel
theorem d_Ab_areInputCodes_18 : decode c_Ab_areInputCodes 18 = .ok (.ireturn, 1) := by decide +kernel
theorem d_Ab_areInputCodes_19 : decode c_Ab_areInputCodes 19 = .ok (.iinc 3 1, 3) := by decide +kernel
theorem d_Ab_areInputCodes_22 : decode c_Ab_areInputCodes 22 = .ok (.goto (-20), 3) := by decide +kernel
theorem d_Ab_areInputCodes_25 : decode c_Ab_areInputCodes 25 = .ok (.iconst 1, 1) := by decide +kernel
theorem d_Ab_areInputCodes_26 : decode c_Ab_areInputCodes 26 = .ok (.ireturn, 1) := by decide +kernel
theorem d_Ab_isLetter_0 : decode c_Ab_isLetter 0 = .ok (.iload_n 0, 1) := by decide +kernel
theorem d_Ab_isLetter_1 : decode c_Ab_isLetter 1 = .ok (.bipush 97, 2) := by decide +kernel
theorem d_Ab_isLetter_3 : decode c_Ab_isLetter 3 = .ok (.if_icmp .lt 9, 3) := by decide +kernel
theorem d_Ab_isLetter_6 : decode c_Ab_isLetter 6 = .ok (.iload_n 0, 1) := by decide +kernel
theorem d_Ab_isLetter_7 : decode c_Ab_isLetter 7 = .ok (.bipush 122, 2) := by decide +kernel
theorem d_Ab_isLetter_9 : decode c_Ab_isLetter 9 = .ok (.if_icmp .le 15, 3) := by decide +kernel
theorem d_Ab_isLetter_12 : decode c_Ab_isLetter 12 = .ok (.iload_n 0, 1) := by decide +kernel
theorem d_Ab_isLetter_13 : decode c_Ab_isLetter 13 = .ok (.bipush 65, 2) := by decide +kernel
theorem d_Ab_isLetter_15 : decode c_Ab_isLetter 15 = .ok (.if_icmp .lt 13, 3) := by decide +kernel
theorem d_Ab_isLetter_18 : decode c_Ab_isLetter 18 = .ok (.iload_n 0, 1) := by decide +kernel
theorem d_Ab_isLetter_19 : decode c_Ab_isLetter 19 = .ok (.bipush 90, 2) := by decide +kernel
theorem d_Ab_isLetter_21 : decode c_Ab_isLetter 21 = .ok (.if_icmp .gt 7, 3) := by decide +kernel
theorem d_Ab_isLetter_24 : decode c_Ab_isLetter 24 = .ok (.iconst 1, 1) := by decide +kernel
theorem d_Ab_isLetter_25 : decode c_Ab_isLetter 25 = .ok (.goto 4, 3) := by decide +kernel
theorem d_Ab_isLetter_28 : decode c_Ab_isLetter 28 = .ok (.iconst 0, 1) := by decide +kernel
theorem d_Ab_isLetter_29 : decode c_Ab_isLetter 29 = .ok (.ireturn, 1) := by decide +kernel
theorem d_Ab_isDigit_0 : decode c_Ab_isDigit 0 = .ok (.iload_n 0, 1) := by decide +kernel
theorem d_Ab_isDigit_1 : decode c_Ab_isDigit 1 = .ok (.bipush 48, 2) := by decide +kernel
theorem d_Ab_isDigit_3 : decode c_Ab_isDigit 3 = .ok (.if_icmp .lt 13, 3) := by decide +kernel
theorem d_Ab_isDigit_6 : decode c_Ab_isDigit 6 = .ok (.iload_n 0, 1) := by decide +kernel
theorem d_Ab_isDigit_7 : decode c_Ab_isDigit 7 = .ok (.bipush 57, 2) := by decide +kernel
theorem d_Ab_isDigit_9 : decode c_Ab_isDigit 9 = .ok (.if_icmp .gt 7, 3) := by decide +kernel
theorem d_Ab_isDigit_12 : decode c_Ab_isDigit 12 = .ok (.iconst 1, 1) := by decide +kernel
theorem d_Ab_isDigit_13 : decode c_Ab_isDigit 13 = .ok (.goto 4, 3) := by decide +kernel
theorem d_Ab_isDigit_16 : decode c_Ab_isDigit 16 = .ok (.iconst 0, 1) := by decide +kernel
theorem d_Ab_isDigit_17 : decode c_Ab_isDigit 17 = .ok (.ireturn, 1) := by decide +kernel
theorem d_Ab_smallOf_0 : decode c_Ab_smallOf 0 = .ok (.iload_n 0, 1) := by decide +kernel
theorem d_Ab_smallOf_1 : decode c_Ab_smallOf 1 = .ok (.bipush 65, 2) := by decide +kernel
theorem d_Ab_smallOf_3 : decode c_Ab_smallOf 3 = .ok (.if_icmp .lt 19, 3) := by decide +kernel
theorem d_Ab_smallOf_6 : decode c_Ab_smallOf 6 = .ok (.iload_n 0, 1) := by decide +kernel
theorem d_Ab_smallOf_7 : decode c_Ab_smallOf 7 = .ok (.bipush 90, 2) := by decide +kernel
theorem d_Ab_smallOf_9 : decode c_Ab_smallOf 9 = .ok (.if_icmp .gt 13, 3) := by decide +kernel
theorem d_Ab_smallOf_12 : decode c_Ab_smallOf 12 = .ok (.iload_n 0, 1) := by decide +kernel
theorem d_Ab_smallOf_13 : decode c_Ab_smallOf 13 = .ok (.bipush 65, 2) := by decide +kernel
theorem d_Ab_smallOf_15 : decode c_Ab_smallOf 15 = .ok (.isub, 1) := by decide +kernel
theorem d_Ab_smallOf_16 : decode c_Ab_smallOf 16 = .ok (.bipush 97, 2) := by decide +kernel
theorem d_Ab_smallOf_18 : decode c_Ab_smallOf 18 = .ok (.iadd, 1) := by decide +kernel
theorem d_Ab_smallOf_19 : decode c_Ab_smallOf 19 = .ok (.goto 4, 3) := by decide +kernel
theorem d_Ab_smallOf_22 : decode c_Ab_smallOf 22 = .ok (.iload_n 0, 1) := by decide +kernel
theorem d_Ab_smallOf_23 : decode c_Ab_smallOf 23 = .ok (.ireturn, 1) := by decide +kernel
theorem d_Ch_hasRoomFor_0 : decode c_Ch_hasRoomFor 0 = .ok (.iload_n 1, 1) := by decide +kernel
theorem d_Ch_hasRoomFor_1 : decode c_Ch_hasRoomFor 1 = .ok (.aload_n 0, 1) := by decide +kernel
theorem d_Ch_hasRoomFor_2 : decode c_Ch_hasRoomFor 2 = .ok (.getfield 9, 3) := by decide +kernel
theorem d_Ch_hasRoomFor_5 : decode c_Ch_hasRoomFor 5 = .ok (.arraylength, 1) := by decide +kernel
theorem d_Ch_hasRoomFor_6 : decode c_Ch_hasRoomFor 6 = .ok (.aload_n 0, 1) := by decide +kernel
theorem d_Ch_hasRoomFor_7 : decode c_Ch_hasRoomFor 7 = .ok (.getfield 15, 3) := by decide +kernel
theorem d_Ch_hasRoomFor_10 : decode c_Ch_hasRoomFor 10 = .ok (.isub, 1) := by decide +kernel
theorem d_Ch_hasRoomFor_11 : decode c_Ch_hasRoomFor 11 = .ok (.if_icmp .gt 7, 3) := by decide +kernel
theorem d_Ch_hasRoomFor_14 : decode c_Ch_hasRoomFor 14 = .ok (.iconst 1, 1) := by decide +kernel
theorem d_Ch_hasRoomFor_15 : decode c_Ch_hasRoomFor 15 = .ok (.goto 4, 3) := by decide +kernel
theorem d_Ch_hasRoomFor_18 : decode c_Ch_hasRoomFor 18 = .ok (.iconst 0, 1) := by decide +kernel
theorem d_Ch_hasRoomFor_19 : decode c_Ch_hasRoomFor 19 = .ok (.ireturn, 1) := by decide +kernel
theorem d_Ch_append_0 : decode c_Ch_append 0 = .ok (.aload_n 0, 1) := by decide +kernel
theorem d_Ch_append_1 : decode c_Ch_append 1 = .ok (.getfield 15, 3) := by decide +kernel
theorem d_Ch_append_4 : decode c_Ch_append 4 = .ok (.aload_n 0, 1) := by decide +kernel
theorem d_Ch_append_5 : decode c_Ch_append 5 = .ok (.getfield 9, 3) := by decide +kernel
theorem d_Ch_append_8 : decode c_Ch_append 8 = .ok (.arraylength, 1) := by decide +kernel
theorem d_Ch_append_9 : decode c_Ch_append 9 = .ok (.if_icmp .ge 24, 3) := by decide +kernel
theorem d_Ch_append_12 : decode c_Ch_append 12 = .ok (.aload_n 0, 1) := by decide +kernel
theorem d_Ch_append_13 : decode c_Ch_append 13 = .ok (.getfield 9, 3) := by decide +kernel
theorem d_Ch_append_16 : decode c_Ch_append 16 = .ok (.aload_n 0, 1) := by decide +kernel
theorem d_Ch_append_17 : decode c_Ch_append 17 = .ok (.getfield 15, 3) := by decide +kernel
theorem d_Ch_append_20 : decode c_Ch_append 20 = .ok (.iload_n 1, 1) := by decide +kernel
theorem d_Ch_append_21 : decode c_Ch_append 21 = .ok (.i2c, 1) := by decide +kernel
theorem d_Ch_append_22 : decode c_Ch_append 22 = .ok (.castore, 1) := by decide +kernel
theorem d_Ch_append_23 : decode c_Ch_append 23 = .ok (.aload_n 0, 1) := by decide +kernel
theorem d_Ch_append_24 : decode c_Ch_append 24 = .ok (.dup, 1) := by decide +kernel
theorem d_Ch_append_25 : decode c_Ch_append 25 = .ok (.getfield 15, 3) := by decide +kernel
theorem d_Ch_append_28 : decode c_Ch_append 28 = .ok (.iconst 1, 1) := by decide +kernel
theorem d_Ch_append_29 : decode c_Ch_append 29 = .ok (.iadd, 1) := by decide +kernel
theorem d_Ch_append_30 : decode c_Ch_append 30 = .ok (.putfield 15, 3) := by decide +kernel
theorem d_Ch_append_33 : decode c_Ch_append 33 = .ok (.return_, 1) := by decide +kernel
theorem d_Ch_appendBytes_0 : decode c_Ch_appendBytes 0 = .ok (.iconst 0, 1) := by decide +kernel
theorem d_Ch_appendBytes_1 : decode c_Ch_appendBytes 1 = .ok (.istore 4, 2) := by decide +kernel
theorem d_Ch_appendBytes_3 : decode c_Ch_appendBytes 3 = .ok (.iload 4, 2) := by decide +kernel
theorem d_Ch_appendBytes_5 : decode c_Ch_appendBytes 5 = .ok (.iload_n 3, 1) := by decide +kernel
theorem d_Ch_appendBytes_6 : decode c_Ch_appendBytes 6 = .ok (.if_icmp .ge 19, 3) := by decide +kernel
theorem d_Ch_appendBytes_9 : decode c_Ch_appendBytes 9 = .ok (.aload_n 0, 1) := by decide +kernel
theorem d_Ch_appendBytes_10 : decode c_Ch_appendBytes 10 = .ok (.lload_n 1, 1) := by decide +kernel
theorem d_Ch_appendBytes_11 : decode c_Ch_appendBytes 11 = .ok (.iload 4, 2) := by decide +kernel
theorem d_Ch_appendBytes_13 : decode c_Ch_appendBytes 13 = .ok (.invokestatic 19, 3) := by decide +kernel
theorem d_Ch_appendBytes_16 : decode c_Ch_appendBytes 16 = .ok (.invokevirtual 23, 3) := by decide +kernel
theorem d_Ch_appendBytes_19 : decode c_Ch_appendBytes 19 = .ok (.iinc 4 1, 3) := by decide +kernel
theorem d_Ch_appendBytes_22 : decode c_Ch_appendBytes 22 = .ok (.goto (-19), 3) := by decide +kernel
theorem d_Ch_appendBytes_25 : decode c_Ch_appendBytes 25 = .ok (.return_, 1) := by decide +kernel
theorem d_Ch_codeAt_0 : decode c_Ch_codeAt 0 = .ok (.iload_n 1, 1) := by decide +kernel
theorem d_Ch_codeAt_1 : decode c_Ch_codeAt 1 = .ok (.ifCond .lt 20, 3) := by decide +kernel
theorem d_Ch_codeAt_4 : decode c_Ch_codeAt 4 = .ok (.iload_n 1, 1) := by decide +kernel
theorem d_Ch_codeAt_5 : decode c_Ch_codeAt 5 = .ok (.aload_n 0, 1) := by decide +kernel
theorem d_Ch_codeAt_6 : decode c_Ch_codeAt 6 = .ok (.getfield 15, 3) := by decide +kernel
theorem d_Ch_codeAt_9 : decode c_Ch_codeAt 9 = .ok (.if_icmp .ge 12, 3) := by decide +kernel
theorem d_Ch_codeAt_12 : decode c_Ch_codeAt 12 = .ok (.aload_n 0, 1) := by decide +kernel
theorem d_Ch_codeAt_13 : decode c_Ch_codeAt 13 = .ok (.getfield 9, 3) := by decide +kernel
theorem d_Ch_codeAt_16 : decode c_Ch_codeAt 16 = .ok (.iload_n 1, 1) := by decide +kernel
theorem d_Ch_codeAt_17 : decode c_Ch_codeAt 17 = .ok (.caload, 1) := by decide +kernel
theorem d_Ch_codeAt_18 : decode c_Ch_codeAt 18 = .ok (.goto 4, 3) := by decide +kernel
theorem d_Ch_codeAt_21 : decode c_Ch_codeAt 21 = .ok (.iconst (-1), 1) := by decide +kernel
theorem d_Ch_codeAt_22 : decode c_Ch_codeAt 22 = .ok (.ireturn, 1) := by decide +kernel
theorem d_Ch_empty_0 : decode c_Ch_empty 0 = .ok (.aload_n 0, 1) := by decide +kernel
theorem d_Ch_empty_1 : decode c_Ch_empty 1 = .ok (.getfield 15, 3) := by decide +kernel
theorem d_Ch_empty_4 : decode c_Ch_empty 4 = .ok (.istore_n 1, 1) := by decide +kernel
theorem d_Ch_empty_5 : decode c_Ch_empty 5 = .ok (.aload_n 0, 1) := by decide +kernel
theorem d_Ch_empty_6 : decode c_Ch_empty 6 = .ok (.iconst 0, 1) := by decide +kernel
theorem d_Ch_empty_7 : decode c_Ch_empty 7 = .ok (.putfield 15, 3) := by decide +kernel
theorem d_Ch_empty_10 : decode c_Ch_empty 10 = .ok (.iload_n 1, 1) := by decide +kernel
theorem d_Ch_empty_11 : decode c_Ch_empty 11 = .ok (.ireturn, 1) := by decide +kernel
def by8 (x : Int64) (k : Int32) : Int32 := ((x.toUInt64 >>> ((8 * k).toInt64.toUInt64 &&& Int64.toUInt64 63)).toInt64 &&& 255).toInt32
theorem in_lt {k z : Int32} {N' : Nat} (h : ¬ k < 0) (h2 : ¬ z ≤ k) (hz : z.toInt ≤ N') : vp_in k N' := by
  rw [vp_in_iff]
  rw [Int32.le_iff_toInt_le] at h2
  rw [Int32.lt_iff_toInt_lt] at h
  have h0 : (0 : Int32).toInt = 0 := by decide
  omega
def allB (f : Nat → Bool) : Nat → Bool
  | 0 => true
  | n + 1 => allB f n && f n
theorem allB_no {f : Nat → Bool} {k n : Nat} (h : k < n) (hf : f k = false) : allB f n = false := by
  induction n with
  | zero => exact absurd h (Nat.not_lt_zero _)
  | succ n ih =>
    by_cases hk : k = n
    · subst hk; simp [allB, hf]
    · simp [allB, ih (by omega)]
theorem allB_yes {f : Nat → Bool} {n : Nat} (h : allB f n = true) (hf : f n = true) : allB f (n + 1) = true := by simp [allB, h, hf]
def okT (c : Int32) : Bool := decide (c = 10) || (decide (¬ c < 32) && decide (c ≤ 126))
def okI (c : Int32) : Bool := decide (c ≤ 127)
set_option maxHeartbeats 4000000 in
set_option maxRecDepth 100000 in
theorem m_Ab_byteOf (l : Launch) (x : Int64) (k : Int32) : MS l y_Ab_byteOf c_Ab_byteOf 3 (some .int) ({ frames := 0, cells := 0, slots := 0, locals := 0 } : Room) [.long (x), .int (k)] (fun r => r = by8 x k) := by
  refine Met.ofW (cc := c_Ab_byteOf) (maxL := 3) (ret := (some .int)) (by decide) rfl ?_
  intro p e s m args below meth c s₁ B hml hv
  obtain ⟨rfl, hN⟩ := hv
  have hx := B.exec
  have hb := B.bytes
  have hr := B.returns
  have hlocks := B.notSynchronized
  have Bx : p.tables.exec = Jvm.exec ∧ c.code = c_Ab_byteOf ∧ (∀ w ∈ TB, w.before [.long (x), .int (k)].toArray s = true) ∧ s.vm.findClass "AbnfChart" = some m.cls ∧ True := ⟨hx, hb, tb_all (atoms_spec B.pre) hN, findClass_of_methodNamed B.named, trivial⟩
  have hl := lv_entry ([.long (x), .int (k)]) (n := 3) (Nat.le_of_ble_eq_true rfl)
  rw [lg_entry_eq]
  generalize (lg_sl ([.long (x), .int (k)]) ++ List.replicate (3 - (lg_sl ([.long (x), .int (k)])).length) Slot.unset).toArray = ls at hl ⊢
  have hl : lv_has ls 3 [(0, .long (x)), (2, .int (k))] := hl
  refine lv_lload_n Bx.1 Bx.2.1 d_Ab_byteOf_0 rfl (lv_at hl 0 rfl) ?_
  refine lv_bipush (v := 8) Bx.1 Bx.2.1 d_Ab_byteOf_1 (by decide) ?_
  refine lv_iload_n Bx.1 Bx.2.1 d_Ab_byteOf_3 rfl (lv_at hl 1 rfl) ?_
  refine lv_imul Bx.1 Bx.2.1 d_Ab_byteOf_4 ?_
  refine lv_lushr Bx.1 Bx.2.1 d_Ab_byteOf_5 rfl ?_
  refine lv_ldc2 Bx.1 Bx.2.1 Bx.2.2.2.1 (Bx.2.2.1 _ (tb_g kw_228 rfl)) d_Ab_byteOf_6 ?_
  refine lv_land Bx.1 Bx.2.1 d_Ab_byteOf_9 ?_
  refine lv_l2i Bx.1 Bx.2.1 d_Ab_byteOf_10 rfl ?_
  exact W.iret (v := by8 x k) hx hb hr (fun t ht hW => ⟨by8 x k, rfl, rfl, ht⟩) (fun _ h => by cases h) d_Ab_byteOf_11
set_option maxHeartbeats 4000000 in
set_option maxRecDepth 100000 in
theorem m_Ab_isByteCount (l : Launch) (x : Int32) : MS l y_Ab_isByteCount c_Ab_isByteCount 1 (some .boolean) ({ frames := 0, cells := 0, slots := 0, locals := 0 } : Room) [.int (x)] (fun r => r = if x < 1 ∨ 8 < x then 0 else 1) := by
  refine Met.ofW (cc := c_Ab_isByteCount) (maxL := 1) (ret := (some .boolean)) (by decide) rfl ?_
  intro p e s m args below meth c s₁ B hml hv
  obtain ⟨rfl, hN⟩ := hv
  have hx := B.exec
  have hb := B.bytes
  have hr := B.returns
  have hlocks := B.notSynchronized
  have Bx : p.tables.exec = Jvm.exec ∧ c.code = c_Ab_isByteCount ∧ (∀ w ∈ TB, w.before [.int (x)].toArray s = true) ∧ s.vm.findClass "AbnfChart" = some m.cls ∧ True := ⟨hx, hb, tb_all (atoms_spec B.pre) hN, findClass_of_methodNamed B.named, trivial⟩
  have hl := lv_entry ([.int (x)]) (n := 1) (Nat.le_of_ble_eq_true rfl)
  rw [lg_entry_eq]
  generalize (lg_sl ([.int (x)]) ++ List.replicate (1 - (lg_sl ([.int (x)])).length) Slot.unset).toArray = ls at hl ⊢
  have hl : lv_has ls 1 [(0, .int (x))] := hl
  refine lv_iload_n Bx.1 Bx.2.1 d_Ab_isByteCount_0 rfl (lv_at hl 0 rfl) ?_
  refine lv_iconst (v := 1) Bx.1 Bx.2.1 d_Ab_isByteCount_1 (by decide) ?_
  refine lv_icmp_lt Bx.1 Bx.2.1 d_Ab_isByteCount_2 rfl (fun h => ?_) (fun h => ?_)
  · refine lv_iconst (v := 0) Bx.1 Bx.2.1 d_Ab_isByteCount_15 (by decide) ?_
    exact W.zret (v := 0) hx hb hr rfl (fun t ht hW => ⟨0, rfl, (if_pos (Or.inl h)).symm, ht⟩) (fun _ h => by cases h) d_Ab_isByteCount_16
  · refine lv_iload_n Bx.1 Bx.2.1 d_Ab_isByteCount_5 rfl (lv_at hl 0 rfl) ?_
    refine lv_bipush (v := 8) Bx.1 Bx.2.1 d_Ab_isByteCount_6 (by decide) ?_
    refine lv_icmp_gt Bx.1 Bx.2.1 d_Ab_isByteCount_8 rfl (fun h2 => ?_) (fun h2 => ?_)
    · refine lv_iconst (v := 0) Bx.1 Bx.2.1 d_Ab_isByteCount_15 (by decide) ?_
      exact W.zret (v := 0) hx hb hr rfl (fun t ht hW => ⟨0, rfl, (if_pos (Or.inr h2)).symm, ht⟩) (fun _ h => by cases h) d_Ab_isByteCount_16
    · refine lv_iconst (v := 1) Bx.1 Bx.2.1 d_Ab_isByteCount_11 (by decide) ?_
      refine lv_goto Bx.1 Bx.2.1 d_Ab_isByteCount_12 rfl ?_
      exact W.zret (v := 1) hx hb hr rfl (fun t ht hW => ⟨1, rfl, (if_neg (fun q => q.elim h h2)).symm, ht⟩) (fun _ h => by cases h) d_Ab_isByteCount_16
set_option maxHeartbeats 4000000 in
set_option maxRecDepth 100000 in
theorem m_Ab_areTextCodes (l : Launch) (x : Int64) (N : Nat) (hN8 : N ≤ 8) : MS l y_Ab_areTextCodes c_Ab_areTextCodes 5 (some .boolean) ({ frames := 1, cells := 0, slots := 0, locals := 30 } : Room) [.long (x), .int (nI N)] (fun r => r = if allB (fun k => okT (by8 x (nI k))) N then 1 else 0) := by
  refine Met.ofW (cc := c_Ab_areTextCodes) (maxL := 5) (ret := (some .boolean)) (by decide) rfl ?_
  intro p e s m args below meth c s₁ B hml hv
  obtain ⟨rfl, hN⟩ := hv
  have hx := B.exec
  have hb := B.bytes
  have hr := B.returns
  have hlocks := B.notSynchronized
  have Bx : p.tables.exec = Jvm.exec ∧ c.code = c_Ab_areTextCodes ∧ (∀ w ∈ TB, w.before [.long (x), .int (nI N)].toArray s = true) ∧ s.vm.findClass "AbnfChart" = some m.cls ∧ True := ⟨hx, hb, tb_all (atoms_spec B.pre) hN, findClass_of_methodNamed B.named, trivial⟩
  have hl := lv_entry ([.long (x), .int (nI N)]) (n := 5) (Nat.le_of_ble_eq_true rfl)
  rw [lg_entry_eq]
  generalize (lg_sl ([.long (x), .int (nI N)]) ++ List.replicate (5 - (lg_sl ([.long (x), .int (nI N)])).length) Slot.unset).toArray = ls at hl ⊢
  have hl : lv_has ls 5 [(0, .long (x)), (2, .int (nI N))] := hl
  refine lv_iconst (v := 0) Bx.1 Bx.2.1 d_Ab_areTextCodes_0 (by decide) ?_
  refine lv_istore_n (lv' := [(3, .int (0)), (0, .long (x)), (2, .int (nI N))]) Bx.1 Bx.2.1 d_Ab_areTextCodes_1 rfl hl (by decide) rfl (fun ls hl => ?_)
  have loop : ∀ (d k : Nat) (ls : Array Slot), k + d = N → allB (fun k => okT (by8 x (nI k))) k = true → lv_has ls 5 [(3, .int (nI k)), (0, .long x), (2, .int (nI N))] → W p l e (headSpec (Cond.code y_Ab_areTextCodes c_Ab_areTextCodes 5 (some .boolean) :: tg) ({ frames := 1, cells := 0, slots := 0, locals := 30 } : Room)).room s m [.long (x), .int (nI N)].toArray below meth c s.heap [] 0 0 (MQ below (vp_Si (fun r => r = if allB (fun k => okT (by8 x (nI k))) N then 1 else 0)) [.long (x), .int (nI N)].toArray s 0 0 (fun _ => False)) (F0 m 2 ls []) := by
    intro d
    induction d with
    | zero =>
      intro k ls hk ha hl
      obtain rfl : k = N := by omega
      refine lv_iload_n Bx.1 Bx.2.1 d_Ab_areTextCodes_2 rfl (lv_at hl 0 rfl) ?_
      refine lv_iload_n Bx.1 Bx.2.1 d_Ab_areTextCodes_3 rfl (lv_at hl 2 rfl) ?_
      refine lv_icmp_ge Bx.1 Bx.2.1 d_Ab_areTextCodes_4 rfl (fun h => ?_) (fun h => ?_)
      · refine lv_iconst (v := 1) Bx.1 Bx.2.1 d_Ab_areTextCodes_43 (by decide) ?_
        exact W.zret (v := 1) hx hb hr rfl (fun t ht hW => ⟨1, rfl, by rw [ha]; rfl, ht⟩) (fun _ h => by cases h) d_Ab_areTextCodes_44
      · exact absurd (nI_le (Nat.le_refl k) (by omega)) h
    | succ d ih =>
      intro k ls hk ha hl
      refine lv_iload_n Bx.1 Bx.2.1 d_Ab_areTextCodes_2 rfl (lv_at hl 0 rfl) ?_
      refine lv_iload_n Bx.1 Bx.2.1 d_Ab_areTextCodes_3 rfl (lv_at hl 2 rfl) ?_
      refine lv_icmp_ge Bx.1 Bx.2.1 d_Ab_areTextCodes_4 rfl (fun h => ?_) (fun h => ?_)
      · exact absurd h (nI_ge (by omega) (by omega))
      · refine lv_lload_n Bx.1 Bx.2.1 d_Ab_areTextCodes_7 rfl (lv_at hl 1 rfl) ?_
        refine lv_iload_n Bx.1 Bx.2.1 d_Ab_areTextCodes_8 rfl (lv_at hl 0 rfl) ?_
        refine f_callSi (na := 2) (As := [.long (x), .int (nI k)]) (rest := []) Bx hml hN (m_Ab_byteOf l x (nI k)) kw_225 kw_226 kw_1 kw_227 (by decide +kernel) ⟨rfl, rfl⟩ ⟨Nat.le_of_ble_eq_true rfl, Nat.le_of_ble_eq_true rfl⟩ rfl hl.1 (Nat.le_of_ble_eq_true rfl) d_Ab_areTextCodes_9 ⟨Nat.le_of_ble_eq_true rfl, Nat.le_of_ble_eq_true rfl⟩ (fun r1 hr1 => ?_)
        subst hr1
        refine lv_istore (lv' := [(4, .int (by8 x (nI k))), (3, .int (nI k)), (0, .long (x)), (2, .int (nI N))]) Bx.1 Bx.2.1 d_Ab_areTextCodes_12 hl (by decide) rfl (fun ls hl => ?_)
        refine lv_iload Bx.1 Bx.2.1 d_Ab_areTextCodes_14 (lv_at hl 0 rfl) ?_
        refine lv_bipush (v := 10) Bx.1 Bx.2.1 d_Ab_areTextCodes_16 (by decide) ?_
        refine lv_icmp_eq Bx.1 Bx.2.1 d_Ab_areTextCodes_18 rfl (fun h1 => ?_) (fun h1 => ?_)
        · have hk1 : okT (by8 x (nI k)) = true := by simp [okT, h1]
          refine lv_iinc (lv' := [(3, .int ((nI k + (1)))), (4, .int (by8 x (nI k))), (0, .long (x)), (2, .int (nI N))]) Bx.1 Bx.2.1 d_Ab_areTextCodes_37 hl (k := 1) rfl rfl (by decide) rfl (fun ls hl => ?_)
          refine lv_goto Bx.1 Bx.2.1 d_Ab_areTextCodes_40 rfl ?_
          exact ih (k + 1) ls (by omega) (allB_yes ha hk1) (by rw [nI_succ]; exact (lv_sub hl [0, 2, 3] rfl))
        · refine lv_iload Bx.1 Bx.2.1 d_Ab_areTextCodes_21 (lv_at hl 0 rfl) ?_
          refine lv_bipush (v := 32) Bx.1 Bx.2.1 d_Ab_areTextCodes_23 (by decide) ?_
          refine lv_icmp_lt Bx.1 Bx.2.1 d_Ab_areTextCodes_25 rfl (fun h2 => ?_) (fun h2 => ?_)
          · refine lv_iconst (v := 0) Bx.1 Bx.2.1 d_Ab_areTextCodes_35 (by decide) ?_
            exact W.zret (v := 0) hx hb hr rfl (fun t ht hW => ⟨0, rfl, by rw [allB_no (k := k) (by omega) (by simp [okT, h1, h2])]; rfl, ht⟩) (fun _ h => by cases h) d_Ab_areTextCodes_36
          · refine lv_iload Bx.1 Bx.2.1 d_Ab_areTextCodes_28 (lv_at hl 0 rfl) ?_
            refine lv_bipush (v := 126) Bx.1 Bx.2.1 d_Ab_areTextCodes_30 (by decide) ?_
            refine lv_icmp_le Bx.1 Bx.2.1 d_Ab_areTextCodes_32 rfl (fun h3 => ?_) (fun h3 => ?_)
            · have hk1 : okT (by8 x (nI k)) = true := by simp [okT, h1, h2, h3]
              refine lv_iinc (lv' := [(3, .int ((nI k + (1)))), (4, .int (by8 x (nI k))), (0, .long (x)), (2, .int (nI N))]) Bx.1 Bx.2.1 d_Ab_areTextCodes_37 hl (k := 1) rfl rfl (by decide) rfl (fun ls hl => ?_)
              refine lv_goto Bx.1 Bx.2.1 d_Ab_areTextCodes_40 rfl ?_
              exact ih (k + 1) ls (by omega) (allB_yes ha hk1) (by rw [nI_succ]; exact (lv_sub hl [0, 2, 3] rfl))
            · refine lv_iconst (v := 0) Bx.1 Bx.2.1 d_Ab_areTextCodes_35 (by decide) ?_
              exact W.zret (v := 0) hx hb hr rfl (fun t ht hW => ⟨0, rfl, by rw [allB_no (k := k) (by omega) (by simp [okT, h1, h2, h3])]; rfl, ht⟩) (fun _ h => by cases h) d_Ab_areTextCodes_36
  exact loop N 0 ls (by omega) rfl hl
set_option maxHeartbeats 4000000 in
set_option maxRecDepth 100000 in
theorem m_Ab_areInputCodes (l : Launch) (x : Int64) (N : Nat) (hN8 : N ≤ 8) : MS l y_Ab_areInputCodes c_Ab_areInputCodes 4 (some .boolean) ({ frames := 1, cells := 0, slots := 0, locals := 30 } : Room) [.long (x), .int (nI N)] (fun r => r = if allB (fun k => okI (by8 x (nI k))) N then 1 else 0) := by
  refine Met.ofW (cc := c_Ab_areInputCodes) (maxL := 4) (ret := (some .boolean)) (by decide) rfl ?_
  intro p e s m args below meth c s₁ B hml hv
  obtain ⟨rfl, hN⟩ := hv
  have hx := B.exec
  have hb := B.bytes
  have hr := B.returns
  have hlocks := B.notSynchronized
  have Bx : p.tables.exec = Jvm.exec ∧ c.code = c_Ab_areInputCodes ∧ (∀ w ∈ TB, w.before [.long (x), .int (nI N)].toArray s = true) ∧ s.vm.findClass "AbnfChart" = some m.cls ∧ True := ⟨hx, hb, tb_all (atoms_spec B.pre) hN, findClass_of_methodNamed B.named, trivial⟩
  have hl := lv_entry ([.long (x), .int (nI N)]) (n := 4) (Nat.le_of_ble_eq_true rfl)
  rw [lg_entry_eq]
  generalize (lg_sl ([.long (x), .int (nI N)]) ++ List.replicate (4 - (lg_sl ([.long (x), .int (nI N)])).length) Slot.unset).toArray = ls at hl ⊢
  have hl : lv_has ls 4 [(0, .long (x)), (2, .int (nI N))] := hl
  refine lv_iconst (v := 0) Bx.1 Bx.2.1 d_Ab_areInputCodes_0 (by decide) ?_
  refine lv_istore_n (lv' := [(3, .int (0)), (0, .long (x)), (2, .int (nI N))]) Bx.1 Bx.2.1 d_Ab_areInputCodes_1 rfl hl (by decide) rfl (fun ls hl => ?_)
  have loop : ∀ (d k : Nat) (ls : Array Slot), k + d = N → allB (fun k => okI (by8 x (nI k))) k = true → lv_has ls 4 [(3, .int (nI k)), (0, .long x), (2, .int (nI N))] → W p l e (headSpec (Cond.code y_Ab_areInputCodes c_Ab_areInputCodes 4 (some .boolean) :: tg) ({ frames := 1, cells := 0, slots := 0, locals := 30 } : Room)).room s m [.long (x), .int (nI N)].toArray below meth c s.heap [] 0 0 (MQ below (vp_Si (fun r => r = if allB (fun k => okI (by8 x (nI k))) N then 1 else 0)) [.long (x), .int (nI N)].toArray s 0 0 (fun _ => False)) (F0 m 2 ls []) := by
    intro d
    induction d with
    | zero =>
      intro k ls hk ha hl
      obtain rfl : k = N := by omega
      refine lv_iload_n Bx.1 Bx.2.1 d_Ab_areInputCodes_2 rfl (lv_at hl 0 rfl) ?_
      refine lv_iload_n Bx.1 Bx.2.1 d_Ab_areInputCodes_3 rfl (lv_at hl 2 rfl) ?_
      refine lv_icmp_ge Bx.1 Bx.2.1 d_Ab_areInputCodes_4 rfl (fun h => ?_) (fun h => ?_)
      · refine lv_iconst (v := 1) Bx.1 Bx.2.1 d_Ab_areInputCodes_25 (by decide) ?_
        exact W.zret (v := 1) hx hb hr rfl (fun t ht hW => ⟨1, rfl, by rw [ha]; rfl, ht⟩) (fun _ h => by cases h) d_Ab_areInputCodes_26
      · exact absurd (nI_le (Nat.le_refl k) (by omega)) h
    | succ d ih =>
      intro k ls hk ha hl
      refine lv_iload_n Bx.1 Bx.2.1 d_Ab_areInputCodes_2 rfl (lv_at hl 0 rfl) ?_
      refine lv_iload_n Bx.1 Bx.2.1 d_Ab_areInputCodes_3 rfl (lv_at hl 2 rfl) ?_
      refine lv_icmp_ge Bx.1 Bx.2.1 d_Ab_areInputCodes_4 rfl (fun h => ?_) (fun h => ?_)
      · exact absurd h (nI_ge (by omega) (by omega))
      · refine lv_lload_n Bx.1 Bx.2.1 d_Ab_areInputCodes_7 rfl (lv_at hl 1 rfl) ?_
        refine lv_iload_n Bx.1 Bx.2.1 d_Ab_areInputCodes_8 rfl (lv_at hl 0 rfl) ?_
        refine f_callSi (na := 2) (As := [.long (x), .int (nI k)]) (rest := []) Bx hml hN (m_Ab_byteOf l x (nI k)) kw_225 kw_226 kw_1 kw_227 (by decide +kernel) ⟨rfl, rfl⟩ ⟨Nat.le_of_ble_eq_true rfl, Nat.le_of_ble_eq_true rfl⟩ rfl hl.1 (Nat.le_of_ble_eq_true rfl) d_Ab_areInputCodes_9 ⟨Nat.le_of_ble_eq_true rfl, Nat.le_of_ble_eq_true rfl⟩ (fun r1 hr1 => ?_)
        subst hr1
        refine lv_bipush (v := 127) Bx.1 Bx.2.1 d_Ab_areInputCodes_12 (by decide) ?_
        refine lv_icmp_le Bx.1 Bx.2.1 d_Ab_areInputCodes_14 rfl (fun h1 => ?_) (fun h1 => ?_)
        · have hk1 : okI (by8 x (nI k)) = true := by simp [okI, h1]
          refine lv_iinc (lv' := [(3, .int ((nI k + (1)))), (0, .long (x)), (2, .int (nI N))]) Bx.1 Bx.2.1 d_Ab_areInputCodes_19 hl (k := 0) rfl rfl (by decide) rfl (fun ls hl => ?_)
          refine lv_goto Bx.1 Bx.2.1 d_Ab_areInputCodes_22 rfl ?_
          exact ih (k + 1) ls (by omega) (allB_yes ha hk1) (by rw [nI_succ]; exact (lv_sub hl [0, 1, 2] rfl))
        · refine lv_iconst (v := 0) Bx.1 Bx.2.1 d_Ab_areInputCodes_17 (by decide) ?_
          exact W.zret (v := 0) hx hb hr rfl (fun t ht hW => ⟨0, rfl, by rw [allB_no (k := k) (by omega) (by simp [okI, h1])]; rfl, ht⟩) (fun _ h => by cases h) d_Ab_areInputCodes_18
  exact loop N 0 ls (by omega) rfl hl
set_option maxHeartbeats 4000000 in
set_option maxRecDepth 100000 in
theorem m_Ch_empty (l : Launch) {D : va_G} {cy : Nat → ClassId} {sz n : Nat} {ad : Nat → Nat} {mem : Nat → va_E} {j : Nat} {q : Value} {z : Int32} (hj : j < n) (hm : mem j = .inr (0, [q, .int z])) : MI l D cy sz n ad y_Ch_empty c_Ch_empty 2 (some .int) ({ frames := 0, cells := 0, slots := 0, locals := 0 } : Room) mem [.ref (ad j)] (fun r mem' => r = z ∧ mem' = va_up mem j (.inr (0, [q, .int 0]))) := by
  refine Met.ofW (cc := c_Ch_empty) (maxL := 2) (ret := (some .int)) (by decide) rfl ?_
  intro p e s m args below meth c s₁ B hml hv
  obtain ⟨rfl, E, hP, hD⟩ := hv
  have hx := B.exec
  have hb := B.bytes
  have hr := B.returns
  have hlocks := B.notSynchronized
  have Bx : MB p s m [.ref (ad j)].toArray c c_Ch_empty "AbnfChart$Characters" D cy := ⟨hx, hb, tb_all (atoms_spec B.pre) E.2.1, findClass_of_methodNamed B.named, E.1⟩
  have hS : va_S (Az sz) s.heap s.heap [] := va_S.rf
  have hl := lv_entry ([.ref (ad j)]) (n := 2) (Nat.le_of_ble_eq_true rfl)
  rw [lg_entry_eq]
  generalize (lg_sl ([.ref (ad j)]) ++ List.replicate (2 - (lg_sl ([.ref (ad j)])).length) Slot.unset).toArray = ls at hl ⊢
  have hl : lv_has ls 2 [(0, .ref (ad j))] := hl
  refine lv_aload_n Bx.1 Bx.2.1 d_Ch_empty_0 rfl (lv_at hl 0 rfl) ?_
  refine f_get Bx hP hj hm rfl inCh 1 (by decide) kw_32 rfl rfl d_Ch_empty_1 ?_
  refine lv_istore_n (lv' := [(1, .int (z)), (0, .ref (ad j))]) Bx.1 Bx.2.1 d_Ch_empty_4 rfl hl (by decide) rfl (fun ls hl => ?_)
  refine lv_aload_n Bx.1 Bx.2.1 d_Ch_empty_5 rfl (lv_at hl 1 rfl) ?_
  refine lv_iconst (v := 0) Bx.1 Bx.2.1 d_Ch_empty_6 (by decide) ?_
  refine f_put Bx hP hD hS hj hm rfl inCh tyCh okCh nmCh 1 (by decide) kw_32 rfl rfl rfl rfl (Nat.le_of_ble_eq_true rfl) d_Ch_empty_7 (fun H locs hP hS => ?_)
  obtain ⟨mem1, e_mem1⟩ : ∃ z, z = va_up mem (j) (.inr (0, [q, .int (0)])) := ⟨_, rfl⟩
  have hP : va_P D vcl (fw n ad mem1) H := by rw [e_mem1]; exact hP
  have hD : va_D (Az sz) (fw n ad mem1) := fw_D hD
  have h_mem1 : mem1 (j) = .inr (0, [q, .int (0)]) := by rw [e_mem1, va_up_self]
  refine lv_iload_n Bx.1 Bx.2.1 d_Ch_empty_10 rfl (lv_at hl 0 rfl) ?_
  exact W.iret (v := z) hx hb hr (fun t ht hW => ⟨⟨z, mem1, rfl, ⟨rfl, e_mem1⟩, by show va_P _ _ _ t.heap; rw [ht]; exact hP⟩, hS.F ht⟩) hS.2.2 d_Ch_empty_11
set_option maxHeartbeats 4000000 in
set_option maxRecDepth 100000 in
theorem m_Ch_codeAt (l : Launch) {D : va_G} {cy : Nat → ClassId} {sz n : Nat} {ad : Nat → Nat} {mem : Nat → va_E} {j j2 N' : Nat} {z k : Int32} {f : Nat → Int32} (hj : j < n) (hm : mem j = .inr (0, [.ref (ad j2), .int z])) (hj2 : j2 < n) (hm2 : mem j2 = .inl (cy 0, N', .inl f)) (hz : z.toInt ≤ N') : MI l D cy sz n ad y_Ch_codeAt c_Ch_codeAt 2 (some .int) ({ frames := 0, cells := 0, slots := 0, locals := 0 } : Room) mem [.ref (ad j), .int (k)] (fun r mem' => r = (if k < 0 ∨ z ≤ k then -1 else f k.toNatClampNeg) ∧ mem' = mem) := by
  refine Met.ofW (cc := c_Ch_codeAt) (maxL := 2) (ret := (some .int)) (by decide) rfl ?_
  intro p e s m args below meth c s₁ B hml hv
  obtain ⟨rfl, E, hP, hD⟩ := hv
  have hx := B.exec
  have hb := B.bytes
  have hr := B.returns
  have hlocks := B.notSynchronized
  have Bx : MB p s m [.ref (ad j), .int (k)].toArray c c_Ch_codeAt "AbnfChart$Characters" D cy := ⟨hx, hb, tb_all (atoms_spec B.pre) E.2.1, findClass_of_methodNamed B.named, E.1⟩
  have hS : va_S (Az sz) s.heap s.heap [] := va_S.rf
  have hl := lv_entry ([.ref (ad j), .int (k)]) (n := 2) (Nat.le_of_ble_eq_true rfl)
  rw [lg_entry_eq]
  generalize (lg_sl ([.ref (ad j), .int (k)]) ++ List.replicate (2 - (lg_sl ([.ref (ad j), .int (k)])).length) Slot.unset).toArray = ls at hl ⊢
  have hl : lv_has ls 2 [(0, .ref (ad j)), (1, .int (k))] := hl
  refine lv_iload_n Bx.1 Bx.2.1 d_Ch_codeAt_0 rfl (lv_at hl 1 rfl) ?_
  refine lv_if_lt Bx.1 Bx.2.1 d_Ch_codeAt_1 rfl (fun h => ?_) (fun h => ?_)
  · refine lv_iconst (v := -1) Bx.1 Bx.2.1 d_Ch_codeAt_21 (by decide) ?_
    exact W.iret (v := (-1)) hx hb hr (fun t ht hW => ⟨⟨(-1), mem, rfl, ⟨(if_pos (Or.inl h)).symm, rfl⟩, by show va_P _ _ _ t.heap; rw [ht]; exact hP⟩, hS.F ht⟩) hS.2.2 d_Ch_codeAt_22
  · refine lv_iload_n Bx.1 Bx.2.1 d_Ch_codeAt_4 rfl (lv_at hl 1 rfl) ?_
    refine lv_aload_n Bx.1 Bx.2.1 d_Ch_codeAt_5 rfl (lv_at hl 0 rfl) ?_
    refine f_get Bx hP hj hm rfl inCh 1 (by decide) kw_32 rfl rfl d_Ch_codeAt_6 ?_
    refine lv_icmp_ge Bx.1 Bx.2.1 d_Ch_codeAt_9 rfl (fun h2 => ?_) (fun h2 => ?_)
    · refine lv_iconst (v := -1) Bx.1 Bx.2.1 d_Ch_codeAt_21 (by decide) ?_
      exact W.iret (v := (-1)) hx hb hr (fun t ht hW => ⟨⟨(-1), mem, rfl, ⟨(if_pos (Or.inr h2)).symm, rfl⟩, by show va_P _ _ _ t.heap; rw [ht]; exact hP⟩, hS.F ht⟩) hS.2.2 d_Ch_codeAt_22
    · refine lv_aload_n Bx.1 Bx.2.1 d_Ch_codeAt_12 rfl (lv_at hl 0 rfl) ?_
      refine f_get Bx hP hj hm rfl inCh 0 (by decide) kw_31 rfl rfl d_Ch_codeAt_13 ?_
      refine lv_iload_n Bx.1 Bx.2.1 d_Ch_codeAt_16 rfl (lv_at hl 1 rfl) ?_
      refine f_cald Bx hP hj2 hm2 (in_lt h h2 hz) d_Ch_codeAt_17 ?_
      refine lv_goto Bx.1 Bx.2.1 d_Ch_codeAt_18 rfl ?_
      exact W.iret (v := f k.toNatClampNeg) hx hb hr (fun t ht hW => ⟨⟨f k.toNatClampNeg, mem, rfl, ⟨(if_neg (fun q => q.elim h h2)).symm, rfl⟩, by show va_P _ _ _ t.heap; rw [ht]; exact hP⟩, hS.F ht⟩) hS.2.2 d_Ch_codeAt_22
set_option maxHeartbeats 4000000 in
set_option maxRecDepth 100000 in
theorem m_Ch_hasRoomFor (l : Launch) {D : va_G} {cy : Nat → ClassId} {sz n : Nat} {ad : Nat → Nat} {mem : Nat → va_E} {j j2 N' : Nat} {z k : Int32} {f : Nat → Int32} (hj : j < n) (hm : mem j = .inr (0, [.ref (ad j2), .int z])) (hj2 : j2 < n) (hm2 : mem j2 = .inl (cy 0, N', .inl f)) : MI l D cy sz n ad y_Ch_hasRoomFor c_Ch_hasRoomFor 2 (some .boolean) ({ frames := 0, cells := 0, slots := 0, locals := 0 } : Room) mem [.ref (ad j), .int (k)] (fun r mem' => r = (if nI N' - z < k then 0 else 1) ∧ mem' = mem) := by
  refine Met.ofW (cc := c_Ch_hasRoomFor) (maxL := 2) (ret := (some .boolean)) (by decide) rfl ?_
  intro p e s m args below meth c s₁ B hml hv
  obtain ⟨rfl, E, hP, hD⟩ := hv
  have hx := B.exec
  have hb := B.bytes
  have hr := B.returns
  have hlocks := B.notSynchronized
  have Bx : MB p s m [.ref (ad j), .int (k)].toArray c c_Ch_hasRoomFor "AbnfChart$Characters" D cy := ⟨hx, hb, tb_all (atoms_spec B.pre) E.2.1, findClass_of_methodNamed B.named, E.1⟩
  have hS : va_S (Az sz) s.heap s.heap [] := va_S.rf
  have hl := lv_entry ([.ref (ad j), .int (k)]) (n := 2) (Nat.le_of_ble_eq_true rfl)
  rw [lg_entry_eq]
  generalize (lg_sl ([.ref (ad j), .int (k)]) ++ List.replicate (2 - (lg_sl ([.ref (ad j), .int (k)])).length) Slot.unset).toArray = ls at hl ⊢
  have hl : lv_has ls 2 [(0, .ref (ad j)), (1, .int (k))] := hl
  refine lv_iload_n Bx.1 Bx.2.1 d_Ch_hasRoomFor_0 rfl (lv_at hl 1 rfl) ?_
  refine lv_aload_n Bx.1 Bx.2.1 d_Ch_hasRoomFor_1 rfl (lv_at hl 0 rfl) ?_
  refine f_get Bx hP hj hm rfl inCh 0 (by decide) kw_31 rfl rfl d_Ch_hasRoomFor_2 ?_
  refine f_alen (t0 := 0) Bx hP hj2 hm2 rfl (v := nI N') rfl d_Ch_hasRoomFor_5 ?_
  refine lv_aload_n Bx.1 Bx.2.1 d_Ch_hasRoomFor_6 rfl (lv_at hl 0 rfl) ?_
  refine f_get Bx hP hj hm rfl inCh 1 (by decide) kw_32 rfl rfl d_Ch_hasRoomFor_7 ?_
  refine lv_isub Bx.1 Bx.2.1 d_Ch_hasRoomFor_10 ?_
  refine lv_icmp_gt Bx.1 Bx.2.1 d_Ch_hasRoomFor_11 rfl (fun h => ?_) (fun h => ?_)
  · refine lv_iconst (v := 0) Bx.1 Bx.2.1 d_Ch_hasRoomFor_18 (by decide) ?_
    exact W.zret (v := 0) hx hb hr rfl (fun t ht hW => ⟨⟨0, mem, rfl, ⟨(if_pos h).symm, rfl⟩, by show va_P _ _ _ t.heap; rw [ht]; exact hP⟩, hS.F ht⟩) hS.2.2 d_Ch_hasRoomFor_19
  · refine lv_iconst (v := 1) Bx.1 Bx.2.1 d_Ch_hasRoomFor_14 (by decide) ?_
    refine lv_goto Bx.1 Bx.2.1 d_Ch_hasRoomFor_15 rfl ?_
    exact W.zret (v := 1) hx hb hr rfl (fun t ht hW => ⟨⟨1, mem, rfl, ⟨(if_neg h).symm, rfl⟩, by show va_P _ _ _ t.heap; rw [ht]; exact hP⟩, hS.F ht⟩) hS.2.2 d_Ch_hasRoomFor_19
def cN (x : Int32) : Int32 := (x.toUInt32 % 65536).toInt32
def apB (f : Nat → Int32) (Z : Nat) (x : Int64) (k : Nat) : Nat → Int32 := fun i => if Z ≤ i ∧ i < Z + k then cN (by8 x (nI (i - Z))) else f i
theorem apB_0 (f : Nat → Int32) (Z : Nat) (x : Int64) : apB f Z x 0 = f := by
  funext i
  unfold apB
  rw [if_neg (by omega)]
theorem apB_s (f : Nat → Int32) (Z : Nat) (x : Int64) (k : Nat) : upd (apB f Z x k) (Z + k) (cN (by8 x (nI k))) = apB f Z x (k + 1) := by
  funext i
  unfold upd apB
  by_cases h : i = Z + k
  · subst h
    rw [if_pos rfl, if_pos (by omega)]
    congr 3
    omega
  · rw [if_neg h]
    by_cases h2 : Z ≤ i ∧ i < Z + k
    · rw [if_pos h2, if_pos (by omega)]
    · rw [if_neg h2, if_neg (by omega)]
theorem up_up {α : Type} (f : Nat → α) (k : Nat) (v w : α) : va_up (va_up f k v) k w = va_up f k w := by
  funext i
  unfold va_up
  split <;> rfl
theorem up_sw {α : Type} (f : Nat → α) {j k : Nat} (v w : α) (h : j ≠ k) : va_up (va_up f j v) k w = va_up (va_up f k w) j v := by
  funext i
  unfold va_up
  by_cases h1 : i = k
  · subst h1; simp [Ne.symm h]
  · simp [h1]
theorem up2 {α : Type} (f : Nat → α) {j k : Nat} (a b c d : α) (h : j ≠ k) : va_up (va_up (va_up (va_up f k a) j b) k c) j d = va_up (va_up f k c) j d := by
  rw [up_sw (va_up f k a) b c h, up_up, up_up]
theorem up_id {α : Type} (f : Nat → α) {k : Nat} {v : α} (h : f k = v) : va_up f k v = f := by
  funext i
  unfold va_up
  split
  · subst_vars; rfl
  · rfl
def chM (cy : Nat → ClassId) (ad : Nat → Nat) (mem : Nat → va_E) (j j2 N' : Nat) (f : Nat → Int32) (Z : Nat) : Nat → va_E := va_up (va_up mem j2 (.inl (cy 0, N', .inl f))) j (.inr (0, [.ref (ad j2), .int (nI Z)]))
set_option maxHeartbeats 4000000 in
set_option maxRecDepth 100000 in
theorem m_Ch_append (l : Launch) {D : va_G} {cy : Nat → ClassId} {sz n : Nat} {ad : Nat → Nat} {mem : Nat → va_E} {j j2 N' Z : Nat} {x : Int32} {f : Nat → Int32} (hj : j < n) (hm : mem j = .inr (0, [.ref (ad j2), .int (nI Z)])) (hj2 : j2 < n) (hm2 : mem j2 = .inl (cy 0, N', .inl f)) (hne : j ≠ j2) (hZ : Z < N') (hN : N' < 2 ^ 31) : MV l D cy sz n ad y_Ch_append c_Ch_append 2 ({ frames := 0, cells := 0, slots := 0, locals := 0 } : Room) mem [.ref (ad j), .int (x)] (fun mem' => mem' = chM cy ad mem j j2 N' (upd f Z (cN x)) (Z + 1)) := by
  refine Met.ofW (cc := c_Ch_append) (maxL := 2) (ret := none) (by decide) rfl ?_
  intro p e s m args below meth c s₁ B hml hv
  obtain ⟨rfl, E, hP, hD⟩ := hv
  have hx := B.exec
  have hb := B.bytes
  have hr := B.returns
  have hlocks := B.notSynchronized
  have Bx : MB p s m [.ref (ad j), .int (x)].toArray c c_Ch_append "AbnfChart$Characters" D cy := ⟨hx, hb, tb_all (atoms_spec B.pre) E.2.1, findClass_of_methodNamed B.named, E.1⟩
  have hS : va_S (Az sz) s.heap s.heap [] := va_S.rf
  have hl := lv_entry ([.ref (ad j), .int (x)]) (n := 2) (Nat.le_of_ble_eq_true rfl)
  rw [lg_entry_eq]
  generalize (lg_sl ([.ref (ad j), .int (x)]) ++ List.replicate (2 - (lg_sl ([.ref (ad j), .int (x)])).length) Slot.unset).toArray = ls at hl ⊢
  have hl : lv_has ls 2 [(0, .ref (ad j)), (1, .int (x))] := hl
  refine lv_aload_n Bx.1 Bx.2.1 d_Ch_append_0 rfl (lv_at hl 0 rfl) ?_
  refine f_get Bx hP hj hm rfl inCh 1 (by decide) kw_32 rfl rfl d_Ch_append_1 ?_
  refine lv_aload_n Bx.1 Bx.2.1 d_Ch_append_4 rfl (lv_at hl 0 rfl) ?_
  refine f_get Bx hP hj hm rfl inCh 0 (by decide) kw_31 rfl rfl d_Ch_append_5 ?_
  refine f_alen (t0 := 0) Bx hP hj2 hm2 rfl (v := nI N') rfl d_Ch_append_8 ?_
  refine lv_icmp_ge Bx.1 Bx.2.1 d_Ch_append_9 rfl (fun h => ?_) (fun h => ?_)
  · exact absurd h (nI_ge hZ hN)
  · refine lv_aload_n Bx.1 Bx.2.1 d_Ch_append_12 rfl (lv_at hl 0 rfl) ?_
    refine f_get Bx hP hj hm rfl inCh 0 (by decide) kw_31 rfl rfl d_Ch_append_13 ?_
    refine lv_aload_n Bx.1 Bx.2.1 d_Ch_append_16 rfl (lv_at hl 0 rfl) ?_
    refine f_get Bx hP hj hm rfl inCh 1 (by decide) kw_32 rfl rfl d_Ch_append_17 ?_
    refine lv_iload_n Bx.1 Bx.2.1 d_Ch_append_20 rfl (lv_at hl 1 rfl) ?_
    refine lv_i2c Bx.1 Bx.2.1 d_Ch_append_21 rfl ?_
    refine f_cast (x := cN x) Bx hP hD hS hj2 hm2 (vp_in_nI hZ hN) d_Ch_append_22 (fun H locs hP hS => ?_)
    rw [nI_clamp (by omega), show vp_nar .char (cN x) = cN x from pk_vc x] at hP
    obtain ⟨memA, e_memA⟩ : ∃ z, z = va_up mem (j2) ((.inl (cy 0, N', .inl (upd f Z (cN x))))) := ⟨_, rfl⟩
    have hP : va_P D vcl (fw n ad memA) H := by rw [e_memA]; exact hP
    have hD : va_D (Az sz) (fw n ad memA) := fw_D hD
    have h_memA : memA (j2) = (.inl (cy 0, N', .inl (upd f Z (cN x)))) := by rw [e_memA, va_up_self]
    have hh1 := (va_up_ne mem ((.inl (cy 0, N', .inl (upd f Z (cN x))))) (show (j : Nat) ≠ j2 by first | decide | assumption | omega)).trans hm
    rw [← e_memA] at hh1
    refine lv_aload_n Bx.1 Bx.2.1 d_Ch_append_23 rfl (lv_at hl 0 rfl) ?_
    refine lv_dup Bx.1 Bx.2.1 d_Ch_append_24 rfl ?_
    refine f_get Bx hP hj hh1 rfl inCh 1 (by decide) kw_32 rfl rfl d_Ch_append_25 ?_
    refine lv_iconst (v := 1) Bx.1 Bx.2.1 d_Ch_append_28 (by decide) ?_
    refine lv_iadd Bx.1 Bx.2.1 d_Ch_append_29 ?_
    rw [nI_1]
    refine f_put Bx hP hD hS hj hh1 rfl inCh tyCh okCh nmCh 1 (by decide) kw_32 rfl rfl rfl rfl (Nat.le_of_ble_eq_true rfl) d_Ch_append_30 (fun H locs hP hS => ?_)
    obtain ⟨mem2, e_mem2⟩ : ∃ z, z = va_up memA (j) (.inr (0, [.ref (ad j2), .int (nI (Z + 1))])) := ⟨_, rfl⟩
    have hP : va_P D vcl (fw n ad mem2) H := by rw [e_mem2]; exact hP
    have hD : va_D (Az sz) (fw n ad mem2) := fw_D hD
    have h_mem2 : mem2 (j) = .inr (0, [.ref (ad j2), .int (nI (Z + 1))]) := by rw [e_mem2, va_up_self]
    exact W.vret hx hb hr (fun t ht hW => ⟨⟨mem2, rfl, by rw [e_mem2, e_memA]; rfl, by show va_P _ _ _ t.heap; rw [ht]; exact hP⟩, hS.F ht⟩) hS.2.2 d_Ch_append_33
set_option maxHeartbeats 4000000 in
set_option maxRecDepth 100000 in
theorem m_Ch_appendBytes (l : Launch) {D : va_G} {cy : Nat → ClassId} {sz n : Nat} {ad : Nat → Nat} {mem : Nat → va_E} {j j2 N' Z N : Nat} {x : Int64} {f : Nat → Int32} (hj : j < n) (hm : mem j = .inr (0, [.ref (ad j2), .int (nI Z)])) (hj2 : j2 < n) (hm2 : mem j2 = .inl (cy 0, N', .inl f)) (hne : j ≠ j2) (hZ : Z + N ≤ N') (hN : N' < 2 ^ 31) : MV l D cy sz n ad y_Ch_appendBytes c_Ch_appendBytes 5 ({ frames := 1, cells := 0, slots := 0, locals := 30 } : Room) mem [.ref (ad j), .long (x), .int (nI N)] (fun mem' => mem' = chM cy ad mem j j2 N' (apB f Z x N) (Z + N)) := by
  refine Met.ofW (cc := c_Ch_appendBytes) (maxL := 5) (ret := none) (by decide) rfl ?_
  intro p e s m args below meth c s₁ B hml hv
  obtain ⟨rfl, E, hP, hD⟩ := hv
  have hx := B.exec
  have hb := B.bytes
  have hr := B.returns
  have hlocks := B.notSynchronized
  have Bx : MB p s m [.ref (ad j), .long (x), .int (nI N)].toArray c c_Ch_appendBytes "AbnfChart$Characters" D cy := ⟨hx, hb, tb_all (atoms_spec B.pre) E.2.1, findClass_of_methodNamed B.named, E.1⟩
  have hS : va_S (Az sz) s.heap s.heap [] := va_S.rf
  have hl := lv_entry ([.ref (ad j), .long (x), .int (nI N)]) (n := 5) (Nat.le_of_ble_eq_true rfl)
  rw [lg_entry_eq]
  generalize (lg_sl ([.ref (ad j), .long (x), .int (nI N)]) ++ List.replicate (5 - (lg_sl ([.ref (ad j), .long (x), .int (nI N)])).length) Slot.unset).toArray = ls at hl ⊢
  have hl : lv_has ls 5 [(0, .ref (ad j)), (1, .long (x)), (3, .int (nI N))] := hl
  refine lv_iconst (v := 0) Bx.1 Bx.2.1 d_Ch_appendBytes_0 (by decide) ?_
  refine lv_istore (lv' := [(4, .int (0)), (0, .ref (ad j)), (1, .long (x)), (3, .int (nI N))]) Bx.1 Bx.2.1 d_Ch_appendBytes_1 hl (by decide) rfl (fun ls hl => ?_)
  have loop : ∀ (d k : Nat) (ls : Array Slot) (H : Heap) (locs : List Loc), k + d = N → lv_has ls 5 [(4, .int (nI k)), (0, .ref (ad j)), (1, .long x), (3, .int (nI N))] → va_P D vcl (fw n ad (chM cy ad mem j j2 N' (apB f Z x k) (Z + k))) H → va_S (Az sz) s.heap H locs → W p l e (headSpec (Cond.code y_Ch_appendBytes c_Ch_appendBytes 5 none :: tg) ({ frames := 1, cells := 0, slots := 0, locals := 30 } : Room)).room s m [.ref (ad j), .long (x), .int (nI N)].toArray below meth c H locs 0 0 (MQ below (va_Qv (fun mem' => mem' = chM cy ad mem j j2 N' (apB f Z x N) (Z + N)) (PP D n ad) (Az sz)) [.ref (ad j), .long (x), .int (nI N)].toArray s 0 0 (Az sz)) (F0 m 3 ls []) := by
    intro d
    induction d with
    | zero =>
      intro k ls H locs hk hl hP hS
      obtain rfl : k = N := by omega
      refine lv_iload Bx.1 Bx.2.1 d_Ch_appendBytes_3 (lv_at hl 0 rfl) ?_
      refine lv_iload_n Bx.1 Bx.2.1 d_Ch_appendBytes_5 rfl (lv_at hl 3 rfl) ?_
      refine lv_icmp_ge Bx.1 Bx.2.1 d_Ch_appendBytes_6 rfl (fun h => ?_) (fun h => ?_)
      · exact W.vret hx hb hr (fun t ht hW => ⟨⟨(chM cy ad mem j j2 N' (apB f Z x k) (Z + k)), rfl, rfl, by show va_P _ _ _ t.heap; rw [ht]; exact hP⟩, hS.F ht⟩) hS.2.2 d_Ch_appendBytes_25
      · exact absurd (nI_le (Nat.le_refl k) (by omega)) h
    | succ d ih =>
      intro k ls H locs hk hl hP hS
      refine lv_iload Bx.1 Bx.2.1 d_Ch_appendBytes_3 (lv_at hl 0 rfl) ?_
      refine lv_iload_n Bx.1 Bx.2.1 d_Ch_appendBytes_5 rfl (lv_at hl 3 rfl) ?_
      refine lv_icmp_ge Bx.1 Bx.2.1 d_Ch_appendBytes_6 rfl (fun h => ?_) (fun h => ?_)
      · exact absurd h (nI_ge (by omega) (by omega))
      · refine lv_aload_n Bx.1 Bx.2.1 d_Ch_appendBytes_9 rfl (lv_at hl 1 rfl) ?_
        refine lv_lload_n Bx.1 Bx.2.1 d_Ch_appendBytes_10 rfl (lv_at hl 2 rfl) ?_
        refine lv_iload Bx.1 Bx.2.1 d_Ch_appendBytes_11 (lv_at hl 0 rfl) ?_
        refine f_callSNi (na := 2) (As := [.long (x), .int (nI k)]) (rest := [.ref (ad j)]) Bx hml E.2.1 (m_Ab_byteOf l x (nI k)) kw_316 kw_226 kw_1 kw_227 (by decide +kernel) ⟨rfl, rfl⟩ ⟨Nat.le_of_ble_eq_true rfl, Nat.le_of_ble_eq_true rfl⟩ rfl hl.1 (Nat.le_of_ble_eq_true rfl) d_Ch_appendBytes_13 ⟨Nat.le_of_ble_eq_true rfl, Nat.le_of_ble_eq_true rfl⟩ (fun r1 hr1 => ?_)
        subst hr1
        have hD : va_D (Az sz) (fw n ad (chM cy ad mem j j2 N' (apB f Z x k) (Z + k))) := fw_D hD
        have hm : chM cy ad mem j j2 N' (apB f Z x k) (Z + k) j = .inr (0, [.ref (ad j2), .int (nI (Z + k))]) := va_up_self _ _ _
        have hm2 : chM cy ad mem j j2 N' (apB f Z x k) (Z + k) j2 = .inl (cy 0, N', .inl (apB f Z x k)) := by unfold chM; rw [va_up_ne _ _ (Ne.symm hne), va_up_self]
        refine f_callVv (na := 1) (As := [.int (by8 x (nI k))]) (rest := []) Bx hml E hP hD hS hj hm rfl (m_Ch_append l hj hm hj2 hm2 hne (by omega) hN) kw_317 kw_318 kw_319 kw_2 kw_320 (by decide +kernel) ⟨rfl, rfl⟩ ⟨Nat.le_of_ble_eq_true rfl, Nat.le_of_ble_eq_true rfl⟩ rfl hl.1 (Nat.le_of_ble_eq_true rfl) d_Ch_appendBytes_16 ⟨Nat.le_of_ble_eq_true rfl, Nat.le_of_ble_eq_true rfl⟩ (fun mem3 H locs hq hP hS => ?_)
        have hD : va_D (Az sz) (fw n ad mem3) := fw_D hD
        have hq2 : mem3 = chM cy ad mem j j2 N' (apB f Z x (k + 1)) (Z + (k + 1)) := by rw [hq, apB_s]; exact up2 _ _ _ _ _ hne
        subst hq2
        refine lv_iinc (lv' := [(4, .int ((nI k + (1)))), (0, .ref (ad j)), (1, .long (x)), (3, .int (nI N))]) Bx.1 Bx.2.1 d_Ch_appendBytes_19 hl (k := 0) rfl rfl (by decide) rfl (fun ls hl => ?_)
        refine lv_goto Bx.1 Bx.2.1 d_Ch_appendBytes_22 rfl ?_
        exact ih (k + 1) ls H locs (by omega) (by rw [nI_succ]; exact (lv_sub hl [0, 1, 2, 3] rfl)) hP hS
  exact loop N 0 ls _ _ (by omega) hl (by rw [apB_0, show chM cy ad mem j j2 N' f (Z + 0) = mem from by unfold chM; rw [up_id mem hm2]; exact up_id mem hm]; exact hP) hS
end
section
/-! methods with handlers: the law's own calls of the class -/
section CT
variable {p : Program} {l : Launch} {e : Env} {R : Room} {s : State} {m : MethodId} {args : Array Value} {below : List Frame} {meth : Method} {c : Code} {H : Heap} {locs : List Loc} {cells slots : Nat} {Q : State → Prop}
variable {cc : ByteArray} {pc nL : Nat} {ls : Array Slot} {rest As : List Value} {D : va_G} {cy : Nat → ClassId} {own : String} {index sz n maxL na : Nat} {ad : Nat → Nat} {mem : Nat → va_E} {y : MethodName} {bytes : ByteArray} {ret : Option FieldType} {rm : Room} {hh : List (Nat × Nat × Nat × Nat)}
abbrev ML (l : Launch) (D : va_G) (cy : Nat → ClassId) (sz n : Nat) (ad : Nat → Nat) (y : MethodName) (bytes : ByteArray) (maxL : Nat) (ret : Option FieldType) (hh : List (Nat × Nat × Nat × Nat)) (rm : Room) (mem : Nat → va_E) (av : List Value) (post : Int32 → (Nat → va_E) → Prop) : Prop :=
  Met l y (.codeWith y bytes maxL ret hh :: tg) rm (va_Pc av (PR D cy sz n ad mem)) (va_Qi post (PP D n ad) (Az sz)) 1 6 (Az sz)
/-- the first row of the table takes it -/
theorem f_catch1 {X : String} {ce : Cell} {q : Addr} {en : Nat × Nat × Nat × Nat} {suf : List (Nat × Nat × Nat × Nat)} (B : MB p s m args c cc own D cy) (hT : c.exceptionTable.toList = tableOf (en :: suf)) (hx : en.1 ≤ pc ∧ pc < en.2.1) (h0 : en.2.2.2 ≠ 0) (hl : Cond.classLink own en.2.2.2 X ∈ lw_tbl) (hc : Cond.castable X X ∈ lw_tbl) (hcell : H[q]? = some ce) (hv : ce.vm = .none) (hcl : s.vm.findClass X = some ce.cls)
    (kk : W p l e R s m args below meth c H locs cells slots Q (F0 m en.2.2.1 ls [.ref q])) : vx_W p l e R s m args below meth c H locs cells slots Q (F0 m pc ls rest) q :=
  vx_catch (own := own) (name := X) (E := X) B.2.2.2.1 [] ⟨en.1, en.2.1, en.2.2.1, en.2.2.2⟩ (tableOf suf) hT (fun z hz => by cases hz) (by simp [covers, hx.1, hx.2]) h0 (B.2.2.1 _ (tb_g hl rfl)) (B.2.2.1 _ (tb hc rfl)) hcell hv hcl kk
/-- the second does -/
theorem f_catch2 {X Y : String} {ce : Cell} {q : Addr} {e0 en : Nat × Nat × Nat × Nat} {suf : List (Nat × Nat × Nat × Nat)} (B : MB p s m args c cc own D cy) (hT : c.exceptionTable.toList = tableOf (e0 :: en :: suf)) (hx : en.1 ≤ pc ∧ pc < en.2.1) (h0 : en.2.2.2 ≠ 0) (hl : Cond.classLink own en.2.2.2 X ∈ lw_tbl) (hc : Cond.castable X X ∈ lw_tbl) (h00 : e0.2.2.2 ≠ 0) (hl0 : Cond.classLink own e0.2.2.2 Y ∈ lw_tbl) (hnc : va_Nc X Y s) (hcell : H[q]? = some ce) (hv : ce.vm = .none) (hcl : s.vm.findClass X = some ce.cls)
    (kk : W p l e R s m args below meth c H locs cells slots Q (F0 m en.2.2.1 ls [.ref q])) : vx_W p l e R s m args below meth c H locs cells slots Q (F0 m pc ls rest) q :=
  vx_catch (own := own) (name := X) (E := X) B.2.2.2.1 [⟨e0.1, e0.2.1, e0.2.2.1, e0.2.2.2⟩] ⟨en.1, en.2.1, en.2.2.1, en.2.2.2⟩ (tableOf suf) hT (fun z hz => by
    obtain rfl := List.mem_singleton.mp hz
    exact Or.inr ⟨h00, Y, B.2.2.1 _ (tb_g hl0 rfl), hnc⟩) (by simp [covers, hx.1, hx.2]) h0 (B.2.2.1 _ (tb_g hl rfl)) (B.2.2.1 _ (tb hc rfl)) hcell hv hcl kk
theorem gdSW {idx k : Nat} {r : Option FieldType} (h1 : Cond.methodLink own idx y ∈ lw_tbl) (h2 : Cond.static y ∈ lw_tbl) (h4 : Cond.initialized y.cls ∈ lw_tbl) (h5 : Cond.codeWith y bytes k r hh ∈ lw_tbl) : GoodIn TB (va_wsS own idx y (.codeWith y bytes k r hh :: tg)) := by
  intro w h
  unfold va_wsS at h
  rcases List.mem_append.mp h with h | h
  · simp only [List.mem_cons, List.not_mem_nil, or_false] at h
    rcases h with rfl | rfl | rfl
    · exact ⟨tb_g h1 rfl, good_of_word rfl⟩
    · exact ⟨tb_g h2 rfl, good_of_word rfl⟩
    · exact ⟨tb_g h4 rfl, good_of_word rfl⟩
  · exact gdC h5 rfl w h
theorem f_callL {post : Int32 → (Nat → va_E) → Prop} (B : MB p s m args c cc own D cy) (hml : c.maxLocals = nL) (E : EV D cy sz s) (hP : va_P D vcl (fw n ad mem) H) (hD : va_D (Az sz) (fw n ad mem)) (hS : va_S (Az sz) s.heap H locs)
    (M : ML l D cy sz n ad y bytes maxL ret hh rm mem As post) (h1 : Cond.methodLink own index y ∈ lw_tbl) (h2 : Cond.static y ∈ lw_tbl) (h4 : Cond.initialized y.cls ∈ lw_tbl) (h5 : Cond.codeWith y bytes maxL ret hh ∈ lw_tbl)
    (hd : y.cls ≠ "java/lang/invoke/MethodHandle" ∧ y.cls ≠ "java/lang/invoke/VarHandle" ∧ (parseMethodDescriptor y.desc).map (fun d => d.parameters.length) = some na) (hrm : rm.cells = 1 ∧ rm.slots = 6) (hR : rm.frames + 1 ≤ R.frames ∧ 8 + (maxL + 11) + rm.locals ≤ R.locals) (hn : As.length = na) (hsz : ls.size = nL) (hw : (rest.map fun v => v.category).sum ≤ 8) (hdg : decode cc pc = .ok (.invokestatic index, 3)) (hf : cells + 1 ≤ R.cells ∧ slots + 6 ≤ R.slots)
    (kk : ∀ (r : Int32) (mem' : Nat → va_E) (H1 : Heap) (locs1 : List Loc), post r mem' → va_P D vcl (fw n ad mem') H1 → va_S (Az sz) s.heap H1 locs1 → W p l e R s m args below meth c H1 locs1 (cells + 1) (slots + 6) Q (F0 m (pc + 3) ls (.int r :: rest))) :
    W p l e R s m args below meth c H locs cells slots Q (F0 m pc ls (As.reverse ++ rest)) :=
  va_calli (vx_runSW (As := As) (rest := rest) ⟨B.1, B.2.1, hml, B.2.2.2.1, B.2.2.1⟩ M (vx_cwSW na B.2.2.1 (gdSW h1 h2 h4 h5) rfl hrm.1 hrm.2 hd hR) (f_preS E hP hD hS) rfl hn hsz rfl (lv_room hw) hdg hf) hS (fun q _ h => h) (fun q h => h)
    (fun r u t H1 locs1 ht _ hp hb _ _ hS1 => kk r u H1 locs1 hp (by rw [← ht]; exact hb) hS1)
end CT
end
section
theorem d_Ct_forget_0 : decode c_Ct_forget 0 = .ok (.aload_n 0, 1) := by decide +kernel
theorem d_Ct_forget_1 : decode c_Ct_forget 1 = .ok (.iconst 0, 1) := by decide +kernel
theorem d_Ct_forget_2 : decode c_Ct_forget 2 = .ok (.putfield 19, 3) := by decide +kernel
theorem d_Ct_forget_5 : decode c_Ct_forget 5 = .ok (.return_, 1) := by decide +kernel
theorem d_Gr_ruleTotal_0 : decode c_Gr_ruleTotal 0 = .ok (.aload_n 0, 1) := by decide +kernel
theorem d_Gr_ruleTotal_1 : decode c_Gr_ruleTotal 1 = .ok (.getfield 41, 3) := by decide +kernel
theorem d_Gr_ruleTotal_4 : decode c_Gr_ruleTotal 4 = .ok (.ifCond .eq 10, 3) := by decide +kernel
theorem d_Gr_ruleTotal_7 : decode c_Gr_ruleTotal 7 = .ok (.aload_n 0, 1) := by decide +kernel
theorem d_Gr_ruleTotal_8 : decode c_Gr_ruleTotal 8 = .ok (.getfield 34, 3) := by decide +kernel
theorem d_Gr_ruleTotal_11 : decode c_Gr_ruleTotal 11 = .ok (.goto 4, 3) := by decide +kernel
theorem d_Gr_ruleTotal_14 : decode c_Gr_ruleTotal 14 = .ok (.iconst 0, 1) := by decide +kernel
theorem d_Gr_ruleTotal_15 : decode c_Gr_ruleTotal 15 = .ok (.ireturn, 1) := by decide +kernel
theorem d_Gr_elementTotal_0 : decode c_Gr_elementTotal 0 = .ok (.aload_n 0, 1) := by decide +kernel
theorem d_Gr_elementTotal_1 : decode c_Gr_elementTotal 1 = .ok (.getfield 41, 3) := by decide +kernel
theorem d_Gr_elementTotal_4 : decode c_Gr_elementTotal 4 = .ok (.ifCond .eq 10, 3) := by decide +kernel
theorem d_Gr_elementTotal_7 : decode c_Gr_elementTotal 7 = .ok (.aload_n 0, 1) := by decide +kernel
theorem d_Gr_elementTotal_8 : decode c_Gr_elementTotal 8 = .ok (.getfield 38, 3) := by decide +kernel
theorem d_Gr_elementTotal_11 : decode c_Gr_elementTotal 11 = .ok (.goto 4, 3) := by decide +kernel
theorem d_Gr_elementTotal_14 : decode c_Gr_elementTotal 14 = .ok (.iconst 0, 1) := by decide +kernel
theorem d_Gr_elementTotal_15 : decode c_Gr_elementTotal 15 = .ok (.ireturn, 1) := by decide +kernel
theorem d_Ab_erase_0 : decode c_Ab_erase 0 = .ok (.aload_n 0, 1) := by decide +kernel
theorem d_Ab_erase_1 : decode c_Ab_erase 1 = .ok (.getfield 14, 3) := by decide +kernel
theorem d_Ab_erase_4 : decode c_Ab_erase 4 = .ok (.invokevirtual 69, 3) := by decide +kernel
theorem d_Ab_erase_7 : decode c_Ab_erase 7 = .ok (.ireturn, 1) := by decide +kernel
theorem d_Ab_place_0 : decode c_Ab_place 0 = .ok (.aload_n 0, 1) := by decide +kernel
theorem d_Ab_place_1 : decode c_Ab_place 1 = .ok (.getfield 33, 3) := by decide +kernel
theorem d_Ab_place_4 : decode c_Ab_place 4 = .ok (.getfield 82, 3) := by decide +kernel
theorem d_Ab_place_7 : decode c_Ab_place 7 = .ok (.ireturn, 1) := by decide +kernel
theorem d_Ab_drop_0 : decode c_Ab_drop 0 = .ok (.aload_n 0, 1) := by decide +kernel
theorem d_Ab_drop_1 : decode c_Ab_drop 1 = .ok (.getfield 40, 3) := by decide +kernel
theorem d_Ab_drop_4 : decode c_Ab_drop 4 = .ok (.invokevirtual 73, 3) := by decide +kernel
theorem d_Ab_drop_7 : decode c_Ab_drop 7 = .ok (.aload_n 0, 1) := by decide +kernel
theorem d_Ab_drop_8 : decode c_Ab_drop 8 = .ok (.getfield 18, 3) := by decide +kernel
theorem d_Ab_drop_11 : decode c_Ab_drop 11 = .ok (.invokevirtual 69, 3) := by decide +kernel
theorem d_Ab_drop_14 : decode c_Ab_drop 14 = .ok (.ireturn, 1) := by decide +kernel
theorem d_Ab_write_0 : decode c_Ab_write 0 = .ok (.iload_n 3, 1) := by decide +kernel
theorem d_Ab_write_1 : decode c_Ab_write 1 = .ok (.invokestatic 44, 3) := by decide +kernel
theorem d_Ab_write_4 : decode c_Ab_write 4 = .ok (.ifCond .eq 11, 3) := by decide +kernel
theorem d_Ab_write_7 : decode c_Ab_write 7 = .ok (.lload_n 1, 1) := by decide +kernel
theorem d_Ab_write_8 : decode c_Ab_write 8 = .ok (.iload_n 3, 1) := by decide +kernel
theorem d_Ab_write_9 : decode c_Ab_write 9 = .ok (.invokestatic 48, 3) := by decide +kernel
theorem d_Ab_write_12 : decode c_Ab_write 12 = .ok (.ifCond .ne 11, 3) := by decide +kernel
theorem d_Ab_write_15 : decode c_Ab_write 15 = .ok (.new 52, 3) := by decide +kernel
theorem d_Ab_write_18 : decode c_Ab_write 18 = .ok (.dup, 1) := by decide +kernel
theorem d_Ab_write_19 : decode c_Ab_write 19 = .ok (.invokespecial 54, 3) := by decide +kernel
theorem d_Ab_write_22 : decode c_Ab_write 22 = .ok (.athrow, 1) := by decide +kernel
theorem d_Ab_write_23 : decode c_Ab_write 23 = .ok (.aload_n 0, 1) := by decide +kernel
theorem d_Ab_write_24 : decode c_Ab_write 24 = .ok (.getfield 14, 3) := by decide +kernel
theorem d_Ab_write_27 : decode c_Ab_write 27 = .ok (.iload_n 3, 1) := by decide +kernel
theorem d_Ab_write_28 : decode c_Ab_write 28 = .ok (.invokevirtual 55, 3) := by decide +kernel
theorem d_Ab_write_31 : decode c_Ab_write 31 = .ok (.ifCond .ne 11, 3) := by decide +kernel
theorem d_Ab_write_34 : decode c_Ab_write 34 = .ok (.new 58, 3) := by decide +kernel
theorem d_Ab_write_37 : decode c_Ab_write 37 = .ok (.dup, 1) := by decide +kernel
theorem d_Ab_write_38 : decode c_Ab_write 38 = .ok (.invokespecial 60, 3) := by decide +kernel
theorem d_Ab_write_41 : decode c_Ab_write 41 = .ok (.athrow, 1) := by decide +kernel
theorem d_Ab_write_42 : decode c_Ab_write 42 = .ok (.aload_n 0, 1) := by decide +kernel
theorem d_Ab_write_43 : decode c_Ab_write 43 = .ok (.getfield 14, 3) := by decide +kernel
theorem d_Ab_write_46 : decode c_Ab_write 46 = .ok (.lload_n 1, 1) := by decide +kernel
theorem d_Ab_write_47 : decode c_Ab_write 47 = .ok (.iload_n 3, 1) := by decide +kernel
theorem d_Ab_write_48 : decode c_Ab_write 48 = .ok (.invokevirtual 61, 3) := by decide +kernel
theorem d_Ab_write_51 : decode c_Ab_write 51 = .ok (.aload_n 0, 1) := by decide +kernel
theorem d_Ab_write_52 : decode c_Ab_write 52 = .ok (.getfield 14, 3) := by decide +kernel
theorem d_Ab_write_55 : decode c_Ab_write 55 = .ok (.getfield 65, 3) := by decide +kernel
theorem d_Ab_write_58 : decode c_Ab_write 58 = .ok (.ireturn, 1) := by decide +kernel
theorem d_Ab_give_0 : decode c_Ab_give 0 = .ok (.iload_n 3, 1) := by decide +kernel
theorem d_Ab_give_1 : decode c_Ab_give 1 = .ok (.invokestatic 44, 3) := by decide +kernel
theorem d_Ab_give_4 : decode c_Ab_give 4 = .ok (.ifCond .eq 11, 3) := by decide +kernel
theorem d_Ab_give_7 : decode c_Ab_give 7 = .ok (.lload_n 1, 1) := by decide +kernel
theorem d_Ab_give_8 : decode c_Ab_give 8 = .ok (.iload_n 3, 1) := by decide +kernel
theorem d_Ab_give_9 : decode c_Ab_give 9 = .ok (.invokestatic 92, 3) := by decide +kernel
theorem d_Ab_give_12 : decode c_Ab_give 12 = .ok (.ifCond .ne 11, 3) := by decide +kernel
theorem d_Ab_give_15 : decode c_Ab_give 15 = .ok (.new 52, 3) := by decide +kernel
theorem d_Ab_give_18 : decode c_Ab_give 18 = .ok (.dup, 1) := by decide +kernel
theorem d_Ab_give_19 : decode c_Ab_give 19 = .ok (.invokespecial 54, 3) := by decide +kernel
theorem d_Ab_give_22 : decode c_Ab_give 22 = .ok (.athrow, 1) := by decide +kernel
theorem d_Ab_give_23 : decode c_Ab_give 23 = .ok (.aload_n 0, 1) := by decide +kernel
theorem d_Ab_give_24 : decode c_Ab_give 24 = .ok (.getfield 18, 3) := by decide +kernel
theorem d_Ab_give_27 : decode c_Ab_give 27 = .ok (.iload_n 3, 1) := by decide +kernel
theorem d_Ab_give_28 : decode c_Ab_give 28 = .ok (.invokevirtual 55, 3) := by decide +kernel
theorem d_Ab_give_31 : decode c_Ab_give 31 = .ok (.ifCond .ne 11, 3) := by decide +kernel
theorem d_Ab_give_34 : decode c_Ab_give 34 = .ok (.new 58, 3) := by decide +kernel
theorem d_Ab_give_37 : decode c_Ab_give 37 = .ok (.dup, 1) := by decide +kernel
theorem d_Ab_give_38 : decode c_Ab_give 38 = .ok (.invokespecial 60, 3) := by decide +kernel
theorem d_Ab_give_41 : decode c_Ab_give 41 = .ok (.athrow, 1) := by decide +kernel
theorem d_Ab_give_42 : decode c_Ab_give 42 = .ok (.aload_n 0, 1) := by decide +kernel
theorem d_Ab_give_43 : decode c_Ab_give 43 = .ok (.getfield 40, 3) := by decide +kernel
theorem d_Ab_give_46 : decode c_Ab_give 46 = .ok (.invokevirtual 73, 3) := by decide +kernel
theorem d_Ab_give_49 : decode c_Ab_give 49 = .ok (.aload_n 0, 1) := by decide +kernel
theorem d_Ab_give_50 : decode c_Ab_give 50 = .ok (.getfield 18, 3) := by decide +kernel
theorem d_Ab_give_53 : decode c_Ab_give 53 = .ok (.lload_n 1, 1) := by decide +kernel
theorem d_Ab_give_54 : decode c_Ab_give 54 = .ok (.iload_n 3, 1) := by decide +kernel
theorem d_Ab_give_55 : decode c_Ab_give 55 = .ok (.invokevirtual 61, 3) := by decide +kernel
theorem d_Ab_give_58 : decode c_Ab_give 58 = .ok (.aload_n 0, 1) := by decide +kernel
theorem d_Ab_give_59 : decode c_Ab_give 59 = .ok (.getfield 18, 3) := by decide +kernel
theorem d_Ab_give_62 : decode c_Ab_give 62 = .ok (.getfield 65, 3) := by decide +kernel
theorem d_Ab_give_65 : decode c_Ab_give 65 = .ok (.ireturn, 1) := by decide +kernel
theorem d_Ab_checkRule_0 : decode c_Ab_checkRule 0 = .ok (.iload_n 1, 1) := by decide +kernel
theorem d_Ab_checkRule_1 : decode c_Ab_checkRule 1 = .ok (.ifCond .lt 14, 3) := by decide +kernel
theorem d_Ab_checkRule_4 : decode c_Ab_checkRule 4 = .ok (.iload_n 1, 1) := by decide +kernel
theorem d_Ab_checkRule_5 : decode c_Ab_checkRule 5 = .ok (.aload_n 0, 1) := by decide +kernel
theorem d_Ab_checkRule_6 : decode c_Ab_checkRule 6 = .ok (.getfield 24, 3) := by decide +kernel
theorem d_Ab_checkRule_9 : decode c_Ab_checkRule 9 = .ok (.invokevirtual 79, 3) := by decide +kernel
theorem d_Ab_checkRule_12 : decode c_Ab_checkRule 12 = .ok (.if_icmp .lt 11, 3) := by decide +kernel
theorem d_Ab_checkRule_15 : decode c_Ab_checkRule 15 = .ok (.new 118, 3) := by decide +kernel
theorem d_Ab_checkRule_18 : decode c_Ab_checkRule 18 = .ok (.dup, 1) := by decide +kernel
theorem d_Ab_checkRule_19 : decode c_Ab_checkRule 19 = .ok (.invokespecial 120, 3) := by decide +kernel
theorem d_Ab_checkRule_22 : decode c_Ab_checkRule 22 = .ok (.athrow, 1) := by decide +kernel
theorem d_Ab_checkRule_23 : decode c_Ab_checkRule 23 = .ok (.return_, 1) := by decide +kernel
theorem d_Ab_checkPiece_0 : decode c_Ab_checkPiece 0 = .ok (.iload_n 1, 1) := by decide +kernel
theorem d_Ab_checkPiece_1 : decode c_Ab_checkPiece 1 = .ok (.ifCond .lt 19, 3) := by decide +kernel
theorem d_Ab_checkPiece_4 : decode c_Ab_checkPiece 4 = .ok (.iload_n 2, 1) := by decide +kernel
theorem d_Ab_checkPiece_5 : decode c_Ab_checkPiece 5 = .ok (.iload_n 1, 1) := by decide +kernel
theorem d_Ab_checkPiece_6 : decode c_Ab_checkPiece 6 = .ok (.if_icmp .lt 14, 3) := by decide +kernel
theorem d_Ab_checkPiece_9 : decode c_Ab_checkPiece 9 = .ok (.iload_n 2, 1) := by decide +kernel
theorem d_Ab_checkPiece_10 : decode c_Ab_checkPiece 10 = .ok (.aload_n 0, 1) := by decide +kernel
theorem d_Ab_checkPiece_11 : decode c_Ab_checkPiece 11 = .ok (.getfield 18, 3) := by decide +kernel
theorem d_Ab_checkPiece_14 : decode c_Ab_checkPiece 14 = .ok (.getfield 65, 3) := by decide +kernel
theorem d_Ab_checkPiece_17 : decode c_Ab_checkPiece 17 = .ok (.if_icmp .le 11, 3) := by decide +kernel
theorem d_Ab_checkPiece_20 : decode c_Ab_checkPiece 20 = .ok (.new 115, 3) := by decide +kernel
theorem d_Ab_checkPiece_23 : decode c_Ab_checkPiece 23 = .ok (.dup, 1) := by decide +kernel
theorem d_Ab_checkPiece_24 : decode c_Ab_checkPiece 24 = .ok (.invokespecial 117, 3) := by decide +kernel
theorem d_Ab_checkPiece_27 : decode c_Ab_checkPiece 27 = .ok (.athrow, 1) := by decide +kernel
theorem d_Ab_checkPiece_28 : decode c_Ab_checkPiece 28 = .ok (.return_, 1) := by decide +kernel
theorem bc_ok {k : Int32} (h : ¬ (if k < 1 ∨ 8 < k then (0 : Int32) else 1) = 0) : ∃ N : Nat, 1 ≤ N ∧ N ≤ 8 ∧ k = nI N := by
  by_cases hk : k < 1 ∨ 8 < k
  · rw [if_pos hk] at h; exact absurd rfl h
  · have h1 : ¬ k < 1 := fun q => hk (Or.inl q)
    have h2 : ¬ 8 < k := fun q => hk (Or.inr q)
    rw [Int32.lt_iff_toInt_lt] at h1 h2
    have e1 : (1 : Int32).toInt = 1 := by decide
    have e8 : (8 : Int32).toInt = 8 := by decide
    have e0 : (0 : Int32).toInt = 0 := by decide
    obtain ⟨j, hj, rfl⟩ := nI_of (x := k) (by rw [Int32.lt_iff_toInt_lt]; omega)
    rw [nI_toInt hj] at h1 h2
    exact ⟨j, by omega, by omega, rfl⟩
theorem bc_no {k : Int32} (h : (if k < 1 ∨ 8 < k then (0 : Int32) else 1) = 0) : k < 1 ∨ 8 < k := by
  by_cases hk : k < 1 ∨ 8 < k
  · exact hk
  · rw [if_neg hk] at h; exact absurd h (by decide)
theorem if01 {c : Bool} (h : (if c then (1 : Int32) else 0) = 0) : c = false := by cases c <;> simp_all
theorem if01' {c : Bool} (h : ¬ (if c then (1 : Int32) else 0) = 0) : c = true := by cases c <;> simp_all
set_option maxHeartbeats 4000000 in
set_option maxRecDepth 100000 in
theorem m_Ct_forget (l : Launch) {D : va_G} {cy : Nat → ClassId} {sz n : Nat} {ad : Nat → Nat} {mem : Nat → va_E} {j : Nat} {a b : Value} {z : Int32} (hj : j < n) (hm : mem j = .inr (1, [a, b, .int z])) : MV l D cy sz n ad y_Ct_forget c_Ct_forget 1 ({ frames := 0, cells := 0, slots := 0, locals := 0 } : Room) mem [.ref (ad j)] (fun mem' => mem' = va_up mem j (.inr (1, [a, b, .int 0]))) := by
  refine Met.ofW (cc := c_Ct_forget) (maxL := 1) (ret := none) (by decide) rfl ?_
  intro p e s m args below meth c s₁ B hml hv
  obtain ⟨rfl, E, hP, hD⟩ := hv
  have hx := B.exec
  have hb := B.bytes
  have hr := B.returns
  have hlocks := B.notSynchronized
  have Bx : MB p s m [.ref (ad j)].toArray c c_Ct_forget "AbnfChart$Chart" D cy := ⟨hx, hb, tb_all (atoms_spec B.pre) E.2.1, findClass_of_methodNamed B.named, E.1⟩
  have hS : va_S (Az sz) s.heap s.heap [] := va_S.rf
  have hl := lv_entry ([.ref (ad j)]) (n := 1) (Nat.le_of_ble_eq_true rfl)
  rw [lg_entry_eq]
  generalize (lg_sl ([.ref (ad j)]) ++ List.replicate (1 - (lg_sl ([.ref (ad j)])).length) Slot.unset).toArray = ls at hl ⊢
  have hl : lv_has ls 1 [(0, .ref (ad j))] := hl
  refine lv_aload_n Bx.1 Bx.2.1 d_Ct_forget_0 rfl (lv_at hl 0 rfl) ?_
  refine lv_iconst (v := 0) Bx.1 Bx.2.1 d_Ct_forget_1 (by decide) ?_
  refine f_put Bx hP hD hS hj hm rfl inCt tyCt okCt nmCt 2 (by decide) kw_166 rfl rfl rfl rfl (Nat.le_of_ble_eq_true rfl) d_Ct_forget_2 (fun H locs hP hS => ?_)
  obtain ⟨mem1, e_mem1⟩ : ∃ z, z = va_up mem (j) (.inr (1, [a, b, .int (0)])) := ⟨_, rfl⟩
  have hP : va_P D vcl (fw n ad mem1) H := by rw [e_mem1]; exact hP
  have hD : va_D (Az sz) (fw n ad mem1) := fw_D hD
  have h_mem1 : mem1 (j) = .inr (1, [a, b, .int (0)]) := by rw [e_mem1, va_up_self]
  exact W.vret hx hb hr (fun t ht hW => ⟨⟨mem1, rfl, e_mem1, by show va_P _ _ _ t.heap; rw [ht]; exact hP⟩, hS.F ht⟩) hS.2.2 d_Ct_forget_5
set_option maxHeartbeats 4000000 in
set_option maxRecDepth 100000 in
theorem m_Gr_ruleTotal (l : Launch) {D : va_G} {cy : Nat → ClassId} {sz n : Nat} {ad : Nat → Nat} {mem : Nat → va_E} {j : Nat} {a b d : Value} {rc ec wh : Int32} (hj : j < n) (hm : mem j = .inr (3, [a, b, d, .int rc, .int ec, .int wh])) : MI l D cy sz n ad y_Gr_ruleTotal c_Gr_ruleTotal 1 (some .int) ({ frames := 0, cells := 0, slots := 0, locals := 0 } : Room) mem [.ref (ad j)] (fun r mem' => r = (if wh = 0 then 0 else rc) ∧ mem' = mem) := by
  refine Met.ofW (cc := c_Gr_ruleTotal) (maxL := 1) (ret := (some .int)) (by decide) rfl ?_
  intro p e s m args below meth c s₁ B hml hv
  obtain ⟨rfl, E, hP, hD⟩ := hv
  have hx := B.exec
  have hb := B.bytes
  have hr := B.returns
  have hlocks := B.notSynchronized
  have Bx : MB p s m [.ref (ad j)].toArray c c_Gr_ruleTotal "AbnfChart$Grammar" D cy := ⟨hx, hb, tb_all (atoms_spec B.pre) E.2.1, findClass_of_methodNamed B.named, E.1⟩
  have hS : va_S (Az sz) s.heap s.heap [] := va_S.rf
  have hl := lv_entry ([.ref (ad j)]) (n := 1) (Nat.le_of_ble_eq_true rfl)
  rw [lg_entry_eq]
  generalize (lg_sl ([.ref (ad j)]) ++ List.replicate (1 - (lg_sl ([.ref (ad j)])).length) Slot.unset).toArray = ls at hl ⊢
  have hl : lv_has ls 1 [(0, .ref (ad j))] := hl
  refine lv_aload_n Bx.1 Bx.2.1 d_Gr_ruleTotal_0 rfl (lv_at hl 0 rfl) ?_
  refine f_get Bx hP hj hm rfl inGr 5 (by decide) kw_124 rfl rfl d_Gr_ruleTotal_1 ?_
  refine lv_if_eq Bx.1 Bx.2.1 d_Gr_ruleTotal_4 rfl (fun h => ?_) (fun h => ?_)
  · refine lv_iconst (v := 0) Bx.1 Bx.2.1 d_Gr_ruleTotal_14 (by decide) ?_
    exact W.iret (v := 0) hx hb hr (fun t ht hW => ⟨⟨0, mem, rfl, ⟨(if_pos h).symm, rfl⟩, by show va_P _ _ _ t.heap; rw [ht]; exact hP⟩, hS.F ht⟩) hS.2.2 d_Gr_ruleTotal_15
  · refine lv_aload_n Bx.1 Bx.2.1 d_Gr_ruleTotal_7 rfl (lv_at hl 0 rfl) ?_
    refine f_get Bx hP hj hm rfl inGr 3 (by decide) kw_121 rfl rfl d_Gr_ruleTotal_8 ?_
    refine lv_goto Bx.1 Bx.2.1 d_Gr_ruleTotal_11 rfl ?_
    exact W.iret (v := rc) hx hb hr (fun t ht hW => ⟨⟨rc, mem, rfl, ⟨(if_neg h).symm, rfl⟩, by show va_P _ _ _ t.heap; rw [ht]; exact hP⟩, hS.F ht⟩) hS.2.2 d_Gr_ruleTotal_15
set_option maxHeartbeats 4000000 in
set_option maxRecDepth 100000 in
theorem m_Gr_elementTotal (l : Launch) {D : va_G} {cy : Nat → ClassId} {sz n : Nat} {ad : Nat → Nat} {mem : Nat → va_E} {j : Nat} {a b d : Value} {rc ec wh : Int32} (hj : j < n) (hm : mem j = .inr (3, [a, b, d, .int rc, .int ec, .int wh])) : MI l D cy sz n ad y_Gr_elementTotal c_Gr_elementTotal 1 (some .int) ({ frames := 0, cells := 0, slots := 0, locals := 0 } : Room) mem [.ref (ad j)] (fun r mem' => r = (if wh = 0 then 0 else ec) ∧ mem' = mem) := by
  refine Met.ofW (cc := c_Gr_elementTotal) (maxL := 1) (ret := (some .int)) (by decide) rfl ?_
  intro p e s m args below meth c s₁ B hml hv
  obtain ⟨rfl, E, hP, hD⟩ := hv
  have hx := B.exec
  have hb := B.bytes
  have hr := B.returns
  have hlocks := B.notSynchronized
  have Bx : MB p s m [.ref (ad j)].toArray c c_Gr_elementTotal "AbnfChart$Grammar" D cy := ⟨hx, hb, tb_all (atoms_spec B.pre) E.2.1, findClass_of_methodNamed B.named, E.1⟩
  have hS : va_S (Az sz) s.heap s.heap [] := va_S.rf
  have hl := lv_entry ([.ref (ad j)]) (n := 1) (Nat.le_of_ble_eq_true rfl)
  rw [lg_entry_eq]
  generalize (lg_sl ([.ref (ad j)]) ++ List.replicate (1 - (lg_sl ([.ref (ad j)])).length) Slot.unset).toArray = ls at hl ⊢
  have hl : lv_has ls 1 [(0, .ref (ad j))] := hl
  refine lv_aload_n Bx.1 Bx.2.1 d_Gr_elementTotal_0 rfl (lv_at hl 0 rfl) ?_
  refine f_get Bx hP hj hm rfl inGr 5 (by decide) kw_124 rfl rfl d_Gr_elementTotal_1 ?_
  refine lv_if_eq Bx.1 Bx.2.1 d_Gr_elementTotal_4 rfl (fun h => ?_) (fun h => ?_)
  · refine lv_iconst (v := 0) Bx.1 Bx.2.1 d_Gr_elementTotal_14 (by decide) ?_
    exact W.iret (v := 0) hx hb hr (fun t ht hW => ⟨⟨0, mem, rfl, ⟨(if_pos h).symm, rfl⟩, by show va_P _ _ _ t.heap; rw [ht]; exact hP⟩, hS.F ht⟩) hS.2.2 d_Gr_elementTotal_15
  · refine lv_aload_n Bx.1 Bx.2.1 d_Gr_elementTotal_7 rfl (lv_at hl 0 rfl) ?_
    refine f_get Bx hP hj hm rfl inGr 4 (by decide) kw_122 rfl rfl d_Gr_elementTotal_8 ?_
    refine lv_goto Bx.1 Bx.2.1 d_Gr_elementTotal_11 rfl ?_
    exact W.iret (v := ec) hx hb hr (fun t ht hW => ⟨⟨ec, mem, rfl, ⟨(if_neg h).symm, rfl⟩, by show va_P _ _ _ t.heap; rw [ht]; exact hP⟩, hS.F ht⟩) hS.2.2 d_Gr_elementTotal_15
set_option maxHeartbeats 4000000 in
set_option maxRecDepth 100000 in
theorem m_Ab_erase (l : Launch) {D : va_G} {cy : Nat → ClassId} {sz n : Nat} {ad : Nat → Nat} {mem : Nat → va_E} {q : Value} {z : Int32} (hn : 224 ≤ n) (h0 : mem 0 = .inr (6, [.ref (ad 1), .ref (ad 3), .ref (ad 5), .ref (ad 222), .ref (ad 223)])) (h1 : mem 1 = .inr (0, [q, .int z])) : MI l D cy sz n ad y_Ab_erase c_Ab_erase 1 (some .int) ({ frames := 1, cells := 0, slots := 0, locals := 30 } : Room) mem [.ref (ad 0)] (fun r mem' => r = z ∧ mem' = va_up mem 1 (.inr (0, [q, .int 0]))) := by
  refine Met.ofW (cc := c_Ab_erase) (maxL := 1) (ret := (some .int)) (by decide) rfl ?_
  intro p e s m args below meth c s₁ B hml hv
  obtain ⟨rfl, E, hP, hD⟩ := hv
  have hx := B.exec
  have hb := B.bytes
  have hr := B.returns
  have hlocks := B.notSynchronized
  have Bx : MB p s m [.ref (ad 0)].toArray c c_Ab_erase "AbnfChart" D cy := ⟨hx, hb, tb_all (atoms_spec B.pre) E.2.1, findClass_of_methodNamed B.named, E.1⟩
  have hS : va_S (Az sz) s.heap s.heap [] := va_S.rf
  have hl := lv_entry ([.ref (ad 0)]) (n := 1) (Nat.le_of_ble_eq_true rfl)
  rw [lg_entry_eq]
  generalize (lg_sl ([.ref (ad 0)]) ++ List.replicate (1 - (lg_sl ([.ref (ad 0)])).length) Slot.unset).toArray = ls at hl ⊢
  have hl : lv_has ls 1 [(0, .ref (ad 0))] := hl
  refine lv_aload_n Bx.1 Bx.2.1 d_Ab_erase_0 rfl (lv_at hl 0 rfl) ?_
  refine f_get Bx hP (by omega) h0 rfl inAb 0 (by decide) kw_174 rfl rfl d_Ab_erase_1 ?_
  refine f_callVi (na := 0) (As := []) (rest := []) Bx hml E hP hD hS (by omega) h1 rfl (m_Ch_empty l (by omega) h1) kw_194 kw_195 kw_196 kw_2 kw_197 (by decide +kernel) ⟨rfl, rfl⟩ ⟨Nat.le_of_ble_eq_true rfl, Nat.le_of_ble_eq_true rfl⟩ rfl hl.1 (Nat.le_of_ble_eq_true rfl) d_Ab_erase_4 ⟨Nat.le_of_ble_eq_true rfl, Nat.le_of_ble_eq_true rfl⟩ (fun r1 mem2 H locs hq hP hS => ?_)
  have hD : va_D (Az sz) (fw n ad mem2) := fw_D hD
  exact W.iret (v := r1) hx hb hr (fun t ht hW => ⟨⟨r1, mem2, rfl, hq, by show va_P _ _ _ t.heap; rw [ht]; exact hP⟩, hS.F ht⟩) hS.2.2 d_Ab_erase_7
set_option maxHeartbeats 4000000 in
set_option maxRecDepth 100000 in
theorem m_Ab_place (l : Launch) {D : va_G} {cy : Nat → ClassId} {sz n : Nat} {ad : Nat → Nat} {mem : Nat → va_E} {a b : Value} {y z : Int32} (hn : 224 ≤ n) (h0 : mem 0 = .inr (6, [.ref (ad 1), .ref (ad 3), .ref (ad 5), .ref (ad 222), .ref (ad 223)])) (h9 : mem 222 = .inr (4, [a, b, .int y, .int z])) : MI l D cy sz n ad y_Ab_place c_Ab_place 1 (some .int) ({ frames := 0, cells := 0, slots := 0, locals := 0 } : Room) mem [.ref (ad 0)] (fun r mem' => r = z ∧ mem' = mem) := by
  refine Met.ofW (cc := c_Ab_place) (maxL := 1) (ret := (some .int)) (by decide) rfl ?_
  intro p e s m args below meth c s₁ B hml hv
  obtain ⟨rfl, E, hP, hD⟩ := hv
  have hx := B.exec
  have hb := B.bytes
  have hr := B.returns
  have hlocks := B.notSynchronized
  have Bx : MB p s m [.ref (ad 0)].toArray c c_Ab_place "AbnfChart" D cy := ⟨hx, hb, tb_all (atoms_spec B.pre) E.2.1, findClass_of_methodNamed B.named, E.1⟩
  have hS : va_S (Az sz) s.heap s.heap [] := va_S.rf
  have hl := lv_entry ([.ref (ad 0)]) (n := 1) (Nat.le_of_ble_eq_true rfl)
  rw [lg_entry_eq]
  generalize (lg_sl ([.ref (ad 0)]) ++ List.replicate (1 - (lg_sl ([.ref (ad 0)])).length) Slot.unset).toArray = ls at hl ⊢
  have hl : lv_has ls 1 [(0, .ref (ad 0))] := hl
  refine lv_aload_n Bx.1 Bx.2.1 d_Ab_place_0 rfl (lv_at hl 0 rfl) ?_
  refine f_get Bx hP (by omega) h0 rfl inAb 3 (by decide) kw_177 rfl rfl d_Ab_place_1 ?_
  refine f_getN Bx hP (by omega) h9 rfl inRd 3 (by decide) kw_148 rfl rfl d_Ab_place_4 ?_
  exact W.iret (v := z) hx hb hr (fun t ht hW => ⟨⟨z, mem, rfl, ⟨rfl, rfl⟩, by show va_P _ _ _ t.heap; rw [ht]; exact hP⟩, hS.F ht⟩) hS.2.2 d_Ab_place_7
set_option maxHeartbeats 4000000 in
set_option maxRecDepth 100000 in
theorem m_Ab_drop (l : Launch) {D : va_G} {cy : Nat → ClassId} {sz n : Nat} {ad : Nat → Nat} {mem : Nat → va_E} {q a b : Value} {z fl : Int32} (hn : 224 ≤ n) (h0 : mem 0 = .inr (6, [.ref (ad 1), .ref (ad 3), .ref (ad 5), .ref (ad 222), .ref (ad 223)])) (h3 : mem 3 = .inr (0, [q, .int z])) (hc : mem 223 = .inr (1, [a, b, .int fl])) : MI l D cy sz n ad y_Ab_drop c_Ab_drop 1 (some .int) ({ frames := 1, cells := 0, slots := 0, locals := 30 } : Room) mem [.ref (ad 0)] (fun r mem' => r = z ∧ mem' = va_up (va_up mem 223 (.inr (1, [a, b, .int 0]))) 3 (.inr (0, [q, .int 0]))) := by
  refine Met.ofW (cc := c_Ab_drop) (maxL := 1) (ret := (some .int)) (by decide) rfl ?_
  intro p e s m args below meth c s₁ B hml hv
  obtain ⟨rfl, E, hP, hD⟩ := hv
  have hx := B.exec
  have hb := B.bytes
  have hr := B.returns
  have hlocks := B.notSynchronized
  have Bx : MB p s m [.ref (ad 0)].toArray c c_Ab_drop "AbnfChart" D cy := ⟨hx, hb, tb_all (atoms_spec B.pre) E.2.1, findClass_of_methodNamed B.named, E.1⟩
  have hS : va_S (Az sz) s.heap s.heap [] := va_S.rf
  have hl := lv_entry ([.ref (ad 0)]) (n := 1) (Nat.le_of_ble_eq_true rfl)
  rw [lg_entry_eq]
  generalize (lg_sl ([.ref (ad 0)]) ++ List.replicate (1 - (lg_sl ([.ref (ad 0)])).length) Slot.unset).toArray = ls at hl ⊢
  have hl : lv_has ls 1 [(0, .ref (ad 0))] := hl
  refine lv_aload_n Bx.1 Bx.2.1 d_Ab_drop_0 rfl (lv_at hl 0 rfl) ?_
  refine f_get Bx hP (by omega) h0 rfl inAb 4 (by decide) kw_178 rfl rfl d_Ab_drop_1 ?_
  refine f_callVv (na := 0) (As := []) (rest := []) Bx hml E hP hD hS (by omega) hc rfl (m_Ct_forget l (by omega) hc) kw_206 kw_207 kw_208 kw_7 kw_209 (by decide +kernel) ⟨rfl, rfl⟩ ⟨Nat.le_of_ble_eq_true rfl, Nat.le_of_ble_eq_true rfl⟩ rfl hl.1 (Nat.le_of_ble_eq_true rfl) d_Ab_drop_4 ⟨Nat.le_of_ble_eq_true rfl, Nat.le_of_ble_eq_true rfl⟩ (fun mem2 H locs hq hP hS => ?_)
  have hD : va_D (Az sz) (fw n ad mem2) := fw_D hD
  have hh3 : mem2 (0) = .inr (6, [.ref (ad 1), .ref (ad 3), .ref (ad 5), .ref (ad 222), .ref (ad 223)]) := by rw [hq]; (try unfold chM); rw [va_up_ne _ _ (by first | decide | assumption | omega)]; exact h0
  have hh4 : mem2 (3) = .inr (0, [q, .int (z)]) := by rw [hq]; (try unfold chM); rw [va_up_ne _ _ (by first | decide | assumption | omega)]; exact h3
  refine lv_aload_n Bx.1 Bx.2.1 d_Ab_drop_7 rfl (lv_at hl 0 rfl) ?_
  refine f_get Bx hP (by omega) hh3 rfl inAb 1 (by decide) kw_175 rfl rfl d_Ab_drop_8 ?_
  refine f_callVi (na := 0) (As := []) (rest := []) Bx hml E hP hD hS (by omega) hh4 rfl (m_Ch_empty l (by omega) hh4) kw_194 kw_195 kw_196 kw_2 kw_197 (by decide +kernel) ⟨rfl, rfl⟩ ⟨Nat.le_of_ble_eq_true rfl, Nat.le_of_ble_eq_true rfl⟩ rfl hl.1 (Nat.le_of_ble_eq_true rfl) d_Ab_drop_11 ⟨Nat.le_of_ble_eq_true rfl, Nat.le_of_ble_eq_true rfl⟩ (fun r5 mem6 H locs hq2 hP hS => ?_)
  have hD : va_D (Az sz) (fw n ad mem6) := fw_D hD
  exact W.iret (v := r5) hx hb hr (fun t ht hW => ⟨⟨r5, mem6, rfl, ⟨hq2.1, by rw [hq2.2, hq]⟩, by show va_P _ _ _ t.heap; rw [ht]; exact hP⟩, hS.F ht⟩) hS.2.2 d_Ab_drop_14
set_option maxHeartbeats 4000000 in
set_option maxRecDepth 100000 in
theorem m_Ab_checkRule (l : Launch) {D : va_G} {cy : Nat → ClassId} {sz n : Nat} {ad : Nat → Nat} {mem : Nat → va_E} {a b d : Value} {rc ec wh k : Int32} (hlt : l.stackTraces = false) (hn : 224 ≤ n) (h0 : mem 0 = .inr (6, [.ref (ad 1), .ref (ad 3), .ref (ad 5), .ref (ad 222), .ref (ad 223)])) (h5 : mem 5 = .inr (3, [a, b, d, .int rc, .int ec, .int wh])) : MXv l D cy sz n ad y_Ab_checkRule c_Ab_checkRule 2 ({ frames := 6, cells := 1, slots := 6, locals := 90 } : Room) mem [.ref (ad 0), .int (k)] (fun mem' => mem' = mem ∧ ¬ k < 0 ∧ k < (if wh = 0 then 0 else rc)) (fun X mem' => X = cNS ∧ mem' = mem ∧ (k < 0 ∨ ¬ k < (if wh = 0 then 0 else rc))) := by
  refine vx_ofW (cc := c_Ab_checkRule) (maxL := 2) (ret := none) (by decide) rfl ?_
  intro p e s m args below meth c s₁ B hml hno hv
  obtain ⟨rfl, E, hP, hD⟩ := hv
  have hx := B.exec
  have hb := B.bytes
  have hr := B.returns
  have hlocks := B.notSynchronized
  have Bx : MB p s m [.ref (ad 0), .int (k)].toArray c c_Ab_checkRule "AbnfChart" D cy := ⟨hx, hb, tb_all (atoms_spec B.pre) E.2.1, findClass_of_methodNamed B.named, E.1⟩
  have hS : va_S (Az sz) s.heap s.heap [] := va_S.rf
  have hl := lv_entry ([.ref (ad 0), .int (k)]) (n := 2) (Nat.le_of_ble_eq_true rfl)
  rw [lg_entry_eq]
  generalize (lg_sl ([.ref (ad 0), .int (k)]) ++ List.replicate (2 - (lg_sl ([.ref (ad 0), .int (k)])).length) Slot.unset).toArray = ls at hl ⊢
  have hl : lv_has ls 2 [(0, .ref (ad 0)), (1, .int (k))] := hl
  refine lv_iload_n Bx.1 Bx.2.1 d_Ab_checkRule_0 rfl (lv_at hl 1 rfl) ?_
  refine lv_if_lt Bx.1 Bx.2.1 d_Ab_checkRule_1 rfl (fun h => ?_) (fun h => ?_)
  · exact f_throw (rest := []) hlt Bx hml hlocks hno E hP hS (by decide +kernel) kw_515 kw_14 at_Ab_NS hl.1 d_Ab_checkRule_15 d_Ab_checkRule_18 d_Ab_checkRule_19 d_Ab_checkRule_22 ⟨Nat.le_of_ble_eq_true rfl, Nat.le_of_ble_eq_true rfl, Nat.le_of_ble_eq_true rfl, Nat.le_of_ble_eq_true rfl⟩ ⟨Nat.le_of_ble_eq_true rfl, Nat.le_of_ble_eq_true rfl⟩ ⟨rfl, rfl, Or.inl h⟩
  · refine lv_iload_n Bx.1 Bx.2.1 d_Ab_checkRule_4 rfl (lv_at hl 1 rfl) ?_
    refine lv_aload_n Bx.1 Bx.2.1 d_Ab_checkRule_5 rfl (lv_at hl 0 rfl) ?_
    refine f_get Bx hP (by omega) h0 rfl inAb 2 (by decide) kw_176 rfl rfl d_Ab_checkRule_6 ?_
    refine f_callVi (na := 0) (As := []) (rest := [.int (k)]) Bx hml E hP hD hS (by omega) h5 rfl (m_Gr_ruleTotal l (by omega) h5) kw_498 kw_499 kw_500 kw_3 kw_501 (by decide +kernel) ⟨rfl, rfl⟩ ⟨Nat.le_of_ble_eq_true rfl, Nat.le_of_ble_eq_true rfl⟩ rfl hl.1 (Nat.le_of_ble_eq_true rfl) d_Ab_checkRule_9 ⟨Nat.le_of_ble_eq_true rfl, Nat.le_of_ble_eq_true rfl⟩ (fun r1 mem2 H locs hq hP hS => ?_)
    obtain ⟨hr1, mem2e⟩ := hq
    rw [mem2e] at hP
    subst hr1
    refine lv_icmp_lt Bx.1 Bx.2.1 d_Ab_checkRule_12 rfl (fun h2 => ?_) (fun h2 => ?_)
    · refine vx_ret (W.widen (k := 1) (n := 6) (by decide) (by decide) ?_)
      exact W.vret hx hb hr (fun t ht hW => ⟨⟨mem, rfl, ⟨rfl, h, h2⟩, by show va_P _ _ _ t.heap; rw [ht]; exact hP⟩, hS.F ht⟩) hS.2.2 d_Ab_checkRule_23
    · exact f_throw (rest := []) hlt Bx hml hlocks hno E hP hS (by decide +kernel) kw_515 kw_14 at_Ab_NS hl.1 d_Ab_checkRule_15 d_Ab_checkRule_18 d_Ab_checkRule_19 d_Ab_checkRule_22 ⟨Nat.le_of_ble_eq_true rfl, Nat.le_of_ble_eq_true rfl, Nat.le_of_ble_eq_true rfl, Nat.le_of_ble_eq_true rfl⟩ ⟨Nat.le_of_ble_eq_true rfl, Nat.le_of_ble_eq_true rfl⟩ ⟨rfl, rfl, Or.inr h2⟩
set_option maxHeartbeats 4000000 in
set_option maxRecDepth 100000 in
theorem m_Ab_checkPiece (l : Launch) {D : va_G} {cy : Nat → ClassId} {sz n : Nat} {ad : Nat → Nat} {mem : Nat → va_E} {q : Value} {z i j : Int32} (hlt : l.stackTraces = false) (hn : 224 ≤ n) (h0 : mem 0 = .inr (6, [.ref (ad 1), .ref (ad 3), .ref (ad 5), .ref (ad 222), .ref (ad 223)])) (h3 : mem 3 = .inr (0, [q, .int z])) : MXv l D cy sz n ad y_Ab_checkPiece c_Ab_checkPiece 3 ({ frames := 6, cells := 1, slots := 6, locals := 90 } : Room) mem [.ref (ad 0), .int (i), .int (j)] (fun mem' => mem' = mem ∧ ¬ i < 0 ∧ ¬ j < i ∧ j ≤ z) (fun X mem' => X = cIO ∧ mem' = mem ∧ (i < 0 ∨ j < i ∨ ¬ j ≤ z)) := by
  refine vx_ofW (cc := c_Ab_checkPiece) (maxL := 3) (ret := none) (by decide) rfl ?_
  intro p e s m args below meth c s₁ B hml hno hv
  obtain ⟨rfl, E, hP, hD⟩ := hv
  have hx := B.exec
  have hb := B.bytes
  have hr := B.returns
  have hlocks := B.notSynchronized
  have Bx : MB p s m [.ref (ad 0), .int (i), .int (j)].toArray c c_Ab_checkPiece "AbnfChart" D cy := ⟨hx, hb, tb_all (atoms_spec B.pre) E.2.1, findClass_of_methodNamed B.named, E.1⟩
  have hS : va_S (Az sz) s.heap s.heap [] := va_S.rf
  have hl := lv_entry ([.ref (ad 0), .int (i), .int (j)]) (n := 3) (Nat.le_of_ble_eq_true rfl)
  rw [lg_entry_eq]
  generalize (lg_sl ([.ref (ad 0), .int (i), .int (j)]) ++ List.replicate (3 - (lg_sl ([.ref (ad 0), .int (i), .int (j)])).length) Slot.unset).toArray = ls at hl ⊢
  have hl : lv_has ls 3 [(0, .ref (ad 0)), (1, .int (i)), (2, .int (j))] := hl
  refine lv_iload_n Bx.1 Bx.2.1 d_Ab_checkPiece_0 rfl (lv_at hl 1 rfl) ?_
  refine lv_if_lt Bx.1 Bx.2.1 d_Ab_checkPiece_1 rfl (fun h => ?_) (fun h => ?_)
  · exact f_throw (rest := []) hlt Bx hml hlocks hno E hP hS (by decide +kernel) kw_552 kw_15 at_Ab_IO hl.1 d_Ab_checkPiece_20 d_Ab_checkPiece_23 d_Ab_checkPiece_24 d_Ab_checkPiece_27 ⟨Nat.le_of_ble_eq_true rfl, Nat.le_of_ble_eq_true rfl, Nat.le_of_ble_eq_true rfl, Nat.le_of_ble_eq_true rfl⟩ ⟨Nat.le_of_ble_eq_true rfl, Nat.le_of_ble_eq_true rfl⟩ ⟨rfl, rfl, Or.inl h⟩
  · refine lv_iload_n Bx.1 Bx.2.1 d_Ab_checkPiece_4 rfl (lv_at hl 2 rfl) ?_
    refine lv_iload_n Bx.1 Bx.2.1 d_Ab_checkPiece_5 rfl (lv_at hl 1 rfl) ?_
    refine lv_icmp_lt Bx.1 Bx.2.1 d_Ab_checkPiece_6 rfl (fun h2 => ?_) (fun h2 => ?_)
    · exact f_throw (rest := []) hlt Bx hml hlocks hno E hP hS (by decide +kernel) kw_552 kw_15 at_Ab_IO hl.1 d_Ab_checkPiece_20 d_Ab_checkPiece_23 d_Ab_checkPiece_24 d_Ab_checkPiece_27 ⟨Nat.le_of_ble_eq_true rfl, Nat.le_of_ble_eq_true rfl, Nat.le_of_ble_eq_true rfl, Nat.le_of_ble_eq_true rfl⟩ ⟨Nat.le_of_ble_eq_true rfl, Nat.le_of_ble_eq_true rfl⟩ ⟨rfl, rfl, Or.inr (Or.inl h2)⟩
    · refine lv_iload_n Bx.1 Bx.2.1 d_Ab_checkPiece_9 rfl (lv_at hl 2 rfl) ?_
      refine lv_aload_n Bx.1 Bx.2.1 d_Ab_checkPiece_10 rfl (lv_at hl 0 rfl) ?_
      refine f_get Bx hP (by omega) h0 rfl inAb 1 (by decide) kw_175 rfl rfl d_Ab_checkPiece_11 ?_
      refine f_getN Bx hP (by omega) h3 rfl inCh 1 (by decide) kw_34 rfl rfl d_Ab_checkPiece_14 ?_
      refine lv_icmp_le Bx.1 Bx.2.1 d_Ab_checkPiece_17 rfl (fun h3b => ?_) (fun h3b => ?_)
      · refine vx_ret (W.widen (k := 1) (n := 6) (by decide) (by decide) ?_)
        exact W.vret hx hb hr (fun t ht hW => ⟨⟨mem, rfl, ⟨rfl, h, h2, h3b⟩, by show va_P _ _ _ t.heap; rw [ht]; exact hP⟩, hS.F ht⟩) hS.2.2 d_Ab_checkPiece_28
      · exact f_throw (rest := []) hlt Bx hml hlocks hno E hP hS (by decide +kernel) kw_552 kw_15 at_Ab_IO hl.1 d_Ab_checkPiece_20 d_Ab_checkPiece_23 d_Ab_checkPiece_24 d_Ab_checkPiece_27 ⟨Nat.le_of_ble_eq_true rfl, Nat.le_of_ble_eq_true rfl, Nat.le_of_ble_eq_true rfl, Nat.le_of_ble_eq_true rfl⟩ ⟨Nat.le_of_ble_eq_true rfl, Nat.le_of_ble_eq_true rfl⟩ ⟨rfl, rfl, Or.inr (Or.inr h3b)⟩
set_option maxHeartbeats 4000000 in
set_option maxRecDepth 100000 in
theorem m_Ab_write (l : Launch) {D : va_G} {cy : Nat → ClassId} {sz n : Nat} {ad : Nat → Nat} {mem : Nat → va_E} {Z : Nat} {f : Nat → Int32} {x : Int64} {k : Int32} (hlt : l.stackTraces = false) (hn : 224 ≤ n) (h0 : mem 0 = .inr (6, [.ref (ad 1), .ref (ad 3), .ref (ad 5), .ref (ad 222), .ref (ad 223)])) (h1 : mem 1 = .inr (0, [.ref (ad 2), .int (nI Z)])) (h2 : mem 2 = .inl (cy 0, 240, .inl f)) (hZ : Z ≤ 240) : MXi l D cy sz n ad y_Ab_write c_Ab_write 4 (some .int) ({ frames := 6, cells := 1, slots := 6, locals := 90 } : Room) mem [.ref (ad 0), .long (x), .int (k)] (fun r mem' => ∃ N : Nat, k = nI N ∧ 1 ≤ N ∧ N ≤ 8 ∧ allB (fun i => okT (by8 x (nI i))) N = true ∧ Z + N ≤ 240 ∧ r = nI (Z + N) ∧ mem' = chM cy ad mem 1 2 240 (apB f Z x N) (Z + N)) (fun X mem' => mem' = mem ∧ ((X = cIA ∧ (k < 1 ∨ 8 < k ∨ ∃ N : Nat, k = nI N ∧ 1 ≤ N ∧ N ≤ 8 ∧ allB (fun i => okT (by8 x (nI i))) N = false)) ∨ (X = cIS ∧ ∃ N : Nat, k = nI N ∧ 1 ≤ N ∧ N ≤ 8 ∧ allB (fun i => okT (by8 x (nI i))) N = true ∧ 240 < Z + N))) := by
  refine vx_ofW (cc := c_Ab_write) (maxL := 4) (ret := (some .int)) (by decide) rfl ?_
  intro p e s m args below meth c s₁ B hml hno hv
  obtain ⟨rfl, E, hP, hD⟩ := hv
  have hx := B.exec
  have hb := B.bytes
  have hr := B.returns
  have hlocks := B.notSynchronized
  have Bx : MB p s m [.ref (ad 0), .long (x), .int (k)].toArray c c_Ab_write "AbnfChart" D cy := ⟨hx, hb, tb_all (atoms_spec B.pre) E.2.1, findClass_of_methodNamed B.named, E.1⟩
  have hS : va_S (Az sz) s.heap s.heap [] := va_S.rf
  have hl := lv_entry ([.ref (ad 0), .long (x), .int (k)]) (n := 4) (Nat.le_of_ble_eq_true rfl)
  rw [lg_entry_eq]
  generalize (lg_sl ([.ref (ad 0), .long (x), .int (k)]) ++ List.replicate (4 - (lg_sl ([.ref (ad 0), .long (x), .int (k)])).length) Slot.unset).toArray = ls at hl ⊢
  have hl : lv_has ls 4 [(0, .ref (ad 0)), (1, .long (x)), (3, .int (k))] := hl
  refine lv_iload_n Bx.1 Bx.2.1 d_Ab_write_0 rfl (lv_at hl 2 rfl) ?_
  refine f_callSi (na := 1) (As := [.int (k)]) (rest := []) Bx hml E.2.1 (m_Ab_isByteCount l k) kw_219 kw_220 kw_1 kw_221 (by decide +kernel) ⟨rfl, rfl⟩ ⟨Nat.le_of_ble_eq_true rfl, Nat.le_of_ble_eq_true rfl⟩ rfl hl.1 (Nat.le_of_ble_eq_true rfl) d_Ab_write_1 ⟨Nat.le_of_ble_eq_true rfl, Nat.le_of_ble_eq_true rfl⟩ (fun r1 hr1 => ?_)
  subst hr1
  refine lv_if_eq Bx.1 Bx.2.1 d_Ab_write_4 rfl (fun h => ?_) (fun h => ?_)
  · exact f_throw (rest := []) hlt Bx hml hlocks hno E hP hS (by decide +kernel) kw_229 kw_12 at_Ab_IA hl.1 d_Ab_write_15 d_Ab_write_18 d_Ab_write_19 d_Ab_write_22 ⟨Nat.le_of_ble_eq_true rfl, Nat.le_of_ble_eq_true rfl, Nat.le_of_ble_eq_true rfl, Nat.le_of_ble_eq_true rfl⟩ ⟨Nat.le_of_ble_eq_true rfl, Nat.le_of_ble_eq_true rfl⟩ ⟨rfl, Or.inl ⟨rfl, (bc_no h).elim Or.inl (fun q => Or.inr (Or.inl q))⟩⟩
  · obtain ⟨N, hN1, hN8, rfl⟩ := bc_ok h
    refine lv_lload_n Bx.1 Bx.2.1 d_Ab_write_7 rfl (lv_at hl 1 rfl) ?_
    refine lv_iload_n Bx.1 Bx.2.1 d_Ab_write_8 rfl (lv_at hl 2 rfl) ?_
    refine f_callSi (na := 2) (As := [.long (x), .int (nI N)]) (rest := []) Bx hml E.2.1 (m_Ab_areTextCodes l x N hN8) kw_222 kw_223 kw_1 kw_224 (by decide +kernel) ⟨rfl, rfl⟩ ⟨Nat.le_of_ble_eq_true rfl, Nat.le_of_ble_eq_true rfl⟩ rfl hl.1 (Nat.le_of_ble_eq_true rfl) d_Ab_write_9 ⟨Nat.le_of_ble_eq_true rfl, Nat.le_of_ble_eq_true rfl⟩ (fun r2 hr2 => ?_)
    subst hr2
    refine lv_if_ne Bx.1 Bx.2.1 d_Ab_write_12 rfl (fun h3 => ?_) (fun h3 => ?_)
    · have ha : allB (fun i => okT (by8 x (nI i))) N = true := if01' h3
      refine lv_aload_n Bx.1 Bx.2.1 d_Ab_write_23 rfl (lv_at hl 0 rfl) ?_
      refine f_get Bx hP (by omega) h0 rfl inAb 0 (by decide) kw_174 rfl rfl d_Ab_write_24 ?_
      refine lv_iload_n Bx.1 Bx.2.1 d_Ab_write_27 rfl (lv_at hl 2 rfl) ?_
      refine f_callVi (na := 1) (As := [.int (nI N)]) (rest := []) Bx hml E hP hD hS (by omega) h1 rfl (m_Ch_hasRoomFor l (by omega) h1 (by omega) h2) kw_293 kw_294 kw_295 kw_2 kw_296 (by decide +kernel) ⟨rfl, rfl⟩ ⟨Nat.le_of_ble_eq_true rfl, Nat.le_of_ble_eq_true rfl⟩ rfl hl.1 (Nat.le_of_ble_eq_true rfl) d_Ab_write_28 ⟨Nat.le_of_ble_eq_true rfl, Nat.le_of_ble_eq_true rfl⟩ (fun r3 mem4 H locs hq hP hS => ?_)
      obtain ⟨hr3, mem4e⟩ := hq
      rw [mem4e] at hP
      subst hr3
      refine lv_if_ne Bx.1 Bx.2.1 d_Ab_write_31 rfl (fun h4 => ?_) (fun h4 => ?_)
      · have hroom : Z + N ≤ 240 := by
          by_cases q : (nI 240 - nI Z : Int32) < nI N
          · rw [if_pos q] at h4; exact absurd rfl h4
          · rw [pk_sub hZ] at q; rw [nI_ltI (by omega) (by omega)] at q; omega
        refine lv_aload_n Bx.1 Bx.2.1 d_Ab_write_42 rfl (lv_at hl 0 rfl) ?_
        refine f_get Bx hP (by omega) h0 rfl inAb 0 (by decide) kw_174 rfl rfl d_Ab_write_43 ?_
        refine lv_lload_n Bx.1 Bx.2.1 d_Ab_write_46 rfl (lv_at hl 1 rfl) ?_
        refine lv_iload_n Bx.1 Bx.2.1 d_Ab_write_47 rfl (lv_at hl 2 rfl) ?_
        refine f_callVv (na := 2) (As := [.long (x), .int (nI N)]) (rest := []) Bx hml E hP hD hS (by omega) h1 rfl (m_Ch_appendBytes (N := N) l (by omega) h1 (by omega) h2 (by decide) hroom (by decide)) kw_312 kw_313 kw_314 kw_2 kw_315 (by decide +kernel) ⟨rfl, rfl⟩ ⟨Nat.le_of_ble_eq_true rfl, Nat.le_of_ble_eq_true rfl⟩ rfl hl.1 (Nat.le_of_ble_eq_true rfl) d_Ab_write_48 ⟨Nat.le_of_ble_eq_true rfl, Nat.le_of_ble_eq_true rfl⟩ (fun mem6 H locs hq2 hP hS => ?_)
        have hD : va_D (Az sz) (fw n ad mem6) := fw_D hD
        have h1n : mem6 1 = .inr (0, [.ref (ad 2), .int (nI (Z + N))]) := by rw [hq2]; exact va_up_self _ _ _
        have h0n : mem6 0 = .inr (6, [.ref (ad 1), .ref (ad 3), .ref (ad 5), .ref (ad 222), .ref (ad 223)]) := by rw [hq2]; unfold chM; rw [va_up_ne _ _ (by decide), va_up_ne _ _ (by decide)]; exact h0
        refine lv_aload_n Bx.1 Bx.2.1 d_Ab_write_51 rfl (lv_at hl 0 rfl) ?_
        refine f_get Bx hP (by omega) h0n rfl inAb 0 (by decide) kw_174 rfl rfl d_Ab_write_52 ?_
        refine f_getN Bx hP (by omega) h1n rfl inCh 1 (by decide) kw_34 rfl rfl d_Ab_write_55 ?_
        refine vx_ret (W.widen (k := 1) (n := 6) (by decide) (by decide) ?_)
        exact W.iret (v := nI (Z + N)) hx hb hr (fun t ht hW => ⟨⟨nI (Z + N), mem6, rfl, ⟨N, rfl, hN1, hN8, ha, hroom, rfl, by rw [hq2]⟩, by show va_P _ _ _ t.heap; rw [ht]; exact hP⟩, hS.F ht⟩) hS.2.2 d_Ab_write_58
      · have hroom : 240 < Z + N := by
          by_cases q : (nI 240 - nI Z : Int32) < nI N
          · rw [pk_sub hZ] at q; rw [nI_ltI (by omega) (by omega)] at q; omega
          · rw [if_neg q] at h4; exact absurd h4 (by decide)
        exact f_throw (rest := []) hlt Bx hml hlocks hno E hP hS (by decide +kernel) kw_297 kw_13 at_Ab_IS hl.1 d_Ab_write_34 d_Ab_write_37 d_Ab_write_38 d_Ab_write_41 ⟨Nat.le_of_ble_eq_true rfl, Nat.le_of_ble_eq_true rfl, Nat.le_of_ble_eq_true rfl, Nat.le_of_ble_eq_true rfl⟩ ⟨Nat.le_of_ble_eq_true rfl, Nat.le_of_ble_eq_true rfl⟩ ⟨rfl, Or.inr ⟨rfl, N, rfl, hN1, hN8, ha, hroom⟩⟩
    · exact f_throw (rest := []) hlt Bx hml hlocks hno E hP hS (by decide +kernel) kw_229 kw_12 at_Ab_IA hl.1 d_Ab_write_15 d_Ab_write_18 d_Ab_write_19 d_Ab_write_22 ⟨Nat.le_of_ble_eq_true rfl, Nat.le_of_ble_eq_true rfl, Nat.le_of_ble_eq_true rfl, Nat.le_of_ble_eq_true rfl⟩ ⟨Nat.le_of_ble_eq_true rfl, Nat.le_of_ble_eq_true rfl⟩ ⟨rfl, Or.inl ⟨rfl, Or.inr (Or.inr ⟨N, rfl, hN1, hN8, if01 h3⟩)⟩⟩
set_option maxHeartbeats 4000000 in
set_option maxRecDepth 100000 in
theorem m_Ab_give (l : Launch) {D : va_G} {cy : Nat → ClassId} {sz n : Nat} {ad : Nat → Nat} {mem : Nat → va_E} {Z : Nat} {f : Nat → Int32} {x : Int64} {k : Int32} {a b : Value} {fl : Int32} (hlt : l.stackTraces = false) (hn : 224 ≤ n) (h0 : mem 0 = .inr (6, [.ref (ad 1), .ref (ad 3), .ref (ad 5), .ref (ad 222), .ref (ad 223)])) (h1 : mem 3 = .inr (0, [.ref (ad 4), .int (nI Z)])) (h2 : mem 4 = .inl (cy 0, 24, .inl f)) (hZ : Z ≤ 24) (hc : mem 223 = .inr (1, [a, b, .int fl])) : MXi l D cy sz n ad y_Ab_give c_Ab_give 4 (some .int) ({ frames := 6, cells := 1, slots := 6, locals := 90 } : Room) mem [.ref (ad 0), .long (x), .int (k)] (fun r mem' => ∃ N : Nat, k = nI N ∧ 1 ≤ N ∧ N ≤ 8 ∧ allB (fun i => okI (by8 x (nI i))) N = true ∧ Z + N ≤ 24 ∧ r = nI (Z + N) ∧ mem' = chM cy ad (va_up mem 223 (.inr (1, [a, b, .int 0]))) 3 4 24 (apB f Z x N) (Z + N)) (fun X mem' => mem' = mem ∧ ((X = cIA ∧ (k < 1 ∨ 8 < k ∨ ∃ N : Nat, k = nI N ∧ 1 ≤ N ∧ N ≤ 8 ∧ allB (fun i => okI (by8 x (nI i))) N = false)) ∨ (X = cIS ∧ ∃ N : Nat, k = nI N ∧ 1 ≤ N ∧ N ≤ 8 ∧ allB (fun i => okI (by8 x (nI i))) N = true ∧ 24 < Z + N))) := by
  refine vx_ofW (cc := c_Ab_give) (maxL := 4) (ret := (some .int)) (by decide) rfl ?_
  intro p e s m args below meth c s₁ B hml hno hv
  obtain ⟨rfl, E, hP, hD⟩ := hv
  have hx := B.exec
  have hb := B.bytes
  have hr := B.returns
  have hlocks := B.notSynchronized
  have Bx : MB p s m [.ref (ad 0), .long (x), .int (k)].toArray c c_Ab_give "AbnfChart" D cy := ⟨hx, hb, tb_all (atoms_spec B.pre) E.2.1, findClass_of_methodNamed B.named, E.1⟩
  have hS : va_S (Az sz) s.heap s.heap [] := va_S.rf
  have hl := lv_entry ([.ref (ad 0), .long (x), .int (k)]) (n := 4) (Nat.le_of_ble_eq_true rfl)
  rw [lg_entry_eq]
  generalize (lg_sl ([.ref (ad 0), .long (x), .int (k)]) ++ List.replicate (4 - (lg_sl ([.ref (ad 0), .long (x), .int (k)])).length) Slot.unset).toArray = ls at hl ⊢
  have hl : lv_has ls 4 [(0, .ref (ad 0)), (1, .long (x)), (3, .int (k))] := hl
  refine lv_iload_n Bx.1 Bx.2.1 d_Ab_give_0 rfl (lv_at hl 2 rfl) ?_
  refine f_callSi (na := 1) (As := [.int (k)]) (rest := []) Bx hml E.2.1 (m_Ab_isByteCount l k) kw_219 kw_220 kw_1 kw_221 (by decide +kernel) ⟨rfl, rfl⟩ ⟨Nat.le_of_ble_eq_true rfl, Nat.le_of_ble_eq_true rfl⟩ rfl hl.1 (Nat.le_of_ble_eq_true rfl) d_Ab_give_1 ⟨Nat.le_of_ble_eq_true rfl, Nat.le_of_ble_eq_true rfl⟩ (fun r1 hr1 => ?_)
  subst hr1
  refine lv_if_eq Bx.1 Bx.2.1 d_Ab_give_4 rfl (fun h => ?_) (fun h => ?_)
  · exact f_throw (rest := []) hlt Bx hml hlocks hno E hP hS (by decide +kernel) kw_229 kw_12 at_Ab_IA hl.1 d_Ab_give_15 d_Ab_give_18 d_Ab_give_19 d_Ab_give_22 ⟨Nat.le_of_ble_eq_true rfl, Nat.le_of_ble_eq_true rfl, Nat.le_of_ble_eq_true rfl, Nat.le_of_ble_eq_true rfl⟩ ⟨Nat.le_of_ble_eq_true rfl, Nat.le_of_ble_eq_true rfl⟩ ⟨rfl, Or.inl ⟨rfl, (bc_no h).elim Or.inl (fun q => Or.inr (Or.inl q))⟩⟩
  · obtain ⟨N, hN1, hN8, rfl⟩ := bc_ok h
    refine lv_lload_n Bx.1 Bx.2.1 d_Ab_give_7 rfl (lv_at hl 1 rfl) ?_
    refine lv_iload_n Bx.1 Bx.2.1 d_Ab_give_8 rfl (lv_at hl 2 rfl) ?_
    refine f_callSi (na := 2) (As := [.long (x), .int (nI N)]) (rest := []) Bx hml E.2.1 (m_Ab_areInputCodes l x N hN8) kw_537 kw_538 kw_1 kw_539 (by decide +kernel) ⟨rfl, rfl⟩ ⟨Nat.le_of_ble_eq_true rfl, Nat.le_of_ble_eq_true rfl⟩ rfl hl.1 (Nat.le_of_ble_eq_true rfl) d_Ab_give_9 ⟨Nat.le_of_ble_eq_true rfl, Nat.le_of_ble_eq_true rfl⟩ (fun r2 hr2 => ?_)
    subst hr2
    refine lv_if_ne Bx.1 Bx.2.1 d_Ab_give_12 rfl (fun h3 => ?_) (fun h3 => ?_)
    · have ha : allB (fun i => okI (by8 x (nI i))) N = true := if01' h3
      refine lv_aload_n Bx.1 Bx.2.1 d_Ab_give_23 rfl (lv_at hl 0 rfl) ?_
      refine f_get Bx hP (by omega) h0 rfl inAb 1 (by decide) kw_175 rfl rfl d_Ab_give_24 ?_
      refine lv_iload_n Bx.1 Bx.2.1 d_Ab_give_27 rfl (lv_at hl 2 rfl) ?_
      refine f_callVi (na := 1) (As := [.int (nI N)]) (rest := []) Bx hml E hP hD hS (by omega) h1 rfl (m_Ch_hasRoomFor l (by omega) h1 (by omega) h2) kw_293 kw_294 kw_295 kw_2 kw_296 (by decide +kernel) ⟨rfl, rfl⟩ ⟨Nat.le_of_ble_eq_true rfl, Nat.le_of_ble_eq_true rfl⟩ rfl hl.1 (Nat.le_of_ble_eq_true rfl) d_Ab_give_28 ⟨Nat.le_of_ble_eq_true rfl, Nat.le_of_ble_eq_true rfl⟩ (fun r3 mem4 H locs hq hP hS => ?_)
      obtain ⟨hr3, mem4e⟩ := hq
      rw [mem4e] at hP
      subst hr3
      refine lv_if_ne Bx.1 Bx.2.1 d_Ab_give_31 rfl (fun h4 => ?_) (fun h4 => ?_)
      · have hroom : Z + N ≤ 24 := by
          by_cases q : (nI 24 - nI Z : Int32) < nI N
          · rw [if_pos q] at h4; exact absurd rfl h4
          · rw [pk_sub hZ] at q; rw [nI_ltI (by omega) (by omega)] at q; omega
        refine lv_aload_n Bx.1 Bx.2.1 d_Ab_give_42 rfl (lv_at hl 0 rfl) ?_
        refine f_get Bx hP (by omega) h0 rfl inAb 4 (by decide) kw_178 rfl rfl d_Ab_give_43 ?_
        refine f_callVv (na := 0) (As := []) (rest := []) Bx hml E hP hD hS (by omega) hc rfl (m_Ct_forget l (by omega) hc) kw_206 kw_207 kw_208 kw_7 kw_209 (by decide +kernel) ⟨rfl, rfl⟩ ⟨Nat.le_of_ble_eq_true rfl, Nat.le_of_ble_eq_true rfl⟩ rfl hl.1 (Nat.le_of_ble_eq_true rfl) d_Ab_give_46 ⟨Nat.le_of_ble_eq_true rfl, Nat.le_of_ble_eq_true rfl⟩ (fun mem6 H locs hqf hP hS => ?_)
        have hD : va_D (Az sz) (fw n ad mem6) := fw_D hD
        have h2' : mem6 4 = .inl (cy 0, 24, .inl f) := by rw [hqf, va_up_ne _ _ (by decide)]; exact h2
        have hh7 : mem6 (0) = .inr (6, [.ref (ad 1), .ref (ad 3), .ref (ad 5), .ref (ad 222), .ref (ad 223)]) := by rw [hqf]; (try unfold chM); rw [va_up_ne _ _ (by first | decide | assumption | omega)]; exact h0
        have hh8 : mem6 (3) = .inr (0, [.ref (ad 4), .int (nI Z)]) := by rw [hqf]; (try unfold chM); rw [va_up_ne _ _ (by first | decide | assumption | omega)]; exact h1
        refine lv_aload_n Bx.1 Bx.2.1 d_Ab_give_49 rfl (lv_at hl 0 rfl) ?_
        refine f_get Bx hP (by omega) hh7 rfl inAb 1 (by decide) kw_175 rfl rfl d_Ab_give_50 ?_
        refine lv_lload_n Bx.1 Bx.2.1 d_Ab_give_53 rfl (lv_at hl 1 rfl) ?_
        refine lv_iload_n Bx.1 Bx.2.1 d_Ab_give_54 rfl (lv_at hl 2 rfl) ?_
        refine f_callVv (na := 2) (As := [.long (x), .int (nI N)]) (rest := []) Bx hml E hP hD hS (by omega) hh8 rfl (m_Ch_appendBytes (N := N) l (by omega) hh8 (by omega) h2' (by decide) hroom (by decide)) kw_312 kw_313 kw_314 kw_2 kw_315 (by decide +kernel) ⟨rfl, rfl⟩ ⟨Nat.le_of_ble_eq_true rfl, Nat.le_of_ble_eq_true rfl⟩ rfl hl.1 (Nat.le_of_ble_eq_true rfl) d_Ab_give_55 ⟨Nat.le_of_ble_eq_true rfl, Nat.le_of_ble_eq_true rfl⟩ (fun mem10 H locs hq2 hP hS => ?_)
        have hD : va_D (Az sz) (fw n ad mem10) := fw_D hD
        have h1n : mem10 3 = .inr (0, [.ref (ad 4), .int (nI (Z + N))]) := by rw [hq2]; exact va_up_self _ _ _
        have h0n : mem10 0 = .inr (6, [.ref (ad 1), .ref (ad 3), .ref (ad 5), .ref (ad 222), .ref (ad 223)]) := by rw [hq2]; unfold chM; rw [va_up_ne _ _ (by decide), va_up_ne _ _ (by decide)]; exact hh7
        refine lv_aload_n Bx.1 Bx.2.1 d_Ab_give_58 rfl (lv_at hl 0 rfl) ?_
        refine f_get Bx hP (by omega) h0n rfl inAb 1 (by decide) kw_175 rfl rfl d_Ab_give_59 ?_
        refine f_getN Bx hP (by omega) h1n rfl inCh 1 (by decide) kw_34 rfl rfl d_Ab_give_62 ?_
        refine vx_ret (W.widen (k := 1) (n := 6) (by decide) (by decide) ?_)
        exact W.iret (v := nI (Z + N)) hx hb hr (fun t ht hW => ⟨⟨nI (Z + N), mem10, rfl, ⟨N, rfl, hN1, hN8, ha, hroom, rfl, by rw [hq2, hqf]⟩, by show va_P _ _ _ t.heap; rw [ht]; exact hP⟩, hS.F ht⟩) hS.2.2 d_Ab_give_65
      · have hroom : 24 < Z + N := by
          by_cases q : (nI 24 - nI Z : Int32) < nI N
          · rw [pk_sub hZ] at q; rw [nI_ltI (by omega) (by omega)] at q; omega
          · rw [if_neg q] at h4; exact absurd h4 (by decide)
        exact f_throw (rest := []) hlt Bx hml hlocks hno E hP hS (by decide +kernel) kw_297 kw_13 at_Ab_IS hl.1 d_Ab_give_34 d_Ab_give_37 d_Ab_give_38 d_Ab_give_41 ⟨Nat.le_of_ble_eq_true rfl, Nat.le_of_ble_eq_true rfl, Nat.le_of_ble_eq_true rfl, Nat.le_of_ble_eq_true rfl⟩ ⟨Nat.le_of_ble_eq_true rfl, Nat.le_of_ble_eq_true rfl⟩ ⟨rfl, Or.inr ⟨rfl, N, rfl, hN1, hN8, ha, hroom⟩⟩
    · exact f_throw (rest := []) hlt Bx hml hlocks hno E hP hS (by decide +kernel) kw_229 kw_12 at_Ab_IA hl.1 d_Ab_give_15 d_Ab_give_18 d_Ab_give_19 d_Ab_give_22 ⟨Nat.le_of_ble_eq_true rfl, Nat.le_of_ble_eq_true rfl, Nat.le_of_ble_eq_true rfl, Nat.le_of_ble_eq_true rfl⟩ ⟨Nat.le_of_ble_eq_true rfl, Nat.le_of_ble_eq_true rfl⟩ ⟨rfl, Or.inl ⟨rfl, Or.inr (Or.inr ⟨N, rfl, hN1, hN8, if01 h3⟩)⟩⟩
end
section
theorem d_Ch_init_0 : decode c_Ch_init 0 = .ok (.aload_n 0, 1) := by decide +kernel
theorem d_Ch_init_1 : decode c_Ch_init 1 = .ok (.invokespecial 3, 3) := by decide +kernel
theorem d_Ch_init_4 : decode c_Ch_init 4 = .ok (.aload_n 0, 1) := by decide +kernel
theorem d_Ch_init_5 : decode c_Ch_init 5 = .ok (.iload_n 1, 1) := by decide +kernel
theorem d_Ch_init_6 : decode c_Ch_init 6 = .ok (.newarray .char, 2) := by decide +kernel
theorem d_Ch_init_8 : decode c_Ch_init 8 = .ok (.putfield 9, 3) := by decide +kernel
theorem d_Ch_init_11 : decode c_Ch_init 11 = .ok (.aload_n 0, 1) := by decide +kernel
theorem d_Ch_init_12 : decode c_Ch_init 12 = .ok (.iconst 0, 1) := by decide +kernel
theorem d_Ch_init_13 : decode c_Ch_init 13 = .ok (.putfield 15, 3) := by decide +kernel
theorem d_Ch_init_16 : decode c_Ch_init 16 = .ok (.return_, 1) := by decide +kernel
theorem d_El_init_0 : decode c_El_init 0 = .ok (.aload_n 0, 1) := by decide +kernel
theorem d_El_init_1 : decode c_El_init 1 = .ok (.invokespecial 3, 3) := by decide +kernel
theorem d_El_init_4 : decode c_El_init 4 = .ok (.aload_n 0, 1) := by decide +kernel
theorem d_El_init_5 : decode c_El_init 5 = .ok (.bipush 25, 2) := by decide +kernel
theorem d_El_init_7 : decode c_El_init 7 = .ok (.newarray .int, 2) := by decide +kernel
theorem d_El_init_9 : decode c_El_init 9 = .ok (.putfield 9, 3) := by decide +kernel
theorem d_El_init_12 : decode c_El_init 12 = .ok (.return_, 1) := by decide +kernel
theorem d_Ru_init_0 : decode c_Ru_init 0 = .ok (.aload_n 0, 1) := by decide +kernel
theorem d_Ru_init_1 : decode c_Ru_init 1 = .ok (.invokespecial 1, 3) := by decide +kernel
theorem d_Ru_init_4 : decode c_Ru_init 4 = .ok (.return_, 1) := by decide +kernel
theorem d_Rd_init_0 : decode c_Rd_init 0 = .ok (.aload_n 0, 1) := by decide +kernel
theorem d_Rd_init_1 : decode c_Rd_init 1 = .ok (.invokespecial 3, 3) := by decide +kernel
theorem d_Rd_init_4 : decode c_Rd_init 4 = .ok (.aload_n 0, 1) := by decide +kernel
theorem d_Rd_init_5 : decode c_Rd_init 5 = .ok (.aload_n 1, 1) := by decide +kernel
theorem d_Rd_init_6 : decode c_Rd_init 6 = .ok (.putfield 9, 3) := by decide +kernel
theorem d_Rd_init_9 : decode c_Rd_init 9 = .ok (.aload_n 0, 1) := by decide +kernel
theorem d_Rd_init_10 : decode c_Rd_init 10 = .ok (.aload_n 2, 1) := by decide +kernel
theorem d_Rd_init_11 : decode c_Rd_init 11 = .ok (.putfield 15, 3) := by decide +kernel
theorem d_Rd_init_14 : decode c_Rd_init 14 = .ok (.aload_n 0, 1) := by decide +kernel
theorem d_Rd_init_15 : decode c_Rd_init 15 = .ok (.iconst 0, 1) := by decide +kernel
theorem d_Rd_init_16 : decode c_Rd_init 16 = .ok (.putfield 19, 3) := by decide +kernel
theorem d_Rd_init_19 : decode c_Rd_init 19 = .ok (.aload_n 0, 1) := by decide +kernel
theorem d_Rd_init_20 : decode c_Rd_init 20 = .ok (.iconst (-1), 1) := by decide +kernel
theorem d_Rd_init_21 : decode c_Rd_init 21 = .ok (.putfield 23, 3) := by decide +kernel
theorem d_Rd_init_24 : decode c_Rd_init 24 = .ok (.return_, 1) := by decide +kernel
theorem d_Ct_init_0 : decode c_Ct_init 0 = .ok (.aload_n 0, 1) := by decide +kernel
theorem d_Ct_init_1 : decode c_Ct_init 1 = .ok (.invokespecial 3, 3) := by decide +kernel
theorem d_Ct_init_4 : decode c_Ct_init 4 = .ok (.aload_n 0, 1) := by decide +kernel
theorem d_Ct_init_5 : decode c_Ct_init 5 = .ok (.aload_n 1, 1) := by decide +kernel
theorem d_Ct_init_6 : decode c_Ct_init 6 = .ok (.putfield 9, 3) := by decide +kernel
theorem d_Ct_init_9 : decode c_Ct_init 9 = .ok (.aload_n 0, 1) := by decide +kernel
theorem d_Ct_init_10 : decode c_Ct_init 10 = .ok (.aload_n 2, 1) := by decide +kernel
theorem d_Ct_init_11 : decode c_Ct_init 11 = .ok (.putfield 15, 3) := by decide +kernel
theorem d_Ct_init_14 : decode c_Ct_init 14 = .ok (.aload_n 0, 1) := by decide +kernel
theorem d_Ct_init_15 : decode c_Ct_init 15 = .ok (.iconst 0, 1) := by decide +kernel
theorem d_Ct_init_16 : decode c_Ct_init 16 = .ok (.putfield 19, 3) := by decide +kernel
theorem d_Ct_init_19 : decode c_Ct_init 19 = .ok (.return_, 1) := by decide +kernel
set_option maxHeartbeats 4000000 in
set_option maxRecDepth 100000 in
theorem m_Ch_init (l : Launch) {D : va_G} {cy : Nat → ClassId} {sz base : Nat} {mem : Nat → va_E} {n j K : Nat} (hbz : sz ≤ base) (hj : j < n) (hm : mem j = .inr (0, [.null, .int 0])) (hK : K = 240 ∨ K = 24) : MC l D cy sz base n (n + 1) y_Ch_init c_Ch_init 2 ({ frames := 1, cells := 1, slots := K, locals := 12 } : Room) mem [.ref ((adB base) j), .int (nI K)] (fun mem' => mem' = va_up (va_up mem n (.inl (cy 0, K, .inl (fun _ => 0)))) j (.inr (0, [.ref ((adB base) n), .int 0]))) 1 K := by
  refine Met.ofW (cc := c_Ch_init) (maxL := 2) (ret := none) (by decide) rfl ?_
  intro p e s m args below meth c s₁ B hml hv
  obtain ⟨rfl, ⟨E, hP, -⟩, hs0⟩ := hv
  have hx := B.exec
  have hb := B.bytes
  have hr := B.returns
  have hlocks := B.notSynchronized
  have Bx : MB p s m [.ref ((adB base) j), .int (nI K)].toArray c c_Ch_init "AbnfChart$Characters" D cy := ⟨hx, hb, tb_all (atoms_spec B.pre) E.2.1, findClass_of_methodNamed B.named, E.1⟩
  have hS : va_S (Az sz) s.heap s.heap [] := va_S.rf
  have hin : meth.name = "<init>" := (name_of_methodNamed B.named B.method).1
  have hl := lv_entry ([.ref ((adB base) j), .int (nI K)]) (n := 2) (Nat.le_of_ble_eq_true rfl)
  rw [lg_entry_eq]
  generalize (lg_sl ([.ref ((adB base) j), .int (nI K)]) ++ List.replicate (2 - (lg_sl ([.ref ((adB base) j), .int (nI K)])).length) Slot.unset).toArray = ls at hl ⊢
  have hl : lv_has ls 2 [(0, .ref ((adB base) j)), (1, .int (nI K))] := hl
  refine lv_aload_n Bx.1 Bx.2.1 d_Ch_init_0 rfl (lv_at hl 0 rfl) ?_
  refine W.objInit hx hb Bx.2.2.2.1 (Bx.2.2.1 _ (tb_g kw_30 rfl)) (Bx.2.2.1 _ (tb_g kw_23 rfl)) (Bx.2.2.1 _ (tb_g kw_24 rfl)) rfl (by rw [hml]; exact hl.1) rfl d_Ch_init_1 (Nat.le_of_ble_eq_true rfl) (Nat.le_of_ble_eq_true rfl) ?_
  refine W.eq (g2 := F0 m 4 ls []) rfl ?_
  refine lv_aload_n Bx.1 Bx.2.1 d_Ch_init_4 rfl (lv_at hl 0 rfl) ?_
  refine lv_iload_n Bx.1 Bx.2.1 d_Ch_init_5 rfl (lv_at hl 1 rfl) ?_
  refine c_size (n := n) hP (by omega) (by omega) (fun hz => ?_)
  refine f_newa (atype := .char) (n := n) (t0 := 0) (N' := K) Bx hP hS hz kw_41 (Bx.2.2.2.2.2 0 _ rfl).2 (K, .inl (fun _ => 0)) (fun _ => rfl) (nI_pos (by omega)) (nI_clamp (by omega)) (by show K * 2 ≤ _; omega) (Nat.le_of_ble_eq_true rfl) (by show 0 + K ≤ K; omega) d_Ch_init_6 (fun H hP hS hz => ?_)
  obtain ⟨mem1, e_mem1⟩ : ∃ z, z = va_up mem (n) (.inl (cy 0, (K, .inl (fun _ => 0)))) := ⟨_, rfl⟩
  have hP : va_P D vcl (fw (n + 1) (adB base) mem1) H := by rw [e_mem1]; exact hP
  have h_mem1 : mem1 (n) = .inl (cy 0, (K, .inl (fun _ => 0))) := by rw [e_mem1, va_up_self]
  have hh2 := (va_up_ne mem (.inl (cy 0, (K, .inl (fun _ => 0)))) (show (j : Nat) ≠ n by first | decide | assumption | omega)).trans hm
  rw [← e_mem1] at hh2
  refine f_putF Bx hin hP (adB_D hbz) hS (by omega) hh2 rfl inCh tyCh okCh nmCh 0 (by decide) kw_31 rfl rfl rfl rfl (Nat.le_of_ble_eq_true rfl) d_Ch_init_8 (fun H locs hP hS => ?_)
  obtain ⟨mem3, e_mem3⟩ : ∃ z, z = va_up mem1 (j) (.inr (0, [.ref ((adB base) n), .int (0)])) := ⟨_, rfl⟩
  have hP : va_P D vcl (fw (n + 1) (adB base) mem3) H := by rw [e_mem3]; exact hP
  have h_mem3 : mem3 (j) = .inr (0, [.ref ((adB base) n), .int (0)]) := by rw [e_mem3, va_up_self]
  refine lv_aload_n Bx.1 Bx.2.1 d_Ch_init_11 rfl (lv_at hl 0 rfl) ?_
  refine lv_iconst (v := 0) Bx.1 Bx.2.1 d_Ch_init_12 (by decide) ?_
  refine f_put Bx hP (adB_D hbz) hS (by omega) h_mem3 rfl inCh tyCh okCh nmCh 1 (by decide) kw_32 rfl rfl rfl rfl (Nat.le_of_ble_eq_true rfl) d_Ch_init_13 (fun H locs hP hS => ?_)
  obtain ⟨mem4, e_mem4⟩ : ∃ z, z = va_up mem3 (j) (.inr (0, [.ref ((adB base) n), .int (0)])) := ⟨_, rfl⟩
  have hP : va_P D vcl (fw (n + 1) (adB base) mem4) H := by rw [e_mem4]; exact hP
  have h_mem4 : mem4 (j) = .inr (0, [.ref ((adB base) n), .int (0)]) := by rw [e_mem4, va_up_self]
  refine c_size (n := (n + 1)) hP (by omega) (by omega) (fun hz => ?_)
  refine W.widen (k := 1) (n := K) (Nat.le_of_ble_eq_true rfl) (by omega) ?_
  exact W.vret hx hb hr (fun t ht hW => ⟨⟨mem4, rfl, by rw [e_mem4, e_mem3, e_mem1, up_up], by rw [ht]; exact hP, by rw [ht]; exact hz⟩, hS.F ht⟩) hS.2.2 d_Ch_init_16
set_option maxHeartbeats 4000000 in
set_option maxRecDepth 100000 in
theorem m_El_init (l : Launch) {D : va_G} {cy : Nat → ClassId} {sz base : Nat} {mem : Nat → va_E} {n j : Nat} (hbz : sz ≤ base) (hj : j < n) (hm : mem j = .inr (2, [.int 0, .int 0, .int 0, .null, .null, .null, .null])) : MC l D cy sz base n (n + 1) y_El_init c_El_init 1 ({ frames := 1, cells := 1, slots := 25, locals := 12 } : Room) mem [.ref ((adB base) j)] (fun mem' => mem' = va_up (va_up mem n (.inl (cy 1, 25, .inl (fun _ => 0)))) j (.inr (2, [.int 0, .int 0, .int 0, .null, .null, .null, .ref ((adB base) n)]))) 1 25 := by
  refine Met.ofW (cc := c_El_init) (maxL := 1) (ret := none) (by decide) rfl ?_
  intro p e s m args below meth c s₁ B hml hv
  obtain ⟨rfl, ⟨E, hP, -⟩, hs0⟩ := hv
  have hx := B.exec
  have hb := B.bytes
  have hr := B.returns
  have hlocks := B.notSynchronized
  have Bx : MB p s m [.ref ((adB base) j)].toArray c c_El_init "AbnfChart$Element" D cy := ⟨hx, hb, tb_all (atoms_spec B.pre) E.2.1, findClass_of_methodNamed B.named, E.1⟩
  have hS : va_S (Az sz) s.heap s.heap [] := va_S.rf
  have hin : meth.name = "<init>" := (name_of_methodNamed B.named B.method).1
  have hl := lv_entry ([.ref ((adB base) j)]) (n := 1) (Nat.le_of_ble_eq_true rfl)
  rw [lg_entry_eq]
  generalize (lg_sl ([.ref ((adB base) j)]) ++ List.replicate (1 - (lg_sl ([.ref ((adB base) j)])).length) Slot.unset).toArray = ls at hl ⊢
  have hl : lv_has ls 1 [(0, .ref ((adB base) j))] := hl
  refine lv_aload_n Bx.1 Bx.2.1 d_El_init_0 rfl (lv_at hl 0 rfl) ?_
  refine W.objInit hx hb Bx.2.2.2.1 (Bx.2.2.1 _ (tb_g kw_73 rfl)) (Bx.2.2.1 _ (tb_g kw_23 rfl)) (Bx.2.2.1 _ (tb_g kw_24 rfl)) rfl (by rw [hml]; exact hl.1) rfl d_El_init_1 (Nat.le_of_ble_eq_true rfl) (Nat.le_of_ble_eq_true rfl) ?_
  refine W.eq (g2 := F0 m 4 ls []) rfl ?_
  refine lv_aload_n Bx.1 Bx.2.1 d_El_init_4 rfl (lv_at hl 0 rfl) ?_
  refine lv_bipush (v := 25) Bx.1 Bx.2.1 d_El_init_5 (by decide) ?_
  refine c_size (n := n) hP (by omega) (by omega) (fun hz => ?_)
  refine f_newa (atype := .int) (n := n) (t0 := 1) (N' := 25) Bx hP hS hz kw_110 (Bx.2.2.2.2.2 1 _ rfl).2 (25, .inl (fun _ => 0)) (fun _ => rfl) (by decide) (by decide) (by decide) (Nat.le_of_ble_eq_true rfl) (Nat.le_of_ble_eq_true rfl) d_El_init_7 (fun H hP hS hz => ?_)
  obtain ⟨mem1, e_mem1⟩ : ∃ z, z = va_up mem (n) (.inl (cy 1, (25, .inl (fun _ => 0)))) := ⟨_, rfl⟩
  have hP : va_P D vcl (fw (n + 1) (adB base) mem1) H := by rw [e_mem1]; exact hP
  have h_mem1 : mem1 (n) = .inl (cy 1, (25, .inl (fun _ => 0))) := by rw [e_mem1, va_up_self]
  have hh2 := (va_up_ne mem (.inl (cy 1, (25, .inl (fun _ => 0)))) (show (j : Nat) ≠ n by first | decide | assumption | omega)).trans hm
  rw [← e_mem1] at hh2
  refine f_putF Bx hin hP (adB_D hbz) hS (by omega) hh2 rfl inEl tyEl okEl nmEl 6 (by decide) kw_93 rfl rfl rfl rfl (Nat.le_of_ble_eq_true rfl) d_El_init_9 (fun H locs hP hS => ?_)
  obtain ⟨mem3, e_mem3⟩ : ∃ z, z = va_up mem1 (j) (.inr (2, [.int (0), .int (0), .int (0), .null, .null, .null, .ref ((adB base) n)])) := ⟨_, rfl⟩
  have hP : va_P D vcl (fw (n + 1) (adB base) mem3) H := by rw [e_mem3]; exact hP
  have h_mem3 : mem3 (j) = .inr (2, [.int (0), .int (0), .int (0), .null, .null, .null, .ref ((adB base) n)]) := by rw [e_mem3, va_up_self]
  refine c_size (n := (n + 1)) hP (by omega) (by omega) (fun hz => ?_)
  refine W.widen (k := 1) (n := 25) (Nat.le_of_ble_eq_true rfl) (Nat.le_of_ble_eq_true rfl) ?_
  exact W.vret hx hb hr (fun t ht hW => ⟨⟨mem3, rfl, by rw [e_mem3, e_mem1], by rw [ht]; exact hP, by rw [ht]; exact hz⟩, hS.F ht⟩) hS.2.2 d_El_init_12
set_option maxHeartbeats 4000000 in
set_option maxRecDepth 100000 in
theorem m_Ru_init (l : Launch) {D : va_G} {cy : Nat → ClassId} {sz base : Nat} {mem : Nat → va_E} {n j : Nat} (hbz : sz ≤ base) (hj : j < n) : MC l D cy sz base n n y_Ru_init c_Ru_init 1 ({ frames := 1, cells := 0, slots := 0, locals := 12 } : Room) mem [.ref ((adB base) j)] (fun mem' => mem' = mem) 0 0 := by
  refine Met.ofW (cc := c_Ru_init) (maxL := 1) (ret := none) (by decide) rfl ?_
  intro p e s m args below meth c s₁ B hml hv
  obtain ⟨rfl, ⟨E, hP, -⟩, hs0⟩ := hv
  have hx := B.exec
  have hb := B.bytes
  have hr := B.returns
  have hlocks := B.notSynchronized
  have Bx : MB p s m [.ref ((adB base) j)].toArray c c_Ru_init "AbnfChart$Rule" D cy := ⟨hx, hb, tb_all (atoms_spec B.pre) E.2.1, findClass_of_methodNamed B.named, E.1⟩
  have hS : va_S (Az sz) s.heap s.heap [] := va_S.rf
  have hin : meth.name = "<init>" := (name_of_methodNamed B.named B.method).1
  have hl := lv_entry ([.ref ((adB base) j)]) (n := 1) (Nat.le_of_ble_eq_true rfl)
  rw [lg_entry_eq]
  generalize (lg_sl ([.ref ((adB base) j)]) ++ List.replicate (1 - (lg_sl ([.ref ((adB base) j)])).length) Slot.unset).toArray = ls at hl ⊢
  have hl : lv_has ls 1 [(0, .ref ((adB base) j))] := hl
  refine lv_aload_n Bx.1 Bx.2.1 d_Ru_init_0 rfl (lv_at hl 0 rfl) ?_
  refine W.objInit hx hb Bx.2.2.2.1 (Bx.2.2.1 _ (tb_g kw_54 rfl)) (Bx.2.2.1 _ (tb_g kw_23 rfl)) (Bx.2.2.1 _ (tb_g kw_24 rfl)) rfl (by rw [hml]; exact hl.1) rfl d_Ru_init_1 (Nat.le_of_ble_eq_true rfl) (Nat.le_of_ble_eq_true rfl) ?_
  refine W.eq (g2 := F0 m 4 ls []) rfl ?_
  refine c_size (n := n) hP (by omega) (by omega) (fun hz => ?_)
  refine W.widen (k := 0) (n := 0) (Nat.le_of_ble_eq_true rfl) (Nat.le_of_ble_eq_true rfl) ?_
  exact W.vret hx hb hr (fun t ht hW => ⟨⟨mem, rfl, rfl, by rw [ht]; exact hP, by rw [ht]; exact hz⟩, hS.F ht⟩) hS.2.2 d_Ru_init_4
set_option maxHeartbeats 4000000 in
set_option maxRecDepth 100000 in
theorem m_Rd_init (l : Launch) {D : va_G} {cy : Nat → ClassId} {sz base : Nat} {mem : Nat → va_E} {n j a b : Nat} (hbz : sz ≤ base) (hj : j < n) (hm : mem j = .inr (4, [.null, .null, .int 0, .int 0])) : MC l D cy sz base n n y_Rd_init c_Rd_init 3 ({ frames := 1, cells := 0, slots := 0, locals := 12 } : Room) mem [.ref ((adB base) j), .ref (a), .ref (b)] (fun mem' => mem' = va_up mem j (.inr (4, [.ref a, .ref b, .int 0, .int (-1)]))) 0 0 := by
  refine Met.ofW (cc := c_Rd_init) (maxL := 3) (ret := none) (by decide) rfl ?_
  intro p e s m args below meth c s₁ B hml hv
  obtain ⟨rfl, ⟨E, hP, -⟩, hs0⟩ := hv
  have hx := B.exec
  have hb := B.bytes
  have hr := B.returns
  have hlocks := B.notSynchronized
  have Bx : MB p s m [.ref ((adB base) j), .ref (a), .ref (b)].toArray c c_Rd_init "AbnfChart$Reader" D cy := ⟨hx, hb, tb_all (atoms_spec B.pre) E.2.1, findClass_of_methodNamed B.named, E.1⟩
  have hS : va_S (Az sz) s.heap s.heap [] := va_S.rf
  have hin : meth.name = "<init>" := (name_of_methodNamed B.named B.method).1
  have hl := lv_entry ([.ref ((adB base) j), .ref (a), .ref (b)]) (n := 3) (Nat.le_of_ble_eq_true rfl)
  rw [lg_entry_eq]
  generalize (lg_sl ([.ref ((adB base) j), .ref (a), .ref (b)]) ++ List.replicate (3 - (lg_sl ([.ref ((adB base) j), .ref (a), .ref (b)])).length) Slot.unset).toArray = ls at hl ⊢
  have hl : lv_has ls 3 [(0, .ref ((adB base) j)), (1, .ref (a)), (2, .ref (b))] := hl
  refine lv_aload_n Bx.1 Bx.2.1 d_Rd_init_0 rfl (lv_at hl 0 rfl) ?_
  refine W.objInit hx hb Bx.2.2.2.1 (Bx.2.2.1 _ (tb_g kw_143 rfl)) (Bx.2.2.1 _ (tb_g kw_23 rfl)) (Bx.2.2.1 _ (tb_g kw_24 rfl)) rfl (by rw [hml]; exact hl.1) rfl d_Rd_init_1 (Nat.le_of_ble_eq_true rfl) (Nat.le_of_ble_eq_true rfl) ?_
  refine W.eq (g2 := F0 m 4 ls []) rfl ?_
  refine lv_aload_n Bx.1 Bx.2.1 d_Rd_init_4 rfl (lv_at hl 0 rfl) ?_
  refine lv_aload_n Bx.1 Bx.2.1 d_Rd_init_5 rfl (lv_at hl 1 rfl) ?_
  refine f_putF Bx hin hP (adB_D hbz) hS hj hm rfl inRd tyRd okRd nmRd 0 (by decide) kw_144 rfl rfl rfl rfl (Nat.le_of_ble_eq_true rfl) d_Rd_init_6 (fun H locs hP hS => ?_)
  obtain ⟨mem1, e_mem1⟩ : ∃ z, z = va_up mem (j) (.inr (4, [.ref (a), .null, .int (0), .int (0)])) := ⟨_, rfl⟩
  have hP : va_P D vcl (fw n (adB base) mem1) H := by rw [e_mem1]; exact hP
  have h_mem1 : mem1 (j) = .inr (4, [.ref (a), .null, .int (0), .int (0)]) := by rw [e_mem1, va_up_self]
  refine lv_aload_n Bx.1 Bx.2.1 d_Rd_init_9 rfl (lv_at hl 0 rfl) ?_
  refine lv_aload_n Bx.1 Bx.2.1 d_Rd_init_10 rfl (lv_at hl 2 rfl) ?_
  refine f_putF Bx hin hP (adB_D hbz) hS hj h_mem1 rfl inRd tyRd okRd nmRd 1 (by decide) kw_145 rfl rfl rfl rfl (Nat.le_of_ble_eq_true rfl) d_Rd_init_11 (fun H locs hP hS => ?_)
  obtain ⟨mem2, e_mem2⟩ : ∃ z, z = va_up mem1 (j) (.inr (4, [.ref (a), .ref (b), .int (0), .int (0)])) := ⟨_, rfl⟩
  have hP : va_P D vcl (fw n (adB base) mem2) H := by rw [e_mem2]; exact hP
  have h_mem2 : mem2 (j) = .inr (4, [.ref (a), .ref (b), .int (0), .int (0)]) := by rw [e_mem2, va_up_self]
  refine lv_aload_n Bx.1 Bx.2.1 d_Rd_init_14 rfl (lv_at hl 0 rfl) ?_
  refine lv_iconst (v := 0) Bx.1 Bx.2.1 d_Rd_init_15 (by decide) ?_
  refine f_put Bx hP (adB_D hbz) hS hj h_mem2 rfl inRd tyRd okRd nmRd 2 (by decide) kw_146 rfl rfl rfl rfl (Nat.le_of_ble_eq_true rfl) d_Rd_init_16 (fun H locs hP hS => ?_)
  obtain ⟨mem3, e_mem3⟩ : ∃ z, z = va_up mem2 (j) (.inr (4, [.ref (a), .ref (b), .int (0), .int (0)])) := ⟨_, rfl⟩
  have hP : va_P D vcl (fw n (adB base) mem3) H := by rw [e_mem3]; exact hP
  have h_mem3 : mem3 (j) = .inr (4, [.ref (a), .ref (b), .int (0), .int (0)]) := by rw [e_mem3, va_up_self]
  refine lv_aload_n Bx.1 Bx.2.1 d_Rd_init_19 rfl (lv_at hl 0 rfl) ?_
  refine lv_iconst (v := -1) Bx.1 Bx.2.1 d_Rd_init_20 (by decide) ?_
  refine f_put Bx hP (adB_D hbz) hS hj h_mem3 rfl inRd tyRd okRd nmRd 3 (by decide) kw_147 rfl rfl rfl rfl (Nat.le_of_ble_eq_true rfl) d_Rd_init_21 (fun H locs hP hS => ?_)
  obtain ⟨mem4, e_mem4⟩ : ∃ z, z = va_up mem3 (j) (.inr (4, [.ref (a), .ref (b), .int (0), .int ((-1))])) := ⟨_, rfl⟩
  have hP : va_P D vcl (fw n (adB base) mem4) H := by rw [e_mem4]; exact hP
  have h_mem4 : mem4 (j) = .inr (4, [.ref (a), .ref (b), .int (0), .int ((-1))]) := by rw [e_mem4, va_up_self]
  refine c_size (n := n) hP (by omega) (by omega) (fun hz => ?_)
  refine W.widen (k := 0) (n := 0) (Nat.le_of_ble_eq_true rfl) (Nat.le_of_ble_eq_true rfl) ?_
  exact W.vret hx hb hr (fun t ht hW => ⟨⟨mem4, rfl, by rw [e_mem4, e_mem3, e_mem2, e_mem1, up_up, up_up, up_up], by rw [ht]; exact hP, by rw [ht]; exact hz⟩, hS.F ht⟩) hS.2.2 d_Rd_init_24
set_option maxHeartbeats 4000000 in
set_option maxRecDepth 100000 in
theorem m_Ct_init (l : Launch) {D : va_G} {cy : Nat → ClassId} {sz base : Nat} {mem : Nat → va_E} {n j a b : Nat} (hbz : sz ≤ base) (hj : j < n) (hm : mem j = .inr (1, [.null, .null, .int 0])) : MC l D cy sz base n n y_Ct_init c_Ct_init 3 ({ frames := 1, cells := 0, slots := 0, locals := 12 } : Room) mem [.ref ((adB base) j), .ref (a), .ref (b)] (fun mem' => mem' = va_up mem j (.inr (1, [.ref a, .ref b, .int 0]))) 0 0 := by
  refine Met.ofW (cc := c_Ct_init) (maxL := 3) (ret := none) (by decide) rfl ?_
  intro p e s m args below meth c s₁ B hml hv
  obtain ⟨rfl, ⟨E, hP, -⟩, hs0⟩ := hv
  have hx := B.exec
  have hb := B.bytes
  have hr := B.returns
  have hlocks := B.notSynchronized
  have Bx : MB p s m [.ref ((adB base) j), .ref (a), .ref (b)].toArray c c_Ct_init "AbnfChart$Chart" D cy := ⟨hx, hb, tb_all (atoms_spec B.pre) E.2.1, findClass_of_methodNamed B.named, E.1⟩
  have hS : va_S (Az sz) s.heap s.heap [] := va_S.rf
  have hin : meth.name = "<init>" := (name_of_methodNamed B.named B.method).1
  have hl := lv_entry ([.ref ((adB base) j), .ref (a), .ref (b)]) (n := 3) (Nat.le_of_ble_eq_true rfl)
  rw [lg_entry_eq]
  generalize (lg_sl ([.ref ((adB base) j), .ref (a), .ref (b)]) ++ List.replicate (3 - (lg_sl ([.ref ((adB base) j), .ref (a), .ref (b)])).length) Slot.unset).toArray = ls at hl ⊢
  have hl : lv_has ls 3 [(0, .ref ((adB base) j)), (1, .ref (a)), (2, .ref (b))] := hl
  refine lv_aload_n Bx.1 Bx.2.1 d_Ct_init_0 rfl (lv_at hl 0 rfl) ?_
  refine W.objInit hx hb Bx.2.2.2.1 (Bx.2.2.1 _ (tb_g kw_163 rfl)) (Bx.2.2.1 _ (tb_g kw_23 rfl)) (Bx.2.2.1 _ (tb_g kw_24 rfl)) rfl (by rw [hml]; exact hl.1) rfl d_Ct_init_1 (Nat.le_of_ble_eq_true rfl) (Nat.le_of_ble_eq_true rfl) ?_
  refine W.eq (g2 := F0 m 4 ls []) rfl ?_
  refine lv_aload_n Bx.1 Bx.2.1 d_Ct_init_4 rfl (lv_at hl 0 rfl) ?_
  refine lv_aload_n Bx.1 Bx.2.1 d_Ct_init_5 rfl (lv_at hl 1 rfl) ?_
  refine f_putF Bx hin hP (adB_D hbz) hS hj hm rfl inCt tyCt okCt nmCt 0 (by decide) kw_164 rfl rfl rfl rfl (Nat.le_of_ble_eq_true rfl) d_Ct_init_6 (fun H locs hP hS => ?_)
  obtain ⟨mem1, e_mem1⟩ : ∃ z, z = va_up mem (j) (.inr (1, [.ref (a), .null, .int (0)])) := ⟨_, rfl⟩
  have hP : va_P D vcl (fw n (adB base) mem1) H := by rw [e_mem1]; exact hP
  have h_mem1 : mem1 (j) = .inr (1, [.ref (a), .null, .int (0)]) := by rw [e_mem1, va_up_self]
  refine lv_aload_n Bx.1 Bx.2.1 d_Ct_init_9 rfl (lv_at hl 0 rfl) ?_
  refine lv_aload_n Bx.1 Bx.2.1 d_Ct_init_10 rfl (lv_at hl 2 rfl) ?_
  refine f_putF Bx hin hP (adB_D hbz) hS hj h_mem1 rfl inCt tyCt okCt nmCt 1 (by decide) kw_165 rfl rfl rfl rfl (Nat.le_of_ble_eq_true rfl) d_Ct_init_11 (fun H locs hP hS => ?_)
  obtain ⟨mem2, e_mem2⟩ : ∃ z, z = va_up mem1 (j) (.inr (1, [.ref (a), .ref (b), .int (0)])) := ⟨_, rfl⟩
  have hP : va_P D vcl (fw n (adB base) mem2) H := by rw [e_mem2]; exact hP
  have h_mem2 : mem2 (j) = .inr (1, [.ref (a), .ref (b), .int (0)]) := by rw [e_mem2, va_up_self]
  refine lv_aload_n Bx.1 Bx.2.1 d_Ct_init_14 rfl (lv_at hl 0 rfl) ?_
  refine lv_iconst (v := 0) Bx.1 Bx.2.1 d_Ct_init_15 (by decide) ?_
  refine f_put Bx hP (adB_D hbz) hS hj h_mem2 rfl inCt tyCt okCt nmCt 2 (by decide) kw_166 rfl rfl rfl rfl (Nat.le_of_ble_eq_true rfl) d_Ct_init_16 (fun H locs hP hS => ?_)
  obtain ⟨mem3, e_mem3⟩ : ∃ z, z = va_up mem2 (j) (.inr (1, [.ref (a), .ref (b), .int (0)])) := ⟨_, rfl⟩
  have hP : va_P D vcl (fw n (adB base) mem3) H := by rw [e_mem3]; exact hP
  have h_mem3 : mem3 (j) = .inr (1, [.ref (a), .ref (b), .int (0)]) := by rw [e_mem3, va_up_self]
  refine c_size (n := n) hP (by omega) (by omega) (fun hz => ?_)
  refine W.widen (k := 0) (n := 0) (Nat.le_of_ble_eq_true rfl) (Nat.le_of_ble_eq_true rfl) ?_
  exact W.vret hx hb hr (fun t ht hW => ⟨⟨mem3, rfl, by rw [e_mem3, e_mem2, e_mem1, up_up, up_up], by rw [ht]; exact hP, by rw [ht]; exact hz⟩, hS.F ht⟩) hS.2.2 d_Ct_init_19
end
section
theorem d_Gr_init_0 : decode c_Gr_init 0 = .ok (.aload_n 0, 1) := by decide +kernel
theorem d_Gr_init_1 : decode c_Gr_init 1 = .ok (.invokespecial 3, 3) := by decide +kernel
theorem d_Gr_init_4 : decode c_Gr_init 4 = .ok (.aload_n 0, 1) := by decide +kernel
theorem d_Gr_init_5 : decode c_Gr_init 5 = .ok (.bipush 12, 2) := by decide +kernel
theorem d_Gr_init_7 : decode c_Gr_init 7 = .ok (.anewarray 9, 3) := by decide +kernel
theorem d_Gr_init_10 : decode c_Gr_init 10 = .ok (.putfield 11, 3) := by decide +kernel
theorem d_Gr_init_13 : decode c_Gr_init 13 = .ok (.iconst 0, 1) := by decide +kernel
theorem d_Gr_init_14 : decode c_Gr_init 14 = .ok (.istore_n 1, 1) := by decide +kernel
theorem d_Gr_init_15 : decode c_Gr_init 15 = .ok (.iload_n 1, 1) := by decide +kernel
theorem d_Gr_init_16 : decode c_Gr_init 16 = .ok (.bipush 12, 2) := by decide +kernel
theorem d_Gr_init_18 : decode c_Gr_init 18 = .ok (.if_icmp .ge 22, 3) := by decide +kernel
theorem d_Gr_init_21 : decode c_Gr_init 21 = .ok (.aload_n 0, 1) := by decide +kernel
theorem d_Gr_init_22 : decode c_Gr_init 22 = .ok (.getfield 11, 3) := by decide +kernel
theorem d_Gr_init_25 : decode c_Gr_init 25 = .ok (.iload_n 1, 1) := by decide +kernel
theorem d_Gr_init_26 : decode c_Gr_init 26 = .ok (.new 9, 3) := by decide +kernel
theorem d_Gr_init_29 : decode c_Gr_init 29 = .ok (.dup, 1) := by decide +kernel
theorem d_Gr_init_30 : decode c_Gr_init 30 = .ok (.invokespecial 17, 3) := by decide +kernel
theorem d_Gr_init_33 : decode c_Gr_init 33 = .ok (.aastore, 1) := by decide +kernel
theorem d_Gr_init_34 : decode c_Gr_init 34 = .ok (.iinc 1 1, 3) := by decide +kernel
theorem d_Gr_init_37 : decode c_Gr_init 37 = .ok (.goto (-22), 3) := by decide +kernel
theorem d_Gr_init_40 : decode c_Gr_init 40 = .ok (.aload_n 0, 1) := by decide +kernel
theorem d_Gr_init_41 : decode c_Gr_init 41 = .ok (.bipush 100, 2) := by decide +kernel
theorem d_Gr_init_43 : decode c_Gr_init 43 = .ok (.anewarray 18, 3) := by decide +kernel
theorem d_Gr_init_46 : decode c_Gr_init 46 = .ok (.putfield 20, 3) := by decide +kernel
theorem d_Gr_init_49 : decode c_Gr_init 49 = .ok (.iconst 0, 1) := by decide +kernel
theorem d_Gr_init_50 : decode c_Gr_init 50 = .ok (.istore_n 1, 1) := by decide +kernel
theorem d_Gr_init_51 : decode c_Gr_init 51 = .ok (.iload_n 1, 1) := by decide +kernel
theorem d_Gr_init_52 : decode c_Gr_init 52 = .ok (.bipush 100, 2) := by decide +kernel
theorem d_Gr_init_54 : decode c_Gr_init 54 = .ok (.if_icmp .ge 22, 3) := by decide +kernel
theorem d_Gr_init_57 : decode c_Gr_init 57 = .ok (.aload_n 0, 1) := by decide +kernel
theorem d_Gr_init_58 : decode c_Gr_init 58 = .ok (.getfield 20, 3) := by decide +kernel
theorem d_Gr_init_61 : decode c_Gr_init 61 = .ok (.iload_n 1, 1) := by decide +kernel
theorem d_Gr_init_62 : decode c_Gr_init 62 = .ok (.new 18, 3) := by decide +kernel
theorem d_Gr_init_65 : decode c_Gr_init 65 = .ok (.dup, 1) := by decide +kernel
theorem d_Gr_init_66 : decode c_Gr_init 66 = .ok (.invokespecial 24, 3) := by decide +kernel
theorem d_Gr_init_69 : decode c_Gr_init 69 = .ok (.aastore, 1) := by decide +kernel
theorem d_Gr_init_70 : decode c_Gr_init 70 = .ok (.iinc 1 1, 3) := by decide +kernel
theorem d_Gr_init_73 : decode c_Gr_init 73 = .ok (.goto (-22), 3) := by decide +kernel
theorem d_Gr_init_76 : decode c_Gr_init 76 = .ok (.aload_n 0, 1) := by decide +kernel
theorem d_Gr_init_77 : decode c_Gr_init 77 = .ok (.new 25, 3) := by decide +kernel
theorem d_Gr_init_80 : decode c_Gr_init 80 = .ok (.dup, 1) := by decide +kernel
theorem d_Gr_init_81 : decode c_Gr_init 81 = .ok (.sipush 240, 3) := by decide +kernel
theorem d_Gr_init_84 : decode c_Gr_init 84 = .ok (.invokespecial 27, 3) := by decide +kernel
theorem d_Gr_init_87 : decode c_Gr_init 87 = .ok (.putfield 30, 3) := by decide +kernel
theorem d_Gr_init_90 : decode c_Gr_init 90 = .ok (.aload_n 0, 1) := by decide +kernel
theorem d_Gr_init_91 : decode c_Gr_init 91 = .ok (.iconst 0, 1) := by decide +kernel
theorem d_Gr_init_92 : decode c_Gr_init 92 = .ok (.putfield 34, 3) := by decide +kernel
theorem d_Gr_init_95 : decode c_Gr_init 95 = .ok (.aload_n 0, 1) := by decide +kernel
theorem d_Gr_init_96 : decode c_Gr_init 96 = .ok (.iconst 0, 1) := by decide +kernel
theorem d_Gr_init_97 : decode c_Gr_init 97 = .ok (.putfield 38, 3) := by decide +kernel
theorem d_Gr_init_100 : decode c_Gr_init 100 = .ok (.aload_n 0, 1) := by decide +kernel
theorem d_Gr_init_101 : decode c_Gr_init 101 = .ok (.iconst 0, 1) := by decide +kernel
theorem d_Gr_init_102 : decode c_Gr_init 102 = .ok (.putfield 41, 3) := by decide +kernel
theorem d_Gr_init_105 : decode c_Gr_init 105 = .ok (.return_, 1) := by decide +kernel
def rfB (base off k : Nat) : Nat → Option Nat := fun i => if i < k then some (adB base (off + i)) else none
theorem rfB_0 (base off : Nat) : rfB base off 0 = fun _ => none := by
  funext i
  unfold rfB
  rw [if_neg (Nat.not_lt_zero i)]
theorem rfB_s (base off k : Nat) : va_up (rfB base off k) k (some (adB base (off + k))) = rfB base off (k + 1) := by
  funext i
  unfold va_up rfB
  by_cases h : i = k
  · subst h
    rw [if_pos rfl, if_pos (by omega)]
  · rw [if_neg h]
    by_cases h2 : i < k
    · rw [if_pos h2, if_pos (by omega)]
    · rw [if_neg h2, if_neg (by omega)]
def rf2 (base k : Nat) : Nat → Option Nat := fun i => if i < k then some (adB base (20 + 2 * i)) else none
theorem rf2_0 (base : Nat) : rf2 base 0 = fun _ => none := by
  funext i
  unfold rf2
  rw [if_neg (Nat.not_lt_zero i)]
theorem rf2_s (base k : Nat) : va_up (rf2 base k) k (some (adB base (20 + 2 * k))) = rf2 base (k + 1) := by
  funext i
  unfold va_up rf2
  by_cases h : i = k
  · subst h
    rw [if_pos rfl, if_pos (by omega)]
  · rw [if_neg h]
    by_cases h2 : i < k
    · rw [if_pos h2, if_pos (by omega)]
    · rw [if_neg h2, if_neg (by omega)]
abbrev ruC : va_E := .inr (5, [.long 0, .null, .null])
abbrev elC (base i : Nat) : va_E := .inr (2, [.int 0, .int 0, .int 0, .null, .null, .null, .ref ((adB base) (21 + 2 * i))])
abbrev enC (cy : Nat → ClassId) : va_E := .inl (cy 1, 25, .inl (fun _ => 0))
abbrev gaC (t : ClassId) (N' : Nat) (f : Nat → Option Nat) : va_E := .inl (t, N', .inr (.inr (.inr (.inr f))))
/-- Grammar's cells: k rules made -/
def GI1 (cy : Nat → ClassId) (base : Nat) (mem : Nat → va_E) (k : Nat) (mk : Nat → va_E) : Prop :=
  (∀ i, i < 5 → mk i = mem i) ∧ mk 5 = .inr (3, [.ref ((adB base) 6), .null, .null, .int 0, .int 0, .int 0]) ∧ mk 6 = gaC (cy 5) 12 (rfB base 7 k) ∧ ∀ i, i < k → mk (7 + i) = ruC
/-- and k elements -/
def GI2 (cy : Nat → ClassId) (base : Nat) (mem : Nat → va_E) (k : Nat) (mk : Nat → va_E) : Prop :=
  (∀ i, i < 5 → mk i = mem i) ∧ mk 5 = .inr (3, [.ref ((adB base) 6), .ref ((adB base) 19), .null, .int 0, .int 0, .int 0]) ∧ mk 6 = gaC (cy 5) 12 (rfB base 7 12) ∧ (∀ i, i < 12 → mk (7 + i) = ruC) ∧ mk 19 = gaC (cy 4) 100 (rf2 base k) ∧ ∀ i, i < k → mk (20 + 2 * i) = elC base i ∧ mk (21 + 2 * i) = enC cy
def GI3 (cy : Nat → ClassId) (base : Nat) (mem mk : Nat → va_E) : Prop :=
  (∀ i, i < 5 → mk i = mem i) ∧ mk 5 = .inr (3, [.ref ((adB base) 6), .ref ((adB base) 19), .ref ((adB base) 220), .int 0, .int 0, .int 0]) ∧ mk 6 = gaC (cy 5) 12 (rfB base 7 12) ∧ (∀ i, i < 12 → mk (7 + i) = ruC) ∧ mk 19 = gaC (cy 4) 100 (rf2 base 100) ∧ (∀ i, i < 100 → mk (20 + 2 * i) = elC base i ∧ mk (21 + 2 * i) = enC cy) ∧ mk 220 = .inr (0, [.ref ((adB base) 221), .int 0]) ∧ mk 221 = .inl (cy 0, 240, .inl (fun _ => 0))
set_option maxHeartbeats 4000000 in
set_option maxRecDepth 100000 in
theorem m_Gr_init (l : Launch) {D : va_G} {cy : Nat → ClassId} {sz base : Nat} {mem : Nat → va_E}  (hbz : sz ≤ base) (h5 : mem 5 = .inr (3, [.null, .null, .null, .int 0, .int 0, .int 0])) : MC l D cy sz base 6 222 y_Gr_init c_Gr_init 2 ({ frames := 4, cells := 216, slots := 3590, locals := 100 } : Room) mem [.ref ((adB base) 5)] (fun mem' => GI3 cy base mem mem') 216 3590 := by
  refine Met.ofW (cc := c_Gr_init) (maxL := 2) (ret := none) (by decide) rfl ?_
  intro p e s m args below meth c s₁ B hml hv
  obtain ⟨rfl, ⟨E, hP, -⟩, hs0⟩ := hv
  have hx := B.exec
  have hb := B.bytes
  have hr := B.returns
  have hlocks := B.notSynchronized
  have Bx : MB p s m [.ref ((adB base) 5)].toArray c c_Gr_init "AbnfChart$Grammar" D cy := ⟨hx, hb, tb_all (atoms_spec B.pre) E.2.1, findClass_of_methodNamed B.named, E.1⟩
  have hS : va_S (Az sz) s.heap s.heap [] := va_S.rf
  have hin : meth.name = "<init>" := (name_of_methodNamed B.named B.method).1
  have hl := lv_entry ([.ref ((adB base) 5)]) (n := 2) (Nat.le_of_ble_eq_true rfl)
  rw [lg_entry_eq]
  generalize (lg_sl ([.ref ((adB base) 5)]) ++ List.replicate (2 - (lg_sl ([.ref ((adB base) 5)])).length) Slot.unset).toArray = ls at hl ⊢
  have hl : lv_has ls 2 [(0, .ref ((adB base) 5))] := hl
  have tail2 : ∀ (ls : Array Slot) (H : Heap) (locs : List Loc) (mk : Nat → va_E), lv_has ls 2 [(0, .ref ((adB base) 5))] → GI2 cy base mem 100 mk → va_P D vcl (fw 220 (adB base) mk) H → va_S (Az sz) s.heap H locs → W p l e (headSpec (Cond.code y_Gr_init c_Gr_init 2 none :: tg) ({ frames := 4, cells := 216, slots := 3590, locals := 100 } : Room)).room s m [.ref ((adB base) 5)].toArray below meth c H locs 214 3348 (MQ below (va_Qv (fun mem' => GI3 cy base mem mem') (fun u t => va_P D vcl (fw 222 (adB base) u) t.heap ∧ t.heap.size = base + 222) (Az sz)) [.ref ((adB base) 5)].toArray s 216 3590 (Az sz)) (F0 m 76 ls []) := by
    intro ls H locs mk hl hI hP hS
    obtain ⟨i1, i2, i3, i4, i5, i6⟩ := hI
    refine lv_aload_n Bx.1 Bx.2.1 d_Gr_init_76 rfl (lv_at hl 0 rfl) ?_
    refine c_size (n := 220) hP (by omega) (by omega) (fun hz => ?_)
    refine f_new (ci := 0) (n := 220) Bx hP hS hz rfl inCh tyCh okCh kw_111 kw_26 kw_2 [.null, .int (0)] (by intro j hj; match j, hj with | 0, _ => rfl | 1, _ => rfl) (Nat.le_of_ble_eq_true rfl) (Nat.le_of_ble_eq_true rfl) d_Gr_init_77 (fun H hP hS hz => ?_)
    obtain ⟨mem1, e_mem1⟩ : ∃ z, z = va_up mk (220) (.inr (0, [.null, .int (0)])) := ⟨_, rfl⟩
    have hP : va_P D vcl (fw 221 (adB base) mem1) H := by rw [e_mem1]; exact hP
    have h_mem1 : mem1 (220) = .inr (0, [.null, .int (0)]) := by rw [e_mem1, va_up_self]
    have hh2 := (va_up_ne mk (.inr (0, [.null, .int (0)])) (show (5 : Nat) ≠ 220 by first | decide | assumption | omega)).trans i2
    rw [← e_mem1] at hh2
    refine lv_dup Bx.1 Bx.2.1 d_Gr_init_80 rfl ?_
    refine lv_sipush (v := 240) Bx.1 Bx.2.1 d_Gr_init_81 (by decide) ?_
    refine c_size (n := 221) hP (by omega) (by omega) (fun hz => ?_)
    refine f_callI (na := 1) (n := 221) (j := 220) (As := [.int (240)]) (rest := [.ref ((adB base) 220), .ref ((adB base) 5)]) Bx hml E hP hS hbz hz (m_Ch_init (n := 221) (j := 220) (K := 240) l hbz (by omega) h_mem1 (Or.inl rfl)) kw_112 kw_28 kw_2 kw_29 rfl (by decide +kernel) ⟨rfl, rfl⟩ ⟨Nat.le_of_ble_eq_true rfl, Nat.le_of_ble_eq_true rfl⟩ rfl hl.1 (Nat.le_of_ble_eq_true rfl) d_Gr_init_84 ⟨Nat.le_of_ble_eq_true rfl, Nat.le_of_ble_eq_true rfl⟩ (fun mem3 H locs hq hP hS hz => ?_)
    have i2b : mem3 5 = .inr (3, [.ref ((adB base) 6), .ref ((adB base) 19), .null, .int (0), .int (0), .int (0)]) := by rw [hq, va_up_ne _ _ (by decide), va_up_ne _ _ (by decide), e_mem1, va_up_ne _ _ (by decide)]; exact i2
    refine f_putF Bx hin hP (adB_D hbz) hS (by omega) i2b rfl inGr tyGr okGr nmGr 2 (by decide) kw_118 rfl rfl rfl rfl (Nat.le_of_ble_eq_true rfl) d_Gr_init_87 (fun H locs hP hS => ?_)
    obtain ⟨mem4, e_mem4⟩ : ∃ z, z = va_up mem3 (5) (.inr (3, [.ref ((adB base) 6), .ref ((adB base) 19), .ref ((adB base) 220), .int (0), .int (0), .int (0)])) := ⟨_, rfl⟩
    have hP : va_P D vcl (fw 222 (adB base) mem4) H := by rw [e_mem4]; exact hP
    have h_mem4 : mem4 (5) = .inr (3, [.ref ((adB base) 6), .ref ((adB base) 19), .ref ((adB base) 220), .int (0), .int (0), .int (0)]) := by rw [e_mem4, va_up_self]
    refine lv_aload_n Bx.1 Bx.2.1 d_Gr_init_90 rfl (lv_at hl 0 rfl) ?_
    refine lv_iconst (v := 0) Bx.1 Bx.2.1 d_Gr_init_91 (by decide) ?_
    refine f_put Bx hP (adB_D hbz) hS (by omega) h_mem4 rfl inGr tyGr okGr nmGr 3 (by decide) kw_121 rfl rfl rfl rfl (Nat.le_of_ble_eq_true rfl) d_Gr_init_92 (fun H locs hP hS => ?_)
    obtain ⟨mem5, e_mem5⟩ : ∃ z, z = va_up mem4 (5) (.inr (3, [.ref ((adB base) 6), .ref ((adB base) 19), .ref ((adB base) 220), .int (0), .int (0), .int (0)])) := ⟨_, rfl⟩
    have hP : va_P D vcl (fw 222 (adB base) mem5) H := by rw [e_mem5]; exact hP
    have h_mem5 : mem5 (5) = .inr (3, [.ref ((adB base) 6), .ref ((adB base) 19), .ref ((adB base) 220), .int (0), .int (0), .int (0)]) := by rw [e_mem5, va_up_self]
    refine lv_aload_n Bx.1 Bx.2.1 d_Gr_init_95 rfl (lv_at hl 0 rfl) ?_
    refine lv_iconst (v := 0) Bx.1 Bx.2.1 d_Gr_init_96 (by decide) ?_
    refine f_put Bx hP (adB_D hbz) hS (by omega) h_mem5 rfl inGr tyGr okGr nmGr 4 (by decide) kw_122 rfl rfl rfl rfl (Nat.le_of_ble_eq_true rfl) d_Gr_init_97 (fun H locs hP hS => ?_)
    obtain ⟨mem6, e_mem6⟩ : ∃ z, z = va_up mem5 (5) (.inr (3, [.ref ((adB base) 6), .ref ((adB base) 19), .ref ((adB base) 220), .int (0), .int (0), .int (0)])) := ⟨_, rfl⟩
    have hP : va_P D vcl (fw 222 (adB base) mem6) H := by rw [e_mem6]; exact hP
    have h_mem6 : mem6 (5) = .inr (3, [.ref ((adB base) 6), .ref ((adB base) 19), .ref ((adB base) 220), .int (0), .int (0), .int (0)]) := by rw [e_mem6, va_up_self]
    refine lv_aload_n Bx.1 Bx.2.1 d_Gr_init_100 rfl (lv_at hl 0 rfl) ?_
    refine lv_iconst (v := 0) Bx.1 Bx.2.1 d_Gr_init_101 (by decide) ?_
    refine f_put Bx hP (adB_D hbz) hS (by omega) h_mem6 rfl inGr tyGr okGr nmGr 5 (by decide) kw_124 rfl rfl rfl rfl (Nat.le_of_ble_eq_true rfl) d_Gr_init_102 (fun H locs hP hS => ?_)
    obtain ⟨mem7, e_mem7⟩ : ∃ z, z = va_up mem6 (5) (.inr (3, [.ref ((adB base) 6), .ref ((adB base) 19), .ref ((adB base) 220), .int (0), .int (0), .int (0)])) := ⟨_, rfl⟩
    have hP : va_P D vcl (fw 222 (adB base) mem7) H := by rw [e_mem7]; exact hP
    have h_mem7 : mem7 (5) = .inr (3, [.ref ((adB base) 6), .ref ((adB base) 19), .ref ((adB base) 220), .int (0), .int (0), .int (0)]) := by rw [e_mem7, va_up_self]
    have key : mem7 = va_up (va_up (va_up (va_up mk 220 (.inr (0, [.null, .int 0]))) 221 (.inl (cy 0, 240, .inl (fun _ => 0)))) 220 (.inr (0, [.ref ((adB base) 221), .int 0]))) 5 (.inr (3, [.ref ((adB base) 6), .ref ((adB base) 19), .ref ((adB base) 220), .int 0, .int 0, .int 0])) := by rw [e_mem7, e_mem6, e_mem5, e_mem4, up_up, up_up, up_up, hq, e_mem1]
    have ne : ∀ i, i ≠ 5 → i ≠ 220 → i ≠ 221 → mem7 i = mk i := fun i a b c => by rw [key, va_up_ne _ _ a, va_up_ne _ _ b, va_up_ne _ _ c, va_up_ne _ _ b]
    have hG : GI3 cy base mem mem7 := ⟨fun i hi => (ne i (by omega) (by omega) (by omega)).trans (i1 i hi), by rw [key, va_up_self], (ne 6 (by decide) (by decide) (by decide)).trans i3, fun i hi => (ne _ (by omega) (by omega) (by omega)).trans (i4 i hi), (ne 19 (by decide) (by decide) (by decide)).trans i5, fun i hi => ⟨(ne _ (by omega) (by omega) (by omega)).trans (i6 i hi).1, (ne _ (by omega) (by omega) (by omega)).trans (i6 i hi).2⟩, by rw [key, va_up_ne _ _ (by decide), va_up_self], by rw [key, va_up_ne _ _ (by decide), va_up_ne _ _ (by decide), va_up_self]⟩
    refine c_size (n := 222) hP (by omega) (by omega) (fun hz => ?_)
    refine W.widen (k := 216) (n := 3590) (Nat.le_of_ble_eq_true rfl) (Nat.le_of_ble_eq_true rfl) ?_
    exact W.vret hx hb hr (fun t ht hW => ⟨⟨mem7, rfl, hG, by rw [ht]; exact hP, by rw [ht]; exact hz⟩, hS.F ht⟩) hS.2.2 d_Gr_init_105
  have loop2 : ∀ (d k : Nat) (ls : Array Slot) (H : Heap) (locs : List Loc) (mk : Nat → va_E), k + d = 100 → lv_has ls 2 [(1, .int (nI k)), (0, .ref ((adB base) 5))] → GI2 cy base mem k mk → va_P D vcl (fw (20 + 2 * k) (adB base) mk) H → va_S (Az sz) s.heap H locs → W p l e (headSpec (Cond.code y_Gr_init c_Gr_init 2 none :: tg) ({ frames := 4, cells := 216, slots := 3590, locals := 100 } : Room)).room s m [.ref ((adB base) 5)].toArray below meth c H locs (14 + 2 * k) (148 + 32 * k) (MQ below (va_Qv (fun mem' => GI3 cy base mem mem') (fun u t => va_P D vcl (fw 222 (adB base) u) t.heap ∧ t.heap.size = base + 222) (Az sz)) [.ref ((adB base) 5)].toArray s 216 3590 (Az sz)) (F0 m 51 ls []) := by
    intro d
    induction d with
    | zero =>
      intro k ls H locs mk hk hl hI hP hS
      obtain rfl : k = 100 := by omega
      refine lv_iload_n Bx.1 Bx.2.1 d_Gr_init_51 rfl (lv_at hl 0 rfl) ?_
      refine lv_bipush (v := 100) Bx.1 Bx.2.1 d_Gr_init_52 (by decide) ?_
      refine lv_icmp_ge Bx.1 Bx.2.1 d_Gr_init_54 rfl (fun h => ?_) (fun h => ?_)
      · exact tail2 ls H locs mk (lv_sub hl [1] rfl) hI hP hS
      · exact absurd (by decide) h
    | succ d ih =>
      intro k ls H locs mk hk hl hI hP hS
      obtain ⟨i1, i2, i3, i4, i5, i6⟩ := hI
      refine lv_iload_n Bx.1 Bx.2.1 d_Gr_init_51 rfl (lv_at hl 0 rfl) ?_
      refine lv_bipush (v := 100) Bx.1 Bx.2.1 d_Gr_init_52 (by decide) ?_
      refine lv_icmp_ge Bx.1 Bx.2.1 d_Gr_init_54 rfl (fun h => ?_) (fun h => ?_)
      · exact absurd h (by rw [show (100 : Int32) = nI 100 from rfl]; exact nI_ge (by omega) (by omega))
      · refine lv_aload_n Bx.1 Bx.2.1 d_Gr_init_57 rfl (lv_at hl 1 rfl) ?_
        refine f_get Bx hP (by omega) i2 rfl inGr 1 (by decide) kw_116 rfl rfl d_Gr_init_58 ?_
        refine lv_iload_n Bx.1 Bx.2.1 d_Gr_init_61 rfl (lv_at hl 0 rfl) ?_
        refine c_size (n := (20 + 2 * k)) hP (by omega) (by omega) (fun hz => ?_)
        refine f_new (ci := 2) (n := (20 + 2 * k)) Bx hP hS hz rfl inEl tyEl okEl kw_67 kw_69 kw_5 [.int (0), .int (0), .int (0), .null, .null, .null, .null] (by intro j hj; match j, hj with | 0, _ => rfl | 1, _ => rfl | 2, _ => rfl | 3, _ => rfl | 4, _ => rfl | 5, _ => rfl | 6, _ => rfl) (by show 14 + 2 * k + 1 ≤ 216; omega) (by show 148 + 32 * k + 7 ≤ 3590; omega) d_Gr_init_62 (fun H hP hS hz => ?_)
        obtain ⟨mem8, e_mem8⟩ : ∃ z, z = va_up mk ((20 + 2 * k)) (.inr (2, [.int (0), .int (0), .int (0), .null, .null, .null, .null])) := ⟨_, rfl⟩
        have hP : va_P D vcl (fw ((20 + 2 * k) + 1) (adB base) mem8) H := by rw [e_mem8]; exact hP
        have h_mem8 : mem8 ((20 + 2 * k)) = .inr (2, [.int (0), .int (0), .int (0), .null, .null, .null, .null]) := by rw [e_mem8, va_up_self]
        have hh9 := (va_up_ne mk (.inr (2, [.int (0), .int (0), .int (0), .null, .null, .null, .null])) (show (5 : Nat) ≠ (20 + 2 * k) by first | decide | assumption | omega)).trans i2
        rw [← e_mem8] at hh9
        refine lv_dup Bx.1 Bx.2.1 d_Gr_init_65 rfl ?_
        refine c_size (n := ((20 + 2 * k) + 1)) hP (by omega) (by omega) (fun hz => ?_)
        refine f_callI (na := 0) (n := ((20 + 2 * k) + 1)) (j := (20 + 2 * k)) (As := []) (rest := [.ref ((adB base) (20 + 2 * k)), .int (nI k), .ref ((adB base) 19)]) Bx hml E hP hS hbz hz (m_El_init (n := 20 + 2 * k + 1) (j := 20 + 2 * k) l hbz (by omega) h_mem8) kw_70 kw_71 kw_5 kw_72 rfl (by decide +kernel) ⟨rfl, rfl⟩ ⟨Nat.le_of_ble_eq_true rfl, Nat.le_of_ble_eq_true rfl⟩ rfl hl.1 (Nat.le_of_ble_eq_true rfl) d_Gr_init_66 ⟨by show 14 + 2 * k + 1 + 1 ≤ 216; omega, by show 148 + 32 * k + 7 + 25 ≤ 3590; omega⟩ (fun mem10 H locs hq hP hS hz => ?_)
        have i5b : mem10 19 = gaC (cy 4) 100 (rf2 base k) := by rw [hq, va_up_ne _ _ (by omega), va_up_ne _ _ (by omega), e_mem8, va_up_ne _ _ (by omega)]; exact i5
        have heb : mem10 (20 + 2 * k) = elC base k := by rw [hq, va_up_self, show 20 + 2 * k + 1 = 21 + 2 * k by omega]
        refine f_aast (j := 19) (j2 := 20 + 2 * k) (t0 := 4) (r := ("AbnfChart$Element", TEl, 7)) Bx hP (adB_D hbz) hS (by omega) i5b rfl (by omega) heb rfl (vp_in_nI (by omega) (by decide)) d_Gr_init_69 (fun H locs hP hS => ?_)
        rw [nI_clamp (by omega), rf2_s] at hP
        obtain ⟨mz, e_mz⟩ : ∃ z, z = va_up mem10 19 (gaC (cy 4) 100 (rf2 base (k + 1))) := ⟨_, rfl⟩
        rw [← e_mz] at hP
        have key : mz = va_up (va_up (va_up (va_up mk (20 + 2 * k) (.inr (2, [.int 0, .int 0, .int 0, .null, .null, .null, .null]))) (20 + 2 * k + 1) (enC cy)) (20 + 2 * k) (.inr (2, [.int 0, .int 0, .int 0, .null, .null, .null, .ref ((adB base) (20 + 2 * k + 1))]))) 19 (gaC (cy 4) 100 (rf2 base (k + 1))) := by rw [e_mz, hq, e_mem8]
        have ne : ∀ i, i ≠ 19 → i < 20 + 2 * k → mz i = mk i := fun i a b => by rw [key, va_up_ne _ _ a, va_up_ne _ _ (by omega), va_up_ne _ _ (by omega), va_up_ne _ _ (by omega)]
        have hI' : GI2 cy base mem (k + 1) mz := ⟨fun i hi => (ne i (by omega) (by omega)).trans (i1 i hi), (ne 5 (by decide) (by omega)).trans i2, (ne 6 (by decide) (by omega)).trans i3, fun i hi => (ne _ (by omega) (by omega)).trans (i4 i hi), by rw [key, va_up_self], fun i hi => by
            by_cases hik : i = k
            · subst hik
              exact ⟨by rw [key, va_up_ne _ _ (by omega), va_up_self, show 20 + 2 * i + 1 = 21 + 2 * i by omega], by rw [show 21 + 2 * i = 20 + 2 * i + 1 by omega, key, va_up_ne _ _ (by omega), va_up_ne _ _ (by omega), va_up_self]⟩
            · exact ⟨(ne _ (by omega) (by omega)).trans (i6 i (by omega)).1, (ne _ (by omega) (by omega)).trans (i6 i (by omega)).2⟩⟩
        refine lv_iinc (lv' := [(1, .int ((nI k + (1)))), (0, .ref ((adB base) 5))]) Bx.1 Bx.2.1 d_Gr_init_70 hl (k := 0) rfl rfl (by decide) rfl (fun ls hl => ?_)
        refine lv_goto Bx.1 Bx.2.1 d_Gr_init_73 rfl ?_
        refine W.widen (k := 14 + 2 * (k + 1)) (n := 148 + 32 * (k + 1)) (by omega) (by omega) ?_
        exact ih (k + 1) ls H locs mz (by omega) (by rw [nI_succ]; exact (lv_sub hl [0, 1] rfl)) hI' (by rw [show 20 + 2 * (k + 1) = 20 + 2 * k + 1 + 1 by omega]; exact hP) hS
  have tail1 : ∀ (ls : Array Slot) (H : Heap) (locs : List Loc) (mk : Nat → va_E), lv_has ls 2 [(0, .ref ((adB base) 5))] → GI1 cy base mem 12 mk → va_P D vcl (fw 19 (adB base) mk) H → va_S (Az sz) s.heap H locs → W p l e (headSpec (Cond.code y_Gr_init c_Gr_init 2 none :: tg) ({ frames := 4, cells := 216, slots := 3590, locals := 100 } : Room)).room s m [.ref ((adB base) 5)].toArray below meth c H locs 13 48 (MQ below (va_Qv (fun mem' => GI3 cy base mem mem') (fun u t => va_P D vcl (fw 222 (adB base) u) t.heap ∧ t.heap.size = base + 222) (Az sz)) [.ref ((adB base) 5)].toArray s 216 3590 (Az sz)) (F0 m 40 ls []) := by
    intro ls H locs mk hl hI hP hS
    obtain ⟨i1, i2, i3, i4⟩ := hI
    refine lv_aload_n Bx.1 Bx.2.1 d_Gr_init_40 rfl (lv_at hl 0 rfl) ?_
    refine lv_bipush (v := 100) Bx.1 Bx.2.1 d_Gr_init_41 (by decide) ?_
    refine c_size (n := 19) hP (by omega) (by omega) (fun hz => ?_)
    refine f_anew (n := 19) (t0 := 4) (N' := 100) Bx hP hS hz kw_67 kw_68 rfl (by decide) (by decide) (by decide) (Nat.le_of_ble_eq_true rfl) (Nat.le_of_ble_eq_true rfl) d_Gr_init_43 (fun H hP hS hz => ?_)
    obtain ⟨mem11, e_mem11⟩ : ∃ z, z = va_up mk (19) (.inl (cy 4, 100, .inr (.inr (.inr (.inr (fun _ => none)))))) := ⟨_, rfl⟩
    have hP : va_P D vcl (fw 20 (adB base) mem11) H := by rw [e_mem11]; exact hP
    have h_mem11 : mem11 (19) = .inl (cy 4, 100, .inr (.inr (.inr (.inr (fun _ => none))))) := by rw [e_mem11, va_up_self]
    have hh12 := (va_up_ne mk (.inl (cy 4, 100, .inr (.inr (.inr (.inr (fun _ => none)))))) (show (5 : Nat) ≠ 19 by first | decide | assumption | omega)).trans i2
    rw [← e_mem11] at hh12
    refine f_putF Bx hin hP (adB_D hbz) hS (by omega) hh12 rfl inGr tyGr okGr nmGr 1 (by decide) kw_116 rfl rfl rfl rfl (Nat.le_of_ble_eq_true rfl) d_Gr_init_46 (fun H locs hP hS => ?_)
    obtain ⟨mem13, e_mem13⟩ : ∃ z, z = va_up mem11 (5) (.inr (3, [.ref ((adB base) 6), .ref ((adB base) 19), .null, .int (0), .int (0), .int (0)])) := ⟨_, rfl⟩
    have hP : va_P D vcl (fw 20 (adB base) mem13) H := by rw [e_mem13]; exact hP
    have h_mem13 : mem13 (5) = .inr (3, [.ref ((adB base) 6), .ref ((adB base) 19), .null, .int (0), .int (0), .int (0)]) := by rw [e_mem13, va_up_self]
    refine lv_iconst (v := 0) Bx.1 Bx.2.1 d_Gr_init_49 (by decide) ?_
    refine lv_istore_n (lv' := [(1, .int (0)), (0, .ref ((adB base) 5))]) Bx.1 Bx.2.1 d_Gr_init_50 rfl hl (by decide) rfl (fun ls hl => ?_)
    have key : mem13 = va_up (va_up mk 19 (gaC (cy 4) 100 (fun _ => none))) 5 (.inr (3, [.ref ((adB base) 6), .ref ((adB base) 19), .null, .int (0), .int (0), .int (0)])) := by rw [e_mem13, e_mem11]
    have ne : ∀ i, i ≠ 5 → i ≠ 19 → mem13 i = mk i := fun i a b => by rw [key, va_up_ne _ _ a, va_up_ne _ _ b]
    exact loop2 100 0 ls H locs mem13 (by omega) (lv_sub hl [0, 1] rfl) ⟨fun i hi => (ne i (by omega) (by omega)).trans (i1 i hi), by rw [key, va_up_self], (ne 6 (by decide) (by decide)).trans i3, fun i hi => (ne _ (by omega) (by omega)).trans (i4 i hi), by rw [key, va_up_ne _ _ (by decide), va_up_self, rf2_0], fun i hi => absurd hi (Nat.not_lt_zero i)⟩ hP hS
  have loop1 : ∀ (d k : Nat) (ls : Array Slot) (H : Heap) (locs : List Loc) (mk : Nat → va_E), k + d = 12 → lv_has ls 2 [(1, .int (nI k)), (0, .ref ((adB base) 5))] → GI1 cy base mem k mk → va_P D vcl (fw (7 + k) (adB base) mk) H → va_S (Az sz) s.heap H locs → W p l e (headSpec (Cond.code y_Gr_init c_Gr_init 2 none :: tg) ({ frames := 4, cells := 216, slots := 3590, locals := 100 } : Room)).room s m [.ref ((adB base) 5)].toArray below meth c H locs (1 + k) (12 + 3 * k) (MQ below (va_Qv (fun mem' => GI3 cy base mem mem') (fun u t => va_P D vcl (fw 222 (adB base) u) t.heap ∧ t.heap.size = base + 222) (Az sz)) [.ref ((adB base) 5)].toArray s 216 3590 (Az sz)) (F0 m 15 ls []) := by
    intro d
    induction d with
    | zero =>
      intro k ls H locs mk hk hl hI hP hS
      obtain rfl : k = 12 := by omega
      refine lv_iload_n Bx.1 Bx.2.1 d_Gr_init_15 rfl (lv_at hl 0 rfl) ?_
      refine lv_bipush (v := 12) Bx.1 Bx.2.1 d_Gr_init_16 (by decide) ?_
      refine lv_icmp_ge Bx.1 Bx.2.1 d_Gr_init_18 rfl (fun h => ?_) (fun h => ?_)
      · exact tail1 ls H locs mk (lv_sub hl [1] rfl) hI hP hS
      · exact absurd (by decide) h
    | succ d ih =>
      intro k ls H locs mk hk hl hI hP hS
      obtain ⟨i1, i2, i3, i4⟩ := hI
      refine lv_iload_n Bx.1 Bx.2.1 d_Gr_init_15 rfl (lv_at hl 0 rfl) ?_
      refine lv_bipush (v := 12) Bx.1 Bx.2.1 d_Gr_init_16 (by decide) ?_
      refine lv_icmp_ge Bx.1 Bx.2.1 d_Gr_init_18 rfl (fun h => ?_) (fun h => ?_)
      · exact absurd h (by rw [show (12 : Int32) = nI 12 from rfl]; exact nI_ge (by omega) (by omega))
      · refine lv_aload_n Bx.1 Bx.2.1 d_Gr_init_21 rfl (lv_at hl 1 rfl) ?_
        refine f_get Bx hP (by omega) i2 rfl inGr 0 (by decide) kw_113 rfl rfl d_Gr_init_22 ?_
        refine lv_iload_n Bx.1 Bx.2.1 d_Gr_init_25 rfl (lv_at hl 0 rfl) ?_
        refine c_size (n := (7 + k)) hP (by omega) (by omega) (fun hz => ?_)
        refine f_new (ci := 5) (n := (7 + k)) Bx hP hS hz rfl inRu tyRu okRu kw_48 kw_50 kw_4 [.long (0), .null, .null] (by intro j hj; match j, hj with | 0, _ => rfl | 1, _ => rfl | 2, _ => rfl) (by show 1 + k + 1 ≤ 216; omega) (by show 12 + 3 * k + 3 ≤ 3590; omega) d_Gr_init_26 (fun H hP hS hz => ?_)
        obtain ⟨mem14, e_mem14⟩ : ∃ z, z = va_up mk ((7 + k)) (.inr (5, [.long (0), .null, .null])) := ⟨_, rfl⟩
        have hP : va_P D vcl (fw ((7 + k) + 1) (adB base) mem14) H := by rw [e_mem14]; exact hP
        have h_mem14 : mem14 ((7 + k)) = .inr (5, [.long (0), .null, .null]) := by rw [e_mem14, va_up_self]
        have hh15 := (va_up_ne mk (.inr (5, [.long (0), .null, .null])) (show (5 : Nat) ≠ (7 + k) by first | decide | assumption | omega)).trans i2
        rw [← e_mem14] at hh15
        refine lv_dup Bx.1 Bx.2.1 d_Gr_init_29 rfl ?_
        refine c_size (n := ((7 + k) + 1)) hP (by omega) (by omega) (fun hz => ?_)
        refine f_callIN (na := 0) (n := ((7 + k) + 1)) (j := (7 + k)) (As := []) (rest := [.ref ((adB base) (7 + k)), .int (nI k), .ref ((adB base) 6)]) Bx hml E hP hS hbz hz (m_Ru_init (n := 7 + k + 1) (j := 7 + k) l hbz (by omega)) kw_51 kw_52 kw_4 kw_53 rfl (by decide +kernel) ⟨rfl, rfl⟩ ⟨Nat.le_of_ble_eq_true rfl, Nat.le_of_ble_eq_true rfl⟩ rfl hl.1 (Nat.le_of_ble_eq_true rfl) d_Gr_init_30 ⟨by show 1 + k + 1 + 0 ≤ 216; omega, by show 12 + 3 * k + 3 + 0 ≤ 3590; omega⟩ (fun mem16 H locs hq hP hS hz => ?_)
        have i3b : mem16 6 = gaC (cy 5) 12 (rfB base 7 k) := by rw [hq, e_mem14, va_up_ne _ _ (by omega)]; exact i3
        have heb : mem16 (7 + k) = ruC := by rw [hq, e_mem14, va_up_self]
        refine f_aast (j := 6) (j2 := 7 + k) (t0 := 5) (r := ("AbnfChart$Rule", TRu, 3)) Bx hP (adB_D hbz) hS (by omega) i3b rfl (by omega) heb rfl (vp_in_nI (by omega) (by decide)) d_Gr_init_33 (fun H locs hP hS => ?_)
        rw [nI_clamp (by omega), rfB_s] at hP
        obtain ⟨mz, e_mz⟩ : ∃ z, z = va_up mem16 6 (gaC (cy 5) 12 (rfB base 7 (k + 1))) := ⟨_, rfl⟩
        rw [← e_mz] at hP
        have key : mz = va_up (va_up mk (7 + k) ruC) 6 (gaC (cy 5) 12 (rfB base 7 (k + 1))) := by rw [e_mz, hq, e_mem14]
        have ne : ∀ i, i ≠ 6 → i ≠ 7 + k → mz i = mk i := fun i a b => by rw [key, va_up_ne _ _ a, va_up_ne _ _ b]
        have hI' : GI1 cy base mem (k + 1) mz := ⟨fun i hi => (ne i (by omega) (by omega)).trans (i1 i hi), (ne 5 (by decide) (by omega)).trans i2, by rw [key, va_up_self], fun i hi => by
            by_cases hik : i = k
            · subst hik
              rw [key, va_up_ne _ _ (by omega), va_up_self]
            · exact (ne _ (by omega) (by omega)).trans (i4 i (by omega))⟩
        refine lv_iinc (lv' := [(1, .int ((nI k + (1)))), (0, .ref ((adB base) 5))]) Bx.1 Bx.2.1 d_Gr_init_34 hl (k := 0) rfl rfl (by decide) rfl (fun ls hl => ?_)
        refine lv_goto Bx.1 Bx.2.1 d_Gr_init_37 rfl ?_
        refine W.widen (k := 1 + (k + 1)) (n := 12 + 3 * (k + 1)) (by omega) (by omega) ?_
        exact ih (k + 1) ls H locs mz (by omega) (by rw [nI_succ]; exact (lv_sub hl [0, 1] rfl)) hI' (by rw [show 7 + (k + 1) = 7 + k + 1 by omega]; exact hP) hS
  refine lv_aload_n Bx.1 Bx.2.1 d_Gr_init_0 rfl (lv_at hl 0 rfl) ?_
  refine W.objInit hx hb Bx.2.2.2.1 (Bx.2.2.1 _ (tb_g kw_47 rfl)) (Bx.2.2.1 _ (tb_g kw_23 rfl)) (Bx.2.2.1 _ (tb_g kw_24 rfl)) rfl (by rw [hml]; exact hl.1) rfl d_Gr_init_1 (Nat.le_of_ble_eq_true rfl) (Nat.le_of_ble_eq_true rfl) ?_
  refine W.eq (g2 := F0 m 4 ls []) rfl ?_
  refine lv_aload_n Bx.1 Bx.2.1 d_Gr_init_4 rfl (lv_at hl 0 rfl) ?_
  refine lv_bipush (v := 12) Bx.1 Bx.2.1 d_Gr_init_5 (by decide) ?_
  refine c_size (n := 6) hP (by omega) (by omega) (fun hz => ?_)
  refine f_anew (n := 6) (t0 := 5) (N' := 12) Bx hP hS hz kw_48 kw_49 rfl (by decide) (by decide) (by decide) (Nat.le_of_ble_eq_true rfl) (Nat.le_of_ble_eq_true rfl) d_Gr_init_7 (fun H hP hS hz => ?_)
  obtain ⟨mem17, e_mem17⟩ : ∃ z, z = va_up mem (6) (.inl (cy 5, 12, .inr (.inr (.inr (.inr (fun _ => none)))))) := ⟨_, rfl⟩
  have hP : va_P D vcl (fw 7 (adB base) mem17) H := by rw [e_mem17]; exact hP
  have h_mem17 : mem17 (6) = .inl (cy 5, 12, .inr (.inr (.inr (.inr (fun _ => none))))) := by rw [e_mem17, va_up_self]
  have hh18 := (va_up_ne mem (.inl (cy 5, 12, .inr (.inr (.inr (.inr (fun _ => none)))))) (show (5 : Nat) ≠ 6 by first | decide | assumption | omega)).trans h5
  rw [← e_mem17] at hh18
  refine f_putF Bx hin hP (adB_D hbz) hS (by omega) hh18 rfl inGr tyGr okGr nmGr 0 (by decide) kw_113 rfl rfl rfl rfl (Nat.le_of_ble_eq_true rfl) d_Gr_init_10 (fun H locs hP hS => ?_)
  obtain ⟨mem19, e_mem19⟩ : ∃ z, z = va_up mem17 (5) (.inr (3, [.ref ((adB base) 6), .null, .null, .int (0), .int (0), .int (0)])) := ⟨_, rfl⟩
  have hP : va_P D vcl (fw 7 (adB base) mem19) H := by rw [e_mem19]; exact hP
  have h_mem19 : mem19 (5) = .inr (3, [.ref ((adB base) 6), .null, .null, .int (0), .int (0), .int (0)]) := by rw [e_mem19, va_up_self]
  refine lv_iconst (v := 0) Bx.1 Bx.2.1 d_Gr_init_13 (by decide) ?_
  refine lv_istore_n (lv' := [(1, .int (0)), (0, .ref ((adB base) 5))]) Bx.1 Bx.2.1 d_Gr_init_14 rfl hl (by decide) rfl (fun ls hl => ?_)
  have key : mem19 = va_up (va_up mem 6 (gaC (cy 5) 12 (fun _ => none))) 5 (.inr (3, [.ref ((adB base) 6), .null, .null, .int (0), .int (0), .int (0)])) := by rw [e_mem19, e_mem17]
  have ne : ∀ i, i ≠ 5 → i ≠ 6 → mem19 i = mem i := fun i a b => by rw [key, va_up_ne _ _ a, va_up_ne _ _ b]
  exact loop1 12 0 ls H locs mem19 (by omega) (lv_sub hl [0, 1] rfl) ⟨fun i hi => ne i (by omega) (by omega), by rw [key, va_up_self], by rw [key, va_up_ne _ _ (by decide), va_up_self, rfB_0], fun i hi => absurd hi (Nat.not_lt_zero i)⟩ hP hS
end
section
theorem d_Ab_init_0 : decode c_Ab_init 0 = .ok (.aload_n 0, 1) := by decide +kernel
theorem d_Ab_init_1 : decode c_Ab_init 1 = .ok (.invokespecial 1, 3) := by decide +kernel
theorem d_Ab_init_4 : decode c_Ab_init 4 = .ok (.aload_n 0, 1) := by decide +kernel
theorem d_Ab_init_5 : decode c_Ab_init 5 = .ok (.new 7, 3) := by decide +kernel
theorem d_Ab_init_8 : decode c_Ab_init 8 = .ok (.dup, 1) := by decide +kernel
theorem d_Ab_init_9 : decode c_Ab_init 9 = .ok (.sipush 240, 3) := by decide +kernel
theorem d_Ab_init_12 : decode c_Ab_init 12 = .ok (.invokespecial 11, 3) := by decide +kernel
theorem d_Ab_init_15 : decode c_Ab_init 15 = .ok (.putfield 14, 3) := by decide +kernel
theorem d_Ab_init_18 : decode c_Ab_init 18 = .ok (.aload_n 0, 1) := by decide +kernel
theorem d_Ab_init_19 : decode c_Ab_init 19 = .ok (.new 7, 3) := by decide +kernel
theorem d_Ab_init_22 : decode c_Ab_init 22 = .ok (.dup, 1) := by decide +kernel
theorem d_Ab_init_23 : decode c_Ab_init 23 = .ok (.bipush 24, 2) := by decide +kernel
theorem d_Ab_init_25 : decode c_Ab_init 25 = .ok (.invokespecial 11, 3) := by decide +kernel
theorem d_Ab_init_28 : decode c_Ab_init 28 = .ok (.putfield 18, 3) := by decide +kernel
theorem d_Ab_init_31 : decode c_Ab_init 31 = .ok (.aload_n 0, 1) := by decide +kernel
theorem d_Ab_init_32 : decode c_Ab_init 32 = .ok (.new 21, 3) := by decide +kernel
theorem d_Ab_init_35 : decode c_Ab_init 35 = .ok (.dup, 1) := by decide +kernel
theorem d_Ab_init_36 : decode c_Ab_init 36 = .ok (.invokespecial 23, 3) := by decide +kernel
theorem d_Ab_init_39 : decode c_Ab_init 39 = .ok (.putfield 24, 3) := by decide +kernel
theorem d_Ab_init_42 : decode c_Ab_init 42 = .ok (.aload_n 0, 1) := by decide +kernel
theorem d_Ab_init_43 : decode c_Ab_init 43 = .ok (.new 28, 3) := by decide +kernel
theorem d_Ab_init_46 : decode c_Ab_init 46 = .ok (.dup, 1) := by decide +kernel
theorem d_Ab_init_47 : decode c_Ab_init 47 = .ok (.aload_n 0, 1) := by decide +kernel
theorem d_Ab_init_48 : decode c_Ab_init 48 = .ok (.getfield 14, 3) := by decide +kernel
theorem d_Ab_init_51 : decode c_Ab_init 51 = .ok (.aload_n 0, 1) := by decide +kernel
theorem d_Ab_init_52 : decode c_Ab_init 52 = .ok (.getfield 24, 3) := by decide +kernel
theorem d_Ab_init_55 : decode c_Ab_init 55 = .ok (.invokespecial 30, 3) := by decide +kernel
theorem d_Ab_init_58 : decode c_Ab_init 58 = .ok (.putfield 33, 3) := by decide +kernel
theorem d_Ab_init_61 : decode c_Ab_init 61 = .ok (.aload_n 0, 1) := by decide +kernel
theorem d_Ab_init_62 : decode c_Ab_init 62 = .ok (.new 37, 3) := by decide +kernel
theorem d_Ab_init_65 : decode c_Ab_init 65 = .ok (.dup, 1) := by decide +kernel
theorem d_Ab_init_66 : decode c_Ab_init 66 = .ok (.aload_n 0, 1) := by decide +kernel
theorem d_Ab_init_67 : decode c_Ab_init 67 = .ok (.getfield 18, 3) := by decide +kernel
theorem d_Ab_init_70 : decode c_Ab_init 70 = .ok (.aload_n 0, 1) := by decide +kernel
theorem d_Ab_init_71 : decode c_Ab_init 71 = .ok (.getfield 24, 3) := by decide +kernel
theorem d_Ab_init_74 : decode c_Ab_init 74 = .ok (.invokespecial 39, 3) := by decide +kernel
theorem d_Ab_init_77 : decode c_Ab_init 77 = .ok (.putfield 40, 3) := by decide +kernel
theorem d_Ab_init_80 : decode c_Ab_init 80 = .ok (.return_, 1) := by decide +kernel
theorem d_Mo_init_0 : decode c_Mo_init 0 = .ok (.aload_n 0, 1) := by decide +kernel
theorem d_Mo_init_1 : decode c_Mo_init 1 = .ok (.invokespecial 1, 3) := by decide +kernel
theorem d_Mo_init_4 : decode c_Mo_init 4 = .ok (.aload_n 0, 1) := by decide +kernel
theorem d_Mo_init_5 : decode c_Mo_init 5 = .ok (.sipush 240, 3) := by decide +kernel
theorem d_Mo_init_8 : decode c_Mo_init 8 = .ok (.newarray .int, 2) := by decide +kernel
theorem d_Mo_init_10 : decode c_Mo_init 10 = .ok (.putfield 7, 3) := by decide +kernel
theorem d_Mo_init_13 : decode c_Mo_init 13 = .ok (.aload_n 0, 1) := by decide +kernel
theorem d_Mo_init_14 : decode c_Mo_init 14 = .ok (.iconst (-1), 1) := by decide +kernel
theorem d_Mo_init_15 : decode c_Mo_init 15 = .ok (.putfield 13, 3) := by decide +kernel
theorem d_Mo_init_18 : decode c_Mo_init 18 = .ok (.aload_n 0, 1) := by decide +kernel
theorem d_Mo_init_19 : decode c_Mo_init 19 = .ok (.bipush 12, 2) := by decide +kernel
theorem d_Mo_init_21 : decode c_Mo_init 21 = .ok (.newarray .long, 2) := by decide +kernel
theorem d_Mo_init_23 : decode c_Mo_init 23 = .ok (.putfield 17, 3) := by decide +kernel
theorem d_Mo_init_26 : decode c_Mo_init 26 = .ok (.aload_n 0, 1) := by decide +kernel
theorem d_Mo_init_27 : decode c_Mo_init 27 = .ok (.bipush 12, 2) := by decide +kernel
theorem d_Mo_init_29 : decode c_Mo_init 29 = .ok (.newarray .int, 2) := by decide +kernel
theorem d_Mo_init_31 : decode c_Mo_init 31 = .ok (.putfield 21, 3) := by decide +kernel
theorem d_Mo_init_34 : decode c_Mo_init 34 = .ok (.aload_n 0, 1) := by decide +kernel
theorem d_Mo_init_35 : decode c_Mo_init 35 = .ok (.bipush 100, 2) := by decide +kernel
theorem d_Mo_init_37 : decode c_Mo_init 37 = .ok (.newarray .int, 2) := by decide +kernel
theorem d_Mo_init_39 : decode c_Mo_init 39 = .ok (.putfield 24, 3) := by decide +kernel
theorem d_Mo_init_42 : decode c_Mo_init 42 = .ok (.aload_n 0, 1) := by decide +kernel
theorem d_Mo_init_43 : decode c_Mo_init 43 = .ok (.bipush 100, 2) := by decide +kernel
theorem d_Mo_init_45 : decode c_Mo_init 45 = .ok (.newarray .int, 2) := by decide +kernel
theorem d_Mo_init_47 : decode c_Mo_init 47 = .ok (.putfield 27, 3) := by decide +kernel
theorem d_Mo_init_50 : decode c_Mo_init 50 = .ok (.aload_n 0, 1) := by decide +kernel
theorem d_Mo_init_51 : decode c_Mo_init 51 = .ok (.bipush 100, 2) := by decide +kernel
theorem d_Mo_init_53 : decode c_Mo_init 53 = .ok (.newarray .int, 2) := by decide +kernel
theorem d_Mo_init_55 : decode c_Mo_init 55 = .ok (.putfield 30, 3) := by decide +kernel
theorem d_Mo_init_58 : decode c_Mo_init 58 = .ok (.aload_n 0, 1) := by decide +kernel
theorem d_Mo_init_59 : decode c_Mo_init 59 = .ok (.bipush 100, 2) := by decide +kernel
theorem d_Mo_init_61 : decode c_Mo_init 61 = .ok (.newarray .boolean, 2) := by decide +kernel
theorem d_Mo_init_63 : decode c_Mo_init 63 = .ok (.putfield 33, 3) := by decide +kernel
theorem d_Mo_init_66 : decode c_Mo_init 66 = .ok (.aload_n 0, 1) := by decide +kernel
theorem d_Mo_init_67 : decode c_Mo_init 67 = .ok (.bipush 100, 2) := by decide +kernel
theorem d_Mo_init_69 : decode c_Mo_init 69 = .ok (.newarray .int, 2) := by decide +kernel
theorem d_Mo_init_71 : decode c_Mo_init 71 = .ok (.putfield 37, 3) := by decide +kernel
theorem d_Mo_init_74 : decode c_Mo_init 74 = .ok (.aload_n 0, 1) := by decide +kernel
theorem d_Mo_init_75 : decode c_Mo_init 75 = .ok (.bipush 100, 2) := by decide +kernel
theorem d_Mo_init_77 : decode c_Mo_init 77 = .ok (.newarray .int, 2) := by decide +kernel
theorem d_Mo_init_79 : decode c_Mo_init 79 = .ok (.putfield 40, 3) := by decide +kernel
theorem d_Mo_init_82 : decode c_Mo_init 82 = .ok (.aload_n 0, 1) := by decide +kernel
theorem d_Mo_init_83 : decode c_Mo_init 83 = .ok (.sipush 400, 3) := by decide +kernel
theorem d_Mo_init_86 : decode c_Mo_init 86 = .ok (.newarray .int, 2) := by decide +kernel
theorem d_Mo_init_88 : decode c_Mo_init 88 = .ok (.putfield 43, 3) := by decide +kernel
theorem d_Mo_init_91 : decode c_Mo_init 91 = .ok (.aload_n 0, 1) := by decide +kernel
theorem d_Mo_init_92 : decode c_Mo_init 92 = .ok (.bipush 8, 2) := by decide +kernel
theorem d_Mo_init_94 : decode c_Mo_init 94 = .ok (.newarray .int, 2) := by decide +kernel
theorem d_Mo_init_96 : decode c_Mo_init 96 = .ok (.putfield 46, 3) := by decide +kernel
theorem d_Mo_init_99 : decode c_Mo_init 99 = .ok (.aload_n 0, 1) := by decide +kernel
theorem d_Mo_init_100 : decode c_Mo_init 100 = .ok (.bipush 8, 2) := by decide +kernel
theorem d_Mo_init_102 : decode c_Mo_init 102 = .ok (.newarray .int, 2) := by decide +kernel
theorem d_Mo_init_104 : decode c_Mo_init 104 = .ok (.putfield 49, 3) := by decide +kernel
theorem d_Mo_init_107 : decode c_Mo_init 107 = .ok (.aload_n 0, 1) := by decide +kernel
theorem d_Mo_init_108 : decode c_Mo_init 108 = .ok (.bipush 8, 2) := by decide +kernel
theorem d_Mo_init_110 : decode c_Mo_init 110 = .ok (.newarray .int, 2) := by decide +kernel
theorem d_Mo_init_112 : decode c_Mo_init 112 = .ok (.putfield 52, 3) := by decide +kernel
theorem d_Mo_init_115 : decode c_Mo_init 115 = .ok (.aload_n 0, 1) := by decide +kernel
theorem d_Mo_init_116 : decode c_Mo_init 116 = .ok (.bipush 8, 2) := by decide +kernel
theorem d_Mo_init_118 : decode c_Mo_init 118 = .ok (.newarray .int, 2) := by decide +kernel
theorem d_Mo_init_120 : decode c_Mo_init 120 = .ok (.putfield 55, 3) := by decide +kernel
theorem d_Mo_init_123 : decode c_Mo_init 123 = .ok (.aload_n 0, 1) := by decide +kernel
theorem d_Mo_init_124 : decode c_Mo_init 124 = .ok (.bipush 8, 2) := by decide +kernel
theorem d_Mo_init_126 : decode c_Mo_init 126 = .ok (.newarray .int, 2) := by decide +kernel
theorem d_Mo_init_128 : decode c_Mo_init 128 = .ok (.putfield 58, 3) := by decide +kernel
theorem d_Mo_init_131 : decode c_Mo_init 131 = .ok (.aload_n 0, 1) := by decide +kernel
theorem d_Mo_init_132 : decode c_Mo_init 132 = .ok (.bipush 24, 2) := by decide +kernel
theorem d_Mo_init_134 : decode c_Mo_init 134 = .ok (.newarray .int, 2) := by decide +kernel
theorem d_Mo_init_136 : decode c_Mo_init 136 = .ok (.putfield 61, 3) := by decide +kernel
theorem d_Mo_init_139 : decode c_Mo_init 139 = .ok (.aload_n 0, 1) := by decide +kernel
theorem d_Mo_init_140 : decode c_Mo_init 140 = .ok (.iconst 1, 1) := by decide +kernel
theorem d_Mo_init_141 : decode c_Mo_init 141 = .ok (.putfield 64, 3) := by decide +kernel
theorem d_Mo_init_144 : decode c_Mo_init 144 = .ok (.aload_n 0, 1) := by decide +kernel
theorem d_Mo_init_145 : decode c_Mo_init 145 = .ok (.sipush 2500, 3) := by decide +kernel
theorem d_Mo_init_148 : decode c_Mo_init 148 = .ok (.newarray .int, 2) := by decide +kernel
theorem d_Mo_init_150 : decode c_Mo_init 150 = .ok (.putfield 68, 3) := by decide +kernel
theorem d_Mo_init_153 : decode c_Mo_init 153 = .ok (.return_, 1) := by decide +kernel
/-- a new AbnfChart: cells 0 to 223 -/
def XI (cy : Nat → ClassId) (base : Nat) (mk : Nat → va_E) : Prop :=
  mk 0 = .inr (6, [.ref ((adB base) 1), .ref ((adB base) 3), .ref ((adB base) 5), .ref ((adB base) 222), .ref ((adB base) 223)]) ∧ mk 1 = .inr (0, [.ref ((adB base) 2), .int 0]) ∧ mk 2 = .inl (cy 0, 240, .inl (fun _ => 0)) ∧ mk 3 = .inr (0, [.ref ((adB base) 4), .int 0]) ∧ mk 4 = .inl (cy 0, 24, .inl (fun _ => 0)) ∧
  mk 5 = .inr (3, [.ref ((adB base) 6), .ref ((adB base) 19), .ref ((adB base) 220), .int 0, .int 0, .int 0]) ∧ mk 6 = gaC (cy 5) 12 (rfB base 7 12) ∧ (∀ i, i < 12 → mk (7 + i) = ruC) ∧ mk 19 = gaC (cy 4) 100 (rf2 base 100) ∧ (∀ i, i < 100 → mk (20 + 2 * i) = elC base i ∧ mk (21 + 2 * i) = enC cy) ∧ mk 220 = .inr (0, [.ref ((adB base) 221), .int 0]) ∧ mk 221 = .inl (cy 0, 240, .inl (fun _ => 0)) ∧
  mk 222 = .inr (4, [.ref ((adB base) 1), .ref ((adB base) 5), .int 0, .int (-1)]) ∧ mk 223 = .inr (1, [.ref ((adB base) 3), .ref ((adB base) 5), .int 0])
set_option maxHeartbeats 4000000 in
set_option maxRecDepth 100000 in
theorem m_Ab_init (l : Launch) {D : va_G} {cy : Nat → ClassId} {sz base : Nat} {mem : Nat → va_E}  (hbz : sz ≤ base) (h0 : mem 0 = .inr (6, [.null, .null, .null, .null, .null])) : MC l D cy sz base 1 224 y_Ab_init c_Ab_init 1 ({ frames := 8, cells := 223, slots := 3871, locals := 200 } : Room) mem [.ref ((adB base) 0)] (fun mem' => XI cy base mem') 223 3871 := by
  refine Met.ofW (cc := c_Ab_init) (maxL := 1) (ret := none) (by decide) rfl ?_
  intro p e s m args below meth c s₁ B hml hv
  obtain ⟨rfl, ⟨E, hP, -⟩, hs0⟩ := hv
  have hx := B.exec
  have hb := B.bytes
  have hr := B.returns
  have hlocks := B.notSynchronized
  have Bx : MB p s m [.ref ((adB base) 0)].toArray c c_Ab_init "AbnfChart" D cy := ⟨hx, hb, tb_all (atoms_spec B.pre) E.2.1, findClass_of_methodNamed B.named, E.1⟩
  have hS : va_S (Az sz) s.heap s.heap [] := va_S.rf
  have hin : meth.name = "<init>" := (name_of_methodNamed B.named B.method).1
  have hl := lv_entry ([.ref ((adB base) 0)]) (n := 1) (Nat.le_of_ble_eq_true rfl)
  rw [lg_entry_eq]
  generalize (lg_sl ([.ref ((adB base) 0)]) ++ List.replicate (1 - (lg_sl ([.ref ((adB base) 0)])).length) Slot.unset).toArray = ls at hl ⊢
  have hl : lv_has ls 1 [(0, .ref ((adB base) 0))] := hl
  refine lv_aload_n Bx.1 Bx.2.1 d_Ab_init_0 rfl (lv_at hl 0 rfl) ?_
  refine W.objInit hx hb Bx.2.2.2.1 (Bx.2.2.1 _ (tb_g kw_22 rfl)) (Bx.2.2.1 _ (tb_g kw_23 rfl)) (Bx.2.2.1 _ (tb_g kw_24 rfl)) rfl (by rw [hml]; exact hl.1) rfl d_Ab_init_1 (Nat.le_of_ble_eq_true rfl) (Nat.le_of_ble_eq_true rfl) ?_
  refine W.eq (g2 := F0 m 4 ls []) rfl ?_
  refine lv_aload_n Bx.1 Bx.2.1 d_Ab_init_4 rfl (lv_at hl 0 rfl) ?_
  refine c_size (n := 1) hP (by omega) (by omega) (fun hz => ?_)
  refine f_new (ci := 0) (n := 1) Bx hP hS hz rfl inCh tyCh okCh kw_25 kw_26 kw_2 [.null, .int (0)] (by intro j hj; match j, hj with | 0, _ => rfl | 1, _ => rfl) (Nat.le_of_ble_eq_true rfl) (Nat.le_of_ble_eq_true rfl) d_Ab_init_5 (fun H hP hS hz => ?_)
  obtain ⟨mem1, e_mem1⟩ : ∃ z, z = va_up mem (1) (.inr (0, [.null, .int (0)])) := ⟨_, rfl⟩
  have hP : va_P D vcl (fw 2 (adB base) mem1) H := by rw [e_mem1]; exact hP
  have h_mem1 : mem1 (1) = .inr (0, [.null, .int (0)]) := by rw [e_mem1, va_up_self]
  have hh2 := (va_up_ne mem (.inr (0, [.null, .int (0)])) (show (0 : Nat) ≠ 1 by first | decide | assumption | omega)).trans h0
  rw [← e_mem1] at hh2
  refine lv_dup Bx.1 Bx.2.1 d_Ab_init_8 rfl ?_
  refine lv_sipush (v := 240) Bx.1 Bx.2.1 d_Ab_init_9 (by decide) ?_
  refine c_size (n := 2) hP (by omega) (by omega) (fun hz => ?_)
  refine f_callI (na := 1) (n := 2) (j := 1) (As := [.int (nI 240)]) (rest := [.ref ((adB base) 1), .ref ((adB base) 0)]) Bx hml E hP hS hbz hz (m_Ch_init (n := 2) (j := 1) (K := 240) l hbz (by omega) h_mem1 (Or.inl rfl)) kw_27 kw_28 kw_2 kw_29 rfl (by decide +kernel) ⟨rfl, rfl⟩ ⟨Nat.le_of_ble_eq_true rfl, Nat.le_of_ble_eq_true rfl⟩ rfl hl.1 (Nat.le_of_ble_eq_true rfl) d_Ab_init_12 ⟨Nat.le_of_ble_eq_true rfl, Nat.le_of_ble_eq_true rfl⟩ (fun mem3 H locs hq1 hP hS hz => ?_)
  have a0 : mem3 0 = .inr (6, [.null, .null, .null, .null, .null]) := by rw [hq1, va_up_ne _ _ (by decide), va_up_ne _ _ (by decide), e_mem1, va_up_ne _ _ (by decide)]; exact h0
  have a1 : mem3 1 = .inr (0, [.ref ((adB base) 2), .int 0]) := by rw [hq1, va_up_self]
  have a2 : mem3 2 = .inl (cy 0, 240, .inl (fun _ => 0)) := by rw [hq1, va_up_ne _ _ (by decide), va_up_self]
  refine f_putF Bx hin hP (adB_D hbz) hS (by omega) a0 rfl inAb tyAb okAb nmAb 0 (by decide) kw_174 rfl rfl rfl rfl (Nat.le_of_ble_eq_true rfl) d_Ab_init_15 (fun H locs hP hS => ?_)
  obtain ⟨mem4, e_mem4⟩ : ∃ z, z = va_up mem3 (0) (.inr (6, [.ref ((adB base) 1), .null, .null, .null, .null])) := ⟨_, rfl⟩
  have hP : va_P D vcl (fw 3 (adB base) mem4) H := by rw [e_mem4]; exact hP
  have h_mem4 : mem4 (0) = .inr (6, [.ref ((adB base) 1), .null, .null, .null, .null]) := by rw [e_mem4, va_up_self]
  have hh5 := (va_up_ne mem3 (.inr (6, [.ref ((adB base) 1), .null, .null, .null, .null])) (show (1 : Nat) ≠ 0 by first | decide | assumption | omega)).trans a1
  rw [← e_mem4] at hh5
  have hh6 := (va_up_ne mem3 (.inr (6, [.ref ((adB base) 1), .null, .null, .null, .null])) (show (2 : Nat) ≠ 0 by first | decide | assumption | omega)).trans a2
  rw [← e_mem4] at hh6
  refine lv_aload_n Bx.1 Bx.2.1 d_Ab_init_18 rfl (lv_at hl 0 rfl) ?_
  refine c_size (n := 3) hP (by omega) (by omega) (fun hz => ?_)
  refine f_new (ci := 0) (n := 3) Bx hP hS hz rfl inCh tyCh okCh kw_25 kw_26 kw_2 [.null, .int (0)] (by intro j hj; match j, hj with | 0, _ => rfl | 1, _ => rfl) (Nat.le_of_ble_eq_true rfl) (Nat.le_of_ble_eq_true rfl) d_Ab_init_19 (fun H hP hS hz => ?_)
  obtain ⟨mem7, e_mem7⟩ : ∃ z, z = va_up mem4 (3) (.inr (0, [.null, .int (0)])) := ⟨_, rfl⟩
  have hP : va_P D vcl (fw 4 (adB base) mem7) H := by rw [e_mem7]; exact hP
  have h_mem7 : mem7 (3) = .inr (0, [.null, .int (0)]) := by rw [e_mem7, va_up_self]
  have hh8 := (va_up_ne mem4 (.inr (0, [.null, .int (0)])) (show (0 : Nat) ≠ 3 by first | decide | assumption | omega)).trans h_mem4
  rw [← e_mem7] at hh8
  have hh9 := (va_up_ne mem4 (.inr (0, [.null, .int (0)])) (show (1 : Nat) ≠ 3 by first | decide | assumption | omega)).trans hh5
  rw [← e_mem7] at hh9
  have hh10 := (va_up_ne mem4 (.inr (0, [.null, .int (0)])) (show (2 : Nat) ≠ 3 by first | decide | assumption | omega)).trans hh6
  rw [← e_mem7] at hh10
  refine lv_dup Bx.1 Bx.2.1 d_Ab_init_22 rfl ?_
  refine lv_bipush (v := 24) Bx.1 Bx.2.1 d_Ab_init_23 (by decide) ?_
  refine c_size (n := 4) hP (by omega) (by omega) (fun hz => ?_)
  refine f_callI (na := 1) (n := 4) (j := 3) (As := [.int (nI 24)]) (rest := [.ref ((adB base) 3), .ref ((adB base) 0)]) Bx hml E hP hS hbz hz (m_Ch_init (n := 4) (j := 3) (K := 24) l hbz (by omega) h_mem7 (Or.inr rfl)) kw_27 kw_28 kw_2 kw_29 rfl (by decide +kernel) ⟨rfl, rfl⟩ ⟨Nat.le_of_ble_eq_true rfl, Nat.le_of_ble_eq_true rfl⟩ rfl hl.1 (Nat.le_of_ble_eq_true rfl) d_Ab_init_25 ⟨Nat.le_of_ble_eq_true rfl, Nat.le_of_ble_eq_true rfl⟩ (fun mem11 H locs hq3 hP hS hz => ?_)
  have hh12 : mem11 (0) = .inr (6, [.ref ((adB base) 1), .null, .null, .null, .null]) := by rw [hq3]; (try unfold chM); rw [va_up_ne _ _ (by first | decide | assumption | omega), va_up_ne _ _ (by first | decide | assumption | omega)]; exact hh8
  have hh13 : mem11 (1) = .inr (0, [.ref ((adB base) 2), .int (0)]) := by rw [hq3]; (try unfold chM); rw [va_up_ne _ _ (by first | decide | assumption | omega), va_up_ne _ _ (by first | decide | assumption | omega)]; exact hh9
  have hh14 : mem11 (2) = .inl (cy 0, 240, .inl (fun _ => 0)) := by rw [hq3]; (try unfold chM); rw [va_up_ne _ _ (by first | decide | assumption | omega), va_up_ne _ _ (by first | decide | assumption | omega)]; exact hh10
  have a3 : mem11 3 = .inr (0, [.ref ((adB base) 4), .int 0]) := by rw [hq3, va_up_self]
  have a4 : mem11 4 = .inl (cy 0, 24, .inl (fun _ => 0)) := by rw [hq3, va_up_ne _ _ (by decide), va_up_self]
  refine f_putF Bx hin hP (adB_D hbz) hS (by omega) hh12 rfl inAb tyAb okAb nmAb 1 (by decide) kw_175 rfl rfl rfl rfl (Nat.le_of_ble_eq_true rfl) d_Ab_init_28 (fun H locs hP hS => ?_)
  obtain ⟨mem15, e_mem15⟩ : ∃ z, z = va_up mem11 (0) (.inr (6, [.ref ((adB base) 1), .ref ((adB base) 3), .null, .null, .null])) := ⟨_, rfl⟩
  have hP : va_P D vcl (fw 5 (adB base) mem15) H := by rw [e_mem15]; exact hP
  have h_mem15 : mem15 (0) = .inr (6, [.ref ((adB base) 1), .ref ((adB base) 3), .null, .null, .null]) := by rw [e_mem15, va_up_self]
  have hh16 := (va_up_ne mem11 (.inr (6, [.ref ((adB base) 1), .ref ((adB base) 3), .null, .null, .null])) (show (1 : Nat) ≠ 0 by first | decide | assumption | omega)).trans hh13
  rw [← e_mem15] at hh16
  have hh17 := (va_up_ne mem11 (.inr (6, [.ref ((adB base) 1), .ref ((adB base) 3), .null, .null, .null])) (show (2 : Nat) ≠ 0 by first | decide | assumption | omega)).trans hh14
  rw [← e_mem15] at hh17
  have hh18 := (va_up_ne mem11 (.inr (6, [.ref ((adB base) 1), .ref ((adB base) 3), .null, .null, .null])) (show (3 : Nat) ≠ 0 by first | decide | assumption | omega)).trans a3
  rw [← e_mem15] at hh18
  have hh19 := (va_up_ne mem11 (.inr (6, [.ref ((adB base) 1), .ref ((adB base) 3), .null, .null, .null])) (show (4 : Nat) ≠ 0 by first | decide | assumption | omega)).trans a4
  rw [← e_mem15] at hh19
  refine lv_aload_n Bx.1 Bx.2.1 d_Ab_init_31 rfl (lv_at hl 0 rfl) ?_
  refine c_size (n := 5) hP (by omega) (by omega) (fun hz => ?_)
  refine f_new (ci := 3) (n := 5) Bx hP hS hz rfl inGr tyGr okGr kw_42 kw_43 kw_3 [.null, .null, .null, .int (0), .int (0), .int (0)] (by intro j hj; match j, hj with | 0, _ => rfl | 1, _ => rfl | 2, _ => rfl | 3, _ => rfl | 4, _ => rfl | 5, _ => rfl) (Nat.le_of_ble_eq_true rfl) (Nat.le_of_ble_eq_true rfl) d_Ab_init_32 (fun H hP hS hz => ?_)
  obtain ⟨mem20, e_mem20⟩ : ∃ z, z = va_up mem15 (5) (.inr (3, [.null, .null, .null, .int (0), .int (0), .int (0)])) := ⟨_, rfl⟩
  have hP : va_P D vcl (fw 6 (adB base) mem20) H := by rw [e_mem20]; exact hP
  have h_mem20 : mem20 (5) = .inr (3, [.null, .null, .null, .int (0), .int (0), .int (0)]) := by rw [e_mem20, va_up_self]
  have hh21 := (va_up_ne mem15 (.inr (3, [.null, .null, .null, .int (0), .int (0), .int (0)])) (show (0 : Nat) ≠ 5 by first | decide | assumption | omega)).trans h_mem15
  rw [← e_mem20] at hh21
  have hh22 := (va_up_ne mem15 (.inr (3, [.null, .null, .null, .int (0), .int (0), .int (0)])) (show (1 : Nat) ≠ 5 by first | decide | assumption | omega)).trans hh16
  rw [← e_mem20] at hh22
  have hh23 := (va_up_ne mem15 (.inr (3, [.null, .null, .null, .int (0), .int (0), .int (0)])) (show (2 : Nat) ≠ 5 by first | decide | assumption | omega)).trans hh17
  rw [← e_mem20] at hh23
  have hh24 := (va_up_ne mem15 (.inr (3, [.null, .null, .null, .int (0), .int (0), .int (0)])) (show (3 : Nat) ≠ 5 by first | decide | assumption | omega)).trans hh18
  rw [← e_mem20] at hh24
  have hh25 := (va_up_ne mem15 (.inr (3, [.null, .null, .null, .int (0), .int (0), .int (0)])) (show (4 : Nat) ≠ 5 by first | decide | assumption | omega)).trans hh19
  rw [← e_mem20] at hh25
  refine lv_dup Bx.1 Bx.2.1 d_Ab_init_35 rfl ?_
  refine c_size (n := 6) hP (by omega) (by omega) (fun hz => ?_)
  refine f_callI (na := 0) (n := 6) (j := 5) (As := []) (rest := [.ref ((adB base) 5), .ref ((adB base) 0)]) Bx hml E hP hS hbz hz (m_Gr_init l hbz h_mem20) kw_44 kw_45 kw_3 kw_46 rfl (by decide +kernel) ⟨rfl, rfl⟩ ⟨Nat.le_of_ble_eq_true rfl, Nat.le_of_ble_eq_true rfl⟩ rfl hl.1 (Nat.le_of_ble_eq_true rfl) d_Ab_init_36 ⟨Nat.le_of_ble_eq_true rfl, Nat.le_of_ble_eq_true rfl⟩ (fun mem26 H locs hg hP hS hz => ?_)
  obtain ⟨g0, g5, g6, g7, g19, g20, g220, g221⟩ := hg
  have hh27 := (g0 0 (by decide)).trans hh21
  have hh28 := (g0 1 (by decide)).trans hh22
  have hh29 := (g0 2 (by decide)).trans hh23
  have hh30 := (g0 3 (by decide)).trans hh24
  have hh31 := (g0 4 (by decide)).trans hh25
  refine f_putF Bx hin hP (adB_D hbz) hS (by omega) hh27 rfl inAb tyAb okAb nmAb 2 (by decide) kw_176 rfl rfl rfl rfl (Nat.le_of_ble_eq_true rfl) d_Ab_init_39 (fun H locs hP hS => ?_)
  obtain ⟨mem32, e_mem32⟩ : ∃ z, z = va_up mem26 (0) (.inr (6, [.ref ((adB base) 1), .ref ((adB base) 3), .ref ((adB base) 5), .null, .null])) := ⟨_, rfl⟩
  have hP : va_P D vcl (fw 222 (adB base) mem32) H := by rw [e_mem32]; exact hP
  have h_mem32 : mem32 (0) = .inr (6, [.ref ((adB base) 1), .ref ((adB base) 3), .ref ((adB base) 5), .null, .null]) := by rw [e_mem32, va_up_self]
  have hh33 := (va_up_ne mem26 (.inr (6, [.ref ((adB base) 1), .ref ((adB base) 3), .ref ((adB base) 5), .null, .null])) (show (1 : Nat) ≠ 0 by first | decide | assumption | omega)).trans hh28
  rw [← e_mem32] at hh33
  have hh34 := (va_up_ne mem26 (.inr (6, [.ref ((adB base) 1), .ref ((adB base) 3), .ref ((adB base) 5), .null, .null])) (show (2 : Nat) ≠ 0 by first | decide | assumption | omega)).trans hh29
  rw [← e_mem32] at hh34
  have hh35 := (va_up_ne mem26 (.inr (6, [.ref ((adB base) 1), .ref ((adB base) 3), .ref ((adB base) 5), .null, .null])) (show (3 : Nat) ≠ 0 by first | decide | assumption | omega)).trans hh30
  rw [← e_mem32] at hh35
  have hh36 := (va_up_ne mem26 (.inr (6, [.ref ((adB base) 1), .ref ((adB base) 3), .ref ((adB base) 5), .null, .null])) (show (4 : Nat) ≠ 0 by first | decide | assumption | omega)).trans hh31
  rw [← e_mem32] at hh36
  have hh37 := (va_up_ne mem26 (.inr (6, [.ref ((adB base) 1), .ref ((adB base) 3), .ref ((adB base) 5), .null, .null])) (show (5 : Nat) ≠ 0 by first | decide | assumption | omega)).trans g5
  rw [← e_mem32] at hh37
  have hh38 := (va_up_ne mem26 (.inr (6, [.ref ((adB base) 1), .ref ((adB base) 3), .ref ((adB base) 5), .null, .null])) (show (6 : Nat) ≠ 0 by first | decide | assumption | omega)).trans g6
  rw [← e_mem32] at hh38
  have hh39 := (va_up_ne mem26 (.inr (6, [.ref ((adB base) 1), .ref ((adB base) 3), .ref ((adB base) 5), .null, .null])) (show (19 : Nat) ≠ 0 by first | decide | assumption | omega)).trans g19
  rw [← e_mem32] at hh39
  have hh40 := (va_up_ne mem26 (.inr (6, [.ref ((adB base) 1), .ref ((adB base) 3), .ref ((adB base) 5), .null, .null])) (show (220 : Nat) ≠ 0 by first | decide | assumption | omega)).trans g220
  rw [← e_mem32] at hh40
  have hh41 := (va_up_ne mem26 (.inr (6, [.ref ((adB base) 1), .ref ((adB base) 3), .ref ((adB base) 5), .null, .null])) (show (221 : Nat) ≠ 0 by first | decide | assumption | omega)).trans g221
  rw [← e_mem32] at hh41
  refine lv_aload_n Bx.1 Bx.2.1 d_Ab_init_42 rfl (lv_at hl 0 rfl) ?_
  refine c_size (n := 222) hP (by omega) (by omega) (fun hz => ?_)
  refine f_new (ci := 4) (n := 222) Bx hP hS hz rfl inRd tyRd okRd kw_138 kw_139 kw_6 [.null, .null, .int (0), .int (0)] (by intro j hj; match j, hj with | 0, _ => rfl | 1, _ => rfl | 2, _ => rfl | 3, _ => rfl) (Nat.le_of_ble_eq_true rfl) (Nat.le_of_ble_eq_true rfl) d_Ab_init_43 (fun H hP hS hz => ?_)
  obtain ⟨mem42, e_mem42⟩ : ∃ z, z = va_up mem32 (222) (.inr (4, [.null, .null, .int (0), .int (0)])) := ⟨_, rfl⟩
  have hP : va_P D vcl (fw 223 (adB base) mem42) H := by rw [e_mem42]; exact hP
  have h_mem42 : mem42 (222) = .inr (4, [.null, .null, .int (0), .int (0)]) := by rw [e_mem42, va_up_self]
  have hh43 := (va_up_ne mem32 (.inr (4, [.null, .null, .int (0), .int (0)])) (show (0 : Nat) ≠ 222 by first | decide | assumption | omega)).trans h_mem32
  rw [← e_mem42] at hh43
  have hh44 := (va_up_ne mem32 (.inr (4, [.null, .null, .int (0), .int (0)])) (show (1 : Nat) ≠ 222 by first | decide | assumption | omega)).trans hh33
  rw [← e_mem42] at hh44
  have hh45 := (va_up_ne mem32 (.inr (4, [.null, .null, .int (0), .int (0)])) (show (2 : Nat) ≠ 222 by first | decide | assumption | omega)).trans hh34
  rw [← e_mem42] at hh45
  have hh46 := (va_up_ne mem32 (.inr (4, [.null, .null, .int (0), .int (0)])) (show (3 : Nat) ≠ 222 by first | decide | assumption | omega)).trans hh35
  rw [← e_mem42] at hh46
  have hh47 := (va_up_ne mem32 (.inr (4, [.null, .null, .int (0), .int (0)])) (show (4 : Nat) ≠ 222 by first | decide | assumption | omega)).trans hh36
  rw [← e_mem42] at hh47
  have hh48 := (va_up_ne mem32 (.inr (4, [.null, .null, .int (0), .int (0)])) (show (5 : Nat) ≠ 222 by first | decide | assumption | omega)).trans hh37
  rw [← e_mem42] at hh48
  have hh49 := (va_up_ne mem32 (.inr (4, [.null, .null, .int (0), .int (0)])) (show (6 : Nat) ≠ 222 by first | decide | assumption | omega)).trans hh38
  rw [← e_mem42] at hh49
  have hh50 := (va_up_ne mem32 (.inr (4, [.null, .null, .int (0), .int (0)])) (show (19 : Nat) ≠ 222 by first | decide | assumption | omega)).trans hh39
  rw [← e_mem42] at hh50
  have hh51 := (va_up_ne mem32 (.inr (4, [.null, .null, .int (0), .int (0)])) (show (220 : Nat) ≠ 222 by first | decide | assumption | omega)).trans hh40
  rw [← e_mem42] at hh51
  have hh52 := (va_up_ne mem32 (.inr (4, [.null, .null, .int (0), .int (0)])) (show (221 : Nat) ≠ 222 by first | decide | assumption | omega)).trans hh41
  rw [← e_mem42] at hh52
  refine lv_dup Bx.1 Bx.2.1 d_Ab_init_46 rfl ?_
  refine lv_aload_n Bx.1 Bx.2.1 d_Ab_init_47 rfl (lv_at hl 0 rfl) ?_
  refine f_get Bx hP (by omega) hh43 rfl inAb 0 (by decide) kw_174 rfl rfl d_Ab_init_48 ?_
  refine lv_aload_n Bx.1 Bx.2.1 d_Ab_init_51 rfl (lv_at hl 0 rfl) ?_
  refine f_get Bx hP (by omega) hh43 rfl inAb 2 (by decide) kw_176 rfl rfl d_Ab_init_52 ?_
  refine c_size (n := 223) hP (by omega) (by omega) (fun hz => ?_)
  refine f_callI (na := 2) (n := 223) (j := 222) (As := [.ref ((adB base) 1), .ref ((adB base) 5)]) (rest := [.ref ((adB base) 222), .ref ((adB base) 0)]) Bx hml E hP hS hbz hz (m_Rd_init (n := 223) (j := 222) l hbz (by omega) h_mem42) kw_140 kw_141 kw_6 kw_142 rfl (by decide +kernel) ⟨rfl, rfl⟩ ⟨Nat.le_of_ble_eq_true rfl, Nat.le_of_ble_eq_true rfl⟩ rfl hl.1 (Nat.le_of_ble_eq_true rfl) d_Ab_init_55 ⟨Nat.le_of_ble_eq_true rfl, Nat.le_of_ble_eq_true rfl⟩ (fun mem53 H locs hq5 hP hS hz => ?_)
  have hh54 : mem53 (0) = .inr (6, [.ref ((adB base) 1), .ref ((adB base) 3), .ref ((adB base) 5), .null, .null]) := by rw [hq5]; (try unfold chM); rw [va_up_ne _ _ (by first | decide | assumption | omega)]; exact hh43
  have hh55 : mem53 (1) = .inr (0, [.ref ((adB base) 2), .int (0)]) := by rw [hq5]; (try unfold chM); rw [va_up_ne _ _ (by first | decide | assumption | omega)]; exact hh44
  have hh56 : mem53 (2) = .inl (cy 0, 240, .inl (fun _ => 0)) := by rw [hq5]; (try unfold chM); rw [va_up_ne _ _ (by first | decide | assumption | omega)]; exact hh45
  have hh57 : mem53 (3) = .inr (0, [.ref ((adB base) 4), .int (0)]) := by rw [hq5]; (try unfold chM); rw [va_up_ne _ _ (by first | decide | assumption | omega)]; exact hh46
  have hh58 : mem53 (4) = .inl (cy 0, 24, .inl (fun _ => 0)) := by rw [hq5]; (try unfold chM); rw [va_up_ne _ _ (by first | decide | assumption | omega)]; exact hh47
  have hh59 : mem53 (5) = .inr (3, [.ref ((adB base) 6), .ref ((adB base) 19), .ref ((adB base) 220), .int (0), .int (0), .int (0)]) := by rw [hq5]; (try unfold chM); rw [va_up_ne _ _ (by first | decide | assumption | omega)]; exact hh48
  have hh60 : mem53 (6) = gaC (cy 5) 12 (rfB base 7 12) := by rw [hq5]; (try unfold chM); rw [va_up_ne _ _ (by first | decide | assumption | omega)]; exact hh49
  have hh61 : mem53 (19) = gaC (cy 4) 100 (rf2 base 100) := by rw [hq5]; (try unfold chM); rw [va_up_ne _ _ (by first | decide | assumption | omega)]; exact hh50
  have hh62 : mem53 (220) = .inr (0, [.ref ((adB base) 221), .int 0]) := by rw [hq5]; (try unfold chM); rw [va_up_ne _ _ (by first | decide | assumption | omega)]; exact hh51
  have hh63 : mem53 (221) = .inl (cy 0, 240, .inl (fun _ => 0)) := by rw [hq5]; (try unfold chM); rw [va_up_ne _ _ (by first | decide | assumption | omega)]; exact hh52
  have a222 : mem53 222 = .inr (4, [.ref ((adB base) 1), .ref ((adB base) 5), .int 0, .int (-1)]) := by rw [hq5, va_up_self]
  refine f_putF Bx hin hP (adB_D hbz) hS (by omega) hh54 rfl inAb tyAb okAb nmAb 3 (by decide) kw_177 rfl rfl rfl rfl (Nat.le_of_ble_eq_true rfl) d_Ab_init_58 (fun H locs hP hS => ?_)
  obtain ⟨mem64, e_mem64⟩ : ∃ z, z = va_up mem53 (0) (.inr (6, [.ref ((adB base) 1), .ref ((adB base) 3), .ref ((adB base) 5), .ref ((adB base) 222), .null])) := ⟨_, rfl⟩
  have hP : va_P D vcl (fw 223 (adB base) mem64) H := by rw [e_mem64]; exact hP
  have h_mem64 : mem64 (0) = .inr (6, [.ref ((adB base) 1), .ref ((adB base) 3), .ref ((adB base) 5), .ref ((adB base) 222), .null]) := by rw [e_mem64, va_up_self]
  have hh65 := (va_up_ne mem53 (.inr (6, [.ref ((adB base) 1), .ref ((adB base) 3), .ref ((adB base) 5), .ref ((adB base) 222), .null])) (show (1 : Nat) ≠ 0 by first | decide | assumption | omega)).trans hh55
  rw [← e_mem64] at hh65
  have hh66 := (va_up_ne mem53 (.inr (6, [.ref ((adB base) 1), .ref ((adB base) 3), .ref ((adB base) 5), .ref ((adB base) 222), .null])) (show (2 : Nat) ≠ 0 by first | decide | assumption | omega)).trans hh56
  rw [← e_mem64] at hh66
  have hh67 := (va_up_ne mem53 (.inr (6, [.ref ((adB base) 1), .ref ((adB base) 3), .ref ((adB base) 5), .ref ((adB base) 222), .null])) (show (3 : Nat) ≠ 0 by first | decide | assumption | omega)).trans hh57
  rw [← e_mem64] at hh67
  have hh68 := (va_up_ne mem53 (.inr (6, [.ref ((adB base) 1), .ref ((adB base) 3), .ref ((adB base) 5), .ref ((adB base) 222), .null])) (show (4 : Nat) ≠ 0 by first | decide | assumption | omega)).trans hh58
  rw [← e_mem64] at hh68
  have hh69 := (va_up_ne mem53 (.inr (6, [.ref ((adB base) 1), .ref ((adB base) 3), .ref ((adB base) 5), .ref ((adB base) 222), .null])) (show (5 : Nat) ≠ 0 by first | decide | assumption | omega)).trans hh59
  rw [← e_mem64] at hh69
  have hh70 := (va_up_ne mem53 (.inr (6, [.ref ((adB base) 1), .ref ((adB base) 3), .ref ((adB base) 5), .ref ((adB base) 222), .null])) (show (6 : Nat) ≠ 0 by first | decide | assumption | omega)).trans hh60
  rw [← e_mem64] at hh70
  have hh71 := (va_up_ne mem53 (.inr (6, [.ref ((adB base) 1), .ref ((adB base) 3), .ref ((adB base) 5), .ref ((adB base) 222), .null])) (show (19 : Nat) ≠ 0 by first | decide | assumption | omega)).trans hh61
  rw [← e_mem64] at hh71
  have hh72 := (va_up_ne mem53 (.inr (6, [.ref ((adB base) 1), .ref ((adB base) 3), .ref ((adB base) 5), .ref ((adB base) 222), .null])) (show (220 : Nat) ≠ 0 by first | decide | assumption | omega)).trans hh62
  rw [← e_mem64] at hh72
  have hh73 := (va_up_ne mem53 (.inr (6, [.ref ((adB base) 1), .ref ((adB base) 3), .ref ((adB base) 5), .ref ((adB base) 222), .null])) (show (221 : Nat) ≠ 0 by first | decide | assumption | omega)).trans hh63
  rw [← e_mem64] at hh73
  have hh74 := (va_up_ne mem53 (.inr (6, [.ref ((adB base) 1), .ref ((adB base) 3), .ref ((adB base) 5), .ref ((adB base) 222), .null])) (show (222 : Nat) ≠ 0 by first | decide | assumption | omega)).trans a222
  rw [← e_mem64] at hh74
  refine lv_aload_n Bx.1 Bx.2.1 d_Ab_init_61 rfl (lv_at hl 0 rfl) ?_
  refine c_size (n := 223) hP (by omega) (by omega) (fun hz => ?_)
  refine f_new (ci := 1) (n := 223) Bx hP hS hz rfl inCt tyCt okCt kw_158 kw_159 kw_7 [.null, .null, .int (0)] (by intro j hj; match j, hj with | 0, _ => rfl | 1, _ => rfl | 2, _ => rfl) (Nat.le_of_ble_eq_true rfl) (Nat.le_of_ble_eq_true rfl) d_Ab_init_62 (fun H hP hS hz => ?_)
  obtain ⟨mem75, e_mem75⟩ : ∃ z, z = va_up mem64 (223) (.inr (1, [.null, .null, .int (0)])) := ⟨_, rfl⟩
  have hP : va_P D vcl (fw 224 (adB base) mem75) H := by rw [e_mem75]; exact hP
  have h_mem75 : mem75 (223) = .inr (1, [.null, .null, .int (0)]) := by rw [e_mem75, va_up_self]
  have hh76 := (va_up_ne mem64 (.inr (1, [.null, .null, .int (0)])) (show (0 : Nat) ≠ 223 by first | decide | assumption | omega)).trans h_mem64
  rw [← e_mem75] at hh76
  have hh77 := (va_up_ne mem64 (.inr (1, [.null, .null, .int (0)])) (show (1 : Nat) ≠ 223 by first | decide | assumption | omega)).trans hh65
  rw [← e_mem75] at hh77
  have hh78 := (va_up_ne mem64 (.inr (1, [.null, .null, .int (0)])) (show (2 : Nat) ≠ 223 by first | decide | assumption | omega)).trans hh66
  rw [← e_mem75] at hh78
  have hh79 := (va_up_ne mem64 (.inr (1, [.null, .null, .int (0)])) (show (3 : Nat) ≠ 223 by first | decide | assumption | omega)).trans hh67
  rw [← e_mem75] at hh79
  have hh80 := (va_up_ne mem64 (.inr (1, [.null, .null, .int (0)])) (show (4 : Nat) ≠ 223 by first | decide | assumption | omega)).trans hh68
  rw [← e_mem75] at hh80
  have hh81 := (va_up_ne mem64 (.inr (1, [.null, .null, .int (0)])) (show (5 : Nat) ≠ 223 by first | decide | assumption | omega)).trans hh69
  rw [← e_mem75] at hh81
  have hh82 := (va_up_ne mem64 (.inr (1, [.null, .null, .int (0)])) (show (6 : Nat) ≠ 223 by first | decide | assumption | omega)).trans hh70
  rw [← e_mem75] at hh82
  have hh83 := (va_up_ne mem64 (.inr (1, [.null, .null, .int (0)])) (show (19 : Nat) ≠ 223 by first | decide | assumption | omega)).trans hh71
  rw [← e_mem75] at hh83
  have hh84 := (va_up_ne mem64 (.inr (1, [.null, .null, .int (0)])) (show (220 : Nat) ≠ 223 by first | decide | assumption | omega)).trans hh72
  rw [← e_mem75] at hh84
  have hh85 := (va_up_ne mem64 (.inr (1, [.null, .null, .int (0)])) (show (221 : Nat) ≠ 223 by first | decide | assumption | omega)).trans hh73
  rw [← e_mem75] at hh85
  have hh86 := (va_up_ne mem64 (.inr (1, [.null, .null, .int (0)])) (show (222 : Nat) ≠ 223 by first | decide | assumption | omega)).trans hh74
  rw [← e_mem75] at hh86
  refine lv_dup Bx.1 Bx.2.1 d_Ab_init_65 rfl ?_
  refine lv_aload_n Bx.1 Bx.2.1 d_Ab_init_66 rfl (lv_at hl 0 rfl) ?_
  refine f_get Bx hP (by omega) hh76 rfl inAb 1 (by decide) kw_175 rfl rfl d_Ab_init_67 ?_
  refine lv_aload_n Bx.1 Bx.2.1 d_Ab_init_70 rfl (lv_at hl 0 rfl) ?_
  refine f_get Bx hP (by omega) hh76 rfl inAb 2 (by decide) kw_176 rfl rfl d_Ab_init_71 ?_
  refine c_size (n := 224) hP (by omega) (by omega) (fun hz => ?_)
  refine f_callI (na := 2) (n := 224) (j := 223) (As := [.ref ((adB base) 3), .ref ((adB base) 5)]) (rest := [.ref ((adB base) 223), .ref ((adB base) 0)]) Bx hml E hP hS hbz hz (m_Ct_init (n := 224) (j := 223) l hbz (by omega) h_mem75) kw_160 kw_161 kw_7 kw_162 rfl (by decide +kernel) ⟨rfl, rfl⟩ ⟨Nat.le_of_ble_eq_true rfl, Nat.le_of_ble_eq_true rfl⟩ rfl hl.1 (Nat.le_of_ble_eq_true rfl) d_Ab_init_74 ⟨Nat.le_of_ble_eq_true rfl, Nat.le_of_ble_eq_true rfl⟩ (fun mem87 H locs hq6 hP hS hz => ?_)
  have hh88 : mem87 (0) = .inr (6, [.ref ((adB base) 1), .ref ((adB base) 3), .ref ((adB base) 5), .ref ((adB base) 222), .null]) := by rw [hq6]; (try unfold chM); rw [va_up_ne _ _ (by first | decide | assumption | omega)]; exact hh76
  have hh89 : mem87 (1) = .inr (0, [.ref ((adB base) 2), .int (0)]) := by rw [hq6]; (try unfold chM); rw [va_up_ne _ _ (by first | decide | assumption | omega)]; exact hh77
  have hh90 : mem87 (2) = .inl (cy 0, 240, .inl (fun _ => 0)) := by rw [hq6]; (try unfold chM); rw [va_up_ne _ _ (by first | decide | assumption | omega)]; exact hh78
  have hh91 : mem87 (3) = .inr (0, [.ref ((adB base) 4), .int (0)]) := by rw [hq6]; (try unfold chM); rw [va_up_ne _ _ (by first | decide | assumption | omega)]; exact hh79
  have hh92 : mem87 (4) = .inl (cy 0, 24, .inl (fun _ => 0)) := by rw [hq6]; (try unfold chM); rw [va_up_ne _ _ (by first | decide | assumption | omega)]; exact hh80
  have hh93 : mem87 (5) = .inr (3, [.ref ((adB base) 6), .ref ((adB base) 19), .ref ((adB base) 220), .int (0), .int (0), .int (0)]) := by rw [hq6]; (try unfold chM); rw [va_up_ne _ _ (by first | decide | assumption | omega)]; exact hh81
  have hh94 : mem87 (6) = gaC (cy 5) 12 (rfB base 7 12) := by rw [hq6]; (try unfold chM); rw [va_up_ne _ _ (by first | decide | assumption | omega)]; exact hh82
  have hh95 : mem87 (19) = gaC (cy 4) 100 (rf2 base 100) := by rw [hq6]; (try unfold chM); rw [va_up_ne _ _ (by first | decide | assumption | omega)]; exact hh83
  have hh96 : mem87 (220) = .inr (0, [.ref ((adB base) 221), .int 0]) := by rw [hq6]; (try unfold chM); rw [va_up_ne _ _ (by first | decide | assumption | omega)]; exact hh84
  have hh97 : mem87 (221) = .inl (cy 0, 240, .inl (fun _ => 0)) := by rw [hq6]; (try unfold chM); rw [va_up_ne _ _ (by first | decide | assumption | omega)]; exact hh85
  have hh98 : mem87 (222) = .inr (4, [.ref ((adB base) 1), .ref ((adB base) 5), .int (0), .int ((-1))]) := by rw [hq6]; (try unfold chM); rw [va_up_ne _ _ (by first | decide | assumption | omega)]; exact hh86
  have a223 : mem87 223 = .inr (1, [.ref ((adB base) 3), .ref ((adB base) 5), .int 0]) := by rw [hq6, va_up_self]
  refine f_putF Bx hin hP (adB_D hbz) hS (by omega) hh88 rfl inAb tyAb okAb nmAb 4 (by decide) kw_178 rfl rfl rfl rfl (Nat.le_of_ble_eq_true rfl) d_Ab_init_77 (fun H locs hP hS => ?_)
  obtain ⟨mem99, e_mem99⟩ : ∃ z, z = va_up mem87 (0) (.inr (6, [.ref ((adB base) 1), .ref ((adB base) 3), .ref ((adB base) 5), .ref ((adB base) 222), .ref ((adB base) 223)])) := ⟨_, rfl⟩
  have hP : va_P D vcl (fw 224 (adB base) mem99) H := by rw [e_mem99]; exact hP
  have h_mem99 : mem99 (0) = .inr (6, [.ref ((adB base) 1), .ref ((adB base) 3), .ref ((adB base) 5), .ref ((adB base) 222), .ref ((adB base) 223)]) := by rw [e_mem99, va_up_self]
  have hh100 := (va_up_ne mem87 (.inr (6, [.ref ((adB base) 1), .ref ((adB base) 3), .ref ((adB base) 5), .ref ((adB base) 222), .ref ((adB base) 223)])) (show (1 : Nat) ≠ 0 by first | decide | assumption | omega)).trans hh89
  rw [← e_mem99] at hh100
  have hh101 := (va_up_ne mem87 (.inr (6, [.ref ((adB base) 1), .ref ((adB base) 3), .ref ((adB base) 5), .ref ((adB base) 222), .ref ((adB base) 223)])) (show (2 : Nat) ≠ 0 by first | decide | assumption | omega)).trans hh90
  rw [← e_mem99] at hh101
  have hh102 := (va_up_ne mem87 (.inr (6, [.ref ((adB base) 1), .ref ((adB base) 3), .ref ((adB base) 5), .ref ((adB base) 222), .ref ((adB base) 223)])) (show (3 : Nat) ≠ 0 by first | decide | assumption | omega)).trans hh91
  rw [← e_mem99] at hh102
  have hh103 := (va_up_ne mem87 (.inr (6, [.ref ((adB base) 1), .ref ((adB base) 3), .ref ((adB base) 5), .ref ((adB base) 222), .ref ((adB base) 223)])) (show (4 : Nat) ≠ 0 by first | decide | assumption | omega)).trans hh92
  rw [← e_mem99] at hh103
  have hh104 := (va_up_ne mem87 (.inr (6, [.ref ((adB base) 1), .ref ((adB base) 3), .ref ((adB base) 5), .ref ((adB base) 222), .ref ((adB base) 223)])) (show (5 : Nat) ≠ 0 by first | decide | assumption | omega)).trans hh93
  rw [← e_mem99] at hh104
  have hh105 := (va_up_ne mem87 (.inr (6, [.ref ((adB base) 1), .ref ((adB base) 3), .ref ((adB base) 5), .ref ((adB base) 222), .ref ((adB base) 223)])) (show (6 : Nat) ≠ 0 by first | decide | assumption | omega)).trans hh94
  rw [← e_mem99] at hh105
  have hh106 := (va_up_ne mem87 (.inr (6, [.ref ((adB base) 1), .ref ((adB base) 3), .ref ((adB base) 5), .ref ((adB base) 222), .ref ((adB base) 223)])) (show (19 : Nat) ≠ 0 by first | decide | assumption | omega)).trans hh95
  rw [← e_mem99] at hh106
  have hh107 := (va_up_ne mem87 (.inr (6, [.ref ((adB base) 1), .ref ((adB base) 3), .ref ((adB base) 5), .ref ((adB base) 222), .ref ((adB base) 223)])) (show (220 : Nat) ≠ 0 by first | decide | assumption | omega)).trans hh96
  rw [← e_mem99] at hh107
  have hh108 := (va_up_ne mem87 (.inr (6, [.ref ((adB base) 1), .ref ((adB base) 3), .ref ((adB base) 5), .ref ((adB base) 222), .ref ((adB base) 223)])) (show (221 : Nat) ≠ 0 by first | decide | assumption | omega)).trans hh97
  rw [← e_mem99] at hh108
  have hh109 := (va_up_ne mem87 (.inr (6, [.ref ((adB base) 1), .ref ((adB base) 3), .ref ((adB base) 5), .ref ((adB base) 222), .ref ((adB base) 223)])) (show (222 : Nat) ≠ 0 by first | decide | assumption | omega)).trans hh98
  rw [← e_mem99] at hh109
  have hh110 := (va_up_ne mem87 (.inr (6, [.ref ((adB base) 1), .ref ((adB base) 3), .ref ((adB base) 5), .ref ((adB base) 222), .ref ((adB base) 223)])) (show (223 : Nat) ≠ 0 by first | decide | assumption | omega)).trans a223
  rw [← e_mem99] at hh110
  have ne : ∀ i, 6 ≤ i → i < 222 → mem99 i = mem26 i := fun i a b => by rw [e_mem99, va_up_ne _ _ (by omega), hq6, va_up_ne _ _ (by omega), e_mem75, va_up_ne _ _ (by omega), e_mem64, va_up_ne _ _ (by omega), hq5, va_up_ne _ _ (by omega), e_mem42, va_up_ne _ _ (by omega), e_mem32, va_up_ne _ _ (by omega)]
  refine c_size (n := 224) hP (by omega) (by omega) (fun hz => ?_)
  refine W.widen (k := 223) (n := 3871) (Nat.le_of_ble_eq_true rfl) (Nat.le_of_ble_eq_true rfl) ?_
  exact W.vret hx hb hr (fun t ht hW => ⟨⟨mem99, rfl, ⟨h_mem99, hh100, hh101, hh102, hh103, hh104, hh105, fun i hi => (ne _ (by omega) (by omega)).trans (g7 i hi), hh106, fun i hi => ⟨(ne _ (by omega) (by omega)).trans (g20 i hi).1, (ne _ (by omega) (by omega)).trans (g20 i hi).2⟩, hh107, hh108, hh109, hh110⟩, by rw [ht]; exact hP, by rw [ht]; exact hz⟩, hS.F ht⟩) hS.2.2 d_Ab_init_80
/-- a new AbnfChartModel: cells 224 to 241 -/
def YI (cy : Nat → ClassId) (base : Nat) (mk : Nat → va_E) : Prop :=
  mk 224 = .inr (7, [.int (0), .int (0), .ref ((adB base) 225), .int ((-1)), .int (0), .ref ((adB base) 226), .ref ((adB base) 227), .int (0), .ref ((adB base) 228), .ref ((adB base) 229), .ref ((adB base) 230), .ref ((adB base) 231), .ref ((adB base) 232), .ref ((adB base) 233), .int (0), .ref ((adB base) 234), .int (0), .int (0), .int (0), .ref ((adB base) 235), .ref ((adB base) 236), .ref ((adB base) 237), .ref ((adB base) 238), .ref ((adB base) 239), .int (0), .ref ((adB base) 240), .int (1), .ref ((adB base) 241), .int (0)]) ∧ mk 225 = .inl (cy 1, 240, .inl (fun _ => 0)) ∧ mk 226 = .inl (cy 2, 12, .inr (.inl (fun _ => 0))) ∧ mk 227 = .inl (cy 1, 12, .inl (fun _ => 0)) ∧ mk 228 = .inl (cy 1, 100, .inl (fun _ => 0)) ∧ mk 229 = .inl (cy 1, 100, .inl (fun _ => 0)) ∧ mk 230 = .inl (cy 1, 100, .inl (fun _ => 0)) ∧ mk 231 = .inl (cy 3, 100, .inl (fun _ => 0)) ∧ mk 232 = .inl (cy 1, 100, .inl (fun _ => 0)) ∧ mk 233 = .inl (cy 1, 100, .inl (fun _ => 0)) ∧ mk 234 = .inl (cy 1, 400, .inl (fun _ => 0)) ∧ mk 235 = .inl (cy 1, 8, .inl (fun _ => 0)) ∧ mk 236 = .inl (cy 1, 8, .inl (fun _ => 0)) ∧ mk 237 = .inl (cy 1, 8, .inl (fun _ => 0)) ∧ mk 238 = .inl (cy 1, 8, .inl (fun _ => 0)) ∧ mk 239 = .inl (cy 1, 8, .inl (fun _ => 0)) ∧ mk 240 = .inl (cy 1, 24, .inl (fun _ => 0)) ∧ mk 241 = .inl (cy 1, 2500, .inl (fun _ => 0))
set_option maxHeartbeats 4000000 in
set_option maxRecDepth 100000 in
theorem m_Mo_init (l : Launch) {D : va_G} {cy : Nat → ClassId} {sz base : Nat} {mem : Nat → va_E}  (hbz : sz ≤ base) (h0 : mem 224 = .inr (7, [.int (0), .int (0), .null, .int (0), .int (0), .null, .null, .int (0), .null, .null, .null, .null, .null, .null, .int (0), .null, .int (0), .int (0), .int (0), .null, .null, .null, .null, .null, .int (0), .null, .int (0), .null, .int (0)])) : MC l D cy sz base 225 242 y_Mo_init c_Mo_init 1 ({ frames := 1, cells := 17, slots := 3828, locals := 12 } : Room) mem [.ref ((adB base) 224)] (fun mem' => YI cy base mem' ∧ ∀ i, i < 224 → mem' i = mem i) 17 3828 := by
  refine Met.ofW (cc := c_Mo_init) (maxL := 1) (ret := none) (by decide) rfl ?_
  intro p e s m args below meth c s₁ B hml hv
  obtain ⟨rfl, ⟨E, hP, -⟩, hs0⟩ := hv
  have hx := B.exec
  have hb := B.bytes
  have hr := B.returns
  have hlocks := B.notSynchronized
  have Bx : MB p s m [.ref ((adB base) 224)].toArray c c_Mo_init "AbnfChartModel" D cy := ⟨hx, hb, tb_all (atoms_spec B.pre) E.2.1, findClass_of_methodNamed B.named, E.1⟩
  have hS : va_S (Az sz) s.heap s.heap [] := va_S.rf
  have hin : meth.name = "<init>" := (name_of_methodNamed B.named B.method).1
  have hl := lv_entry ([.ref ((adB base) 224)]) (n := 1) (Nat.le_of_ble_eq_true rfl)
  rw [lg_entry_eq]
  generalize (lg_sl ([.ref ((adB base) 224)]) ++ List.replicate (1 - (lg_sl ([.ref ((adB base) 224)])).length) Slot.unset).toArray = ls at hl ⊢
  have hl : lv_has ls 1 [(0, .ref ((adB base) 224))] := hl
  refine lv_aload_n Bx.1 Bx.2.1 d_Mo_init_0 rfl (lv_at hl 0 rfl) ?_
  refine W.objInit hx hb Bx.2.2.2.1 (Bx.2.2.1 _ (tb_g kw_655 rfl)) (Bx.2.2.1 _ (tb_g kw_23 rfl)) (Bx.2.2.1 _ (tb_g kw_24 rfl)) rfl (by rw [hml]; exact hl.1) rfl d_Mo_init_1 (Nat.le_of_ble_eq_true rfl) (Nat.le_of_ble_eq_true rfl) ?_
  refine W.eq (g2 := F0 m 4 ls []) rfl ?_
  refine lv_aload_n Bx.1 Bx.2.1 d_Mo_init_4 rfl (lv_at hl 0 rfl) ?_
  refine lv_sipush (v := 240) Bx.1 Bx.2.1 d_Mo_init_5 (by decide) ?_
  refine c_size (n := 225) hP (by omega) (by omega) (fun hz => ?_)
  refine f_newa (atype := .int) (n := 225) (t0 := 1) (N' := 240) Bx hP hS hz kw_110 (Bx.2.2.2.2.2 1 _ rfl).2 (240, .inl (fun _ => 0)) (fun _ => rfl) (by decide) (by decide) (by decide) (Nat.le_of_ble_eq_true rfl) (Nat.le_of_ble_eq_true rfl) d_Mo_init_8 (fun H hP hS hz => ?_)
  obtain ⟨mem1, e_mem1⟩ : ∃ z, z = va_up mem (225) (.inl (cy 1, (240, .inl (fun _ => 0)))) := ⟨_, rfl⟩
  have hP : va_P D vcl (fw 226 (adB base) mem1) H := by rw [e_mem1]; exact hP
  have h_mem1 : mem1 (225) = .inl (cy 1, (240, .inl (fun _ => 0))) := by rw [e_mem1, va_up_self]
  have hh2 := (va_up_ne mem (.inl (cy 1, (240, .inl (fun _ => 0)))) (show (224 : Nat) ≠ 225 by first | decide | assumption | omega)).trans h0
  rw [← e_mem1] at hh2
  refine f_putF Bx hin hP (adB_D hbz) hS (by omega) hh2 rfl inMo tyMo okMo nmMo 2 (by decide) kw_658 rfl rfl rfl rfl (Nat.le_of_ble_eq_true rfl) d_Mo_init_10 (fun H locs hP hS => ?_)
  obtain ⟨mem3, e_mem3⟩ : ∃ z, z = va_up mem1 (224) (.inr (7, [.int (0), .int (0), .ref ((adB base) 225), .int (0), .int (0), .null, .null, .int (0), .null, .null, .null, .null, .null, .null, .int (0), .null, .int (0), .int (0), .int (0), .null, .null, .null, .null, .null, .int (0), .null, .int (0), .null, .int (0)])) := ⟨_, rfl⟩
  have hP : va_P D vcl (fw 226 (adB base) mem3) H := by rw [e_mem3]; exact hP
  have h_mem3 : mem3 (224) = .inr (7, [.int (0), .int (0), .ref ((adB base) 225), .int (0), .int (0), .null, .null, .int (0), .null, .null, .null, .null, .null, .null, .int (0), .null, .int (0), .int (0), .int (0), .null, .null, .null, .null, .null, .int (0), .null, .int (0), .null, .int (0)]) := by rw [e_mem3, va_up_self]
  have hh4 := (va_up_ne mem1 (.inr (7, [.int (0), .int (0), .ref ((adB base) 225), .int (0), .int (0), .null, .null, .int (0), .null, .null, .null, .null, .null, .null, .int (0), .null, .int (0), .int (0), .int (0), .null, .null, .null, .null, .null, .int (0), .null, .int (0), .null, .int (0)])) (show (225 : Nat) ≠ 224 by first | decide | assumption | omega)).trans h_mem1
  rw [← e_mem3] at hh4
  refine lv_aload_n Bx.1 Bx.2.1 d_Mo_init_13 rfl (lv_at hl 0 rfl) ?_
  refine lv_iconst (v := -1) Bx.1 Bx.2.1 d_Mo_init_14 (by decide) ?_
  refine f_put Bx hP (adB_D hbz) hS (by omega) h_mem3 rfl inMo tyMo okMo nmMo 3 (by decide) kw_659 rfl rfl rfl rfl (Nat.le_of_ble_eq_true rfl) d_Mo_init_15 (fun H locs hP hS => ?_)
  obtain ⟨mem5, e_mem5⟩ : ∃ z, z = va_up mem3 (224) (.inr (7, [.int (0), .int (0), .ref ((adB base) 225), .int ((-1)), .int (0), .null, .null, .int (0), .null, .null, .null, .null, .null, .null, .int (0), .null, .int (0), .int (0), .int (0), .null, .null, .null, .null, .null, .int (0), .null, .int (0), .null, .int (0)])) := ⟨_, rfl⟩
  have hP : va_P D vcl (fw 226 (adB base) mem5) H := by rw [e_mem5]; exact hP
  have h_mem5 : mem5 (224) = .inr (7, [.int (0), .int (0), .ref ((adB base) 225), .int ((-1)), .int (0), .null, .null, .int (0), .null, .null, .null, .null, .null, .null, .int (0), .null, .int (0), .int (0), .int (0), .null, .null, .null, .null, .null, .int (0), .null, .int (0), .null, .int (0)]) := by rw [e_mem5, va_up_self]
  have hh6 := (va_up_ne mem3 (.inr (7, [.int (0), .int (0), .ref ((adB base) 225), .int ((-1)), .int (0), .null, .null, .int (0), .null, .null, .null, .null, .null, .null, .int (0), .null, .int (0), .int (0), .int (0), .null, .null, .null, .null, .null, .int (0), .null, .int (0), .null, .int (0)])) (show (225 : Nat) ≠ 224 by first | decide | assumption | omega)).trans hh4
  rw [← e_mem5] at hh6
  refine lv_aload_n Bx.1 Bx.2.1 d_Mo_init_18 rfl (lv_at hl 0 rfl) ?_
  refine lv_bipush (v := 12) Bx.1 Bx.2.1 d_Mo_init_19 (by decide) ?_
  refine c_size (n := 226) hP (by omega) (by omega) (fun hz => ?_)
  refine f_newa (atype := .long) (n := 226) (t0 := 2) (N' := 12) Bx hP hS hz kw_744 (Bx.2.2.2.2.2 2 _ rfl).2 (12, .inr (.inl (fun _ => 0))) (fun _ => rfl) (by decide) (by decide) (by decide) (Nat.le_of_ble_eq_true rfl) (Nat.le_of_ble_eq_true rfl) d_Mo_init_21 (fun H hP hS hz => ?_)
  obtain ⟨mem7, e_mem7⟩ : ∃ z, z = va_up mem5 (226) (.inl (cy 2, (12, .inr (.inl (fun _ => 0))))) := ⟨_, rfl⟩
  have hP : va_P D vcl (fw 227 (adB base) mem7) H := by rw [e_mem7]; exact hP
  have h_mem7 : mem7 (226) = .inl (cy 2, (12, .inr (.inl (fun _ => 0)))) := by rw [e_mem7, va_up_self]
  have hh8 := (va_up_ne mem5 (.inl (cy 2, (12, .inr (.inl (fun _ => 0))))) (show (224 : Nat) ≠ 226 by first | decide | assumption | omega)).trans h_mem5
  rw [← e_mem7] at hh8
  have hh9 := (va_up_ne mem5 (.inl (cy 2, (12, .inr (.inl (fun _ => 0))))) (show (225 : Nat) ≠ 226 by first | decide | assumption | omega)).trans hh6
  rw [← e_mem7] at hh9
  refine f_putF Bx hin hP (adB_D hbz) hS (by omega) hh8 rfl inMo tyMo okMo nmMo 5 (by decide) kw_661 rfl rfl rfl rfl (Nat.le_of_ble_eq_true rfl) d_Mo_init_23 (fun H locs hP hS => ?_)
  obtain ⟨mem10, e_mem10⟩ : ∃ z, z = va_up mem7 (224) (.inr (7, [.int (0), .int (0), .ref ((adB base) 225), .int ((-1)), .int (0), .ref ((adB base) 226), .null, .int (0), .null, .null, .null, .null, .null, .null, .int (0), .null, .int (0), .int (0), .int (0), .null, .null, .null, .null, .null, .int (0), .null, .int (0), .null, .int (0)])) := ⟨_, rfl⟩
  have hP : va_P D vcl (fw 227 (adB base) mem10) H := by rw [e_mem10]; exact hP
  have h_mem10 : mem10 (224) = .inr (7, [.int (0), .int (0), .ref ((adB base) 225), .int ((-1)), .int (0), .ref ((adB base) 226), .null, .int (0), .null, .null, .null, .null, .null, .null, .int (0), .null, .int (0), .int (0), .int (0), .null, .null, .null, .null, .null, .int (0), .null, .int (0), .null, .int (0)]) := by rw [e_mem10, va_up_self]
  have hh11 := (va_up_ne mem7 (.inr (7, [.int (0), .int (0), .ref ((adB base) 225), .int ((-1)), .int (0), .ref ((adB base) 226), .null, .int (0), .null, .null, .null, .null, .null, .null, .int (0), .null, .int (0), .int (0), .int (0), .null, .null, .null, .null, .null, .int (0), .null, .int (0), .null, .int (0)])) (show (225 : Nat) ≠ 224 by first | decide | assumption | omega)).trans hh9
  rw [← e_mem10] at hh11
  have hh12 := (va_up_ne mem7 (.inr (7, [.int (0), .int (0), .ref ((adB base) 225), .int ((-1)), .int (0), .ref ((adB base) 226), .null, .int (0), .null, .null, .null, .null, .null, .null, .int (0), .null, .int (0), .int (0), .int (0), .null, .null, .null, .null, .null, .int (0), .null, .int (0), .null, .int (0)])) (show (226 : Nat) ≠ 224 by first | decide | assumption | omega)).trans h_mem7
  rw [← e_mem10] at hh12
  refine lv_aload_n Bx.1 Bx.2.1 d_Mo_init_26 rfl (lv_at hl 0 rfl) ?_
  refine lv_bipush (v := 12) Bx.1 Bx.2.1 d_Mo_init_27 (by decide) ?_
  refine c_size (n := 227) hP (by omega) (by omega) (fun hz => ?_)
  refine f_newa (atype := .int) (n := 227) (t0 := 1) (N' := 12) Bx hP hS hz kw_110 (Bx.2.2.2.2.2 1 _ rfl).2 (12, .inl (fun _ => 0)) (fun _ => rfl) (by decide) (by decide) (by decide) (Nat.le_of_ble_eq_true rfl) (Nat.le_of_ble_eq_true rfl) d_Mo_init_29 (fun H hP hS hz => ?_)
  obtain ⟨mem13, e_mem13⟩ : ∃ z, z = va_up mem10 (227) (.inl (cy 1, (12, .inl (fun _ => 0)))) := ⟨_, rfl⟩
  have hP : va_P D vcl (fw 228 (adB base) mem13) H := by rw [e_mem13]; exact hP
  have h_mem13 : mem13 (227) = .inl (cy 1, (12, .inl (fun _ => 0))) := by rw [e_mem13, va_up_self]
  have hh14 := (va_up_ne mem10 (.inl (cy 1, (12, .inl (fun _ => 0)))) (show (224 : Nat) ≠ 227 by first | decide | assumption | omega)).trans h_mem10
  rw [← e_mem13] at hh14
  have hh15 := (va_up_ne mem10 (.inl (cy 1, (12, .inl (fun _ => 0)))) (show (225 : Nat) ≠ 227 by first | decide | assumption | omega)).trans hh11
  rw [← e_mem13] at hh15
  have hh16 := (va_up_ne mem10 (.inl (cy 1, (12, .inl (fun _ => 0)))) (show (226 : Nat) ≠ 227 by first | decide | assumption | omega)).trans hh12
  rw [← e_mem13] at hh16
  refine f_putF Bx hin hP (adB_D hbz) hS (by omega) hh14 rfl inMo tyMo okMo nmMo 6 (by decide) kw_662 rfl rfl rfl rfl (Nat.le_of_ble_eq_true rfl) d_Mo_init_31 (fun H locs hP hS => ?_)
  obtain ⟨mem17, e_mem17⟩ : ∃ z, z = va_up mem13 (224) (.inr (7, [.int (0), .int (0), .ref ((adB base) 225), .int ((-1)), .int (0), .ref ((adB base) 226), .ref ((adB base) 227), .int (0), .null, .null, .null, .null, .null, .null, .int (0), .null, .int (0), .int (0), .int (0), .null, .null, .null, .null, .null, .int (0), .null, .int (0), .null, .int (0)])) := ⟨_, rfl⟩
  have hP : va_P D vcl (fw 228 (adB base) mem17) H := by rw [e_mem17]; exact hP
  have h_mem17 : mem17 (224) = .inr (7, [.int (0), .int (0), .ref ((adB base) 225), .int ((-1)), .int (0), .ref ((adB base) 226), .ref ((adB base) 227), .int (0), .null, .null, .null, .null, .null, .null, .int (0), .null, .int (0), .int (0), .int (0), .null, .null, .null, .null, .null, .int (0), .null, .int (0), .null, .int (0)]) := by rw [e_mem17, va_up_self]
  have hh18 := (va_up_ne mem13 (.inr (7, [.int (0), .int (0), .ref ((adB base) 225), .int ((-1)), .int (0), .ref ((adB base) 226), .ref ((adB base) 227), .int (0), .null, .null, .null, .null, .null, .null, .int (0), .null, .int (0), .int (0), .int (0), .null, .null, .null, .null, .null, .int (0), .null, .int (0), .null, .int (0)])) (show (225 : Nat) ≠ 224 by first | decide | assumption | omega)).trans hh15
  rw [← e_mem17] at hh18
  have hh19 := (va_up_ne mem13 (.inr (7, [.int (0), .int (0), .ref ((adB base) 225), .int ((-1)), .int (0), .ref ((adB base) 226), .ref ((adB base) 227), .int (0), .null, .null, .null, .null, .null, .null, .int (0), .null, .int (0), .int (0), .int (0), .null, .null, .null, .null, .null, .int (0), .null, .int (0), .null, .int (0)])) (show (226 : Nat) ≠ 224 by first | decide | assumption | omega)).trans hh16
  rw [← e_mem17] at hh19
  have hh20 := (va_up_ne mem13 (.inr (7, [.int (0), .int (0), .ref ((adB base) 225), .int ((-1)), .int (0), .ref ((adB base) 226), .ref ((adB base) 227), .int (0), .null, .null, .null, .null, .null, .null, .int (0), .null, .int (0), .int (0), .int (0), .null, .null, .null, .null, .null, .int (0), .null, .int (0), .null, .int (0)])) (show (227 : Nat) ≠ 224 by first | decide | assumption | omega)).trans h_mem13
  rw [← e_mem17] at hh20
  refine lv_aload_n Bx.1 Bx.2.1 d_Mo_init_34 rfl (lv_at hl 0 rfl) ?_
  refine lv_bipush (v := 100) Bx.1 Bx.2.1 d_Mo_init_35 (by decide) ?_
  refine c_size (n := 228) hP (by omega) (by omega) (fun hz => ?_)
  refine f_newa (atype := .int) (n := 228) (t0 := 1) (N' := 100) Bx hP hS hz kw_110 (Bx.2.2.2.2.2 1 _ rfl).2 (100, .inl (fun _ => 0)) (fun _ => rfl) (by decide) (by decide) (by decide) (Nat.le_of_ble_eq_true rfl) (Nat.le_of_ble_eq_true rfl) d_Mo_init_37 (fun H hP hS hz => ?_)
  obtain ⟨mem21, e_mem21⟩ : ∃ z, z = va_up mem17 (228) (.inl (cy 1, (100, .inl (fun _ => 0)))) := ⟨_, rfl⟩
  have hP : va_P D vcl (fw 229 (adB base) mem21) H := by rw [e_mem21]; exact hP
  have h_mem21 : mem21 (228) = .inl (cy 1, (100, .inl (fun _ => 0))) := by rw [e_mem21, va_up_self]
  have hh22 := (va_up_ne mem17 (.inl (cy 1, (100, .inl (fun _ => 0)))) (show (224 : Nat) ≠ 228 by first | decide | assumption | omega)).trans h_mem17
  rw [← e_mem21] at hh22
  have hh23 := (va_up_ne mem17 (.inl (cy 1, (100, .inl (fun _ => 0)))) (show (225 : Nat) ≠ 228 by first | decide | assumption | omega)).trans hh18
  rw [← e_mem21] at hh23
  have hh24 := (va_up_ne mem17 (.inl (cy 1, (100, .inl (fun _ => 0)))) (show (226 : Nat) ≠ 228 by first | decide | assumption | omega)).trans hh19
  rw [← e_mem21] at hh24
  have hh25 := (va_up_ne mem17 (.inl (cy 1, (100, .inl (fun _ => 0)))) (show (227 : Nat) ≠ 228 by first | decide | assumption | omega)).trans hh20
  rw [← e_mem21] at hh25
  refine f_putF Bx hin hP (adB_D hbz) hS (by omega) hh22 rfl inMo tyMo okMo nmMo 8 (by decide) kw_664 rfl rfl rfl rfl (Nat.le_of_ble_eq_true rfl) d_Mo_init_39 (fun H locs hP hS => ?_)
  obtain ⟨mem26, e_mem26⟩ : ∃ z, z = va_up mem21 (224) (.inr (7, [.int (0), .int (0), .ref ((adB base) 225), .int ((-1)), .int (0), .ref ((adB base) 226), .ref ((adB base) 227), .int (0), .ref ((adB base) 228), .null, .null, .null, .null, .null, .int (0), .null, .int (0), .int (0), .int (0), .null, .null, .null, .null, .null, .int (0), .null, .int (0), .null, .int (0)])) := ⟨_, rfl⟩
  have hP : va_P D vcl (fw 229 (adB base) mem26) H := by rw [e_mem26]; exact hP
  have h_mem26 : mem26 (224) = .inr (7, [.int (0), .int (0), .ref ((adB base) 225), .int ((-1)), .int (0), .ref ((adB base) 226), .ref ((adB base) 227), .int (0), .ref ((adB base) 228), .null, .null, .null, .null, .null, .int (0), .null, .int (0), .int (0), .int (0), .null, .null, .null, .null, .null, .int (0), .null, .int (0), .null, .int (0)]) := by rw [e_mem26, va_up_self]
  have hh27 := (va_up_ne mem21 (.inr (7, [.int (0), .int (0), .ref ((adB base) 225), .int ((-1)), .int (0), .ref ((adB base) 226), .ref ((adB base) 227), .int (0), .ref ((adB base) 228), .null, .null, .null, .null, .null, .int (0), .null, .int (0), .int (0), .int (0), .null, .null, .null, .null, .null, .int (0), .null, .int (0), .null, .int (0)])) (show (225 : Nat) ≠ 224 by first | decide | assumption | omega)).trans hh23
  rw [← e_mem26] at hh27
  have hh28 := (va_up_ne mem21 (.inr (7, [.int (0), .int (0), .ref ((adB base) 225), .int ((-1)), .int (0), .ref ((adB base) 226), .ref ((adB base) 227), .int (0), .ref ((adB base) 228), .null, .null, .null, .null, .null, .int (0), .null, .int (0), .int (0), .int (0), .null, .null, .null, .null, .null, .int (0), .null, .int (0), .null, .int (0)])) (show (226 : Nat) ≠ 224 by first | decide | assumption | omega)).trans hh24
  rw [← e_mem26] at hh28
  have hh29 := (va_up_ne mem21 (.inr (7, [.int (0), .int (0), .ref ((adB base) 225), .int ((-1)), .int (0), .ref ((adB base) 226), .ref ((adB base) 227), .int (0), .ref ((adB base) 228), .null, .null, .null, .null, .null, .int (0), .null, .int (0), .int (0), .int (0), .null, .null, .null, .null, .null, .int (0), .null, .int (0), .null, .int (0)])) (show (227 : Nat) ≠ 224 by first | decide | assumption | omega)).trans hh25
  rw [← e_mem26] at hh29
  have hh30 := (va_up_ne mem21 (.inr (7, [.int (0), .int (0), .ref ((adB base) 225), .int ((-1)), .int (0), .ref ((adB base) 226), .ref ((adB base) 227), .int (0), .ref ((adB base) 228), .null, .null, .null, .null, .null, .int (0), .null, .int (0), .int (0), .int (0), .null, .null, .null, .null, .null, .int (0), .null, .int (0), .null, .int (0)])) (show (228 : Nat) ≠ 224 by first | decide | assumption | omega)).trans h_mem21
  rw [← e_mem26] at hh30
  refine lv_aload_n Bx.1 Bx.2.1 d_Mo_init_42 rfl (lv_at hl 0 rfl) ?_
  refine lv_bipush (v := 100) Bx.1 Bx.2.1 d_Mo_init_43 (by decide) ?_
  refine c_size (n := 229) hP (by omega) (by omega) (fun hz => ?_)
  refine f_newa (atype := .int) (n := 229) (t0 := 1) (N' := 100) Bx hP hS hz kw_110 (Bx.2.2.2.2.2 1 _ rfl).2 (100, .inl (fun _ => 0)) (fun _ => rfl) (by decide) (by decide) (by decide) (Nat.le_of_ble_eq_true rfl) (Nat.le_of_ble_eq_true rfl) d_Mo_init_45 (fun H hP hS hz => ?_)
  obtain ⟨mem31, e_mem31⟩ : ∃ z, z = va_up mem26 (229) (.inl (cy 1, (100, .inl (fun _ => 0)))) := ⟨_, rfl⟩
  have hP : va_P D vcl (fw 230 (adB base) mem31) H := by rw [e_mem31]; exact hP
  have h_mem31 : mem31 (229) = .inl (cy 1, (100, .inl (fun _ => 0))) := by rw [e_mem31, va_up_self]
  have hh32 := (va_up_ne mem26 (.inl (cy 1, (100, .inl (fun _ => 0)))) (show (224 : Nat) ≠ 229 by first | decide | assumption | omega)).trans h_mem26
  rw [← e_mem31] at hh32
  have hh33 := (va_up_ne mem26 (.inl (cy 1, (100, .inl (fun _ => 0)))) (show (225 : Nat) ≠ 229 by first | decide | assumption | omega)).trans hh27
  rw [← e_mem31] at hh33
  have hh34 := (va_up_ne mem26 (.inl (cy 1, (100, .inl (fun _ => 0)))) (show (226 : Nat) ≠ 229 by first | decide | assumption | omega)).trans hh28
  rw [← e_mem31] at hh34
  have hh35 := (va_up_ne mem26 (.inl (cy 1, (100, .inl (fun _ => 0)))) (show (227 : Nat) ≠ 229 by first | decide | assumption | omega)).trans hh29
  rw [← e_mem31] at hh35
  have hh36 := (va_up_ne mem26 (.inl (cy 1, (100, .inl (fun _ => 0)))) (show (228 : Nat) ≠ 229 by first | decide | assumption | omega)).trans hh30
  rw [← e_mem31] at hh36
  refine f_putF Bx hin hP (adB_D hbz) hS (by omega) hh32 rfl inMo tyMo okMo nmMo 9 (by decide) kw_665 rfl rfl rfl rfl (Nat.le_of_ble_eq_true rfl) d_Mo_init_47 (fun H locs hP hS => ?_)
  obtain ⟨mem37, e_mem37⟩ : ∃ z, z = va_up mem31 (224) (.inr (7, [.int (0), .int (0), .ref ((adB base) 225), .int ((-1)), .int (0), .ref ((adB base) 226), .ref ((adB base) 227), .int (0), .ref ((adB base) 228), .ref ((adB base) 229), .null, .null, .null, .null, .int (0), .null, .int (0), .int (0), .int (0), .null, .null, .null, .null, .null, .int (0), .null, .int (0), .null, .int (0)])) := ⟨_, rfl⟩
  have hP : va_P D vcl (fw 230 (adB base) mem37) H := by rw [e_mem37]; exact hP
  have h_mem37 : mem37 (224) = .inr (7, [.int (0), .int (0), .ref ((adB base) 225), .int ((-1)), .int (0), .ref ((adB base) 226), .ref ((adB base) 227), .int (0), .ref ((adB base) 228), .ref ((adB base) 229), .null, .null, .null, .null, .int (0), .null, .int (0), .int (0), .int (0), .null, .null, .null, .null, .null, .int (0), .null, .int (0), .null, .int (0)]) := by rw [e_mem37, va_up_self]
  have hh38 := (va_up_ne mem31 (.inr (7, [.int (0), .int (0), .ref ((adB base) 225), .int ((-1)), .int (0), .ref ((adB base) 226), .ref ((adB base) 227), .int (0), .ref ((adB base) 228), .ref ((adB base) 229), .null, .null, .null, .null, .int (0), .null, .int (0), .int (0), .int (0), .null, .null, .null, .null, .null, .int (0), .null, .int (0), .null, .int (0)])) (show (225 : Nat) ≠ 224 by first | decide | assumption | omega)).trans hh33
  rw [← e_mem37] at hh38
  have hh39 := (va_up_ne mem31 (.inr (7, [.int (0), .int (0), .ref ((adB base) 225), .int ((-1)), .int (0), .ref ((adB base) 226), .ref ((adB base) 227), .int (0), .ref ((adB base) 228), .ref ((adB base) 229), .null, .null, .null, .null, .int (0), .null, .int (0), .int (0), .int (0), .null, .null, .null, .null, .null, .int (0), .null, .int (0), .null, .int (0)])) (show (226 : Nat) ≠ 224 by first | decide | assumption | omega)).trans hh34
  rw [← e_mem37] at hh39
  have hh40 := (va_up_ne mem31 (.inr (7, [.int (0), .int (0), .ref ((adB base) 225), .int ((-1)), .int (0), .ref ((adB base) 226), .ref ((adB base) 227), .int (0), .ref ((adB base) 228), .ref ((adB base) 229), .null, .null, .null, .null, .int (0), .null, .int (0), .int (0), .int (0), .null, .null, .null, .null, .null, .int (0), .null, .int (0), .null, .int (0)])) (show (227 : Nat) ≠ 224 by first | decide | assumption | omega)).trans hh35
  rw [← e_mem37] at hh40
  have hh41 := (va_up_ne mem31 (.inr (7, [.int (0), .int (0), .ref ((adB base) 225), .int ((-1)), .int (0), .ref ((adB base) 226), .ref ((adB base) 227), .int (0), .ref ((adB base) 228), .ref ((adB base) 229), .null, .null, .null, .null, .int (0), .null, .int (0), .int (0), .int (0), .null, .null, .null, .null, .null, .int (0), .null, .int (0), .null, .int (0)])) (show (228 : Nat) ≠ 224 by first | decide | assumption | omega)).trans hh36
  rw [← e_mem37] at hh41
  have hh42 := (va_up_ne mem31 (.inr (7, [.int (0), .int (0), .ref ((adB base) 225), .int ((-1)), .int (0), .ref ((adB base) 226), .ref ((adB base) 227), .int (0), .ref ((adB base) 228), .ref ((adB base) 229), .null, .null, .null, .null, .int (0), .null, .int (0), .int (0), .int (0), .null, .null, .null, .null, .null, .int (0), .null, .int (0), .null, .int (0)])) (show (229 : Nat) ≠ 224 by first | decide | assumption | omega)).trans h_mem31
  rw [← e_mem37] at hh42
  refine lv_aload_n Bx.1 Bx.2.1 d_Mo_init_50 rfl (lv_at hl 0 rfl) ?_
  refine lv_bipush (v := 100) Bx.1 Bx.2.1 d_Mo_init_51 (by decide) ?_
  refine c_size (n := 230) hP (by omega) (by omega) (fun hz => ?_)
  refine f_newa (atype := .int) (n := 230) (t0 := 1) (N' := 100) Bx hP hS hz kw_110 (Bx.2.2.2.2.2 1 _ rfl).2 (100, .inl (fun _ => 0)) (fun _ => rfl) (by decide) (by decide) (by decide) (Nat.le_of_ble_eq_true rfl) (Nat.le_of_ble_eq_true rfl) d_Mo_init_53 (fun H hP hS hz => ?_)
  obtain ⟨mem43, e_mem43⟩ : ∃ z, z = va_up mem37 (230) (.inl (cy 1, (100, .inl (fun _ => 0)))) := ⟨_, rfl⟩
  have hP : va_P D vcl (fw 231 (adB base) mem43) H := by rw [e_mem43]; exact hP
  have h_mem43 : mem43 (230) = .inl (cy 1, (100, .inl (fun _ => 0))) := by rw [e_mem43, va_up_self]
  have hh44 := (va_up_ne mem37 (.inl (cy 1, (100, .inl (fun _ => 0)))) (show (224 : Nat) ≠ 230 by first | decide | assumption | omega)).trans h_mem37
  rw [← e_mem43] at hh44
  have hh45 := (va_up_ne mem37 (.inl (cy 1, (100, .inl (fun _ => 0)))) (show (225 : Nat) ≠ 230 by first | decide | assumption | omega)).trans hh38
  rw [← e_mem43] at hh45
  have hh46 := (va_up_ne mem37 (.inl (cy 1, (100, .inl (fun _ => 0)))) (show (226 : Nat) ≠ 230 by first | decide | assumption | omega)).trans hh39
  rw [← e_mem43] at hh46
  have hh47 := (va_up_ne mem37 (.inl (cy 1, (100, .inl (fun _ => 0)))) (show (227 : Nat) ≠ 230 by first | decide | assumption | omega)).trans hh40
  rw [← e_mem43] at hh47
  have hh48 := (va_up_ne mem37 (.inl (cy 1, (100, .inl (fun _ => 0)))) (show (228 : Nat) ≠ 230 by first | decide | assumption | omega)).trans hh41
  rw [← e_mem43] at hh48
  have hh49 := (va_up_ne mem37 (.inl (cy 1, (100, .inl (fun _ => 0)))) (show (229 : Nat) ≠ 230 by first | decide | assumption | omega)).trans hh42
  rw [← e_mem43] at hh49
  refine f_putF Bx hin hP (adB_D hbz) hS (by omega) hh44 rfl inMo tyMo okMo nmMo 10 (by decide) kw_666 rfl rfl rfl rfl (Nat.le_of_ble_eq_true rfl) d_Mo_init_55 (fun H locs hP hS => ?_)
  obtain ⟨mem50, e_mem50⟩ : ∃ z, z = va_up mem43 (224) (.inr (7, [.int (0), .int (0), .ref ((adB base) 225), .int ((-1)), .int (0), .ref ((adB base) 226), .ref ((adB base) 227), .int (0), .ref ((adB base) 228), .ref ((adB base) 229), .ref ((adB base) 230), .null, .null, .null, .int (0), .null, .int (0), .int (0), .int (0), .null, .null, .null, .null, .null, .int (0), .null, .int (0), .null, .int (0)])) := ⟨_, rfl⟩
  have hP : va_P D vcl (fw 231 (adB base) mem50) H := by rw [e_mem50]; exact hP
  have h_mem50 : mem50 (224) = .inr (7, [.int (0), .int (0), .ref ((adB base) 225), .int ((-1)), .int (0), .ref ((adB base) 226), .ref ((adB base) 227), .int (0), .ref ((adB base) 228), .ref ((adB base) 229), .ref ((adB base) 230), .null, .null, .null, .int (0), .null, .int (0), .int (0), .int (0), .null, .null, .null, .null, .null, .int (0), .null, .int (0), .null, .int (0)]) := by rw [e_mem50, va_up_self]
  have hh51 := (va_up_ne mem43 (.inr (7, [.int (0), .int (0), .ref ((adB base) 225), .int ((-1)), .int (0), .ref ((adB base) 226), .ref ((adB base) 227), .int (0), .ref ((adB base) 228), .ref ((adB base) 229), .ref ((adB base) 230), .null, .null, .null, .int (0), .null, .int (0), .int (0), .int (0), .null, .null, .null, .null, .null, .int (0), .null, .int (0), .null, .int (0)])) (show (225 : Nat) ≠ 224 by first | decide | assumption | omega)).trans hh45
  rw [← e_mem50] at hh51
  have hh52 := (va_up_ne mem43 (.inr (7, [.int (0), .int (0), .ref ((adB base) 225), .int ((-1)), .int (0), .ref ((adB base) 226), .ref ((adB base) 227), .int (0), .ref ((adB base) 228), .ref ((adB base) 229), .ref ((adB base) 230), .null, .null, .null, .int (0), .null, .int (0), .int (0), .int (0), .null, .null, .null, .null, .null, .int (0), .null, .int (0), .null, .int (0)])) (show (226 : Nat) ≠ 224 by first | decide | assumption | omega)).trans hh46
  rw [← e_mem50] at hh52
  have hh53 := (va_up_ne mem43 (.inr (7, [.int (0), .int (0), .ref ((adB base) 225), .int ((-1)), .int (0), .ref ((adB base) 226), .ref ((adB base) 227), .int (0), .ref ((adB base) 228), .ref ((adB base) 229), .ref ((adB base) 230), .null, .null, .null, .int (0), .null, .int (0), .int (0), .int (0), .null, .null, .null, .null, .null, .int (0), .null, .int (0), .null, .int (0)])) (show (227 : Nat) ≠ 224 by first | decide | assumption | omega)).trans hh47
  rw [← e_mem50] at hh53
  have hh54 := (va_up_ne mem43 (.inr (7, [.int (0), .int (0), .ref ((adB base) 225), .int ((-1)), .int (0), .ref ((adB base) 226), .ref ((adB base) 227), .int (0), .ref ((adB base) 228), .ref ((adB base) 229), .ref ((adB base) 230), .null, .null, .null, .int (0), .null, .int (0), .int (0), .int (0), .null, .null, .null, .null, .null, .int (0), .null, .int (0), .null, .int (0)])) (show (228 : Nat) ≠ 224 by first | decide | assumption | omega)).trans hh48
  rw [← e_mem50] at hh54
  have hh55 := (va_up_ne mem43 (.inr (7, [.int (0), .int (0), .ref ((adB base) 225), .int ((-1)), .int (0), .ref ((adB base) 226), .ref ((adB base) 227), .int (0), .ref ((adB base) 228), .ref ((adB base) 229), .ref ((adB base) 230), .null, .null, .null, .int (0), .null, .int (0), .int (0), .int (0), .null, .null, .null, .null, .null, .int (0), .null, .int (0), .null, .int (0)])) (show (229 : Nat) ≠ 224 by first | decide | assumption | omega)).trans hh49
  rw [← e_mem50] at hh55
  have hh56 := (va_up_ne mem43 (.inr (7, [.int (0), .int (0), .ref ((adB base) 225), .int ((-1)), .int (0), .ref ((adB base) 226), .ref ((adB base) 227), .int (0), .ref ((adB base) 228), .ref ((adB base) 229), .ref ((adB base) 230), .null, .null, .null, .int (0), .null, .int (0), .int (0), .int (0), .null, .null, .null, .null, .null, .int (0), .null, .int (0), .null, .int (0)])) (show (230 : Nat) ≠ 224 by first | decide | assumption | omega)).trans h_mem43
  rw [← e_mem50] at hh56
  refine lv_aload_n Bx.1 Bx.2.1 d_Mo_init_58 rfl (lv_at hl 0 rfl) ?_
  refine lv_bipush (v := 100) Bx.1 Bx.2.1 d_Mo_init_59 (by decide) ?_
  refine c_size (n := 231) hP (by omega) (by omega) (fun hz => ?_)
  refine f_newa (atype := .boolean) (n := 231) (t0 := 3) (N' := 100) Bx hP hS hz kw_745 (Bx.2.2.2.2.2 3 _ rfl).2 (100, .inl (fun _ => 0)) (fun _ => rfl) (by decide) (by decide) (by decide) (Nat.le_of_ble_eq_true rfl) (Nat.le_of_ble_eq_true rfl) d_Mo_init_61 (fun H hP hS hz => ?_)
  obtain ⟨mem57, e_mem57⟩ : ∃ z, z = va_up mem50 (231) (.inl (cy 3, (100, .inl (fun _ => 0)))) := ⟨_, rfl⟩
  have hP : va_P D vcl (fw 232 (adB base) mem57) H := by rw [e_mem57]; exact hP
  have h_mem57 : mem57 (231) = .inl (cy 3, (100, .inl (fun _ => 0))) := by rw [e_mem57, va_up_self]
  have hh58 := (va_up_ne mem50 (.inl (cy 3, (100, .inl (fun _ => 0)))) (show (224 : Nat) ≠ 231 by first | decide | assumption | omega)).trans h_mem50
  rw [← e_mem57] at hh58
  have hh59 := (va_up_ne mem50 (.inl (cy 3, (100, .inl (fun _ => 0)))) (show (225 : Nat) ≠ 231 by first | decide | assumption | omega)).trans hh51
  rw [← e_mem57] at hh59
  have hh60 := (va_up_ne mem50 (.inl (cy 3, (100, .inl (fun _ => 0)))) (show (226 : Nat) ≠ 231 by first | decide | assumption | omega)).trans hh52
  rw [← e_mem57] at hh60
  have hh61 := (va_up_ne mem50 (.inl (cy 3, (100, .inl (fun _ => 0)))) (show (227 : Nat) ≠ 231 by first | decide | assumption | omega)).trans hh53
  rw [← e_mem57] at hh61
  have hh62 := (va_up_ne mem50 (.inl (cy 3, (100, .inl (fun _ => 0)))) (show (228 : Nat) ≠ 231 by first | decide | assumption | omega)).trans hh54
  rw [← e_mem57] at hh62
  have hh63 := (va_up_ne mem50 (.inl (cy 3, (100, .inl (fun _ => 0)))) (show (229 : Nat) ≠ 231 by first | decide | assumption | omega)).trans hh55
  rw [← e_mem57] at hh63
  have hh64 := (va_up_ne mem50 (.inl (cy 3, (100, .inl (fun _ => 0)))) (show (230 : Nat) ≠ 231 by first | decide | assumption | omega)).trans hh56
  rw [← e_mem57] at hh64
  refine f_putF Bx hin hP (adB_D hbz) hS (by omega) hh58 rfl inMo tyMo okMo nmMo 11 (by decide) kw_667 rfl rfl rfl rfl (Nat.le_of_ble_eq_true rfl) d_Mo_init_63 (fun H locs hP hS => ?_)
  obtain ⟨mem65, e_mem65⟩ : ∃ z, z = va_up mem57 (224) (.inr (7, [.int (0), .int (0), .ref ((adB base) 225), .int ((-1)), .int (0), .ref ((adB base) 226), .ref ((adB base) 227), .int (0), .ref ((adB base) 228), .ref ((adB base) 229), .ref ((adB base) 230), .ref ((adB base) 231), .null, .null, .int (0), .null, .int (0), .int (0), .int (0), .null, .null, .null, .null, .null, .int (0), .null, .int (0), .null, .int (0)])) := ⟨_, rfl⟩
  have hP : va_P D vcl (fw 232 (adB base) mem65) H := by rw [e_mem65]; exact hP
  have h_mem65 : mem65 (224) = .inr (7, [.int (0), .int (0), .ref ((adB base) 225), .int ((-1)), .int (0), .ref ((adB base) 226), .ref ((adB base) 227), .int (0), .ref ((adB base) 228), .ref ((adB base) 229), .ref ((adB base) 230), .ref ((adB base) 231), .null, .null, .int (0), .null, .int (0), .int (0), .int (0), .null, .null, .null, .null, .null, .int (0), .null, .int (0), .null, .int (0)]) := by rw [e_mem65, va_up_self]
  have hh66 := (va_up_ne mem57 (.inr (7, [.int (0), .int (0), .ref ((adB base) 225), .int ((-1)), .int (0), .ref ((adB base) 226), .ref ((adB base) 227), .int (0), .ref ((adB base) 228), .ref ((adB base) 229), .ref ((adB base) 230), .ref ((adB base) 231), .null, .null, .int (0), .null, .int (0), .int (0), .int (0), .null, .null, .null, .null, .null, .int (0), .null, .int (0), .null, .int (0)])) (show (225 : Nat) ≠ 224 by first | decide | assumption | omega)).trans hh59
  rw [← e_mem65] at hh66
  have hh67 := (va_up_ne mem57 (.inr (7, [.int (0), .int (0), .ref ((adB base) 225), .int ((-1)), .int (0), .ref ((adB base) 226), .ref ((adB base) 227), .int (0), .ref ((adB base) 228), .ref ((adB base) 229), .ref ((adB base) 230), .ref ((adB base) 231), .null, .null, .int (0), .null, .int (0), .int (0), .int (0), .null, .null, .null, .null, .null, .int (0), .null, .int (0), .null, .int (0)])) (show (226 : Nat) ≠ 224 by first | decide | assumption | omega)).trans hh60
  rw [← e_mem65] at hh67
  have hh68 := (va_up_ne mem57 (.inr (7, [.int (0), .int (0), .ref ((adB base) 225), .int ((-1)), .int (0), .ref ((adB base) 226), .ref ((adB base) 227), .int (0), .ref ((adB base) 228), .ref ((adB base) 229), .ref ((adB base) 230), .ref ((adB base) 231), .null, .null, .int (0), .null, .int (0), .int (0), .int (0), .null, .null, .null, .null, .null, .int (0), .null, .int (0), .null, .int (0)])) (show (227 : Nat) ≠ 224 by first | decide | assumption | omega)).trans hh61
  rw [← e_mem65] at hh68
  have hh69 := (va_up_ne mem57 (.inr (7, [.int (0), .int (0), .ref ((adB base) 225), .int ((-1)), .int (0), .ref ((adB base) 226), .ref ((adB base) 227), .int (0), .ref ((adB base) 228), .ref ((adB base) 229), .ref ((adB base) 230), .ref ((adB base) 231), .null, .null, .int (0), .null, .int (0), .int (0), .int (0), .null, .null, .null, .null, .null, .int (0), .null, .int (0), .null, .int (0)])) (show (228 : Nat) ≠ 224 by first | decide | assumption | omega)).trans hh62
  rw [← e_mem65] at hh69
  have hh70 := (va_up_ne mem57 (.inr (7, [.int (0), .int (0), .ref ((adB base) 225), .int ((-1)), .int (0), .ref ((adB base) 226), .ref ((adB base) 227), .int (0), .ref ((adB base) 228), .ref ((adB base) 229), .ref ((adB base) 230), .ref ((adB base) 231), .null, .null, .int (0), .null, .int (0), .int (0), .int (0), .null, .null, .null, .null, .null, .int (0), .null, .int (0), .null, .int (0)])) (show (229 : Nat) ≠ 224 by first | decide | assumption | omega)).trans hh63
  rw [← e_mem65] at hh70
  have hh71 := (va_up_ne mem57 (.inr (7, [.int (0), .int (0), .ref ((adB base) 225), .int ((-1)), .int (0), .ref ((adB base) 226), .ref ((adB base) 227), .int (0), .ref ((adB base) 228), .ref ((adB base) 229), .ref ((adB base) 230), .ref ((adB base) 231), .null, .null, .int (0), .null, .int (0), .int (0), .int (0), .null, .null, .null, .null, .null, .int (0), .null, .int (0), .null, .int (0)])) (show (230 : Nat) ≠ 224 by first | decide | assumption | omega)).trans hh64
  rw [← e_mem65] at hh71
  have hh72 := (va_up_ne mem57 (.inr (7, [.int (0), .int (0), .ref ((adB base) 225), .int ((-1)), .int (0), .ref ((adB base) 226), .ref ((adB base) 227), .int (0), .ref ((adB base) 228), .ref ((adB base) 229), .ref ((adB base) 230), .ref ((adB base) 231), .null, .null, .int (0), .null, .int (0), .int (0), .int (0), .null, .null, .null, .null, .null, .int (0), .null, .int (0), .null, .int (0)])) (show (231 : Nat) ≠ 224 by first | decide | assumption | omega)).trans h_mem57
  rw [← e_mem65] at hh72
  refine lv_aload_n Bx.1 Bx.2.1 d_Mo_init_66 rfl (lv_at hl 0 rfl) ?_
  refine lv_bipush (v := 100) Bx.1 Bx.2.1 d_Mo_init_67 (by decide) ?_
  refine c_size (n := 232) hP (by omega) (by omega) (fun hz => ?_)
  refine f_newa (atype := .int) (n := 232) (t0 := 1) (N' := 100) Bx hP hS hz kw_110 (Bx.2.2.2.2.2 1 _ rfl).2 (100, .inl (fun _ => 0)) (fun _ => rfl) (by decide) (by decide) (by decide) (Nat.le_of_ble_eq_true rfl) (Nat.le_of_ble_eq_true rfl) d_Mo_init_69 (fun H hP hS hz => ?_)
  obtain ⟨mem73, e_mem73⟩ : ∃ z, z = va_up mem65 (232) (.inl (cy 1, (100, .inl (fun _ => 0)))) := ⟨_, rfl⟩
  have hP : va_P D vcl (fw 233 (adB base) mem73) H := by rw [e_mem73]; exact hP
  have h_mem73 : mem73 (232) = .inl (cy 1, (100, .inl (fun _ => 0))) := by rw [e_mem73, va_up_self]
  have hh74 := (va_up_ne mem65 (.inl (cy 1, (100, .inl (fun _ => 0)))) (show (224 : Nat) ≠ 232 by first | decide | assumption | omega)).trans h_mem65
  rw [← e_mem73] at hh74
  have hh75 := (va_up_ne mem65 (.inl (cy 1, (100, .inl (fun _ => 0)))) (show (225 : Nat) ≠ 232 by first | decide | assumption | omega)).trans hh66
  rw [← e_mem73] at hh75
  have hh76 := (va_up_ne mem65 (.inl (cy 1, (100, .inl (fun _ => 0)))) (show (226 : Nat) ≠ 232 by first | decide | assumption | omega)).trans hh67
  rw [← e_mem73] at hh76
  have hh77 := (va_up_ne mem65 (.inl (cy 1, (100, .inl (fun _ => 0)))) (show (227 : Nat) ≠ 232 by first | decide | assumption | omega)).trans hh68
  rw [← e_mem73] at hh77
  have hh78 := (va_up_ne mem65 (.inl (cy 1, (100, .inl (fun _ => 0)))) (show (228 : Nat) ≠ 232 by first | decide | assumption | omega)).trans hh69
  rw [← e_mem73] at hh78
  have hh79 := (va_up_ne mem65 (.inl (cy 1, (100, .inl (fun _ => 0)))) (show (229 : Nat) ≠ 232 by first | decide | assumption | omega)).trans hh70
  rw [← e_mem73] at hh79
  have hh80 := (va_up_ne mem65 (.inl (cy 1, (100, .inl (fun _ => 0)))) (show (230 : Nat) ≠ 232 by first | decide | assumption | omega)).trans hh71
  rw [← e_mem73] at hh80
  have hh81 := (va_up_ne mem65 (.inl (cy 1, (100, .inl (fun _ => 0)))) (show (231 : Nat) ≠ 232 by first | decide | assumption | omega)).trans hh72
  rw [← e_mem73] at hh81
  refine f_putF Bx hin hP (adB_D hbz) hS (by omega) hh74 rfl inMo tyMo okMo nmMo 12 (by decide) kw_668 rfl rfl rfl rfl (Nat.le_of_ble_eq_true rfl) d_Mo_init_71 (fun H locs hP hS => ?_)
  obtain ⟨mem82, e_mem82⟩ : ∃ z, z = va_up mem73 (224) (.inr (7, [.int (0), .int (0), .ref ((adB base) 225), .int ((-1)), .int (0), .ref ((adB base) 226), .ref ((adB base) 227), .int (0), .ref ((adB base) 228), .ref ((adB base) 229), .ref ((adB base) 230), .ref ((adB base) 231), .ref ((adB base) 232), .null, .int (0), .null, .int (0), .int (0), .int (0), .null, .null, .null, .null, .null, .int (0), .null, .int (0), .null, .int (0)])) := ⟨_, rfl⟩
  have hP : va_P D vcl (fw 233 (adB base) mem82) H := by rw [e_mem82]; exact hP
  have h_mem82 : mem82 (224) = .inr (7, [.int (0), .int (0), .ref ((adB base) 225), .int ((-1)), .int (0), .ref ((adB base) 226), .ref ((adB base) 227), .int (0), .ref ((adB base) 228), .ref ((adB base) 229), .ref ((adB base) 230), .ref ((adB base) 231), .ref ((adB base) 232), .null, .int (0), .null, .int (0), .int (0), .int (0), .null, .null, .null, .null, .null, .int (0), .null, .int (0), .null, .int (0)]) := by rw [e_mem82, va_up_self]
  have hh83 := (va_up_ne mem73 (.inr (7, [.int (0), .int (0), .ref ((adB base) 225), .int ((-1)), .int (0), .ref ((adB base) 226), .ref ((adB base) 227), .int (0), .ref ((adB base) 228), .ref ((adB base) 229), .ref ((adB base) 230), .ref ((adB base) 231), .ref ((adB base) 232), .null, .int (0), .null, .int (0), .int (0), .int (0), .null, .null, .null, .null, .null, .int (0), .null, .int (0), .null, .int (0)])) (show (225 : Nat) ≠ 224 by first | decide | assumption | omega)).trans hh75
  rw [← e_mem82] at hh83
  have hh84 := (va_up_ne mem73 (.inr (7, [.int (0), .int (0), .ref ((adB base) 225), .int ((-1)), .int (0), .ref ((adB base) 226), .ref ((adB base) 227), .int (0), .ref ((adB base) 228), .ref ((adB base) 229), .ref ((adB base) 230), .ref ((adB base) 231), .ref ((adB base) 232), .null, .int (0), .null, .int (0), .int (0), .int (0), .null, .null, .null, .null, .null, .int (0), .null, .int (0), .null, .int (0)])) (show (226 : Nat) ≠ 224 by first | decide | assumption | omega)).trans hh76
  rw [← e_mem82] at hh84
  have hh85 := (va_up_ne mem73 (.inr (7, [.int (0), .int (0), .ref ((adB base) 225), .int ((-1)), .int (0), .ref ((adB base) 226), .ref ((adB base) 227), .int (0), .ref ((adB base) 228), .ref ((adB base) 229), .ref ((adB base) 230), .ref ((adB base) 231), .ref ((adB base) 232), .null, .int (0), .null, .int (0), .int (0), .int (0), .null, .null, .null, .null, .null, .int (0), .null, .int (0), .null, .int (0)])) (show (227 : Nat) ≠ 224 by first | decide | assumption | omega)).trans hh77
  rw [← e_mem82] at hh85
  have hh86 := (va_up_ne mem73 (.inr (7, [.int (0), .int (0), .ref ((adB base) 225), .int ((-1)), .int (0), .ref ((adB base) 226), .ref ((adB base) 227), .int (0), .ref ((adB base) 228), .ref ((adB base) 229), .ref ((adB base) 230), .ref ((adB base) 231), .ref ((adB base) 232), .null, .int (0), .null, .int (0), .int (0), .int (0), .null, .null, .null, .null, .null, .int (0), .null, .int (0), .null, .int (0)])) (show (228 : Nat) ≠ 224 by first | decide | assumption | omega)).trans hh78
  rw [← e_mem82] at hh86
  have hh87 := (va_up_ne mem73 (.inr (7, [.int (0), .int (0), .ref ((adB base) 225), .int ((-1)), .int (0), .ref ((adB base) 226), .ref ((adB base) 227), .int (0), .ref ((adB base) 228), .ref ((adB base) 229), .ref ((adB base) 230), .ref ((adB base) 231), .ref ((adB base) 232), .null, .int (0), .null, .int (0), .int (0), .int (0), .null, .null, .null, .null, .null, .int (0), .null, .int (0), .null, .int (0)])) (show (229 : Nat) ≠ 224 by first | decide | assumption | omega)).trans hh79
  rw [← e_mem82] at hh87
  have hh88 := (va_up_ne mem73 (.inr (7, [.int (0), .int (0), .ref ((adB base) 225), .int ((-1)), .int (0), .ref ((adB base) 226), .ref ((adB base) 227), .int (0), .ref ((adB base) 228), .ref ((adB base) 229), .ref ((adB base) 230), .ref ((adB base) 231), .ref ((adB base) 232), .null, .int (0), .null, .int (0), .int (0), .int (0), .null, .null, .null, .null, .null, .int (0), .null, .int (0), .null, .int (0)])) (show (230 : Nat) ≠ 224 by first | decide | assumption | omega)).trans hh80
  rw [← e_mem82] at hh88
  have hh89 := (va_up_ne mem73 (.inr (7, [.int (0), .int (0), .ref ((adB base) 225), .int ((-1)), .int (0), .ref ((adB base) 226), .ref ((adB base) 227), .int (0), .ref ((adB base) 228), .ref ((adB base) 229), .ref ((adB base) 230), .ref ((adB base) 231), .ref ((adB base) 232), .null, .int (0), .null, .int (0), .int (0), .int (0), .null, .null, .null, .null, .null, .int (0), .null, .int (0), .null, .int (0)])) (show (231 : Nat) ≠ 224 by first | decide | assumption | omega)).trans hh81
  rw [← e_mem82] at hh89
  have hh90 := (va_up_ne mem73 (.inr (7, [.int (0), .int (0), .ref ((adB base) 225), .int ((-1)), .int (0), .ref ((adB base) 226), .ref ((adB base) 227), .int (0), .ref ((adB base) 228), .ref ((adB base) 229), .ref ((adB base) 230), .ref ((adB base) 231), .ref ((adB base) 232), .null, .int (0), .null, .int (0), .int (0), .int (0), .null, .null, .null, .null, .null, .int (0), .null, .int (0), .null, .int (0)])) (show (232 : Nat) ≠ 224 by first | decide | assumption | omega)).trans h_mem73
  rw [← e_mem82] at hh90
  refine lv_aload_n Bx.1 Bx.2.1 d_Mo_init_74 rfl (lv_at hl 0 rfl) ?_
  refine lv_bipush (v := 100) Bx.1 Bx.2.1 d_Mo_init_75 (by decide) ?_
  refine c_size (n := 233) hP (by omega) (by omega) (fun hz => ?_)
  refine f_newa (atype := .int) (n := 233) (t0 := 1) (N' := 100) Bx hP hS hz kw_110 (Bx.2.2.2.2.2 1 _ rfl).2 (100, .inl (fun _ => 0)) (fun _ => rfl) (by decide) (by decide) (by decide) (Nat.le_of_ble_eq_true rfl) (Nat.le_of_ble_eq_true rfl) d_Mo_init_77 (fun H hP hS hz => ?_)
  obtain ⟨mem91, e_mem91⟩ : ∃ z, z = va_up mem82 (233) (.inl (cy 1, (100, .inl (fun _ => 0)))) := ⟨_, rfl⟩
  have hP : va_P D vcl (fw 234 (adB base) mem91) H := by rw [e_mem91]; exact hP
  have h_mem91 : mem91 (233) = .inl (cy 1, (100, .inl (fun _ => 0))) := by rw [e_mem91, va_up_self]
  have hh92 := (va_up_ne mem82 (.inl (cy 1, (100, .inl (fun _ => 0)))) (show (224 : Nat) ≠ 233 by first | decide | assumption | omega)).trans h_mem82
  rw [← e_mem91] at hh92
  have hh93 := (va_up_ne mem82 (.inl (cy 1, (100, .inl (fun _ => 0)))) (show (225 : Nat) ≠ 233 by first | decide | assumption | omega)).trans hh83
  rw [← e_mem91] at hh93
  have hh94 := (va_up_ne mem82 (.inl (cy 1, (100, .inl (fun _ => 0)))) (show (226 : Nat) ≠ 233 by first | decide | assumption | omega)).trans hh84
  rw [← e_mem91] at hh94
  have hh95 := (va_up_ne mem82 (.inl (cy 1, (100, .inl (fun _ => 0)))) (show (227 : Nat) ≠ 233 by first | decide | assumption | omega)).trans hh85
  rw [← e_mem91] at hh95
  have hh96 := (va_up_ne mem82 (.inl (cy 1, (100, .inl (fun _ => 0)))) (show (228 : Nat) ≠ 233 by first | decide | assumption | omega)).trans hh86
  rw [← e_mem91] at hh96
  have hh97 := (va_up_ne mem82 (.inl (cy 1, (100, .inl (fun _ => 0)))) (show (229 : Nat) ≠ 233 by first | decide | assumption | omega)).trans hh87
  rw [← e_mem91] at hh97
  have hh98 := (va_up_ne mem82 (.inl (cy 1, (100, .inl (fun _ => 0)))) (show (230 : Nat) ≠ 233 by first | decide | assumption | omega)).trans hh88
  rw [← e_mem91] at hh98
  have hh99 := (va_up_ne mem82 (.inl (cy 1, (100, .inl (fun _ => 0)))) (show (231 : Nat) ≠ 233 by first | decide | assumption | omega)).trans hh89
  rw [← e_mem91] at hh99
  have hh100 := (va_up_ne mem82 (.inl (cy 1, (100, .inl (fun _ => 0)))) (show (232 : Nat) ≠ 233 by first | decide | assumption | omega)).trans hh90
  rw [← e_mem91] at hh100
  refine f_putF Bx hin hP (adB_D hbz) hS (by omega) hh92 rfl inMo tyMo okMo nmMo 13 (by decide) kw_669 rfl rfl rfl rfl (Nat.le_of_ble_eq_true rfl) d_Mo_init_79 (fun H locs hP hS => ?_)
  obtain ⟨mem101, e_mem101⟩ : ∃ z, z = va_up mem91 (224) (.inr (7, [.int (0), .int (0), .ref ((adB base) 225), .int ((-1)), .int (0), .ref ((adB base) 226), .ref ((adB base) 227), .int (0), .ref ((adB base) 228), .ref ((adB base) 229), .ref ((adB base) 230), .ref ((adB base) 231), .ref ((adB base) 232), .ref ((adB base) 233), .int (0), .null, .int (0), .int (0), .int (0), .null, .null, .null, .null, .null, .int (0), .null, .int (0), .null, .int (0)])) := ⟨_, rfl⟩
  have hP : va_P D vcl (fw 234 (adB base) mem101) H := by rw [e_mem101]; exact hP
  have h_mem101 : mem101 (224) = .inr (7, [.int (0), .int (0), .ref ((adB base) 225), .int ((-1)), .int (0), .ref ((adB base) 226), .ref ((adB base) 227), .int (0), .ref ((adB base) 228), .ref ((adB base) 229), .ref ((adB base) 230), .ref ((adB base) 231), .ref ((adB base) 232), .ref ((adB base) 233), .int (0), .null, .int (0), .int (0), .int (0), .null, .null, .null, .null, .null, .int (0), .null, .int (0), .null, .int (0)]) := by rw [e_mem101, va_up_self]
  have hh102 := (va_up_ne mem91 (.inr (7, [.int (0), .int (0), .ref ((adB base) 225), .int ((-1)), .int (0), .ref ((adB base) 226), .ref ((adB base) 227), .int (0), .ref ((adB base) 228), .ref ((adB base) 229), .ref ((adB base) 230), .ref ((adB base) 231), .ref ((adB base) 232), .ref ((adB base) 233), .int (0), .null, .int (0), .int (0), .int (0), .null, .null, .null, .null, .null, .int (0), .null, .int (0), .null, .int (0)])) (show (225 : Nat) ≠ 224 by first | decide | assumption | omega)).trans hh93
  rw [← e_mem101] at hh102
  have hh103 := (va_up_ne mem91 (.inr (7, [.int (0), .int (0), .ref ((adB base) 225), .int ((-1)), .int (0), .ref ((adB base) 226), .ref ((adB base) 227), .int (0), .ref ((adB base) 228), .ref ((adB base) 229), .ref ((adB base) 230), .ref ((adB base) 231), .ref ((adB base) 232), .ref ((adB base) 233), .int (0), .null, .int (0), .int (0), .int (0), .null, .null, .null, .null, .null, .int (0), .null, .int (0), .null, .int (0)])) (show (226 : Nat) ≠ 224 by first | decide | assumption | omega)).trans hh94
  rw [← e_mem101] at hh103
  have hh104 := (va_up_ne mem91 (.inr (7, [.int (0), .int (0), .ref ((adB base) 225), .int ((-1)), .int (0), .ref ((adB base) 226), .ref ((adB base) 227), .int (0), .ref ((adB base) 228), .ref ((adB base) 229), .ref ((adB base) 230), .ref ((adB base) 231), .ref ((adB base) 232), .ref ((adB base) 233), .int (0), .null, .int (0), .int (0), .int (0), .null, .null, .null, .null, .null, .int (0), .null, .int (0), .null, .int (0)])) (show (227 : Nat) ≠ 224 by first | decide | assumption | omega)).trans hh95
  rw [← e_mem101] at hh104
  have hh105 := (va_up_ne mem91 (.inr (7, [.int (0), .int (0), .ref ((adB base) 225), .int ((-1)), .int (0), .ref ((adB base) 226), .ref ((adB base) 227), .int (0), .ref ((adB base) 228), .ref ((adB base) 229), .ref ((adB base) 230), .ref ((adB base) 231), .ref ((adB base) 232), .ref ((adB base) 233), .int (0), .null, .int (0), .int (0), .int (0), .null, .null, .null, .null, .null, .int (0), .null, .int (0), .null, .int (0)])) (show (228 : Nat) ≠ 224 by first | decide | assumption | omega)).trans hh96
  rw [← e_mem101] at hh105
  have hh106 := (va_up_ne mem91 (.inr (7, [.int (0), .int (0), .ref ((adB base) 225), .int ((-1)), .int (0), .ref ((adB base) 226), .ref ((adB base) 227), .int (0), .ref ((adB base) 228), .ref ((adB base) 229), .ref ((adB base) 230), .ref ((adB base) 231), .ref ((adB base) 232), .ref ((adB base) 233), .int (0), .null, .int (0), .int (0), .int (0), .null, .null, .null, .null, .null, .int (0), .null, .int (0), .null, .int (0)])) (show (229 : Nat) ≠ 224 by first | decide | assumption | omega)).trans hh97
  rw [← e_mem101] at hh106
  have hh107 := (va_up_ne mem91 (.inr (7, [.int (0), .int (0), .ref ((adB base) 225), .int ((-1)), .int (0), .ref ((adB base) 226), .ref ((adB base) 227), .int (0), .ref ((adB base) 228), .ref ((adB base) 229), .ref ((adB base) 230), .ref ((adB base) 231), .ref ((adB base) 232), .ref ((adB base) 233), .int (0), .null, .int (0), .int (0), .int (0), .null, .null, .null, .null, .null, .int (0), .null, .int (0), .null, .int (0)])) (show (230 : Nat) ≠ 224 by first | decide | assumption | omega)).trans hh98
  rw [← e_mem101] at hh107
  have hh108 := (va_up_ne mem91 (.inr (7, [.int (0), .int (0), .ref ((adB base) 225), .int ((-1)), .int (0), .ref ((adB base) 226), .ref ((adB base) 227), .int (0), .ref ((adB base) 228), .ref ((adB base) 229), .ref ((adB base) 230), .ref ((adB base) 231), .ref ((adB base) 232), .ref ((adB base) 233), .int (0), .null, .int (0), .int (0), .int (0), .null, .null, .null, .null, .null, .int (0), .null, .int (0), .null, .int (0)])) (show (231 : Nat) ≠ 224 by first | decide | assumption | omega)).trans hh99
  rw [← e_mem101] at hh108
  have hh109 := (va_up_ne mem91 (.inr (7, [.int (0), .int (0), .ref ((adB base) 225), .int ((-1)), .int (0), .ref ((adB base) 226), .ref ((adB base) 227), .int (0), .ref ((adB base) 228), .ref ((adB base) 229), .ref ((adB base) 230), .ref ((adB base) 231), .ref ((adB base) 232), .ref ((adB base) 233), .int (0), .null, .int (0), .int (0), .int (0), .null, .null, .null, .null, .null, .int (0), .null, .int (0), .null, .int (0)])) (show (232 : Nat) ≠ 224 by first | decide | assumption | omega)).trans hh100
  rw [← e_mem101] at hh109
  have hh110 := (va_up_ne mem91 (.inr (7, [.int (0), .int (0), .ref ((adB base) 225), .int ((-1)), .int (0), .ref ((adB base) 226), .ref ((adB base) 227), .int (0), .ref ((adB base) 228), .ref ((adB base) 229), .ref ((adB base) 230), .ref ((adB base) 231), .ref ((adB base) 232), .ref ((adB base) 233), .int (0), .null, .int (0), .int (0), .int (0), .null, .null, .null, .null, .null, .int (0), .null, .int (0), .null, .int (0)])) (show (233 : Nat) ≠ 224 by first | decide | assumption | omega)).trans h_mem91
  rw [← e_mem101] at hh110
  refine lv_aload_n Bx.1 Bx.2.1 d_Mo_init_82 rfl (lv_at hl 0 rfl) ?_
  refine lv_sipush (v := 400) Bx.1 Bx.2.1 d_Mo_init_83 (by decide) ?_
  refine c_size (n := 234) hP (by omega) (by omega) (fun hz => ?_)
  refine f_newa (atype := .int) (n := 234) (t0 := 1) (N' := 400) Bx hP hS hz kw_110 (Bx.2.2.2.2.2 1 _ rfl).2 (400, .inl (fun _ => 0)) (fun _ => rfl) (by decide) (by decide) (by decide) (Nat.le_of_ble_eq_true rfl) (Nat.le_of_ble_eq_true rfl) d_Mo_init_86 (fun H hP hS hz => ?_)
  obtain ⟨mem111, e_mem111⟩ : ∃ z, z = va_up mem101 (234) (.inl (cy 1, (400, .inl (fun _ => 0)))) := ⟨_, rfl⟩
  have hP : va_P D vcl (fw 235 (adB base) mem111) H := by rw [e_mem111]; exact hP
  have h_mem111 : mem111 (234) = .inl (cy 1, (400, .inl (fun _ => 0))) := by rw [e_mem111, va_up_self]
  have hh112 := (va_up_ne mem101 (.inl (cy 1, (400, .inl (fun _ => 0)))) (show (224 : Nat) ≠ 234 by first | decide | assumption | omega)).trans h_mem101
  rw [← e_mem111] at hh112
  have hh113 := (va_up_ne mem101 (.inl (cy 1, (400, .inl (fun _ => 0)))) (show (225 : Nat) ≠ 234 by first | decide | assumption | omega)).trans hh102
  rw [← e_mem111] at hh113
  have hh114 := (va_up_ne mem101 (.inl (cy 1, (400, .inl (fun _ => 0)))) (show (226 : Nat) ≠ 234 by first | decide | assumption | omega)).trans hh103
  rw [← e_mem111] at hh114
  have hh115 := (va_up_ne mem101 (.inl (cy 1, (400, .inl (fun _ => 0)))) (show (227 : Nat) ≠ 234 by first | decide | assumption | omega)).trans hh104
  rw [← e_mem111] at hh115
  have hh116 := (va_up_ne mem101 (.inl (cy 1, (400, .inl (fun _ => 0)))) (show (228 : Nat) ≠ 234 by first | decide | assumption | omega)).trans hh105
  rw [← e_mem111] at hh116
  have hh117 := (va_up_ne mem101 (.inl (cy 1, (400, .inl (fun _ => 0)))) (show (229 : Nat) ≠ 234 by first | decide | assumption | omega)).trans hh106
  rw [← e_mem111] at hh117
  have hh118 := (va_up_ne mem101 (.inl (cy 1, (400, .inl (fun _ => 0)))) (show (230 : Nat) ≠ 234 by first | decide | assumption | omega)).trans hh107
  rw [← e_mem111] at hh118
  have hh119 := (va_up_ne mem101 (.inl (cy 1, (400, .inl (fun _ => 0)))) (show (231 : Nat) ≠ 234 by first | decide | assumption | omega)).trans hh108
  rw [← e_mem111] at hh119
  have hh120 := (va_up_ne mem101 (.inl (cy 1, (400, .inl (fun _ => 0)))) (show (232 : Nat) ≠ 234 by first | decide | assumption | omega)).trans hh109
  rw [← e_mem111] at hh120
  have hh121 := (va_up_ne mem101 (.inl (cy 1, (400, .inl (fun _ => 0)))) (show (233 : Nat) ≠ 234 by first | decide | assumption | omega)).trans hh110
  rw [← e_mem111] at hh121
  refine f_putF Bx hin hP (adB_D hbz) hS (by omega) hh112 rfl inMo tyMo okMo nmMo 15 (by decide) kw_671 rfl rfl rfl rfl (Nat.le_of_ble_eq_true rfl) d_Mo_init_88 (fun H locs hP hS => ?_)
  obtain ⟨mem122, e_mem122⟩ : ∃ z, z = va_up mem111 (224) (.inr (7, [.int (0), .int (0), .ref ((adB base) 225), .int ((-1)), .int (0), .ref ((adB base) 226), .ref ((adB base) 227), .int (0), .ref ((adB base) 228), .ref ((adB base) 229), .ref ((adB base) 230), .ref ((adB base) 231), .ref ((adB base) 232), .ref ((adB base) 233), .int (0), .ref ((adB base) 234), .int (0), .int (0), .int (0), .null, .null, .null, .null, .null, .int (0), .null, .int (0), .null, .int (0)])) := ⟨_, rfl⟩
  have hP : va_P D vcl (fw 235 (adB base) mem122) H := by rw [e_mem122]; exact hP
  have h_mem122 : mem122 (224) = .inr (7, [.int (0), .int (0), .ref ((adB base) 225), .int ((-1)), .int (0), .ref ((adB base) 226), .ref ((adB base) 227), .int (0), .ref ((adB base) 228), .ref ((adB base) 229), .ref ((adB base) 230), .ref ((adB base) 231), .ref ((adB base) 232), .ref ((adB base) 233), .int (0), .ref ((adB base) 234), .int (0), .int (0), .int (0), .null, .null, .null, .null, .null, .int (0), .null, .int (0), .null, .int (0)]) := by rw [e_mem122, va_up_self]
  have hh123 := (va_up_ne mem111 (.inr (7, [.int (0), .int (0), .ref ((adB base) 225), .int ((-1)), .int (0), .ref ((adB base) 226), .ref ((adB base) 227), .int (0), .ref ((adB base) 228), .ref ((adB base) 229), .ref ((adB base) 230), .ref ((adB base) 231), .ref ((adB base) 232), .ref ((adB base) 233), .int (0), .ref ((adB base) 234), .int (0), .int (0), .int (0), .null, .null, .null, .null, .null, .int (0), .null, .int (0), .null, .int (0)])) (show (225 : Nat) ≠ 224 by first | decide | assumption | omega)).trans hh113
  rw [← e_mem122] at hh123
  have hh124 := (va_up_ne mem111 (.inr (7, [.int (0), .int (0), .ref ((adB base) 225), .int ((-1)), .int (0), .ref ((adB base) 226), .ref ((adB base) 227), .int (0), .ref ((adB base) 228), .ref ((adB base) 229), .ref ((adB base) 230), .ref ((adB base) 231), .ref ((adB base) 232), .ref ((adB base) 233), .int (0), .ref ((adB base) 234), .int (0), .int (0), .int (0), .null, .null, .null, .null, .null, .int (0), .null, .int (0), .null, .int (0)])) (show (226 : Nat) ≠ 224 by first | decide | assumption | omega)).trans hh114
  rw [← e_mem122] at hh124
  have hh125 := (va_up_ne mem111 (.inr (7, [.int (0), .int (0), .ref ((adB base) 225), .int ((-1)), .int (0), .ref ((adB base) 226), .ref ((adB base) 227), .int (0), .ref ((adB base) 228), .ref ((adB base) 229), .ref ((adB base) 230), .ref ((adB base) 231), .ref ((adB base) 232), .ref ((adB base) 233), .int (0), .ref ((adB base) 234), .int (0), .int (0), .int (0), .null, .null, .null, .null, .null, .int (0), .null, .int (0), .null, .int (0)])) (show (227 : Nat) ≠ 224 by first | decide | assumption | omega)).trans hh115
  rw [← e_mem122] at hh125
  have hh126 := (va_up_ne mem111 (.inr (7, [.int (0), .int (0), .ref ((adB base) 225), .int ((-1)), .int (0), .ref ((adB base) 226), .ref ((adB base) 227), .int (0), .ref ((adB base) 228), .ref ((adB base) 229), .ref ((adB base) 230), .ref ((adB base) 231), .ref ((adB base) 232), .ref ((adB base) 233), .int (0), .ref ((adB base) 234), .int (0), .int (0), .int (0), .null, .null, .null, .null, .null, .int (0), .null, .int (0), .null, .int (0)])) (show (228 : Nat) ≠ 224 by first | decide | assumption | omega)).trans hh116
  rw [← e_mem122] at hh126
  have hh127 := (va_up_ne mem111 (.inr (7, [.int (0), .int (0), .ref ((adB base) 225), .int ((-1)), .int (0), .ref ((adB base) 226), .ref ((adB base) 227), .int (0), .ref ((adB base) 228), .ref ((adB base) 229), .ref ((adB base) 230), .ref ((adB base) 231), .ref ((adB base) 232), .ref ((adB base) 233), .int (0), .ref ((adB base) 234), .int (0), .int (0), .int (0), .null, .null, .null, .null, .null, .int (0), .null, .int (0), .null, .int (0)])) (show (229 : Nat) ≠ 224 by first | decide | assumption | omega)).trans hh117
  rw [← e_mem122] at hh127
  have hh128 := (va_up_ne mem111 (.inr (7, [.int (0), .int (0), .ref ((adB base) 225), .int ((-1)), .int (0), .ref ((adB base) 226), .ref ((adB base) 227), .int (0), .ref ((adB base) 228), .ref ((adB base) 229), .ref ((adB base) 230), .ref ((adB base) 231), .ref ((adB base) 232), .ref ((adB base) 233), .int (0), .ref ((adB base) 234), .int (0), .int (0), .int (0), .null, .null, .null, .null, .null, .int (0), .null, .int (0), .null, .int (0)])) (show (230 : Nat) ≠ 224 by first | decide | assumption | omega)).trans hh118
  rw [← e_mem122] at hh128
  have hh129 := (va_up_ne mem111 (.inr (7, [.int (0), .int (0), .ref ((adB base) 225), .int ((-1)), .int (0), .ref ((adB base) 226), .ref ((adB base) 227), .int (0), .ref ((adB base) 228), .ref ((adB base) 229), .ref ((adB base) 230), .ref ((adB base) 231), .ref ((adB base) 232), .ref ((adB base) 233), .int (0), .ref ((adB base) 234), .int (0), .int (0), .int (0), .null, .null, .null, .null, .null, .int (0), .null, .int (0), .null, .int (0)])) (show (231 : Nat) ≠ 224 by first | decide | assumption | omega)).trans hh119
  rw [← e_mem122] at hh129
  have hh130 := (va_up_ne mem111 (.inr (7, [.int (0), .int (0), .ref ((adB base) 225), .int ((-1)), .int (0), .ref ((adB base) 226), .ref ((adB base) 227), .int (0), .ref ((adB base) 228), .ref ((adB base) 229), .ref ((adB base) 230), .ref ((adB base) 231), .ref ((adB base) 232), .ref ((adB base) 233), .int (0), .ref ((adB base) 234), .int (0), .int (0), .int (0), .null, .null, .null, .null, .null, .int (0), .null, .int (0), .null, .int (0)])) (show (232 : Nat) ≠ 224 by first | decide | assumption | omega)).trans hh120
  rw [← e_mem122] at hh130
  have hh131 := (va_up_ne mem111 (.inr (7, [.int (0), .int (0), .ref ((adB base) 225), .int ((-1)), .int (0), .ref ((adB base) 226), .ref ((adB base) 227), .int (0), .ref ((adB base) 228), .ref ((adB base) 229), .ref ((adB base) 230), .ref ((adB base) 231), .ref ((adB base) 232), .ref ((adB base) 233), .int (0), .ref ((adB base) 234), .int (0), .int (0), .int (0), .null, .null, .null, .null, .null, .int (0), .null, .int (0), .null, .int (0)])) (show (233 : Nat) ≠ 224 by first | decide | assumption | omega)).trans hh121
  rw [← e_mem122] at hh131
  have hh132 := (va_up_ne mem111 (.inr (7, [.int (0), .int (0), .ref ((adB base) 225), .int ((-1)), .int (0), .ref ((adB base) 226), .ref ((adB base) 227), .int (0), .ref ((adB base) 228), .ref ((adB base) 229), .ref ((adB base) 230), .ref ((adB base) 231), .ref ((adB base) 232), .ref ((adB base) 233), .int (0), .ref ((adB base) 234), .int (0), .int (0), .int (0), .null, .null, .null, .null, .null, .int (0), .null, .int (0), .null, .int (0)])) (show (234 : Nat) ≠ 224 by first | decide | assumption | omega)).trans h_mem111
  rw [← e_mem122] at hh132
  refine lv_aload_n Bx.1 Bx.2.1 d_Mo_init_91 rfl (lv_at hl 0 rfl) ?_
  refine lv_bipush (v := 8) Bx.1 Bx.2.1 d_Mo_init_92 (by decide) ?_
  refine c_size (n := 235) hP (by omega) (by omega) (fun hz => ?_)
  refine f_newa (atype := .int) (n := 235) (t0 := 1) (N' := 8) Bx hP hS hz kw_110 (Bx.2.2.2.2.2 1 _ rfl).2 (8, .inl (fun _ => 0)) (fun _ => rfl) (by decide) (by decide) (by decide) (Nat.le_of_ble_eq_true rfl) (Nat.le_of_ble_eq_true rfl) d_Mo_init_94 (fun H hP hS hz => ?_)
  obtain ⟨mem133, e_mem133⟩ : ∃ z, z = va_up mem122 (235) (.inl (cy 1, (8, .inl (fun _ => 0)))) := ⟨_, rfl⟩
  have hP : va_P D vcl (fw 236 (adB base) mem133) H := by rw [e_mem133]; exact hP
  have h_mem133 : mem133 (235) = .inl (cy 1, (8, .inl (fun _ => 0))) := by rw [e_mem133, va_up_self]
  have hh134 := (va_up_ne mem122 (.inl (cy 1, (8, .inl (fun _ => 0)))) (show (224 : Nat) ≠ 235 by first | decide | assumption | omega)).trans h_mem122
  rw [← e_mem133] at hh134
  have hh135 := (va_up_ne mem122 (.inl (cy 1, (8, .inl (fun _ => 0)))) (show (225 : Nat) ≠ 235 by first | decide | assumption | omega)).trans hh123
  rw [← e_mem133] at hh135
  have hh136 := (va_up_ne mem122 (.inl (cy 1, (8, .inl (fun _ => 0)))) (show (226 : Nat) ≠ 235 by first | decide | assumption | omega)).trans hh124
  rw [← e_mem133] at hh136
  have hh137 := (va_up_ne mem122 (.inl (cy 1, (8, .inl (fun _ => 0)))) (show (227 : Nat) ≠ 235 by first | decide | assumption | omega)).trans hh125
  rw [← e_mem133] at hh137
  have hh138 := (va_up_ne mem122 (.inl (cy 1, (8, .inl (fun _ => 0)))) (show (228 : Nat) ≠ 235 by first | decide | assumption | omega)).trans hh126
  rw [← e_mem133] at hh138
  have hh139 := (va_up_ne mem122 (.inl (cy 1, (8, .inl (fun _ => 0)))) (show (229 : Nat) ≠ 235 by first | decide | assumption | omega)).trans hh127
  rw [← e_mem133] at hh139
  have hh140 := (va_up_ne mem122 (.inl (cy 1, (8, .inl (fun _ => 0)))) (show (230 : Nat) ≠ 235 by first | decide | assumption | omega)).trans hh128
  rw [← e_mem133] at hh140
  have hh141 := (va_up_ne mem122 (.inl (cy 1, (8, .inl (fun _ => 0)))) (show (231 : Nat) ≠ 235 by first | decide | assumption | omega)).trans hh129
  rw [← e_mem133] at hh141
  have hh142 := (va_up_ne mem122 (.inl (cy 1, (8, .inl (fun _ => 0)))) (show (232 : Nat) ≠ 235 by first | decide | assumption | omega)).trans hh130
  rw [← e_mem133] at hh142
  have hh143 := (va_up_ne mem122 (.inl (cy 1, (8, .inl (fun _ => 0)))) (show (233 : Nat) ≠ 235 by first | decide | assumption | omega)).trans hh131
  rw [← e_mem133] at hh143
  have hh144 := (va_up_ne mem122 (.inl (cy 1, (8, .inl (fun _ => 0)))) (show (234 : Nat) ≠ 235 by first | decide | assumption | omega)).trans hh132
  rw [← e_mem133] at hh144
  refine f_putF Bx hin hP (adB_D hbz) hS (by omega) hh134 rfl inMo tyMo okMo nmMo 19 (by decide) kw_675 rfl rfl rfl rfl (Nat.le_of_ble_eq_true rfl) d_Mo_init_96 (fun H locs hP hS => ?_)
  obtain ⟨mem145, e_mem145⟩ : ∃ z, z = va_up mem133 (224) (.inr (7, [.int (0), .int (0), .ref ((adB base) 225), .int ((-1)), .int (0), .ref ((adB base) 226), .ref ((adB base) 227), .int (0), .ref ((adB base) 228), .ref ((adB base) 229), .ref ((adB base) 230), .ref ((adB base) 231), .ref ((adB base) 232), .ref ((adB base) 233), .int (0), .ref ((adB base) 234), .int (0), .int (0), .int (0), .ref ((adB base) 235), .null, .null, .null, .null, .int (0), .null, .int (0), .null, .int (0)])) := ⟨_, rfl⟩
  have hP : va_P D vcl (fw 236 (adB base) mem145) H := by rw [e_mem145]; exact hP
  have h_mem145 : mem145 (224) = .inr (7, [.int (0), .int (0), .ref ((adB base) 225), .int ((-1)), .int (0), .ref ((adB base) 226), .ref ((adB base) 227), .int (0), .ref ((adB base) 228), .ref ((adB base) 229), .ref ((adB base) 230), .ref ((adB base) 231), .ref ((adB base) 232), .ref ((adB base) 233), .int (0), .ref ((adB base) 234), .int (0), .int (0), .int (0), .ref ((adB base) 235), .null, .null, .null, .null, .int (0), .null, .int (0), .null, .int (0)]) := by rw [e_mem145, va_up_self]
  have hh146 := (va_up_ne mem133 (.inr (7, [.int (0), .int (0), .ref ((adB base) 225), .int ((-1)), .int (0), .ref ((adB base) 226), .ref ((adB base) 227), .int (0), .ref ((adB base) 228), .ref ((adB base) 229), .ref ((adB base) 230), .ref ((adB base) 231), .ref ((adB base) 232), .ref ((adB base) 233), .int (0), .ref ((adB base) 234), .int (0), .int (0), .int (0), .ref ((adB base) 235), .null, .null, .null, .null, .int (0), .null, .int (0), .null, .int (0)])) (show (225 : Nat) ≠ 224 by first | decide | assumption | omega)).trans hh135
  rw [← e_mem145] at hh146
  have hh147 := (va_up_ne mem133 (.inr (7, [.int (0), .int (0), .ref ((adB base) 225), .int ((-1)), .int (0), .ref ((adB base) 226), .ref ((adB base) 227), .int (0), .ref ((adB base) 228), .ref ((adB base) 229), .ref ((adB base) 230), .ref ((adB base) 231), .ref ((adB base) 232), .ref ((adB base) 233), .int (0), .ref ((adB base) 234), .int (0), .int (0), .int (0), .ref ((adB base) 235), .null, .null, .null, .null, .int (0), .null, .int (0), .null, .int (0)])) (show (226 : Nat) ≠ 224 by first | decide | assumption | omega)).trans hh136
  rw [← e_mem145] at hh147
  have hh148 := (va_up_ne mem133 (.inr (7, [.int (0), .int (0), .ref ((adB base) 225), .int ((-1)), .int (0), .ref ((adB base) 226), .ref ((adB base) 227), .int (0), .ref ((adB base) 228), .ref ((adB base) 229), .ref ((adB base) 230), .ref ((adB base) 231), .ref ((adB base) 232), .ref ((adB base) 233), .int (0), .ref ((adB base) 234), .int (0), .int (0), .int (0), .ref ((adB base) 235), .null, .null, .null, .null, .int (0), .null, .int (0), .null, .int (0)])) (show (227 : Nat) ≠ 224 by first | decide | assumption | omega)).trans hh137
  rw [← e_mem145] at hh148
  have hh149 := (va_up_ne mem133 (.inr (7, [.int (0), .int (0), .ref ((adB base) 225), .int ((-1)), .int (0), .ref ((adB base) 226), .ref ((adB base) 227), .int (0), .ref ((adB base) 228), .ref ((adB base) 229), .ref ((adB base) 230), .ref ((adB base) 231), .ref ((adB base) 232), .ref ((adB base) 233), .int (0), .ref ((adB base) 234), .int (0), .int (0), .int (0), .ref ((adB base) 235), .null, .null, .null, .null, .int (0), .null, .int (0), .null, .int (0)])) (show (228 : Nat) ≠ 224 by first | decide | assumption | omega)).trans hh138
  rw [← e_mem145] at hh149
  have hh150 := (va_up_ne mem133 (.inr (7, [.int (0), .int (0), .ref ((adB base) 225), .int ((-1)), .int (0), .ref ((adB base) 226), .ref ((adB base) 227), .int (0), .ref ((adB base) 228), .ref ((adB base) 229), .ref ((adB base) 230), .ref ((adB base) 231), .ref ((adB base) 232), .ref ((adB base) 233), .int (0), .ref ((adB base) 234), .int (0), .int (0), .int (0), .ref ((adB base) 235), .null, .null, .null, .null, .int (0), .null, .int (0), .null, .int (0)])) (show (229 : Nat) ≠ 224 by first | decide | assumption | omega)).trans hh139
  rw [← e_mem145] at hh150
  have hh151 := (va_up_ne mem133 (.inr (7, [.int (0), .int (0), .ref ((adB base) 225), .int ((-1)), .int (0), .ref ((adB base) 226), .ref ((adB base) 227), .int (0), .ref ((adB base) 228), .ref ((adB base) 229), .ref ((adB base) 230), .ref ((adB base) 231), .ref ((adB base) 232), .ref ((adB base) 233), .int (0), .ref ((adB base) 234), .int (0), .int (0), .int (0), .ref ((adB base) 235), .null, .null, .null, .null, .int (0), .null, .int (0), .null, .int (0)])) (show (230 : Nat) ≠ 224 by first | decide | assumption | omega)).trans hh140
  rw [← e_mem145] at hh151
  have hh152 := (va_up_ne mem133 (.inr (7, [.int (0), .int (0), .ref ((adB base) 225), .int ((-1)), .int (0), .ref ((adB base) 226), .ref ((adB base) 227), .int (0), .ref ((adB base) 228), .ref ((adB base) 229), .ref ((adB base) 230), .ref ((adB base) 231), .ref ((adB base) 232), .ref ((adB base) 233), .int (0), .ref ((adB base) 234), .int (0), .int (0), .int (0), .ref ((adB base) 235), .null, .null, .null, .null, .int (0), .null, .int (0), .null, .int (0)])) (show (231 : Nat) ≠ 224 by first | decide | assumption | omega)).trans hh141
  rw [← e_mem145] at hh152
  have hh153 := (va_up_ne mem133 (.inr (7, [.int (0), .int (0), .ref ((adB base) 225), .int ((-1)), .int (0), .ref ((adB base) 226), .ref ((adB base) 227), .int (0), .ref ((adB base) 228), .ref ((adB base) 229), .ref ((adB base) 230), .ref ((adB base) 231), .ref ((adB base) 232), .ref ((adB base) 233), .int (0), .ref ((adB base) 234), .int (0), .int (0), .int (0), .ref ((adB base) 235), .null, .null, .null, .null, .int (0), .null, .int (0), .null, .int (0)])) (show (232 : Nat) ≠ 224 by first | decide | assumption | omega)).trans hh142
  rw [← e_mem145] at hh153
  have hh154 := (va_up_ne mem133 (.inr (7, [.int (0), .int (0), .ref ((adB base) 225), .int ((-1)), .int (0), .ref ((adB base) 226), .ref ((adB base) 227), .int (0), .ref ((adB base) 228), .ref ((adB base) 229), .ref ((adB base) 230), .ref ((adB base) 231), .ref ((adB base) 232), .ref ((adB base) 233), .int (0), .ref ((adB base) 234), .int (0), .int (0), .int (0), .ref ((adB base) 235), .null, .null, .null, .null, .int (0), .null, .int (0), .null, .int (0)])) (show (233 : Nat) ≠ 224 by first | decide | assumption | omega)).trans hh143
  rw [← e_mem145] at hh154
  have hh155 := (va_up_ne mem133 (.inr (7, [.int (0), .int (0), .ref ((adB base) 225), .int ((-1)), .int (0), .ref ((adB base) 226), .ref ((adB base) 227), .int (0), .ref ((adB base) 228), .ref ((adB base) 229), .ref ((adB base) 230), .ref ((adB base) 231), .ref ((adB base) 232), .ref ((adB base) 233), .int (0), .ref ((adB base) 234), .int (0), .int (0), .int (0), .ref ((adB base) 235), .null, .null, .null, .null, .int (0), .null, .int (0), .null, .int (0)])) (show (234 : Nat) ≠ 224 by first | decide | assumption | omega)).trans hh144
  rw [← e_mem145] at hh155
  have hh156 := (va_up_ne mem133 (.inr (7, [.int (0), .int (0), .ref ((adB base) 225), .int ((-1)), .int (0), .ref ((adB base) 226), .ref ((adB base) 227), .int (0), .ref ((adB base) 228), .ref ((adB base) 229), .ref ((adB base) 230), .ref ((adB base) 231), .ref ((adB base) 232), .ref ((adB base) 233), .int (0), .ref ((adB base) 234), .int (0), .int (0), .int (0), .ref ((adB base) 235), .null, .null, .null, .null, .int (0), .null, .int (0), .null, .int (0)])) (show (235 : Nat) ≠ 224 by first | decide | assumption | omega)).trans h_mem133
  rw [← e_mem145] at hh156
  refine lv_aload_n Bx.1 Bx.2.1 d_Mo_init_99 rfl (lv_at hl 0 rfl) ?_
  refine lv_bipush (v := 8) Bx.1 Bx.2.1 d_Mo_init_100 (by decide) ?_
  refine c_size (n := 236) hP (by omega) (by omega) (fun hz => ?_)
  refine f_newa (atype := .int) (n := 236) (t0 := 1) (N' := 8) Bx hP hS hz kw_110 (Bx.2.2.2.2.2 1 _ rfl).2 (8, .inl (fun _ => 0)) (fun _ => rfl) (by decide) (by decide) (by decide) (Nat.le_of_ble_eq_true rfl) (Nat.le_of_ble_eq_true rfl) d_Mo_init_102 (fun H hP hS hz => ?_)
  obtain ⟨mem157, e_mem157⟩ : ∃ z, z = va_up mem145 (236) (.inl (cy 1, (8, .inl (fun _ => 0)))) := ⟨_, rfl⟩
  have hP : va_P D vcl (fw 237 (adB base) mem157) H := by rw [e_mem157]; exact hP
  have h_mem157 : mem157 (236) = .inl (cy 1, (8, .inl (fun _ => 0))) := by rw [e_mem157, va_up_self]
  have hh158 := (va_up_ne mem145 (.inl (cy 1, (8, .inl (fun _ => 0)))) (show (224 : Nat) ≠ 236 by first | decide | assumption | omega)).trans h_mem145
  rw [← e_mem157] at hh158
  have hh159 := (va_up_ne mem145 (.inl (cy 1, (8, .inl (fun _ => 0)))) (show (225 : Nat) ≠ 236 by first | decide | assumption | omega)).trans hh146
  rw [← e_mem157] at hh159
  have hh160 := (va_up_ne mem145 (.inl (cy 1, (8, .inl (fun _ => 0)))) (show (226 : Nat) ≠ 236 by first | decide | assumption | omega)).trans hh147
  rw [← e_mem157] at hh160
  have hh161 := (va_up_ne mem145 (.inl (cy 1, (8, .inl (fun _ => 0)))) (show (227 : Nat) ≠ 236 by first | decide | assumption | omega)).trans hh148
  rw [← e_mem157] at hh161
  have hh162 := (va_up_ne mem145 (.inl (cy 1, (8, .inl (fun _ => 0)))) (show (228 : Nat) ≠ 236 by first | decide | assumption | omega)).trans hh149
  rw [← e_mem157] at hh162
  have hh163 := (va_up_ne mem145 (.inl (cy 1, (8, .inl (fun _ => 0)))) (show (229 : Nat) ≠ 236 by first | decide | assumption | omega)).trans hh150
  rw [← e_mem157] at hh163
  have hh164 := (va_up_ne mem145 (.inl (cy 1, (8, .inl (fun _ => 0)))) (show (230 : Nat) ≠ 236 by first | decide | assumption | omega)).trans hh151
  rw [← e_mem157] at hh164
  have hh165 := (va_up_ne mem145 (.inl (cy 1, (8, .inl (fun _ => 0)))) (show (231 : Nat) ≠ 236 by first | decide | assumption | omega)).trans hh152
  rw [← e_mem157] at hh165
  have hh166 := (va_up_ne mem145 (.inl (cy 1, (8, .inl (fun _ => 0)))) (show (232 : Nat) ≠ 236 by first | decide | assumption | omega)).trans hh153
  rw [← e_mem157] at hh166
  have hh167 := (va_up_ne mem145 (.inl (cy 1, (8, .inl (fun _ => 0)))) (show (233 : Nat) ≠ 236 by first | decide | assumption | omega)).trans hh154
  rw [← e_mem157] at hh167
  have hh168 := (va_up_ne mem145 (.inl (cy 1, (8, .inl (fun _ => 0)))) (show (234 : Nat) ≠ 236 by first | decide | assumption | omega)).trans hh155
  rw [← e_mem157] at hh168
  have hh169 := (va_up_ne mem145 (.inl (cy 1, (8, .inl (fun _ => 0)))) (show (235 : Nat) ≠ 236 by first | decide | assumption | omega)).trans hh156
  rw [← e_mem157] at hh169
  refine f_putF Bx hin hP (adB_D hbz) hS (by omega) hh158 rfl inMo tyMo okMo nmMo 20 (by decide) kw_676 rfl rfl rfl rfl (Nat.le_of_ble_eq_true rfl) d_Mo_init_104 (fun H locs hP hS => ?_)
  obtain ⟨mem170, e_mem170⟩ : ∃ z, z = va_up mem157 (224) (.inr (7, [.int (0), .int (0), .ref ((adB base) 225), .int ((-1)), .int (0), .ref ((adB base) 226), .ref ((adB base) 227), .int (0), .ref ((adB base) 228), .ref ((adB base) 229), .ref ((adB base) 230), .ref ((adB base) 231), .ref ((adB base) 232), .ref ((adB base) 233), .int (0), .ref ((adB base) 234), .int (0), .int (0), .int (0), .ref ((adB base) 235), .ref ((adB base) 236), .null, .null, .null, .int (0), .null, .int (0), .null, .int (0)])) := ⟨_, rfl⟩
  have hP : va_P D vcl (fw 237 (adB base) mem170) H := by rw [e_mem170]; exact hP
  have h_mem170 : mem170 (224) = .inr (7, [.int (0), .int (0), .ref ((adB base) 225), .int ((-1)), .int (0), .ref ((adB base) 226), .ref ((adB base) 227), .int (0), .ref ((adB base) 228), .ref ((adB base) 229), .ref ((adB base) 230), .ref ((adB base) 231), .ref ((adB base) 232), .ref ((adB base) 233), .int (0), .ref ((adB base) 234), .int (0), .int (0), .int (0), .ref ((adB base) 235), .ref ((adB base) 236), .null, .null, .null, .int (0), .null, .int (0), .null, .int (0)]) := by rw [e_mem170, va_up_self]
  have hh171 := (va_up_ne mem157 (.inr (7, [.int (0), .int (0), .ref ((adB base) 225), .int ((-1)), .int (0), .ref ((adB base) 226), .ref ((adB base) 227), .int (0), .ref ((adB base) 228), .ref ((adB base) 229), .ref ((adB base) 230), .ref ((adB base) 231), .ref ((adB base) 232), .ref ((adB base) 233), .int (0), .ref ((adB base) 234), .int (0), .int (0), .int (0), .ref ((adB base) 235), .ref ((adB base) 236), .null, .null, .null, .int (0), .null, .int (0), .null, .int (0)])) (show (225 : Nat) ≠ 224 by first | decide | assumption | omega)).trans hh159
  rw [← e_mem170] at hh171
  have hh172 := (va_up_ne mem157 (.inr (7, [.int (0), .int (0), .ref ((adB base) 225), .int ((-1)), .int (0), .ref ((adB base) 226), .ref ((adB base) 227), .int (0), .ref ((adB base) 228), .ref ((adB base) 229), .ref ((adB base) 230), .ref ((adB base) 231), .ref ((adB base) 232), .ref ((adB base) 233), .int (0), .ref ((adB base) 234), .int (0), .int (0), .int (0), .ref ((adB base) 235), .ref ((adB base) 236), .null, .null, .null, .int (0), .null, .int (0), .null, .int (0)])) (show (226 : Nat) ≠ 224 by first | decide | assumption | omega)).trans hh160
  rw [← e_mem170] at hh172
  have hh173 := (va_up_ne mem157 (.inr (7, [.int (0), .int (0), .ref ((adB base) 225), .int ((-1)), .int (0), .ref ((adB base) 226), .ref ((adB base) 227), .int (0), .ref ((adB base) 228), .ref ((adB base) 229), .ref ((adB base) 230), .ref ((adB base) 231), .ref ((adB base) 232), .ref ((adB base) 233), .int (0), .ref ((adB base) 234), .int (0), .int (0), .int (0), .ref ((adB base) 235), .ref ((adB base) 236), .null, .null, .null, .int (0), .null, .int (0), .null, .int (0)])) (show (227 : Nat) ≠ 224 by first | decide | assumption | omega)).trans hh161
  rw [← e_mem170] at hh173
  have hh174 := (va_up_ne mem157 (.inr (7, [.int (0), .int (0), .ref ((adB base) 225), .int ((-1)), .int (0), .ref ((adB base) 226), .ref ((adB base) 227), .int (0), .ref ((adB base) 228), .ref ((adB base) 229), .ref ((adB base) 230), .ref ((adB base) 231), .ref ((adB base) 232), .ref ((adB base) 233), .int (0), .ref ((adB base) 234), .int (0), .int (0), .int (0), .ref ((adB base) 235), .ref ((adB base) 236), .null, .null, .null, .int (0), .null, .int (0), .null, .int (0)])) (show (228 : Nat) ≠ 224 by first | decide | assumption | omega)).trans hh162
  rw [← e_mem170] at hh174
  have hh175 := (va_up_ne mem157 (.inr (7, [.int (0), .int (0), .ref ((adB base) 225), .int ((-1)), .int (0), .ref ((adB base) 226), .ref ((adB base) 227), .int (0), .ref ((adB base) 228), .ref ((adB base) 229), .ref ((adB base) 230), .ref ((adB base) 231), .ref ((adB base) 232), .ref ((adB base) 233), .int (0), .ref ((adB base) 234), .int (0), .int (0), .int (0), .ref ((adB base) 235), .ref ((adB base) 236), .null, .null, .null, .int (0), .null, .int (0), .null, .int (0)])) (show (229 : Nat) ≠ 224 by first | decide | assumption | omega)).trans hh163
  rw [← e_mem170] at hh175
  have hh176 := (va_up_ne mem157 (.inr (7, [.int (0), .int (0), .ref ((adB base) 225), .int ((-1)), .int (0), .ref ((adB base) 226), .ref ((adB base) 227), .int (0), .ref ((adB base) 228), .ref ((adB base) 229), .ref ((adB base) 230), .ref ((adB base) 231), .ref ((adB base) 232), .ref ((adB base) 233), .int (0), .ref ((adB base) 234), .int (0), .int (0), .int (0), .ref ((adB base) 235), .ref ((adB base) 236), .null, .null, .null, .int (0), .null, .int (0), .null, .int (0)])) (show (230 : Nat) ≠ 224 by first | decide | assumption | omega)).trans hh164
  rw [← e_mem170] at hh176
  have hh177 := (va_up_ne mem157 (.inr (7, [.int (0), .int (0), .ref ((adB base) 225), .int ((-1)), .int (0), .ref ((adB base) 226), .ref ((adB base) 227), .int (0), .ref ((adB base) 228), .ref ((adB base) 229), .ref ((adB base) 230), .ref ((adB base) 231), .ref ((adB base) 232), .ref ((adB base) 233), .int (0), .ref ((adB base) 234), .int (0), .int (0), .int (0), .ref ((adB base) 235), .ref ((adB base) 236), .null, .null, .null, .int (0), .null, .int (0), .null, .int (0)])) (show (231 : Nat) ≠ 224 by first | decide | assumption | omega)).trans hh165
  rw [← e_mem170] at hh177
  have hh178 := (va_up_ne mem157 (.inr (7, [.int (0), .int (0), .ref ((adB base) 225), .int ((-1)), .int (0), .ref ((adB base) 226), .ref ((adB base) 227), .int (0), .ref ((adB base) 228), .ref ((adB base) 229), .ref ((adB base) 230), .ref ((adB base) 231), .ref ((adB base) 232), .ref ((adB base) 233), .int (0), .ref ((adB base) 234), .int (0), .int (0), .int (0), .ref ((adB base) 235), .ref ((adB base) 236), .null, .null, .null, .int (0), .null, .int (0), .null, .int (0)])) (show (232 : Nat) ≠ 224 by first | decide | assumption | omega)).trans hh166
  rw [← e_mem170] at hh178
  have hh179 := (va_up_ne mem157 (.inr (7, [.int (0), .int (0), .ref ((adB base) 225), .int ((-1)), .int (0), .ref ((adB base) 226), .ref ((adB base) 227), .int (0), .ref ((adB base) 228), .ref ((adB base) 229), .ref ((adB base) 230), .ref ((adB base) 231), .ref ((adB base) 232), .ref ((adB base) 233), .int (0), .ref ((adB base) 234), .int (0), .int (0), .int (0), .ref ((adB base) 235), .ref ((adB base) 236), .null, .null, .null, .int (0), .null, .int (0), .null, .int (0)])) (show (233 : Nat) ≠ 224 by first | decide | assumption | omega)).trans hh167
  rw [← e_mem170] at hh179
  have hh180 := (va_up_ne mem157 (.inr (7, [.int (0), .int (0), .ref ((adB base) 225), .int ((-1)), .int (0), .ref ((adB base) 226), .ref ((adB base) 227), .int (0), .ref ((adB base) 228), .ref ((adB base) 229), .ref ((adB base) 230), .ref ((adB base) 231), .ref ((adB base) 232), .ref ((adB base) 233), .int (0), .ref ((adB base) 234), .int (0), .int (0), .int (0), .ref ((adB base) 235), .ref ((adB base) 236), .null, .null, .null, .int (0), .null, .int (0), .null, .int (0)])) (show (234 : Nat) ≠ 224 by first | decide | assumption | omega)).trans hh168
  rw [← e_mem170] at hh180
  have hh181 := (va_up_ne mem157 (.inr (7, [.int (0), .int (0), .ref ((adB base) 225), .int ((-1)), .int (0), .ref ((adB base) 226), .ref ((adB base) 227), .int (0), .ref ((adB base) 228), .ref ((adB base) 229), .ref ((adB base) 230), .ref ((adB base) 231), .ref ((adB base) 232), .ref ((adB base) 233), .int (0), .ref ((adB base) 234), .int (0), .int (0), .int (0), .ref ((adB base) 235), .ref ((adB base) 236), .null, .null, .null, .int (0), .null, .int (0), .null, .int (0)])) (show (235 : Nat) ≠ 224 by first | decide | assumption | omega)).trans hh169
  rw [← e_mem170] at hh181
  have hh182 := (va_up_ne mem157 (.inr (7, [.int (0), .int (0), .ref ((adB base) 225), .int ((-1)), .int (0), .ref ((adB base) 226), .ref ((adB base) 227), .int (0), .ref ((adB base) 228), .ref ((adB base) 229), .ref ((adB base) 230), .ref ((adB base) 231), .ref ((adB base) 232), .ref ((adB base) 233), .int (0), .ref ((adB base) 234), .int (0), .int (0), .int (0), .ref ((adB base) 235), .ref ((adB base) 236), .null, .null, .null, .int (0), .null, .int (0), .null, .int (0)])) (show (236 : Nat) ≠ 224 by first | decide | assumption | omega)).trans h_mem157
  rw [← e_mem170] at hh182
  refine lv_aload_n Bx.1 Bx.2.1 d_Mo_init_107 rfl (lv_at hl 0 rfl) ?_
  refine lv_bipush (v := 8) Bx.1 Bx.2.1 d_Mo_init_108 (by decide) ?_
  refine c_size (n := 237) hP (by omega) (by omega) (fun hz => ?_)
  refine f_newa (atype := .int) (n := 237) (t0 := 1) (N' := 8) Bx hP hS hz kw_110 (Bx.2.2.2.2.2 1 _ rfl).2 (8, .inl (fun _ => 0)) (fun _ => rfl) (by decide) (by decide) (by decide) (Nat.le_of_ble_eq_true rfl) (Nat.le_of_ble_eq_true rfl) d_Mo_init_110 (fun H hP hS hz => ?_)
  obtain ⟨mem183, e_mem183⟩ : ∃ z, z = va_up mem170 (237) (.inl (cy 1, (8, .inl (fun _ => 0)))) := ⟨_, rfl⟩
  have hP : va_P D vcl (fw 238 (adB base) mem183) H := by rw [e_mem183]; exact hP
  have h_mem183 : mem183 (237) = .inl (cy 1, (8, .inl (fun _ => 0))) := by rw [e_mem183, va_up_self]
  have hh184 := (va_up_ne mem170 (.inl (cy 1, (8, .inl (fun _ => 0)))) (show (224 : Nat) ≠ 237 by first | decide | assumption | omega)).trans h_mem170
  rw [← e_mem183] at hh184
  have hh185 := (va_up_ne mem170 (.inl (cy 1, (8, .inl (fun _ => 0)))) (show (225 : Nat) ≠ 237 by first | decide | assumption | omega)).trans hh171
  rw [← e_mem183] at hh185
  have hh186 := (va_up_ne mem170 (.inl (cy 1, (8, .inl (fun _ => 0)))) (show (226 : Nat) ≠ 237 by first | decide | assumption | omega)).trans hh172
  rw [← e_mem183] at hh186
  have hh187 := (va_up_ne mem170 (.inl (cy 1, (8, .inl (fun _ => 0)))) (show (227 : Nat) ≠ 237 by first | decide | assumption | omega)).trans hh173
  rw [← e_mem183] at hh187
  have hh188 := (va_up_ne mem170 (.inl (cy 1, (8, .inl (fun _ => 0)))) (show (228 : Nat) ≠ 237 by first | decide | assumption | omega)).trans hh174
  rw [← e_mem183] at hh188
  have hh189 := (va_up_ne mem170 (.inl (cy 1, (8, .inl (fun _ => 0)))) (show (229 : Nat) ≠ 237 by first | decide | assumption | omega)).trans hh175
  rw [← e_mem183] at hh189
  have hh190 := (va_up_ne mem170 (.inl (cy 1, (8, .inl (fun _ => 0)))) (show (230 : Nat) ≠ 237 by first | decide | assumption | omega)).trans hh176
  rw [← e_mem183] at hh190
  have hh191 := (va_up_ne mem170 (.inl (cy 1, (8, .inl (fun _ => 0)))) (show (231 : Nat) ≠ 237 by first | decide | assumption | omega)).trans hh177
  rw [← e_mem183] at hh191
  have hh192 := (va_up_ne mem170 (.inl (cy 1, (8, .inl (fun _ => 0)))) (show (232 : Nat) ≠ 237 by first | decide | assumption | omega)).trans hh178
  rw [← e_mem183] at hh192
  have hh193 := (va_up_ne mem170 (.inl (cy 1, (8, .inl (fun _ => 0)))) (show (233 : Nat) ≠ 237 by first | decide | assumption | omega)).trans hh179
  rw [← e_mem183] at hh193
  have hh194 := (va_up_ne mem170 (.inl (cy 1, (8, .inl (fun _ => 0)))) (show (234 : Nat) ≠ 237 by first | decide | assumption | omega)).trans hh180
  rw [← e_mem183] at hh194
  have hh195 := (va_up_ne mem170 (.inl (cy 1, (8, .inl (fun _ => 0)))) (show (235 : Nat) ≠ 237 by first | decide | assumption | omega)).trans hh181
  rw [← e_mem183] at hh195
  have hh196 := (va_up_ne mem170 (.inl (cy 1, (8, .inl (fun _ => 0)))) (show (236 : Nat) ≠ 237 by first | decide | assumption | omega)).trans hh182
  rw [← e_mem183] at hh196
  refine f_putF Bx hin hP (adB_D hbz) hS (by omega) hh184 rfl inMo tyMo okMo nmMo 21 (by decide) kw_677 rfl rfl rfl rfl (Nat.le_of_ble_eq_true rfl) d_Mo_init_112 (fun H locs hP hS => ?_)
  obtain ⟨mem197, e_mem197⟩ : ∃ z, z = va_up mem183 (224) (.inr (7, [.int (0), .int (0), .ref ((adB base) 225), .int ((-1)), .int (0), .ref ((adB base) 226), .ref ((adB base) 227), .int (0), .ref ((adB base) 228), .ref ((adB base) 229), .ref ((adB base) 230), .ref ((adB base) 231), .ref ((adB base) 232), .ref ((adB base) 233), .int (0), .ref ((adB base) 234), .int (0), .int (0), .int (0), .ref ((adB base) 235), .ref ((adB base) 236), .ref ((adB base) 237), .null, .null, .int (0), .null, .int (0), .null, .int (0)])) := ⟨_, rfl⟩
  have hP : va_P D vcl (fw 238 (adB base) mem197) H := by rw [e_mem197]; exact hP
  have h_mem197 : mem197 (224) = .inr (7, [.int (0), .int (0), .ref ((adB base) 225), .int ((-1)), .int (0), .ref ((adB base) 226), .ref ((adB base) 227), .int (0), .ref ((adB base) 228), .ref ((adB base) 229), .ref ((adB base) 230), .ref ((adB base) 231), .ref ((adB base) 232), .ref ((adB base) 233), .int (0), .ref ((adB base) 234), .int (0), .int (0), .int (0), .ref ((adB base) 235), .ref ((adB base) 236), .ref ((adB base) 237), .null, .null, .int (0), .null, .int (0), .null, .int (0)]) := by rw [e_mem197, va_up_self]
  have hh198 := (va_up_ne mem183 (.inr (7, [.int (0), .int (0), .ref ((adB base) 225), .int ((-1)), .int (0), .ref ((adB base) 226), .ref ((adB base) 227), .int (0), .ref ((adB base) 228), .ref ((adB base) 229), .ref ((adB base) 230), .ref ((adB base) 231), .ref ((adB base) 232), .ref ((adB base) 233), .int (0), .ref ((adB base) 234), .int (0), .int (0), .int (0), .ref ((adB base) 235), .ref ((adB base) 236), .ref ((adB base) 237), .null, .null, .int (0), .null, .int (0), .null, .int (0)])) (show (225 : Nat) ≠ 224 by first | decide | assumption | omega)).trans hh185
  rw [← e_mem197] at hh198
  have hh199 := (va_up_ne mem183 (.inr (7, [.int (0), .int (0), .ref ((adB base) 225), .int ((-1)), .int (0), .ref ((adB base) 226), .ref ((adB base) 227), .int (0), .ref ((adB base) 228), .ref ((adB base) 229), .ref ((adB base) 230), .ref ((adB base) 231), .ref ((adB base) 232), .ref ((adB base) 233), .int (0), .ref ((adB base) 234), .int (0), .int (0), .int (0), .ref ((adB base) 235), .ref ((adB base) 236), .ref ((adB base) 237), .null, .null, .int (0), .null, .int (0), .null, .int (0)])) (show (226 : Nat) ≠ 224 by first | decide | assumption | omega)).trans hh186
  rw [← e_mem197] at hh199
  have hh200 := (va_up_ne mem183 (.inr (7, [.int (0), .int (0), .ref ((adB base) 225), .int ((-1)), .int (0), .ref ((adB base) 226), .ref ((adB base) 227), .int (0), .ref ((adB base) 228), .ref ((adB base) 229), .ref ((adB base) 230), .ref ((adB base) 231), .ref ((adB base) 232), .ref ((adB base) 233), .int (0), .ref ((adB base) 234), .int (0), .int (0), .int (0), .ref ((adB base) 235), .ref ((adB base) 236), .ref ((adB base) 237), .null, .null, .int (0), .null, .int (0), .null, .int (0)])) (show (227 : Nat) ≠ 224 by first | decide | assumption | omega)).trans hh187
  rw [← e_mem197] at hh200
  have hh201 := (va_up_ne mem183 (.inr (7, [.int (0), .int (0), .ref ((adB base) 225), .int ((-1)), .int (0), .ref ((adB base) 226), .ref ((adB base) 227), .int (0), .ref ((adB base) 228), .ref ((adB base) 229), .ref ((adB base) 230), .ref ((adB base) 231), .ref ((adB base) 232), .ref ((adB base) 233), .int (0), .ref ((adB base) 234), .int (0), .int (0), .int (0), .ref ((adB base) 235), .ref ((adB base) 236), .ref ((adB base) 237), .null, .null, .int (0), .null, .int (0), .null, .int (0)])) (show (228 : Nat) ≠ 224 by first | decide | assumption | omega)).trans hh188
  rw [← e_mem197] at hh201
  have hh202 := (va_up_ne mem183 (.inr (7, [.int (0), .int (0), .ref ((adB base) 225), .int ((-1)), .int (0), .ref ((adB base) 226), .ref ((adB base) 227), .int (0), .ref ((adB base) 228), .ref ((adB base) 229), .ref ((adB base) 230), .ref ((adB base) 231), .ref ((adB base) 232), .ref ((adB base) 233), .int (0), .ref ((adB base) 234), .int (0), .int (0), .int (0), .ref ((adB base) 235), .ref ((adB base) 236), .ref ((adB base) 237), .null, .null, .int (0), .null, .int (0), .null, .int (0)])) (show (229 : Nat) ≠ 224 by first | decide | assumption | omega)).trans hh189
  rw [← e_mem197] at hh202
  have hh203 := (va_up_ne mem183 (.inr (7, [.int (0), .int (0), .ref ((adB base) 225), .int ((-1)), .int (0), .ref ((adB base) 226), .ref ((adB base) 227), .int (0), .ref ((adB base) 228), .ref ((adB base) 229), .ref ((adB base) 230), .ref ((adB base) 231), .ref ((adB base) 232), .ref ((adB base) 233), .int (0), .ref ((adB base) 234), .int (0), .int (0), .int (0), .ref ((adB base) 235), .ref ((adB base) 236), .ref ((adB base) 237), .null, .null, .int (0), .null, .int (0), .null, .int (0)])) (show (230 : Nat) ≠ 224 by first | decide | assumption | omega)).trans hh190
  rw [← e_mem197] at hh203
  have hh204 := (va_up_ne mem183 (.inr (7, [.int (0), .int (0), .ref ((adB base) 225), .int ((-1)), .int (0), .ref ((adB base) 226), .ref ((adB base) 227), .int (0), .ref ((adB base) 228), .ref ((adB base) 229), .ref ((adB base) 230), .ref ((adB base) 231), .ref ((adB base) 232), .ref ((adB base) 233), .int (0), .ref ((adB base) 234), .int (0), .int (0), .int (0), .ref ((adB base) 235), .ref ((adB base) 236), .ref ((adB base) 237), .null, .null, .int (0), .null, .int (0), .null, .int (0)])) (show (231 : Nat) ≠ 224 by first | decide | assumption | omega)).trans hh191
  rw [← e_mem197] at hh204
  have hh205 := (va_up_ne mem183 (.inr (7, [.int (0), .int (0), .ref ((adB base) 225), .int ((-1)), .int (0), .ref ((adB base) 226), .ref ((adB base) 227), .int (0), .ref ((adB base) 228), .ref ((adB base) 229), .ref ((adB base) 230), .ref ((adB base) 231), .ref ((adB base) 232), .ref ((adB base) 233), .int (0), .ref ((adB base) 234), .int (0), .int (0), .int (0), .ref ((adB base) 235), .ref ((adB base) 236), .ref ((adB base) 237), .null, .null, .int (0), .null, .int (0), .null, .int (0)])) (show (232 : Nat) ≠ 224 by first | decide | assumption | omega)).trans hh192
  rw [← e_mem197] at hh205
  have hh206 := (va_up_ne mem183 (.inr (7, [.int (0), .int (0), .ref ((adB base) 225), .int ((-1)), .int (0), .ref ((adB base) 226), .ref ((adB base) 227), .int (0), .ref ((adB base) 228), .ref ((adB base) 229), .ref ((adB base) 230), .ref ((adB base) 231), .ref ((adB base) 232), .ref ((adB base) 233), .int (0), .ref ((adB base) 234), .int (0), .int (0), .int (0), .ref ((adB base) 235), .ref ((adB base) 236), .ref ((adB base) 237), .null, .null, .int (0), .null, .int (0), .null, .int (0)])) (show (233 : Nat) ≠ 224 by first | decide | assumption | omega)).trans hh193
  rw [← e_mem197] at hh206
  have hh207 := (va_up_ne mem183 (.inr (7, [.int (0), .int (0), .ref ((adB base) 225), .int ((-1)), .int (0), .ref ((adB base) 226), .ref ((adB base) 227), .int (0), .ref ((adB base) 228), .ref ((adB base) 229), .ref ((adB base) 230), .ref ((adB base) 231), .ref ((adB base) 232), .ref ((adB base) 233), .int (0), .ref ((adB base) 234), .int (0), .int (0), .int (0), .ref ((adB base) 235), .ref ((adB base) 236), .ref ((adB base) 237), .null, .null, .int (0), .null, .int (0), .null, .int (0)])) (show (234 : Nat) ≠ 224 by first | decide | assumption | omega)).trans hh194
  rw [← e_mem197] at hh207
  have hh208 := (va_up_ne mem183 (.inr (7, [.int (0), .int (0), .ref ((adB base) 225), .int ((-1)), .int (0), .ref ((adB base) 226), .ref ((adB base) 227), .int (0), .ref ((adB base) 228), .ref ((adB base) 229), .ref ((adB base) 230), .ref ((adB base) 231), .ref ((adB base) 232), .ref ((adB base) 233), .int (0), .ref ((adB base) 234), .int (0), .int (0), .int (0), .ref ((adB base) 235), .ref ((adB base) 236), .ref ((adB base) 237), .null, .null, .int (0), .null, .int (0), .null, .int (0)])) (show (235 : Nat) ≠ 224 by first | decide | assumption | omega)).trans hh195
  rw [← e_mem197] at hh208
  have hh209 := (va_up_ne mem183 (.inr (7, [.int (0), .int (0), .ref ((adB base) 225), .int ((-1)), .int (0), .ref ((adB base) 226), .ref ((adB base) 227), .int (0), .ref ((adB base) 228), .ref ((adB base) 229), .ref ((adB base) 230), .ref ((adB base) 231), .ref ((adB base) 232), .ref ((adB base) 233), .int (0), .ref ((adB base) 234), .int (0), .int (0), .int (0), .ref ((adB base) 235), .ref ((adB base) 236), .ref ((adB base) 237), .null, .null, .int (0), .null, .int (0), .null, .int (0)])) (show (236 : Nat) ≠ 224 by first | decide | assumption | omega)).trans hh196
  rw [← e_mem197] at hh209
  have hh210 := (va_up_ne mem183 (.inr (7, [.int (0), .int (0), .ref ((adB base) 225), .int ((-1)), .int (0), .ref ((adB base) 226), .ref ((adB base) 227), .int (0), .ref ((adB base) 228), .ref ((adB base) 229), .ref ((adB base) 230), .ref ((adB base) 231), .ref ((adB base) 232), .ref ((adB base) 233), .int (0), .ref ((adB base) 234), .int (0), .int (0), .int (0), .ref ((adB base) 235), .ref ((adB base) 236), .ref ((adB base) 237), .null, .null, .int (0), .null, .int (0), .null, .int (0)])) (show (237 : Nat) ≠ 224 by first | decide | assumption | omega)).trans h_mem183
  rw [← e_mem197] at hh210
  refine lv_aload_n Bx.1 Bx.2.1 d_Mo_init_115 rfl (lv_at hl 0 rfl) ?_
  refine lv_bipush (v := 8) Bx.1 Bx.2.1 d_Mo_init_116 (by decide) ?_
  refine c_size (n := 238) hP (by omega) (by omega) (fun hz => ?_)
  refine f_newa (atype := .int) (n := 238) (t0 := 1) (N' := 8) Bx hP hS hz kw_110 (Bx.2.2.2.2.2 1 _ rfl).2 (8, .inl (fun _ => 0)) (fun _ => rfl) (by decide) (by decide) (by decide) (Nat.le_of_ble_eq_true rfl) (Nat.le_of_ble_eq_true rfl) d_Mo_init_118 (fun H hP hS hz => ?_)
  obtain ⟨mem211, e_mem211⟩ : ∃ z, z = va_up mem197 (238) (.inl (cy 1, (8, .inl (fun _ => 0)))) := ⟨_, rfl⟩
  have hP : va_P D vcl (fw 239 (adB base) mem211) H := by rw [e_mem211]; exact hP
  have h_mem211 : mem211 (238) = .inl (cy 1, (8, .inl (fun _ => 0))) := by rw [e_mem211, va_up_self]
  have hh212 := (va_up_ne mem197 (.inl (cy 1, (8, .inl (fun _ => 0)))) (show (224 : Nat) ≠ 238 by first | decide | assumption | omega)).trans h_mem197
  rw [← e_mem211] at hh212
  have hh213 := (va_up_ne mem197 (.inl (cy 1, (8, .inl (fun _ => 0)))) (show (225 : Nat) ≠ 238 by first | decide | assumption | omega)).trans hh198
  rw [← e_mem211] at hh213
  have hh214 := (va_up_ne mem197 (.inl (cy 1, (8, .inl (fun _ => 0)))) (show (226 : Nat) ≠ 238 by first | decide | assumption | omega)).trans hh199
  rw [← e_mem211] at hh214
  have hh215 := (va_up_ne mem197 (.inl (cy 1, (8, .inl (fun _ => 0)))) (show (227 : Nat) ≠ 238 by first | decide | assumption | omega)).trans hh200
  rw [← e_mem211] at hh215
  have hh216 := (va_up_ne mem197 (.inl (cy 1, (8, .inl (fun _ => 0)))) (show (228 : Nat) ≠ 238 by first | decide | assumption | omega)).trans hh201
  rw [← e_mem211] at hh216
  have hh217 := (va_up_ne mem197 (.inl (cy 1, (8, .inl (fun _ => 0)))) (show (229 : Nat) ≠ 238 by first | decide | assumption | omega)).trans hh202
  rw [← e_mem211] at hh217
  have hh218 := (va_up_ne mem197 (.inl (cy 1, (8, .inl (fun _ => 0)))) (show (230 : Nat) ≠ 238 by first | decide | assumption | omega)).trans hh203
  rw [← e_mem211] at hh218
  have hh219 := (va_up_ne mem197 (.inl (cy 1, (8, .inl (fun _ => 0)))) (show (231 : Nat) ≠ 238 by first | decide | assumption | omega)).trans hh204
  rw [← e_mem211] at hh219
  have hh220 := (va_up_ne mem197 (.inl (cy 1, (8, .inl (fun _ => 0)))) (show (232 : Nat) ≠ 238 by first | decide | assumption | omega)).trans hh205
  rw [← e_mem211] at hh220
  have hh221 := (va_up_ne mem197 (.inl (cy 1, (8, .inl (fun _ => 0)))) (show (233 : Nat) ≠ 238 by first | decide | assumption | omega)).trans hh206
  rw [← e_mem211] at hh221
  have hh222 := (va_up_ne mem197 (.inl (cy 1, (8, .inl (fun _ => 0)))) (show (234 : Nat) ≠ 238 by first | decide | assumption | omega)).trans hh207
  rw [← e_mem211] at hh222
  have hh223 := (va_up_ne mem197 (.inl (cy 1, (8, .inl (fun _ => 0)))) (show (235 : Nat) ≠ 238 by first | decide | assumption | omega)).trans hh208
  rw [← e_mem211] at hh223
  have hh224 := (va_up_ne mem197 (.inl (cy 1, (8, .inl (fun _ => 0)))) (show (236 : Nat) ≠ 238 by first | decide | assumption | omega)).trans hh209
  rw [← e_mem211] at hh224
  have hh225 := (va_up_ne mem197 (.inl (cy 1, (8, .inl (fun _ => 0)))) (show (237 : Nat) ≠ 238 by first | decide | assumption | omega)).trans hh210
  rw [← e_mem211] at hh225
  refine f_putF Bx hin hP (adB_D hbz) hS (by omega) hh212 rfl inMo tyMo okMo nmMo 22 (by decide) kw_678 rfl rfl rfl rfl (Nat.le_of_ble_eq_true rfl) d_Mo_init_120 (fun H locs hP hS => ?_)
  obtain ⟨mem226, e_mem226⟩ : ∃ z, z = va_up mem211 (224) (.inr (7, [.int (0), .int (0), .ref ((adB base) 225), .int ((-1)), .int (0), .ref ((adB base) 226), .ref ((adB base) 227), .int (0), .ref ((adB base) 228), .ref ((adB base) 229), .ref ((adB base) 230), .ref ((adB base) 231), .ref ((adB base) 232), .ref ((adB base) 233), .int (0), .ref ((adB base) 234), .int (0), .int (0), .int (0), .ref ((adB base) 235), .ref ((adB base) 236), .ref ((adB base) 237), .ref ((adB base) 238), .null, .int (0), .null, .int (0), .null, .int (0)])) := ⟨_, rfl⟩
  have hP : va_P D vcl (fw 239 (adB base) mem226) H := by rw [e_mem226]; exact hP
  have h_mem226 : mem226 (224) = .inr (7, [.int (0), .int (0), .ref ((adB base) 225), .int ((-1)), .int (0), .ref ((adB base) 226), .ref ((adB base) 227), .int (0), .ref ((adB base) 228), .ref ((adB base) 229), .ref ((adB base) 230), .ref ((adB base) 231), .ref ((adB base) 232), .ref ((adB base) 233), .int (0), .ref ((adB base) 234), .int (0), .int (0), .int (0), .ref ((adB base) 235), .ref ((adB base) 236), .ref ((adB base) 237), .ref ((adB base) 238), .null, .int (0), .null, .int (0), .null, .int (0)]) := by rw [e_mem226, va_up_self]
  have hh227 := (va_up_ne mem211 (.inr (7, [.int (0), .int (0), .ref ((adB base) 225), .int ((-1)), .int (0), .ref ((adB base) 226), .ref ((adB base) 227), .int (0), .ref ((adB base) 228), .ref ((adB base) 229), .ref ((adB base) 230), .ref ((adB base) 231), .ref ((adB base) 232), .ref ((adB base) 233), .int (0), .ref ((adB base) 234), .int (0), .int (0), .int (0), .ref ((adB base) 235), .ref ((adB base) 236), .ref ((adB base) 237), .ref ((adB base) 238), .null, .int (0), .null, .int (0), .null, .int (0)])) (show (225 : Nat) ≠ 224 by first | decide | assumption | omega)).trans hh213
  rw [← e_mem226] at hh227
  have hh228 := (va_up_ne mem211 (.inr (7, [.int (0), .int (0), .ref ((adB base) 225), .int ((-1)), .int (0), .ref ((adB base) 226), .ref ((adB base) 227), .int (0), .ref ((adB base) 228), .ref ((adB base) 229), .ref ((adB base) 230), .ref ((adB base) 231), .ref ((adB base) 232), .ref ((adB base) 233), .int (0), .ref ((adB base) 234), .int (0), .int (0), .int (0), .ref ((adB base) 235), .ref ((adB base) 236), .ref ((adB base) 237), .ref ((adB base) 238), .null, .int (0), .null, .int (0), .null, .int (0)])) (show (226 : Nat) ≠ 224 by first | decide | assumption | omega)).trans hh214
  rw [← e_mem226] at hh228
  have hh229 := (va_up_ne mem211 (.inr (7, [.int (0), .int (0), .ref ((adB base) 225), .int ((-1)), .int (0), .ref ((adB base) 226), .ref ((adB base) 227), .int (0), .ref ((adB base) 228), .ref ((adB base) 229), .ref ((adB base) 230), .ref ((adB base) 231), .ref ((adB base) 232), .ref ((adB base) 233), .int (0), .ref ((adB base) 234), .int (0), .int (0), .int (0), .ref ((adB base) 235), .ref ((adB base) 236), .ref ((adB base) 237), .ref ((adB base) 238), .null, .int (0), .null, .int (0), .null, .int (0)])) (show (227 : Nat) ≠ 224 by first | decide | assumption | omega)).trans hh215
  rw [← e_mem226] at hh229
  have hh230 := (va_up_ne mem211 (.inr (7, [.int (0), .int (0), .ref ((adB base) 225), .int ((-1)), .int (0), .ref ((adB base) 226), .ref ((adB base) 227), .int (0), .ref ((adB base) 228), .ref ((adB base) 229), .ref ((adB base) 230), .ref ((adB base) 231), .ref ((adB base) 232), .ref ((adB base) 233), .int (0), .ref ((adB base) 234), .int (0), .int (0), .int (0), .ref ((adB base) 235), .ref ((adB base) 236), .ref ((adB base) 237), .ref ((adB base) 238), .null, .int (0), .null, .int (0), .null, .int (0)])) (show (228 : Nat) ≠ 224 by first | decide | assumption | omega)).trans hh216
  rw [← e_mem226] at hh230
  have hh231 := (va_up_ne mem211 (.inr (7, [.int (0), .int (0), .ref ((adB base) 225), .int ((-1)), .int (0), .ref ((adB base) 226), .ref ((adB base) 227), .int (0), .ref ((adB base) 228), .ref ((adB base) 229), .ref ((adB base) 230), .ref ((adB base) 231), .ref ((adB base) 232), .ref ((adB base) 233), .int (0), .ref ((adB base) 234), .int (0), .int (0), .int (0), .ref ((adB base) 235), .ref ((adB base) 236), .ref ((adB base) 237), .ref ((adB base) 238), .null, .int (0), .null, .int (0), .null, .int (0)])) (show (229 : Nat) ≠ 224 by first | decide | assumption | omega)).trans hh217
  rw [← e_mem226] at hh231
  have hh232 := (va_up_ne mem211 (.inr (7, [.int (0), .int (0), .ref ((adB base) 225), .int ((-1)), .int (0), .ref ((adB base) 226), .ref ((adB base) 227), .int (0), .ref ((adB base) 228), .ref ((adB base) 229), .ref ((adB base) 230), .ref ((adB base) 231), .ref ((adB base) 232), .ref ((adB base) 233), .int (0), .ref ((adB base) 234), .int (0), .int (0), .int (0), .ref ((adB base) 235), .ref ((adB base) 236), .ref ((adB base) 237), .ref ((adB base) 238), .null, .int (0), .null, .int (0), .null, .int (0)])) (show (230 : Nat) ≠ 224 by first | decide | assumption | omega)).trans hh218
  rw [← e_mem226] at hh232
  have hh233 := (va_up_ne mem211 (.inr (7, [.int (0), .int (0), .ref ((adB base) 225), .int ((-1)), .int (0), .ref ((adB base) 226), .ref ((adB base) 227), .int (0), .ref ((adB base) 228), .ref ((adB base) 229), .ref ((adB base) 230), .ref ((adB base) 231), .ref ((adB base) 232), .ref ((adB base) 233), .int (0), .ref ((adB base) 234), .int (0), .int (0), .int (0), .ref ((adB base) 235), .ref ((adB base) 236), .ref ((adB base) 237), .ref ((adB base) 238), .null, .int (0), .null, .int (0), .null, .int (0)])) (show (231 : Nat) ≠ 224 by first | decide | assumption | omega)).trans hh219
  rw [← e_mem226] at hh233
  have hh234 := (va_up_ne mem211 (.inr (7, [.int (0), .int (0), .ref ((adB base) 225), .int ((-1)), .int (0), .ref ((adB base) 226), .ref ((adB base) 227), .int (0), .ref ((adB base) 228), .ref ((adB base) 229), .ref ((adB base) 230), .ref ((adB base) 231), .ref ((adB base) 232), .ref ((adB base) 233), .int (0), .ref ((adB base) 234), .int (0), .int (0), .int (0), .ref ((adB base) 235), .ref ((adB base) 236), .ref ((adB base) 237), .ref ((adB base) 238), .null, .int (0), .null, .int (0), .null, .int (0)])) (show (232 : Nat) ≠ 224 by first | decide | assumption | omega)).trans hh220
  rw [← e_mem226] at hh234
  have hh235 := (va_up_ne mem211 (.inr (7, [.int (0), .int (0), .ref ((adB base) 225), .int ((-1)), .int (0), .ref ((adB base) 226), .ref ((adB base) 227), .int (0), .ref ((adB base) 228), .ref ((adB base) 229), .ref ((adB base) 230), .ref ((adB base) 231), .ref ((adB base) 232), .ref ((adB base) 233), .int (0), .ref ((adB base) 234), .int (0), .int (0), .int (0), .ref ((adB base) 235), .ref ((adB base) 236), .ref ((adB base) 237), .ref ((adB base) 238), .null, .int (0), .null, .int (0), .null, .int (0)])) (show (233 : Nat) ≠ 224 by first | decide | assumption | omega)).trans hh221
  rw [← e_mem226] at hh235
  have hh236 := (va_up_ne mem211 (.inr (7, [.int (0), .int (0), .ref ((adB base) 225), .int ((-1)), .int (0), .ref ((adB base) 226), .ref ((adB base) 227), .int (0), .ref ((adB base) 228), .ref ((adB base) 229), .ref ((adB base) 230), .ref ((adB base) 231), .ref ((adB base) 232), .ref ((adB base) 233), .int (0), .ref ((adB base) 234), .int (0), .int (0), .int (0), .ref ((adB base) 235), .ref ((adB base) 236), .ref ((adB base) 237), .ref ((adB base) 238), .null, .int (0), .null, .int (0), .null, .int (0)])) (show (234 : Nat) ≠ 224 by first | decide | assumption | omega)).trans hh222
  rw [← e_mem226] at hh236
  have hh237 := (va_up_ne mem211 (.inr (7, [.int (0), .int (0), .ref ((adB base) 225), .int ((-1)), .int (0), .ref ((adB base) 226), .ref ((adB base) 227), .int (0), .ref ((adB base) 228), .ref ((adB base) 229), .ref ((adB base) 230), .ref ((adB base) 231), .ref ((adB base) 232), .ref ((adB base) 233), .int (0), .ref ((adB base) 234), .int (0), .int (0), .int (0), .ref ((adB base) 235), .ref ((adB base) 236), .ref ((adB base) 237), .ref ((adB base) 238), .null, .int (0), .null, .int (0), .null, .int (0)])) (show (235 : Nat) ≠ 224 by first | decide | assumption | omega)).trans hh223
  rw [← e_mem226] at hh237
  have hh238 := (va_up_ne mem211 (.inr (7, [.int (0), .int (0), .ref ((adB base) 225), .int ((-1)), .int (0), .ref ((adB base) 226), .ref ((adB base) 227), .int (0), .ref ((adB base) 228), .ref ((adB base) 229), .ref ((adB base) 230), .ref ((adB base) 231), .ref ((adB base) 232), .ref ((adB base) 233), .int (0), .ref ((adB base) 234), .int (0), .int (0), .int (0), .ref ((adB base) 235), .ref ((adB base) 236), .ref ((adB base) 237), .ref ((adB base) 238), .null, .int (0), .null, .int (0), .null, .int (0)])) (show (236 : Nat) ≠ 224 by first | decide | assumption | omega)).trans hh224
  rw [← e_mem226] at hh238
  have hh239 := (va_up_ne mem211 (.inr (7, [.int (0), .int (0), .ref ((adB base) 225), .int ((-1)), .int (0), .ref ((adB base) 226), .ref ((adB base) 227), .int (0), .ref ((adB base) 228), .ref ((adB base) 229), .ref ((adB base) 230), .ref ((adB base) 231), .ref ((adB base) 232), .ref ((adB base) 233), .int (0), .ref ((adB base) 234), .int (0), .int (0), .int (0), .ref ((adB base) 235), .ref ((adB base) 236), .ref ((adB base) 237), .ref ((adB base) 238), .null, .int (0), .null, .int (0), .null, .int (0)])) (show (237 : Nat) ≠ 224 by first | decide | assumption | omega)).trans hh225
  rw [← e_mem226] at hh239
  have hh240 := (va_up_ne mem211 (.inr (7, [.int (0), .int (0), .ref ((adB base) 225), .int ((-1)), .int (0), .ref ((adB base) 226), .ref ((adB base) 227), .int (0), .ref ((adB base) 228), .ref ((adB base) 229), .ref ((adB base) 230), .ref ((adB base) 231), .ref ((adB base) 232), .ref ((adB base) 233), .int (0), .ref ((adB base) 234), .int (0), .int (0), .int (0), .ref ((adB base) 235), .ref ((adB base) 236), .ref ((adB base) 237), .ref ((adB base) 238), .null, .int (0), .null, .int (0), .null, .int (0)])) (show (238 : Nat) ≠ 224 by first | decide | assumption | omega)).trans h_mem211
  rw [← e_mem226] at hh240
  refine lv_aload_n Bx.1 Bx.2.1 d_Mo_init_123 rfl (lv_at hl 0 rfl) ?_
  refine lv_bipush (v := 8) Bx.1 Bx.2.1 d_Mo_init_124 (by decide) ?_
  refine c_size (n := 239) hP (by omega) (by omega) (fun hz => ?_)
  refine f_newa (atype := .int) (n := 239) (t0 := 1) (N' := 8) Bx hP hS hz kw_110 (Bx.2.2.2.2.2 1 _ rfl).2 (8, .inl (fun _ => 0)) (fun _ => rfl) (by decide) (by decide) (by decide) (Nat.le_of_ble_eq_true rfl) (Nat.le_of_ble_eq_true rfl) d_Mo_init_126 (fun H hP hS hz => ?_)
  obtain ⟨mem241, e_mem241⟩ : ∃ z, z = va_up mem226 (239) (.inl (cy 1, (8, .inl (fun _ => 0)))) := ⟨_, rfl⟩
  have hP : va_P D vcl (fw 240 (adB base) mem241) H := by rw [e_mem241]; exact hP
  have h_mem241 : mem241 (239) = .inl (cy 1, (8, .inl (fun _ => 0))) := by rw [e_mem241, va_up_self]
  have hh242 := (va_up_ne mem226 (.inl (cy 1, (8, .inl (fun _ => 0)))) (show (224 : Nat) ≠ 239 by first | decide | assumption | omega)).trans h_mem226
  rw [← e_mem241] at hh242
  have hh243 := (va_up_ne mem226 (.inl (cy 1, (8, .inl (fun _ => 0)))) (show (225 : Nat) ≠ 239 by first | decide | assumption | omega)).trans hh227
  rw [← e_mem241] at hh243
  have hh244 := (va_up_ne mem226 (.inl (cy 1, (8, .inl (fun _ => 0)))) (show (226 : Nat) ≠ 239 by first | decide | assumption | omega)).trans hh228
  rw [← e_mem241] at hh244
  have hh245 := (va_up_ne mem226 (.inl (cy 1, (8, .inl (fun _ => 0)))) (show (227 : Nat) ≠ 239 by first | decide | assumption | omega)).trans hh229
  rw [← e_mem241] at hh245
  have hh246 := (va_up_ne mem226 (.inl (cy 1, (8, .inl (fun _ => 0)))) (show (228 : Nat) ≠ 239 by first | decide | assumption | omega)).trans hh230
  rw [← e_mem241] at hh246
  have hh247 := (va_up_ne mem226 (.inl (cy 1, (8, .inl (fun _ => 0)))) (show (229 : Nat) ≠ 239 by first | decide | assumption | omega)).trans hh231
  rw [← e_mem241] at hh247
  have hh248 := (va_up_ne mem226 (.inl (cy 1, (8, .inl (fun _ => 0)))) (show (230 : Nat) ≠ 239 by first | decide | assumption | omega)).trans hh232
  rw [← e_mem241] at hh248
  have hh249 := (va_up_ne mem226 (.inl (cy 1, (8, .inl (fun _ => 0)))) (show (231 : Nat) ≠ 239 by first | decide | assumption | omega)).trans hh233
  rw [← e_mem241] at hh249
  have hh250 := (va_up_ne mem226 (.inl (cy 1, (8, .inl (fun _ => 0)))) (show (232 : Nat) ≠ 239 by first | decide | assumption | omega)).trans hh234
  rw [← e_mem241] at hh250
  have hh251 := (va_up_ne mem226 (.inl (cy 1, (8, .inl (fun _ => 0)))) (show (233 : Nat) ≠ 239 by first | decide | assumption | omega)).trans hh235
  rw [← e_mem241] at hh251
  have hh252 := (va_up_ne mem226 (.inl (cy 1, (8, .inl (fun _ => 0)))) (show (234 : Nat) ≠ 239 by first | decide | assumption | omega)).trans hh236
  rw [← e_mem241] at hh252
  have hh253 := (va_up_ne mem226 (.inl (cy 1, (8, .inl (fun _ => 0)))) (show (235 : Nat) ≠ 239 by first | decide | assumption | omega)).trans hh237
  rw [← e_mem241] at hh253
  have hh254 := (va_up_ne mem226 (.inl (cy 1, (8, .inl (fun _ => 0)))) (show (236 : Nat) ≠ 239 by first | decide | assumption | omega)).trans hh238
  rw [← e_mem241] at hh254
  have hh255 := (va_up_ne mem226 (.inl (cy 1, (8, .inl (fun _ => 0)))) (show (237 : Nat) ≠ 239 by first | decide | assumption | omega)).trans hh239
  rw [← e_mem241] at hh255
  have hh256 := (va_up_ne mem226 (.inl (cy 1, (8, .inl (fun _ => 0)))) (show (238 : Nat) ≠ 239 by first | decide | assumption | omega)).trans hh240
  rw [← e_mem241] at hh256
  refine f_putF Bx hin hP (adB_D hbz) hS (by omega) hh242 rfl inMo tyMo okMo nmMo 23 (by decide) kw_679 rfl rfl rfl rfl (Nat.le_of_ble_eq_true rfl) d_Mo_init_128 (fun H locs hP hS => ?_)
  obtain ⟨mem257, e_mem257⟩ : ∃ z, z = va_up mem241 (224) (.inr (7, [.int (0), .int (0), .ref ((adB base) 225), .int ((-1)), .int (0), .ref ((adB base) 226), .ref ((adB base) 227), .int (0), .ref ((adB base) 228), .ref ((adB base) 229), .ref ((adB base) 230), .ref ((adB base) 231), .ref ((adB base) 232), .ref ((adB base) 233), .int (0), .ref ((adB base) 234), .int (0), .int (0), .int (0), .ref ((adB base) 235), .ref ((adB base) 236), .ref ((adB base) 237), .ref ((adB base) 238), .ref ((adB base) 239), .int (0), .null, .int (0), .null, .int (0)])) := ⟨_, rfl⟩
  have hP : va_P D vcl (fw 240 (adB base) mem257) H := by rw [e_mem257]; exact hP
  have h_mem257 : mem257 (224) = .inr (7, [.int (0), .int (0), .ref ((adB base) 225), .int ((-1)), .int (0), .ref ((adB base) 226), .ref ((adB base) 227), .int (0), .ref ((adB base) 228), .ref ((adB base) 229), .ref ((adB base) 230), .ref ((adB base) 231), .ref ((adB base) 232), .ref ((adB base) 233), .int (0), .ref ((adB base) 234), .int (0), .int (0), .int (0), .ref ((adB base) 235), .ref ((adB base) 236), .ref ((adB base) 237), .ref ((adB base) 238), .ref ((adB base) 239), .int (0), .null, .int (0), .null, .int (0)]) := by rw [e_mem257, va_up_self]
  have hh258 := (va_up_ne mem241 (.inr (7, [.int (0), .int (0), .ref ((adB base) 225), .int ((-1)), .int (0), .ref ((adB base) 226), .ref ((adB base) 227), .int (0), .ref ((adB base) 228), .ref ((adB base) 229), .ref ((adB base) 230), .ref ((adB base) 231), .ref ((adB base) 232), .ref ((adB base) 233), .int (0), .ref ((adB base) 234), .int (0), .int (0), .int (0), .ref ((adB base) 235), .ref ((adB base) 236), .ref ((adB base) 237), .ref ((adB base) 238), .ref ((adB base) 239), .int (0), .null, .int (0), .null, .int (0)])) (show (225 : Nat) ≠ 224 by first | decide | assumption | omega)).trans hh243
  rw [← e_mem257] at hh258
  have hh259 := (va_up_ne mem241 (.inr (7, [.int (0), .int (0), .ref ((adB base) 225), .int ((-1)), .int (0), .ref ((adB base) 226), .ref ((adB base) 227), .int (0), .ref ((adB base) 228), .ref ((adB base) 229), .ref ((adB base) 230), .ref ((adB base) 231), .ref ((adB base) 232), .ref ((adB base) 233), .int (0), .ref ((adB base) 234), .int (0), .int (0), .int (0), .ref ((adB base) 235), .ref ((adB base) 236), .ref ((adB base) 237), .ref ((adB base) 238), .ref ((adB base) 239), .int (0), .null, .int (0), .null, .int (0)])) (show (226 : Nat) ≠ 224 by first | decide | assumption | omega)).trans hh244
  rw [← e_mem257] at hh259
  have hh260 := (va_up_ne mem241 (.inr (7, [.int (0), .int (0), .ref ((adB base) 225), .int ((-1)), .int (0), .ref ((adB base) 226), .ref ((adB base) 227), .int (0), .ref ((adB base) 228), .ref ((adB base) 229), .ref ((adB base) 230), .ref ((adB base) 231), .ref ((adB base) 232), .ref ((adB base) 233), .int (0), .ref ((adB base) 234), .int (0), .int (0), .int (0), .ref ((adB base) 235), .ref ((adB base) 236), .ref ((adB base) 237), .ref ((adB base) 238), .ref ((adB base) 239), .int (0), .null, .int (0), .null, .int (0)])) (show (227 : Nat) ≠ 224 by first | decide | assumption | omega)).trans hh245
  rw [← e_mem257] at hh260
  have hh261 := (va_up_ne mem241 (.inr (7, [.int (0), .int (0), .ref ((adB base) 225), .int ((-1)), .int (0), .ref ((adB base) 226), .ref ((adB base) 227), .int (0), .ref ((adB base) 228), .ref ((adB base) 229), .ref ((adB base) 230), .ref ((adB base) 231), .ref ((adB base) 232), .ref ((adB base) 233), .int (0), .ref ((adB base) 234), .int (0), .int (0), .int (0), .ref ((adB base) 235), .ref ((adB base) 236), .ref ((adB base) 237), .ref ((adB base) 238), .ref ((adB base) 239), .int (0), .null, .int (0), .null, .int (0)])) (show (228 : Nat) ≠ 224 by first | decide | assumption | omega)).trans hh246
  rw [← e_mem257] at hh261
  have hh262 := (va_up_ne mem241 (.inr (7, [.int (0), .int (0), .ref ((adB base) 225), .int ((-1)), .int (0), .ref ((adB base) 226), .ref ((adB base) 227), .int (0), .ref ((adB base) 228), .ref ((adB base) 229), .ref ((adB base) 230), .ref ((adB base) 231), .ref ((adB base) 232), .ref ((adB base) 233), .int (0), .ref ((adB base) 234), .int (0), .int (0), .int (0), .ref ((adB base) 235), .ref ((adB base) 236), .ref ((adB base) 237), .ref ((adB base) 238), .ref ((adB base) 239), .int (0), .null, .int (0), .null, .int (0)])) (show (229 : Nat) ≠ 224 by first | decide | assumption | omega)).trans hh247
  rw [← e_mem257] at hh262
  have hh263 := (va_up_ne mem241 (.inr (7, [.int (0), .int (0), .ref ((adB base) 225), .int ((-1)), .int (0), .ref ((adB base) 226), .ref ((adB base) 227), .int (0), .ref ((adB base) 228), .ref ((adB base) 229), .ref ((adB base) 230), .ref ((adB base) 231), .ref ((adB base) 232), .ref ((adB base) 233), .int (0), .ref ((adB base) 234), .int (0), .int (0), .int (0), .ref ((adB base) 235), .ref ((adB base) 236), .ref ((adB base) 237), .ref ((adB base) 238), .ref ((adB base) 239), .int (0), .null, .int (0), .null, .int (0)])) (show (230 : Nat) ≠ 224 by first | decide | assumption | omega)).trans hh248
  rw [← e_mem257] at hh263
  have hh264 := (va_up_ne mem241 (.inr (7, [.int (0), .int (0), .ref ((adB base) 225), .int ((-1)), .int (0), .ref ((adB base) 226), .ref ((adB base) 227), .int (0), .ref ((adB base) 228), .ref ((adB base) 229), .ref ((adB base) 230), .ref ((adB base) 231), .ref ((adB base) 232), .ref ((adB base) 233), .int (0), .ref ((adB base) 234), .int (0), .int (0), .int (0), .ref ((adB base) 235), .ref ((adB base) 236), .ref ((adB base) 237), .ref ((adB base) 238), .ref ((adB base) 239), .int (0), .null, .int (0), .null, .int (0)])) (show (231 : Nat) ≠ 224 by first | decide | assumption | omega)).trans hh249
  rw [← e_mem257] at hh264
  have hh265 := (va_up_ne mem241 (.inr (7, [.int (0), .int (0), .ref ((adB base) 225), .int ((-1)), .int (0), .ref ((adB base) 226), .ref ((adB base) 227), .int (0), .ref ((adB base) 228), .ref ((adB base) 229), .ref ((adB base) 230), .ref ((adB base) 231), .ref ((adB base) 232), .ref ((adB base) 233), .int (0), .ref ((adB base) 234), .int (0), .int (0), .int (0), .ref ((adB base) 235), .ref ((adB base) 236), .ref ((adB base) 237), .ref ((adB base) 238), .ref ((adB base) 239), .int (0), .null, .int (0), .null, .int (0)])) (show (232 : Nat) ≠ 224 by first | decide | assumption | omega)).trans hh250
  rw [← e_mem257] at hh265
  have hh266 := (va_up_ne mem241 (.inr (7, [.int (0), .int (0), .ref ((adB base) 225), .int ((-1)), .int (0), .ref ((adB base) 226), .ref ((adB base) 227), .int (0), .ref ((adB base) 228), .ref ((adB base) 229), .ref ((adB base) 230), .ref ((adB base) 231), .ref ((adB base) 232), .ref ((adB base) 233), .int (0), .ref ((adB base) 234), .int (0), .int (0), .int (0), .ref ((adB base) 235), .ref ((adB base) 236), .ref ((adB base) 237), .ref ((adB base) 238), .ref ((adB base) 239), .int (0), .null, .int (0), .null, .int (0)])) (show (233 : Nat) ≠ 224 by first | decide | assumption | omega)).trans hh251
  rw [← e_mem257] at hh266
  have hh267 := (va_up_ne mem241 (.inr (7, [.int (0), .int (0), .ref ((adB base) 225), .int ((-1)), .int (0), .ref ((adB base) 226), .ref ((adB base) 227), .int (0), .ref ((adB base) 228), .ref ((adB base) 229), .ref ((adB base) 230), .ref ((adB base) 231), .ref ((adB base) 232), .ref ((adB base) 233), .int (0), .ref ((adB base) 234), .int (0), .int (0), .int (0), .ref ((adB base) 235), .ref ((adB base) 236), .ref ((adB base) 237), .ref ((adB base) 238), .ref ((adB base) 239), .int (0), .null, .int (0), .null, .int (0)])) (show (234 : Nat) ≠ 224 by first | decide | assumption | omega)).trans hh252
  rw [← e_mem257] at hh267
  have hh268 := (va_up_ne mem241 (.inr (7, [.int (0), .int (0), .ref ((adB base) 225), .int ((-1)), .int (0), .ref ((adB base) 226), .ref ((adB base) 227), .int (0), .ref ((adB base) 228), .ref ((adB base) 229), .ref ((adB base) 230), .ref ((adB base) 231), .ref ((adB base) 232), .ref ((adB base) 233), .int (0), .ref ((adB base) 234), .int (0), .int (0), .int (0), .ref ((adB base) 235), .ref ((adB base) 236), .ref ((adB base) 237), .ref ((adB base) 238), .ref ((adB base) 239), .int (0), .null, .int (0), .null, .int (0)])) (show (235 : Nat) ≠ 224 by first | decide | assumption | omega)).trans hh253
  rw [← e_mem257] at hh268
  have hh269 := (va_up_ne mem241 (.inr (7, [.int (0), .int (0), .ref ((adB base) 225), .int ((-1)), .int (0), .ref ((adB base) 226), .ref ((adB base) 227), .int (0), .ref ((adB base) 228), .ref ((adB base) 229), .ref ((adB base) 230), .ref ((adB base) 231), .ref ((adB base) 232), .ref ((adB base) 233), .int (0), .ref ((adB base) 234), .int (0), .int (0), .int (0), .ref ((adB base) 235), .ref ((adB base) 236), .ref ((adB base) 237), .ref ((adB base) 238), .ref ((adB base) 239), .int (0), .null, .int (0), .null, .int (0)])) (show (236 : Nat) ≠ 224 by first | decide | assumption | omega)).trans hh254
  rw [← e_mem257] at hh269
  have hh270 := (va_up_ne mem241 (.inr (7, [.int (0), .int (0), .ref ((adB base) 225), .int ((-1)), .int (0), .ref ((adB base) 226), .ref ((adB base) 227), .int (0), .ref ((adB base) 228), .ref ((adB base) 229), .ref ((adB base) 230), .ref ((adB base) 231), .ref ((adB base) 232), .ref ((adB base) 233), .int (0), .ref ((adB base) 234), .int (0), .int (0), .int (0), .ref ((adB base) 235), .ref ((adB base) 236), .ref ((adB base) 237), .ref ((adB base) 238), .ref ((adB base) 239), .int (0), .null, .int (0), .null, .int (0)])) (show (237 : Nat) ≠ 224 by first | decide | assumption | omega)).trans hh255
  rw [← e_mem257] at hh270
  have hh271 := (va_up_ne mem241 (.inr (7, [.int (0), .int (0), .ref ((adB base) 225), .int ((-1)), .int (0), .ref ((adB base) 226), .ref ((adB base) 227), .int (0), .ref ((adB base) 228), .ref ((adB base) 229), .ref ((adB base) 230), .ref ((adB base) 231), .ref ((adB base) 232), .ref ((adB base) 233), .int (0), .ref ((adB base) 234), .int (0), .int (0), .int (0), .ref ((adB base) 235), .ref ((adB base) 236), .ref ((adB base) 237), .ref ((adB base) 238), .ref ((adB base) 239), .int (0), .null, .int (0), .null, .int (0)])) (show (238 : Nat) ≠ 224 by first | decide | assumption | omega)).trans hh256
  rw [← e_mem257] at hh271
  have hh272 := (va_up_ne mem241 (.inr (7, [.int (0), .int (0), .ref ((adB base) 225), .int ((-1)), .int (0), .ref ((adB base) 226), .ref ((adB base) 227), .int (0), .ref ((adB base) 228), .ref ((adB base) 229), .ref ((adB base) 230), .ref ((adB base) 231), .ref ((adB base) 232), .ref ((adB base) 233), .int (0), .ref ((adB base) 234), .int (0), .int (0), .int (0), .ref ((adB base) 235), .ref ((adB base) 236), .ref ((adB base) 237), .ref ((adB base) 238), .ref ((adB base) 239), .int (0), .null, .int (0), .null, .int (0)])) (show (239 : Nat) ≠ 224 by first | decide | assumption | omega)).trans h_mem241
  rw [← e_mem257] at hh272
  refine lv_aload_n Bx.1 Bx.2.1 d_Mo_init_131 rfl (lv_at hl 0 rfl) ?_
  refine lv_bipush (v := 24) Bx.1 Bx.2.1 d_Mo_init_132 (by decide) ?_
  refine c_size (n := 240) hP (by omega) (by omega) (fun hz => ?_)
  refine f_newa (atype := .int) (n := 240) (t0 := 1) (N' := 24) Bx hP hS hz kw_110 (Bx.2.2.2.2.2 1 _ rfl).2 (24, .inl (fun _ => 0)) (fun _ => rfl) (by decide) (by decide) (by decide) (Nat.le_of_ble_eq_true rfl) (Nat.le_of_ble_eq_true rfl) d_Mo_init_134 (fun H hP hS hz => ?_)
  obtain ⟨mem273, e_mem273⟩ : ∃ z, z = va_up mem257 (240) (.inl (cy 1, (24, .inl (fun _ => 0)))) := ⟨_, rfl⟩
  have hP : va_P D vcl (fw 241 (adB base) mem273) H := by rw [e_mem273]; exact hP
  have h_mem273 : mem273 (240) = .inl (cy 1, (24, .inl (fun _ => 0))) := by rw [e_mem273, va_up_self]
  have hh274 := (va_up_ne mem257 (.inl (cy 1, (24, .inl (fun _ => 0)))) (show (224 : Nat) ≠ 240 by first | decide | assumption | omega)).trans h_mem257
  rw [← e_mem273] at hh274
  have hh275 := (va_up_ne mem257 (.inl (cy 1, (24, .inl (fun _ => 0)))) (show (225 : Nat) ≠ 240 by first | decide | assumption | omega)).trans hh258
  rw [← e_mem273] at hh275
  have hh276 := (va_up_ne mem257 (.inl (cy 1, (24, .inl (fun _ => 0)))) (show (226 : Nat) ≠ 240 by first | decide | assumption | omega)).trans hh259
  rw [← e_mem273] at hh276
  have hh277 := (va_up_ne mem257 (.inl (cy 1, (24, .inl (fun _ => 0)))) (show (227 : Nat) ≠ 240 by first | decide | assumption | omega)).trans hh260
  rw [← e_mem273] at hh277
  have hh278 := (va_up_ne mem257 (.inl (cy 1, (24, .inl (fun _ => 0)))) (show (228 : Nat) ≠ 240 by first | decide | assumption | omega)).trans hh261
  rw [← e_mem273] at hh278
  have hh279 := (va_up_ne mem257 (.inl (cy 1, (24, .inl (fun _ => 0)))) (show (229 : Nat) ≠ 240 by first | decide | assumption | omega)).trans hh262
  rw [← e_mem273] at hh279
  have hh280 := (va_up_ne mem257 (.inl (cy 1, (24, .inl (fun _ => 0)))) (show (230 : Nat) ≠ 240 by first | decide | assumption | omega)).trans hh263
  rw [← e_mem273] at hh280
  have hh281 := (va_up_ne mem257 (.inl (cy 1, (24, .inl (fun _ => 0)))) (show (231 : Nat) ≠ 240 by first | decide | assumption | omega)).trans hh264
  rw [← e_mem273] at hh281
  have hh282 := (va_up_ne mem257 (.inl (cy 1, (24, .inl (fun _ => 0)))) (show (232 : Nat) ≠ 240 by first | decide | assumption | omega)).trans hh265
  rw [← e_mem273] at hh282
  have hh283 := (va_up_ne mem257 (.inl (cy 1, (24, .inl (fun _ => 0)))) (show (233 : Nat) ≠ 240 by first | decide | assumption | omega)).trans hh266
  rw [← e_mem273] at hh283
  have hh284 := (va_up_ne mem257 (.inl (cy 1, (24, .inl (fun _ => 0)))) (show (234 : Nat) ≠ 240 by first | decide | assumption | omega)).trans hh267
  rw [← e_mem273] at hh284
  have hh285 := (va_up_ne mem257 (.inl (cy 1, (24, .inl (fun _ => 0)))) (show (235 : Nat) ≠ 240 by first | decide | assumption | omega)).trans hh268
  rw [← e_mem273] at hh285
  have hh286 := (va_up_ne mem257 (.inl (cy 1, (24, .inl (fun _ => 0)))) (show (236 : Nat) ≠ 240 by first | decide | assumption | omega)).trans hh269
  rw [← e_mem273] at hh286
  have hh287 := (va_up_ne mem257 (.inl (cy 1, (24, .inl (fun _ => 0)))) (show (237 : Nat) ≠ 240 by first | decide | assumption | omega)).trans hh270
  rw [← e_mem273] at hh287
  have hh288 := (va_up_ne mem257 (.inl (cy 1, (24, .inl (fun _ => 0)))) (show (238 : Nat) ≠ 240 by first | decide | assumption | omega)).trans hh271
  rw [← e_mem273] at hh288
  have hh289 := (va_up_ne mem257 (.inl (cy 1, (24, .inl (fun _ => 0)))) (show (239 : Nat) ≠ 240 by first | decide | assumption | omega)).trans hh272
  rw [← e_mem273] at hh289
  refine f_putF Bx hin hP (adB_D hbz) hS (by omega) hh274 rfl inMo tyMo okMo nmMo 25 (by decide) kw_681 rfl rfl rfl rfl (Nat.le_of_ble_eq_true rfl) d_Mo_init_136 (fun H locs hP hS => ?_)
  obtain ⟨mem290, e_mem290⟩ : ∃ z, z = va_up mem273 (224) (.inr (7, [.int (0), .int (0), .ref ((adB base) 225), .int ((-1)), .int (0), .ref ((adB base) 226), .ref ((adB base) 227), .int (0), .ref ((adB base) 228), .ref ((adB base) 229), .ref ((adB base) 230), .ref ((adB base) 231), .ref ((adB base) 232), .ref ((adB base) 233), .int (0), .ref ((adB base) 234), .int (0), .int (0), .int (0), .ref ((adB base) 235), .ref ((adB base) 236), .ref ((adB base) 237), .ref ((adB base) 238), .ref ((adB base) 239), .int (0), .ref ((adB base) 240), .int (0), .null, .int (0)])) := ⟨_, rfl⟩
  have hP : va_P D vcl (fw 241 (adB base) mem290) H := by rw [e_mem290]; exact hP
  have h_mem290 : mem290 (224) = .inr (7, [.int (0), .int (0), .ref ((adB base) 225), .int ((-1)), .int (0), .ref ((adB base) 226), .ref ((adB base) 227), .int (0), .ref ((adB base) 228), .ref ((adB base) 229), .ref ((adB base) 230), .ref ((adB base) 231), .ref ((adB base) 232), .ref ((adB base) 233), .int (0), .ref ((adB base) 234), .int (0), .int (0), .int (0), .ref ((adB base) 235), .ref ((adB base) 236), .ref ((adB base) 237), .ref ((adB base) 238), .ref ((adB base) 239), .int (0), .ref ((adB base) 240), .int (0), .null, .int (0)]) := by rw [e_mem290, va_up_self]
  have hh291 := (va_up_ne mem273 (.inr (7, [.int (0), .int (0), .ref ((adB base) 225), .int ((-1)), .int (0), .ref ((adB base) 226), .ref ((adB base) 227), .int (0), .ref ((adB base) 228), .ref ((adB base) 229), .ref ((adB base) 230), .ref ((adB base) 231), .ref ((adB base) 232), .ref ((adB base) 233), .int (0), .ref ((adB base) 234), .int (0), .int (0), .int (0), .ref ((adB base) 235), .ref ((adB base) 236), .ref ((adB base) 237), .ref ((adB base) 238), .ref ((adB base) 239), .int (0), .ref ((adB base) 240), .int (0), .null, .int (0)])) (show (225 : Nat) ≠ 224 by first | decide | assumption | omega)).trans hh275
  rw [← e_mem290] at hh291
  have hh292 := (va_up_ne mem273 (.inr (7, [.int (0), .int (0), .ref ((adB base) 225), .int ((-1)), .int (0), .ref ((adB base) 226), .ref ((adB base) 227), .int (0), .ref ((adB base) 228), .ref ((adB base) 229), .ref ((adB base) 230), .ref ((adB base) 231), .ref ((adB base) 232), .ref ((adB base) 233), .int (0), .ref ((adB base) 234), .int (0), .int (0), .int (0), .ref ((adB base) 235), .ref ((adB base) 236), .ref ((adB base) 237), .ref ((adB base) 238), .ref ((adB base) 239), .int (0), .ref ((adB base) 240), .int (0), .null, .int (0)])) (show (226 : Nat) ≠ 224 by first | decide | assumption | omega)).trans hh276
  rw [← e_mem290] at hh292
  have hh293 := (va_up_ne mem273 (.inr (7, [.int (0), .int (0), .ref ((adB base) 225), .int ((-1)), .int (0), .ref ((adB base) 226), .ref ((adB base) 227), .int (0), .ref ((adB base) 228), .ref ((adB base) 229), .ref ((adB base) 230), .ref ((adB base) 231), .ref ((adB base) 232), .ref ((adB base) 233), .int (0), .ref ((adB base) 234), .int (0), .int (0), .int (0), .ref ((adB base) 235), .ref ((adB base) 236), .ref ((adB base) 237), .ref ((adB base) 238), .ref ((adB base) 239), .int (0), .ref ((adB base) 240), .int (0), .null, .int (0)])) (show (227 : Nat) ≠ 224 by first | decide | assumption | omega)).trans hh277
  rw [← e_mem290] at hh293
  have hh294 := (va_up_ne mem273 (.inr (7, [.int (0), .int (0), .ref ((adB base) 225), .int ((-1)), .int (0), .ref ((adB base) 226), .ref ((adB base) 227), .int (0), .ref ((adB base) 228), .ref ((adB base) 229), .ref ((adB base) 230), .ref ((adB base) 231), .ref ((adB base) 232), .ref ((adB base) 233), .int (0), .ref ((adB base) 234), .int (0), .int (0), .int (0), .ref ((adB base) 235), .ref ((adB base) 236), .ref ((adB base) 237), .ref ((adB base) 238), .ref ((adB base) 239), .int (0), .ref ((adB base) 240), .int (0), .null, .int (0)])) (show (228 : Nat) ≠ 224 by first | decide | assumption | omega)).trans hh278
  rw [← e_mem290] at hh294
  have hh295 := (va_up_ne mem273 (.inr (7, [.int (0), .int (0), .ref ((adB base) 225), .int ((-1)), .int (0), .ref ((adB base) 226), .ref ((adB base) 227), .int (0), .ref ((adB base) 228), .ref ((adB base) 229), .ref ((adB base) 230), .ref ((adB base) 231), .ref ((adB base) 232), .ref ((adB base) 233), .int (0), .ref ((adB base) 234), .int (0), .int (0), .int (0), .ref ((adB base) 235), .ref ((adB base) 236), .ref ((adB base) 237), .ref ((adB base) 238), .ref ((adB base) 239), .int (0), .ref ((adB base) 240), .int (0), .null, .int (0)])) (show (229 : Nat) ≠ 224 by first | decide | assumption | omega)).trans hh279
  rw [← e_mem290] at hh295
  have hh296 := (va_up_ne mem273 (.inr (7, [.int (0), .int (0), .ref ((adB base) 225), .int ((-1)), .int (0), .ref ((adB base) 226), .ref ((adB base) 227), .int (0), .ref ((adB base) 228), .ref ((adB base) 229), .ref ((adB base) 230), .ref ((adB base) 231), .ref ((adB base) 232), .ref ((adB base) 233), .int (0), .ref ((adB base) 234), .int (0), .int (0), .int (0), .ref ((adB base) 235), .ref ((adB base) 236), .ref ((adB base) 237), .ref ((adB base) 238), .ref ((adB base) 239), .int (0), .ref ((adB base) 240), .int (0), .null, .int (0)])) (show (230 : Nat) ≠ 224 by first | decide | assumption | omega)).trans hh280
  rw [← e_mem290] at hh296
  have hh297 := (va_up_ne mem273 (.inr (7, [.int (0), .int (0), .ref ((adB base) 225), .int ((-1)), .int (0), .ref ((adB base) 226), .ref ((adB base) 227), .int (0), .ref ((adB base) 228), .ref ((adB base) 229), .ref ((adB base) 230), .ref ((adB base) 231), .ref ((adB base) 232), .ref ((adB base) 233), .int (0), .ref ((adB base) 234), .int (0), .int (0), .int (0), .ref ((adB base) 235), .ref ((adB base) 236), .ref ((adB base) 237), .ref ((adB base) 238), .ref ((adB base) 239), .int (0), .ref ((adB base) 240), .int (0), .null, .int (0)])) (show (231 : Nat) ≠ 224 by first | decide | assumption | omega)).trans hh281
  rw [← e_mem290] at hh297
  have hh298 := (va_up_ne mem273 (.inr (7, [.int (0), .int (0), .ref ((adB base) 225), .int ((-1)), .int (0), .ref ((adB base) 226), .ref ((adB base) 227), .int (0), .ref ((adB base) 228), .ref ((adB base) 229), .ref ((adB base) 230), .ref ((adB base) 231), .ref ((adB base) 232), .ref ((adB base) 233), .int (0), .ref ((adB base) 234), .int (0), .int (0), .int (0), .ref ((adB base) 235), .ref ((adB base) 236), .ref ((adB base) 237), .ref ((adB base) 238), .ref ((adB base) 239), .int (0), .ref ((adB base) 240), .int (0), .null, .int (0)])) (show (232 : Nat) ≠ 224 by first | decide | assumption | omega)).trans hh282
  rw [← e_mem290] at hh298
  have hh299 := (va_up_ne mem273 (.inr (7, [.int (0), .int (0), .ref ((adB base) 225), .int ((-1)), .int (0), .ref ((adB base) 226), .ref ((adB base) 227), .int (0), .ref ((adB base) 228), .ref ((adB base) 229), .ref ((adB base) 230), .ref ((adB base) 231), .ref ((adB base) 232), .ref ((adB base) 233), .int (0), .ref ((adB base) 234), .int (0), .int (0), .int (0), .ref ((adB base) 235), .ref ((adB base) 236), .ref ((adB base) 237), .ref ((adB base) 238), .ref ((adB base) 239), .int (0), .ref ((adB base) 240), .int (0), .null, .int (0)])) (show (233 : Nat) ≠ 224 by first | decide | assumption | omega)).trans hh283
  rw [← e_mem290] at hh299
  have hh300 := (va_up_ne mem273 (.inr (7, [.int (0), .int (0), .ref ((adB base) 225), .int ((-1)), .int (0), .ref ((adB base) 226), .ref ((adB base) 227), .int (0), .ref ((adB base) 228), .ref ((adB base) 229), .ref ((adB base) 230), .ref ((adB base) 231), .ref ((adB base) 232), .ref ((adB base) 233), .int (0), .ref ((adB base) 234), .int (0), .int (0), .int (0), .ref ((adB base) 235), .ref ((adB base) 236), .ref ((adB base) 237), .ref ((adB base) 238), .ref ((adB base) 239), .int (0), .ref ((adB base) 240), .int (0), .null, .int (0)])) (show (234 : Nat) ≠ 224 by first | decide | assumption | omega)).trans hh284
  rw [← e_mem290] at hh300
  have hh301 := (va_up_ne mem273 (.inr (7, [.int (0), .int (0), .ref ((adB base) 225), .int ((-1)), .int (0), .ref ((adB base) 226), .ref ((adB base) 227), .int (0), .ref ((adB base) 228), .ref ((adB base) 229), .ref ((adB base) 230), .ref ((adB base) 231), .ref ((adB base) 232), .ref ((adB base) 233), .int (0), .ref ((adB base) 234), .int (0), .int (0), .int (0), .ref ((adB base) 235), .ref ((adB base) 236), .ref ((adB base) 237), .ref ((adB base) 238), .ref ((adB base) 239), .int (0), .ref ((adB base) 240), .int (0), .null, .int (0)])) (show (235 : Nat) ≠ 224 by first | decide | assumption | omega)).trans hh285
  rw [← e_mem290] at hh301
  have hh302 := (va_up_ne mem273 (.inr (7, [.int (0), .int (0), .ref ((adB base) 225), .int ((-1)), .int (0), .ref ((adB base) 226), .ref ((adB base) 227), .int (0), .ref ((adB base) 228), .ref ((adB base) 229), .ref ((adB base) 230), .ref ((adB base) 231), .ref ((adB base) 232), .ref ((adB base) 233), .int (0), .ref ((adB base) 234), .int (0), .int (0), .int (0), .ref ((adB base) 235), .ref ((adB base) 236), .ref ((adB base) 237), .ref ((adB base) 238), .ref ((adB base) 239), .int (0), .ref ((adB base) 240), .int (0), .null, .int (0)])) (show (236 : Nat) ≠ 224 by first | decide | assumption | omega)).trans hh286
  rw [← e_mem290] at hh302
  have hh303 := (va_up_ne mem273 (.inr (7, [.int (0), .int (0), .ref ((adB base) 225), .int ((-1)), .int (0), .ref ((adB base) 226), .ref ((adB base) 227), .int (0), .ref ((adB base) 228), .ref ((adB base) 229), .ref ((adB base) 230), .ref ((adB base) 231), .ref ((adB base) 232), .ref ((adB base) 233), .int (0), .ref ((adB base) 234), .int (0), .int (0), .int (0), .ref ((adB base) 235), .ref ((adB base) 236), .ref ((adB base) 237), .ref ((adB base) 238), .ref ((adB base) 239), .int (0), .ref ((adB base) 240), .int (0), .null, .int (0)])) (show (237 : Nat) ≠ 224 by first | decide | assumption | omega)).trans hh287
  rw [← e_mem290] at hh303
  have hh304 := (va_up_ne mem273 (.inr (7, [.int (0), .int (0), .ref ((adB base) 225), .int ((-1)), .int (0), .ref ((adB base) 226), .ref ((adB base) 227), .int (0), .ref ((adB base) 228), .ref ((adB base) 229), .ref ((adB base) 230), .ref ((adB base) 231), .ref ((adB base) 232), .ref ((adB base) 233), .int (0), .ref ((adB base) 234), .int (0), .int (0), .int (0), .ref ((adB base) 235), .ref ((adB base) 236), .ref ((adB base) 237), .ref ((adB base) 238), .ref ((adB base) 239), .int (0), .ref ((adB base) 240), .int (0), .null, .int (0)])) (show (238 : Nat) ≠ 224 by first | decide | assumption | omega)).trans hh288
  rw [← e_mem290] at hh304
  have hh305 := (va_up_ne mem273 (.inr (7, [.int (0), .int (0), .ref ((adB base) 225), .int ((-1)), .int (0), .ref ((adB base) 226), .ref ((adB base) 227), .int (0), .ref ((adB base) 228), .ref ((adB base) 229), .ref ((adB base) 230), .ref ((adB base) 231), .ref ((adB base) 232), .ref ((adB base) 233), .int (0), .ref ((adB base) 234), .int (0), .int (0), .int (0), .ref ((adB base) 235), .ref ((adB base) 236), .ref ((adB base) 237), .ref ((adB base) 238), .ref ((adB base) 239), .int (0), .ref ((adB base) 240), .int (0), .null, .int (0)])) (show (239 : Nat) ≠ 224 by first | decide | assumption | omega)).trans hh289
  rw [← e_mem290] at hh305
  have hh306 := (va_up_ne mem273 (.inr (7, [.int (0), .int (0), .ref ((adB base) 225), .int ((-1)), .int (0), .ref ((adB base) 226), .ref ((adB base) 227), .int (0), .ref ((adB base) 228), .ref ((adB base) 229), .ref ((adB base) 230), .ref ((adB base) 231), .ref ((adB base) 232), .ref ((adB base) 233), .int (0), .ref ((adB base) 234), .int (0), .int (0), .int (0), .ref ((adB base) 235), .ref ((adB base) 236), .ref ((adB base) 237), .ref ((adB base) 238), .ref ((adB base) 239), .int (0), .ref ((adB base) 240), .int (0), .null, .int (0)])) (show (240 : Nat) ≠ 224 by first | decide | assumption | omega)).trans h_mem273
  rw [← e_mem290] at hh306
  refine lv_aload_n Bx.1 Bx.2.1 d_Mo_init_139 rfl (lv_at hl 0 rfl) ?_
  refine lv_iconst (v := 1) Bx.1 Bx.2.1 d_Mo_init_140 (by decide) ?_
  refine f_put Bx hP (adB_D hbz) hS (by omega) h_mem290 rfl inMo tyMo okMo nmMo 26 (by decide) kw_682 rfl rfl rfl rfl (Nat.le_of_ble_eq_true rfl) d_Mo_init_141 (fun H locs hP hS => ?_)
  obtain ⟨mem307, e_mem307⟩ : ∃ z, z = va_up mem290 (224) (.inr (7, [.int (0), .int (0), .ref ((adB base) 225), .int ((-1)), .int (0), .ref ((adB base) 226), .ref ((adB base) 227), .int (0), .ref ((adB base) 228), .ref ((adB base) 229), .ref ((adB base) 230), .ref ((adB base) 231), .ref ((adB base) 232), .ref ((adB base) 233), .int (0), .ref ((adB base) 234), .int (0), .int (0), .int (0), .ref ((adB base) 235), .ref ((adB base) 236), .ref ((adB base) 237), .ref ((adB base) 238), .ref ((adB base) 239), .int (0), .ref ((adB base) 240), .int (1), .null, .int (0)])) := ⟨_, rfl⟩
  have hP : va_P D vcl (fw 241 (adB base) mem307) H := by rw [e_mem307]; exact hP
  have h_mem307 : mem307 (224) = .inr (7, [.int (0), .int (0), .ref ((adB base) 225), .int ((-1)), .int (0), .ref ((adB base) 226), .ref ((adB base) 227), .int (0), .ref ((adB base) 228), .ref ((adB base) 229), .ref ((adB base) 230), .ref ((adB base) 231), .ref ((adB base) 232), .ref ((adB base) 233), .int (0), .ref ((adB base) 234), .int (0), .int (0), .int (0), .ref ((adB base) 235), .ref ((adB base) 236), .ref ((adB base) 237), .ref ((adB base) 238), .ref ((adB base) 239), .int (0), .ref ((adB base) 240), .int (1), .null, .int (0)]) := by rw [e_mem307, va_up_self]
  have hh308 := (va_up_ne mem290 (.inr (7, [.int (0), .int (0), .ref ((adB base) 225), .int ((-1)), .int (0), .ref ((adB base) 226), .ref ((adB base) 227), .int (0), .ref ((adB base) 228), .ref ((adB base) 229), .ref ((adB base) 230), .ref ((adB base) 231), .ref ((adB base) 232), .ref ((adB base) 233), .int (0), .ref ((adB base) 234), .int (0), .int (0), .int (0), .ref ((adB base) 235), .ref ((adB base) 236), .ref ((adB base) 237), .ref ((adB base) 238), .ref ((adB base) 239), .int (0), .ref ((adB base) 240), .int (1), .null, .int (0)])) (show (225 : Nat) ≠ 224 by first | decide | assumption | omega)).trans hh291
  rw [← e_mem307] at hh308
  have hh309 := (va_up_ne mem290 (.inr (7, [.int (0), .int (0), .ref ((adB base) 225), .int ((-1)), .int (0), .ref ((adB base) 226), .ref ((adB base) 227), .int (0), .ref ((adB base) 228), .ref ((adB base) 229), .ref ((adB base) 230), .ref ((adB base) 231), .ref ((adB base) 232), .ref ((adB base) 233), .int (0), .ref ((adB base) 234), .int (0), .int (0), .int (0), .ref ((adB base) 235), .ref ((adB base) 236), .ref ((adB base) 237), .ref ((adB base) 238), .ref ((adB base) 239), .int (0), .ref ((adB base) 240), .int (1), .null, .int (0)])) (show (226 : Nat) ≠ 224 by first | decide | assumption | omega)).trans hh292
  rw [← e_mem307] at hh309
  have hh310 := (va_up_ne mem290 (.inr (7, [.int (0), .int (0), .ref ((adB base) 225), .int ((-1)), .int (0), .ref ((adB base) 226), .ref ((adB base) 227), .int (0), .ref ((adB base) 228), .ref ((adB base) 229), .ref ((adB base) 230), .ref ((adB base) 231), .ref ((adB base) 232), .ref ((adB base) 233), .int (0), .ref ((adB base) 234), .int (0), .int (0), .int (0), .ref ((adB base) 235), .ref ((adB base) 236), .ref ((adB base) 237), .ref ((adB base) 238), .ref ((adB base) 239), .int (0), .ref ((adB base) 240), .int (1), .null, .int (0)])) (show (227 : Nat) ≠ 224 by first | decide | assumption | omega)).trans hh293
  rw [← e_mem307] at hh310
  have hh311 := (va_up_ne mem290 (.inr (7, [.int (0), .int (0), .ref ((adB base) 225), .int ((-1)), .int (0), .ref ((adB base) 226), .ref ((adB base) 227), .int (0), .ref ((adB base) 228), .ref ((adB base) 229), .ref ((adB base) 230), .ref ((adB base) 231), .ref ((adB base) 232), .ref ((adB base) 233), .int (0), .ref ((adB base) 234), .int (0), .int (0), .int (0), .ref ((adB base) 235), .ref ((adB base) 236), .ref ((adB base) 237), .ref ((adB base) 238), .ref ((adB base) 239), .int (0), .ref ((adB base) 240), .int (1), .null, .int (0)])) (show (228 : Nat) ≠ 224 by first | decide | assumption | omega)).trans hh294
  rw [← e_mem307] at hh311
  have hh312 := (va_up_ne mem290 (.inr (7, [.int (0), .int (0), .ref ((adB base) 225), .int ((-1)), .int (0), .ref ((adB base) 226), .ref ((adB base) 227), .int (0), .ref ((adB base) 228), .ref ((adB base) 229), .ref ((adB base) 230), .ref ((adB base) 231), .ref ((adB base) 232), .ref ((adB base) 233), .int (0), .ref ((adB base) 234), .int (0), .int (0), .int (0), .ref ((adB base) 235), .ref ((adB base) 236), .ref ((adB base) 237), .ref ((adB base) 238), .ref ((adB base) 239), .int (0), .ref ((adB base) 240), .int (1), .null, .int (0)])) (show (229 : Nat) ≠ 224 by first | decide | assumption | omega)).trans hh295
  rw [← e_mem307] at hh312
  have hh313 := (va_up_ne mem290 (.inr (7, [.int (0), .int (0), .ref ((adB base) 225), .int ((-1)), .int (0), .ref ((adB base) 226), .ref ((adB base) 227), .int (0), .ref ((adB base) 228), .ref ((adB base) 229), .ref ((adB base) 230), .ref ((adB base) 231), .ref ((adB base) 232), .ref ((adB base) 233), .int (0), .ref ((adB base) 234), .int (0), .int (0), .int (0), .ref ((adB base) 235), .ref ((adB base) 236), .ref ((adB base) 237), .ref ((adB base) 238), .ref ((adB base) 239), .int (0), .ref ((adB base) 240), .int (1), .null, .int (0)])) (show (230 : Nat) ≠ 224 by first | decide | assumption | omega)).trans hh296
  rw [← e_mem307] at hh313
  have hh314 := (va_up_ne mem290 (.inr (7, [.int (0), .int (0), .ref ((adB base) 225), .int ((-1)), .int (0), .ref ((adB base) 226), .ref ((adB base) 227), .int (0), .ref ((adB base) 228), .ref ((adB base) 229), .ref ((adB base) 230), .ref ((adB base) 231), .ref ((adB base) 232), .ref ((adB base) 233), .int (0), .ref ((adB base) 234), .int (0), .int (0), .int (0), .ref ((adB base) 235), .ref ((adB base) 236), .ref ((adB base) 237), .ref ((adB base) 238), .ref ((adB base) 239), .int (0), .ref ((adB base) 240), .int (1), .null, .int (0)])) (show (231 : Nat) ≠ 224 by first | decide | assumption | omega)).trans hh297
  rw [← e_mem307] at hh314
  have hh315 := (va_up_ne mem290 (.inr (7, [.int (0), .int (0), .ref ((adB base) 225), .int ((-1)), .int (0), .ref ((adB base) 226), .ref ((adB base) 227), .int (0), .ref ((adB base) 228), .ref ((adB base) 229), .ref ((adB base) 230), .ref ((adB base) 231), .ref ((adB base) 232), .ref ((adB base) 233), .int (0), .ref ((adB base) 234), .int (0), .int (0), .int (0), .ref ((adB base) 235), .ref ((adB base) 236), .ref ((adB base) 237), .ref ((adB base) 238), .ref ((adB base) 239), .int (0), .ref ((adB base) 240), .int (1), .null, .int (0)])) (show (232 : Nat) ≠ 224 by first | decide | assumption | omega)).trans hh298
  rw [← e_mem307] at hh315
  have hh316 := (va_up_ne mem290 (.inr (7, [.int (0), .int (0), .ref ((adB base) 225), .int ((-1)), .int (0), .ref ((adB base) 226), .ref ((adB base) 227), .int (0), .ref ((adB base) 228), .ref ((adB base) 229), .ref ((adB base) 230), .ref ((adB base) 231), .ref ((adB base) 232), .ref ((adB base) 233), .int (0), .ref ((adB base) 234), .int (0), .int (0), .int (0), .ref ((adB base) 235), .ref ((adB base) 236), .ref ((adB base) 237), .ref ((adB base) 238), .ref ((adB base) 239), .int (0), .ref ((adB base) 240), .int (1), .null, .int (0)])) (show (233 : Nat) ≠ 224 by first | decide | assumption | omega)).trans hh299
  rw [← e_mem307] at hh316
  have hh317 := (va_up_ne mem290 (.inr (7, [.int (0), .int (0), .ref ((adB base) 225), .int ((-1)), .int (0), .ref ((adB base) 226), .ref ((adB base) 227), .int (0), .ref ((adB base) 228), .ref ((adB base) 229), .ref ((adB base) 230), .ref ((adB base) 231), .ref ((adB base) 232), .ref ((adB base) 233), .int (0), .ref ((adB base) 234), .int (0), .int (0), .int (0), .ref ((adB base) 235), .ref ((adB base) 236), .ref ((adB base) 237), .ref ((adB base) 238), .ref ((adB base) 239), .int (0), .ref ((adB base) 240), .int (1), .null, .int (0)])) (show (234 : Nat) ≠ 224 by first | decide | assumption | omega)).trans hh300
  rw [← e_mem307] at hh317
  have hh318 := (va_up_ne mem290 (.inr (7, [.int (0), .int (0), .ref ((adB base) 225), .int ((-1)), .int (0), .ref ((adB base) 226), .ref ((adB base) 227), .int (0), .ref ((adB base) 228), .ref ((adB base) 229), .ref ((adB base) 230), .ref ((adB base) 231), .ref ((adB base) 232), .ref ((adB base) 233), .int (0), .ref ((adB base) 234), .int (0), .int (0), .int (0), .ref ((adB base) 235), .ref ((adB base) 236), .ref ((adB base) 237), .ref ((adB base) 238), .ref ((adB base) 239), .int (0), .ref ((adB base) 240), .int (1), .null, .int (0)])) (show (235 : Nat) ≠ 224 by first | decide | assumption | omega)).trans hh301
  rw [← e_mem307] at hh318
  have hh319 := (va_up_ne mem290 (.inr (7, [.int (0), .int (0), .ref ((adB base) 225), .int ((-1)), .int (0), .ref ((adB base) 226), .ref ((adB base) 227), .int (0), .ref ((adB base) 228), .ref ((adB base) 229), .ref ((adB base) 230), .ref ((adB base) 231), .ref ((adB base) 232), .ref ((adB base) 233), .int (0), .ref ((adB base) 234), .int (0), .int (0), .int (0), .ref ((adB base) 235), .ref ((adB base) 236), .ref ((adB base) 237), .ref ((adB base) 238), .ref ((adB base) 239), .int (0), .ref ((adB base) 240), .int (1), .null, .int (0)])) (show (236 : Nat) ≠ 224 by first | decide | assumption | omega)).trans hh302
  rw [← e_mem307] at hh319
  have hh320 := (va_up_ne mem290 (.inr (7, [.int (0), .int (0), .ref ((adB base) 225), .int ((-1)), .int (0), .ref ((adB base) 226), .ref ((adB base) 227), .int (0), .ref ((adB base) 228), .ref ((adB base) 229), .ref ((adB base) 230), .ref ((adB base) 231), .ref ((adB base) 232), .ref ((adB base) 233), .int (0), .ref ((adB base) 234), .int (0), .int (0), .int (0), .ref ((adB base) 235), .ref ((adB base) 236), .ref ((adB base) 237), .ref ((adB base) 238), .ref ((adB base) 239), .int (0), .ref ((adB base) 240), .int (1), .null, .int (0)])) (show (237 : Nat) ≠ 224 by first | decide | assumption | omega)).trans hh303
  rw [← e_mem307] at hh320
  have hh321 := (va_up_ne mem290 (.inr (7, [.int (0), .int (0), .ref ((adB base) 225), .int ((-1)), .int (0), .ref ((adB base) 226), .ref ((adB base) 227), .int (0), .ref ((adB base) 228), .ref ((adB base) 229), .ref ((adB base) 230), .ref ((adB base) 231), .ref ((adB base) 232), .ref ((adB base) 233), .int (0), .ref ((adB base) 234), .int (0), .int (0), .int (0), .ref ((adB base) 235), .ref ((adB base) 236), .ref ((adB base) 237), .ref ((adB base) 238), .ref ((adB base) 239), .int (0), .ref ((adB base) 240), .int (1), .null, .int (0)])) (show (238 : Nat) ≠ 224 by first | decide | assumption | omega)).trans hh304
  rw [← e_mem307] at hh321
  have hh322 := (va_up_ne mem290 (.inr (7, [.int (0), .int (0), .ref ((adB base) 225), .int ((-1)), .int (0), .ref ((adB base) 226), .ref ((adB base) 227), .int (0), .ref ((adB base) 228), .ref ((adB base) 229), .ref ((adB base) 230), .ref ((adB base) 231), .ref ((adB base) 232), .ref ((adB base) 233), .int (0), .ref ((adB base) 234), .int (0), .int (0), .int (0), .ref ((adB base) 235), .ref ((adB base) 236), .ref ((adB base) 237), .ref ((adB base) 238), .ref ((adB base) 239), .int (0), .ref ((adB base) 240), .int (1), .null, .int (0)])) (show (239 : Nat) ≠ 224 by first | decide | assumption | omega)).trans hh305
  rw [← e_mem307] at hh322
  have hh323 := (va_up_ne mem290 (.inr (7, [.int (0), .int (0), .ref ((adB base) 225), .int ((-1)), .int (0), .ref ((adB base) 226), .ref ((adB base) 227), .int (0), .ref ((adB base) 228), .ref ((adB base) 229), .ref ((adB base) 230), .ref ((adB base) 231), .ref ((adB base) 232), .ref ((adB base) 233), .int (0), .ref ((adB base) 234), .int (0), .int (0), .int (0), .ref ((adB base) 235), .ref ((adB base) 236), .ref ((adB base) 237), .ref ((adB base) 238), .ref ((adB base) 239), .int (0), .ref ((adB base) 240), .int (1), .null, .int (0)])) (show (240 : Nat) ≠ 224 by first | decide | assumption | omega)).trans hh306
  rw [← e_mem307] at hh323
  refine lv_aload_n Bx.1 Bx.2.1 d_Mo_init_144 rfl (lv_at hl 0 rfl) ?_
  refine lv_sipush (v := 2500) Bx.1 Bx.2.1 d_Mo_init_145 (by decide) ?_
  refine c_size (n := 241) hP (by omega) (by omega) (fun hz => ?_)
  refine f_newa (atype := .int) (n := 241) (t0 := 1) (N' := 2500) Bx hP hS hz kw_110 (Bx.2.2.2.2.2 1 _ rfl).2 (2500, .inl (fun _ => 0)) (fun _ => rfl) (by decide) (by decide) (by decide) (Nat.le_of_ble_eq_true rfl) (Nat.le_of_ble_eq_true rfl) d_Mo_init_148 (fun H hP hS hz => ?_)
  obtain ⟨mem324, e_mem324⟩ : ∃ z, z = va_up mem307 (241) (.inl (cy 1, (2500, .inl (fun _ => 0)))) := ⟨_, rfl⟩
  have hP : va_P D vcl (fw 242 (adB base) mem324) H := by rw [e_mem324]; exact hP
  have h_mem324 : mem324 (241) = .inl (cy 1, (2500, .inl (fun _ => 0))) := by rw [e_mem324, va_up_self]
  have hh325 := (va_up_ne mem307 (.inl (cy 1, (2500, .inl (fun _ => 0)))) (show (224 : Nat) ≠ 241 by first | decide | assumption | omega)).trans h_mem307
  rw [← e_mem324] at hh325
  have hh326 := (va_up_ne mem307 (.inl (cy 1, (2500, .inl (fun _ => 0)))) (show (225 : Nat) ≠ 241 by first | decide | assumption | omega)).trans hh308
  rw [← e_mem324] at hh326
  have hh327 := (va_up_ne mem307 (.inl (cy 1, (2500, .inl (fun _ => 0)))) (show (226 : Nat) ≠ 241 by first | decide | assumption | omega)).trans hh309
  rw [← e_mem324] at hh327
  have hh328 := (va_up_ne mem307 (.inl (cy 1, (2500, .inl (fun _ => 0)))) (show (227 : Nat) ≠ 241 by first | decide | assumption | omega)).trans hh310
  rw [← e_mem324] at hh328
  have hh329 := (va_up_ne mem307 (.inl (cy 1, (2500, .inl (fun _ => 0)))) (show (228 : Nat) ≠ 241 by first | decide | assumption | omega)).trans hh311
  rw [← e_mem324] at hh329
  have hh330 := (va_up_ne mem307 (.inl (cy 1, (2500, .inl (fun _ => 0)))) (show (229 : Nat) ≠ 241 by first | decide | assumption | omega)).trans hh312
  rw [← e_mem324] at hh330
  have hh331 := (va_up_ne mem307 (.inl (cy 1, (2500, .inl (fun _ => 0)))) (show (230 : Nat) ≠ 241 by first | decide | assumption | omega)).trans hh313
  rw [← e_mem324] at hh331
  have hh332 := (va_up_ne mem307 (.inl (cy 1, (2500, .inl (fun _ => 0)))) (show (231 : Nat) ≠ 241 by first | decide | assumption | omega)).trans hh314
  rw [← e_mem324] at hh332
  have hh333 := (va_up_ne mem307 (.inl (cy 1, (2500, .inl (fun _ => 0)))) (show (232 : Nat) ≠ 241 by first | decide | assumption | omega)).trans hh315
  rw [← e_mem324] at hh333
  have hh334 := (va_up_ne mem307 (.inl (cy 1, (2500, .inl (fun _ => 0)))) (show (233 : Nat) ≠ 241 by first | decide | assumption | omega)).trans hh316
  rw [← e_mem324] at hh334
  have hh335 := (va_up_ne mem307 (.inl (cy 1, (2500, .inl (fun _ => 0)))) (show (234 : Nat) ≠ 241 by first | decide | assumption | omega)).trans hh317
  rw [← e_mem324] at hh335
  have hh336 := (va_up_ne mem307 (.inl (cy 1, (2500, .inl (fun _ => 0)))) (show (235 : Nat) ≠ 241 by first | decide | assumption | omega)).trans hh318
  rw [← e_mem324] at hh336
  have hh337 := (va_up_ne mem307 (.inl (cy 1, (2500, .inl (fun _ => 0)))) (show (236 : Nat) ≠ 241 by first | decide | assumption | omega)).trans hh319
  rw [← e_mem324] at hh337
  have hh338 := (va_up_ne mem307 (.inl (cy 1, (2500, .inl (fun _ => 0)))) (show (237 : Nat) ≠ 241 by first | decide | assumption | omega)).trans hh320
  rw [← e_mem324] at hh338
  have hh339 := (va_up_ne mem307 (.inl (cy 1, (2500, .inl (fun _ => 0)))) (show (238 : Nat) ≠ 241 by first | decide | assumption | omega)).trans hh321
  rw [← e_mem324] at hh339
  have hh340 := (va_up_ne mem307 (.inl (cy 1, (2500, .inl (fun _ => 0)))) (show (239 : Nat) ≠ 241 by first | decide | assumption | omega)).trans hh322
  rw [← e_mem324] at hh340
  have hh341 := (va_up_ne mem307 (.inl (cy 1, (2500, .inl (fun _ => 0)))) (show (240 : Nat) ≠ 241 by first | decide | assumption | omega)).trans hh323
  rw [← e_mem324] at hh341
  refine f_putF Bx hin hP (adB_D hbz) hS (by omega) hh325 rfl inMo tyMo okMo nmMo 27 (by decide) kw_683 rfl rfl rfl rfl (Nat.le_of_ble_eq_true rfl) d_Mo_init_150 (fun H locs hP hS => ?_)
  obtain ⟨mem342, e_mem342⟩ : ∃ z, z = va_up mem324 (224) (.inr (7, [.int (0), .int (0), .ref ((adB base) 225), .int ((-1)), .int (0), .ref ((adB base) 226), .ref ((adB base) 227), .int (0), .ref ((adB base) 228), .ref ((adB base) 229), .ref ((adB base) 230), .ref ((adB base) 231), .ref ((adB base) 232), .ref ((adB base) 233), .int (0), .ref ((adB base) 234), .int (0), .int (0), .int (0), .ref ((adB base) 235), .ref ((adB base) 236), .ref ((adB base) 237), .ref ((adB base) 238), .ref ((adB base) 239), .int (0), .ref ((adB base) 240), .int (1), .ref ((adB base) 241), .int (0)])) := ⟨_, rfl⟩
  have hP : va_P D vcl (fw 242 (adB base) mem342) H := by rw [e_mem342]; exact hP
  have h_mem342 : mem342 (224) = .inr (7, [.int (0), .int (0), .ref ((adB base) 225), .int ((-1)), .int (0), .ref ((adB base) 226), .ref ((adB base) 227), .int (0), .ref ((adB base) 228), .ref ((adB base) 229), .ref ((adB base) 230), .ref ((adB base) 231), .ref ((adB base) 232), .ref ((adB base) 233), .int (0), .ref ((adB base) 234), .int (0), .int (0), .int (0), .ref ((adB base) 235), .ref ((adB base) 236), .ref ((adB base) 237), .ref ((adB base) 238), .ref ((adB base) 239), .int (0), .ref ((adB base) 240), .int (1), .ref ((adB base) 241), .int (0)]) := by rw [e_mem342, va_up_self]
  have hh343 := (va_up_ne mem324 (.inr (7, [.int (0), .int (0), .ref ((adB base) 225), .int ((-1)), .int (0), .ref ((adB base) 226), .ref ((adB base) 227), .int (0), .ref ((adB base) 228), .ref ((adB base) 229), .ref ((adB base) 230), .ref ((adB base) 231), .ref ((adB base) 232), .ref ((adB base) 233), .int (0), .ref ((adB base) 234), .int (0), .int (0), .int (0), .ref ((adB base) 235), .ref ((adB base) 236), .ref ((adB base) 237), .ref ((adB base) 238), .ref ((adB base) 239), .int (0), .ref ((adB base) 240), .int (1), .ref ((adB base) 241), .int (0)])) (show (225 : Nat) ≠ 224 by first | decide | assumption | omega)).trans hh326
  rw [← e_mem342] at hh343
  have hh344 := (va_up_ne mem324 (.inr (7, [.int (0), .int (0), .ref ((adB base) 225), .int ((-1)), .int (0), .ref ((adB base) 226), .ref ((adB base) 227), .int (0), .ref ((adB base) 228), .ref ((adB base) 229), .ref ((adB base) 230), .ref ((adB base) 231), .ref ((adB base) 232), .ref ((adB base) 233), .int (0), .ref ((adB base) 234), .int (0), .int (0), .int (0), .ref ((adB base) 235), .ref ((adB base) 236), .ref ((adB base) 237), .ref ((adB base) 238), .ref ((adB base) 239), .int (0), .ref ((adB base) 240), .int (1), .ref ((adB base) 241), .int (0)])) (show (226 : Nat) ≠ 224 by first | decide | assumption | omega)).trans hh327
  rw [← e_mem342] at hh344
  have hh345 := (va_up_ne mem324 (.inr (7, [.int (0), .int (0), .ref ((adB base) 225), .int ((-1)), .int (0), .ref ((adB base) 226), .ref ((adB base) 227), .int (0), .ref ((adB base) 228), .ref ((adB base) 229), .ref ((adB base) 230), .ref ((adB base) 231), .ref ((adB base) 232), .ref ((adB base) 233), .int (0), .ref ((adB base) 234), .int (0), .int (0), .int (0), .ref ((adB base) 235), .ref ((adB base) 236), .ref ((adB base) 237), .ref ((adB base) 238), .ref ((adB base) 239), .int (0), .ref ((adB base) 240), .int (1), .ref ((adB base) 241), .int (0)])) (show (227 : Nat) ≠ 224 by first | decide | assumption | omega)).trans hh328
  rw [← e_mem342] at hh345
  have hh346 := (va_up_ne mem324 (.inr (7, [.int (0), .int (0), .ref ((adB base) 225), .int ((-1)), .int (0), .ref ((adB base) 226), .ref ((adB base) 227), .int (0), .ref ((adB base) 228), .ref ((adB base) 229), .ref ((adB base) 230), .ref ((adB base) 231), .ref ((adB base) 232), .ref ((adB base) 233), .int (0), .ref ((adB base) 234), .int (0), .int (0), .int (0), .ref ((adB base) 235), .ref ((adB base) 236), .ref ((adB base) 237), .ref ((adB base) 238), .ref ((adB base) 239), .int (0), .ref ((adB base) 240), .int (1), .ref ((adB base) 241), .int (0)])) (show (228 : Nat) ≠ 224 by first | decide | assumption | omega)).trans hh329
  rw [← e_mem342] at hh346
  have hh347 := (va_up_ne mem324 (.inr (7, [.int (0), .int (0), .ref ((adB base) 225), .int ((-1)), .int (0), .ref ((adB base) 226), .ref ((adB base) 227), .int (0), .ref ((adB base) 228), .ref ((adB base) 229), .ref ((adB base) 230), .ref ((adB base) 231), .ref ((adB base) 232), .ref ((adB base) 233), .int (0), .ref ((adB base) 234), .int (0), .int (0), .int (0), .ref ((adB base) 235), .ref ((adB base) 236), .ref ((adB base) 237), .ref ((adB base) 238), .ref ((adB base) 239), .int (0), .ref ((adB base) 240), .int (1), .ref ((adB base) 241), .int (0)])) (show (229 : Nat) ≠ 224 by first | decide | assumption | omega)).trans hh330
  rw [← e_mem342] at hh347
  have hh348 := (va_up_ne mem324 (.inr (7, [.int (0), .int (0), .ref ((adB base) 225), .int ((-1)), .int (0), .ref ((adB base) 226), .ref ((adB base) 227), .int (0), .ref ((adB base) 228), .ref ((adB base) 229), .ref ((adB base) 230), .ref ((adB base) 231), .ref ((adB base) 232), .ref ((adB base) 233), .int (0), .ref ((adB base) 234), .int (0), .int (0), .int (0), .ref ((adB base) 235), .ref ((adB base) 236), .ref ((adB base) 237), .ref ((adB base) 238), .ref ((adB base) 239), .int (0), .ref ((adB base) 240), .int (1), .ref ((adB base) 241), .int (0)])) (show (230 : Nat) ≠ 224 by first | decide | assumption | omega)).trans hh331
  rw [← e_mem342] at hh348
  have hh349 := (va_up_ne mem324 (.inr (7, [.int (0), .int (0), .ref ((adB base) 225), .int ((-1)), .int (0), .ref ((adB base) 226), .ref ((adB base) 227), .int (0), .ref ((adB base) 228), .ref ((adB base) 229), .ref ((adB base) 230), .ref ((adB base) 231), .ref ((adB base) 232), .ref ((adB base) 233), .int (0), .ref ((adB base) 234), .int (0), .int (0), .int (0), .ref ((adB base) 235), .ref ((adB base) 236), .ref ((adB base) 237), .ref ((adB base) 238), .ref ((adB base) 239), .int (0), .ref ((adB base) 240), .int (1), .ref ((adB base) 241), .int (0)])) (show (231 : Nat) ≠ 224 by first | decide | assumption | omega)).trans hh332
  rw [← e_mem342] at hh349
  have hh350 := (va_up_ne mem324 (.inr (7, [.int (0), .int (0), .ref ((adB base) 225), .int ((-1)), .int (0), .ref ((adB base) 226), .ref ((adB base) 227), .int (0), .ref ((adB base) 228), .ref ((adB base) 229), .ref ((adB base) 230), .ref ((adB base) 231), .ref ((adB base) 232), .ref ((adB base) 233), .int (0), .ref ((adB base) 234), .int (0), .int (0), .int (0), .ref ((adB base) 235), .ref ((adB base) 236), .ref ((adB base) 237), .ref ((adB base) 238), .ref ((adB base) 239), .int (0), .ref ((adB base) 240), .int (1), .ref ((adB base) 241), .int (0)])) (show (232 : Nat) ≠ 224 by first | decide | assumption | omega)).trans hh333
  rw [← e_mem342] at hh350
  have hh351 := (va_up_ne mem324 (.inr (7, [.int (0), .int (0), .ref ((adB base) 225), .int ((-1)), .int (0), .ref ((adB base) 226), .ref ((adB base) 227), .int (0), .ref ((adB base) 228), .ref ((adB base) 229), .ref ((adB base) 230), .ref ((adB base) 231), .ref ((adB base) 232), .ref ((adB base) 233), .int (0), .ref ((adB base) 234), .int (0), .int (0), .int (0), .ref ((adB base) 235), .ref ((adB base) 236), .ref ((adB base) 237), .ref ((adB base) 238), .ref ((adB base) 239), .int (0), .ref ((adB base) 240), .int (1), .ref ((adB base) 241), .int (0)])) (show (233 : Nat) ≠ 224 by first | decide | assumption | omega)).trans hh334
  rw [← e_mem342] at hh351
  have hh352 := (va_up_ne mem324 (.inr (7, [.int (0), .int (0), .ref ((adB base) 225), .int ((-1)), .int (0), .ref ((adB base) 226), .ref ((adB base) 227), .int (0), .ref ((adB base) 228), .ref ((adB base) 229), .ref ((adB base) 230), .ref ((adB base) 231), .ref ((adB base) 232), .ref ((adB base) 233), .int (0), .ref ((adB base) 234), .int (0), .int (0), .int (0), .ref ((adB base) 235), .ref ((adB base) 236), .ref ((adB base) 237), .ref ((adB base) 238), .ref ((adB base) 239), .int (0), .ref ((adB base) 240), .int (1), .ref ((adB base) 241), .int (0)])) (show (234 : Nat) ≠ 224 by first | decide | assumption | omega)).trans hh335
  rw [← e_mem342] at hh352
  have hh353 := (va_up_ne mem324 (.inr (7, [.int (0), .int (0), .ref ((adB base) 225), .int ((-1)), .int (0), .ref ((adB base) 226), .ref ((adB base) 227), .int (0), .ref ((adB base) 228), .ref ((adB base) 229), .ref ((adB base) 230), .ref ((adB base) 231), .ref ((adB base) 232), .ref ((adB base) 233), .int (0), .ref ((adB base) 234), .int (0), .int (0), .int (0), .ref ((adB base) 235), .ref ((adB base) 236), .ref ((adB base) 237), .ref ((adB base) 238), .ref ((adB base) 239), .int (0), .ref ((adB base) 240), .int (1), .ref ((adB base) 241), .int (0)])) (show (235 : Nat) ≠ 224 by first | decide | assumption | omega)).trans hh336
  rw [← e_mem342] at hh353
  have hh354 := (va_up_ne mem324 (.inr (7, [.int (0), .int (0), .ref ((adB base) 225), .int ((-1)), .int (0), .ref ((adB base) 226), .ref ((adB base) 227), .int (0), .ref ((adB base) 228), .ref ((adB base) 229), .ref ((adB base) 230), .ref ((adB base) 231), .ref ((adB base) 232), .ref ((adB base) 233), .int (0), .ref ((adB base) 234), .int (0), .int (0), .int (0), .ref ((adB base) 235), .ref ((adB base) 236), .ref ((adB base) 237), .ref ((adB base) 238), .ref ((adB base) 239), .int (0), .ref ((adB base) 240), .int (1), .ref ((adB base) 241), .int (0)])) (show (236 : Nat) ≠ 224 by first | decide | assumption | omega)).trans hh337
  rw [← e_mem342] at hh354
  have hh355 := (va_up_ne mem324 (.inr (7, [.int (0), .int (0), .ref ((adB base) 225), .int ((-1)), .int (0), .ref ((adB base) 226), .ref ((adB base) 227), .int (0), .ref ((adB base) 228), .ref ((adB base) 229), .ref ((adB base) 230), .ref ((adB base) 231), .ref ((adB base) 232), .ref ((adB base) 233), .int (0), .ref ((adB base) 234), .int (0), .int (0), .int (0), .ref ((adB base) 235), .ref ((adB base) 236), .ref ((adB base) 237), .ref ((adB base) 238), .ref ((adB base) 239), .int (0), .ref ((adB base) 240), .int (1), .ref ((adB base) 241), .int (0)])) (show (237 : Nat) ≠ 224 by first | decide | assumption | omega)).trans hh338
  rw [← e_mem342] at hh355
  have hh356 := (va_up_ne mem324 (.inr (7, [.int (0), .int (0), .ref ((adB base) 225), .int ((-1)), .int (0), .ref ((adB base) 226), .ref ((adB base) 227), .int (0), .ref ((adB base) 228), .ref ((adB base) 229), .ref ((adB base) 230), .ref ((adB base) 231), .ref ((adB base) 232), .ref ((adB base) 233), .int (0), .ref ((adB base) 234), .int (0), .int (0), .int (0), .ref ((adB base) 235), .ref ((adB base) 236), .ref ((adB base) 237), .ref ((adB base) 238), .ref ((adB base) 239), .int (0), .ref ((adB base) 240), .int (1), .ref ((adB base) 241), .int (0)])) (show (238 : Nat) ≠ 224 by first | decide | assumption | omega)).trans hh339
  rw [← e_mem342] at hh356
  have hh357 := (va_up_ne mem324 (.inr (7, [.int (0), .int (0), .ref ((adB base) 225), .int ((-1)), .int (0), .ref ((adB base) 226), .ref ((adB base) 227), .int (0), .ref ((adB base) 228), .ref ((adB base) 229), .ref ((adB base) 230), .ref ((adB base) 231), .ref ((adB base) 232), .ref ((adB base) 233), .int (0), .ref ((adB base) 234), .int (0), .int (0), .int (0), .ref ((adB base) 235), .ref ((adB base) 236), .ref ((adB base) 237), .ref ((adB base) 238), .ref ((adB base) 239), .int (0), .ref ((adB base) 240), .int (1), .ref ((adB base) 241), .int (0)])) (show (239 : Nat) ≠ 224 by first | decide | assumption | omega)).trans hh340
  rw [← e_mem342] at hh357
  have hh358 := (va_up_ne mem324 (.inr (7, [.int (0), .int (0), .ref ((adB base) 225), .int ((-1)), .int (0), .ref ((adB base) 226), .ref ((adB base) 227), .int (0), .ref ((adB base) 228), .ref ((adB base) 229), .ref ((adB base) 230), .ref ((adB base) 231), .ref ((adB base) 232), .ref ((adB base) 233), .int (0), .ref ((adB base) 234), .int (0), .int (0), .int (0), .ref ((adB base) 235), .ref ((adB base) 236), .ref ((adB base) 237), .ref ((adB base) 238), .ref ((adB base) 239), .int (0), .ref ((adB base) 240), .int (1), .ref ((adB base) 241), .int (0)])) (show (240 : Nat) ≠ 224 by first | decide | assumption | omega)).trans hh341
  rw [← e_mem342] at hh358
  have hh359 := (va_up_ne mem324 (.inr (7, [.int (0), .int (0), .ref ((adB base) 225), .int ((-1)), .int (0), .ref ((adB base) 226), .ref ((adB base) 227), .int (0), .ref ((adB base) 228), .ref ((adB base) 229), .ref ((adB base) 230), .ref ((adB base) 231), .ref ((adB base) 232), .ref ((adB base) 233), .int (0), .ref ((adB base) 234), .int (0), .int (0), .int (0), .ref ((adB base) 235), .ref ((adB base) 236), .ref ((adB base) 237), .ref ((adB base) 238), .ref ((adB base) 239), .int (0), .ref ((adB base) 240), .int (1), .ref ((adB base) 241), .int (0)])) (show (241 : Nat) ≠ 224 by first | decide | assumption | omega)).trans h_mem324
  rw [← e_mem342] at hh359
  have ne : ∀ i, i < 224 → mem342 i = mem i := fun i a => by rw [e_mem342, va_up_ne _ _ (by omega), e_mem324, va_up_ne _ _ (by omega), e_mem307, va_up_ne _ _ (by omega), e_mem290, va_up_ne _ _ (by omega), e_mem273, va_up_ne _ _ (by omega), e_mem257, va_up_ne _ _ (by omega), e_mem241, va_up_ne _ _ (by omega), e_mem226, va_up_ne _ _ (by omega), e_mem211, va_up_ne _ _ (by omega), e_mem197, va_up_ne _ _ (by omega), e_mem183, va_up_ne _ _ (by omega), e_mem170, va_up_ne _ _ (by omega), e_mem157, va_up_ne _ _ (by omega), e_mem145, va_up_ne _ _ (by omega), e_mem133, va_up_ne _ _ (by omega), e_mem122, va_up_ne _ _ (by omega), e_mem111, va_up_ne _ _ (by omega), e_mem101, va_up_ne _ _ (by omega), e_mem91, va_up_ne _ _ (by omega), e_mem82, va_up_ne _ _ (by omega), e_mem73, va_up_ne _ _ (by omega), e_mem65, va_up_ne _ _ (by omega), e_mem57, va_up_ne _ _ (by omega), e_mem50, va_up_ne _ _ (by omega), e_mem43, va_up_ne _ _ (by omega), e_mem37, va_up_ne _ _ (by omega), e_mem31, va_up_ne _ _ (by omega), e_mem26, va_up_ne _ _ (by omega), e_mem21, va_up_ne _ _ (by omega), e_mem17, va_up_ne _ _ (by omega), e_mem13, va_up_ne _ _ (by omega), e_mem10, va_up_ne _ _ (by omega), e_mem7, va_up_ne _ _ (by omega), e_mem5, va_up_ne _ _ (by omega), e_mem3, va_up_ne _ _ (by omega), e_mem1, va_up_ne _ _ (by omega)]
  refine c_size (n := 242) hP (by omega) (by omega) (fun hz => ?_)
  refine W.widen (k := 17) (n := 3828) (Nat.le_of_ble_eq_true rfl) (Nat.le_of_ble_eq_true rfl) ?_
  exact W.vret hx hb hr (fun t ht hW => ⟨⟨mem342, rfl, ⟨⟨h_mem342, hh343, hh344, hh345, hh346, hh347, hh348, hh349, hh350, hh351, hh352, hh353, hh354, hh355, hh356, hh357, hh358, hh359⟩, ne⟩, by rw [ht]; exact hP, by rw [ht]; exact hz⟩, hS.F ht⟩) hS.2.2 d_Mo_init_153
end
section
theorem d_Mo_within_0 : decode c_Mo_within 0 = .ok (.iload_n 0, 1) := by decide +kernel
theorem d_Mo_within_1 : decode c_Mo_within 1 = .ok (.iload_n 1, 1) := by decide +kernel
theorem d_Mo_within_2 : decode c_Mo_within 2 = .ok (.if_icmp .lt 12, 3) := by decide +kernel
theorem d_Mo_within_5 : decode c_Mo_within 5 = .ok (.iload_n 0, 1) := by decide +kernel
theorem d_Mo_within_6 : decode c_Mo_within 6 = .ok (.iload_n 2, 1) := by decide +kernel
theorem d_Mo_within_7 : decode c_Mo_within 7 = .ok (.if_icmp .gt 7, 3) := by decide +kernel
theorem d_Mo_within_10 : decode c_Mo_within 10 = .ok (.iconst 1, 1) := by decide +kernel
theorem d_Mo_within_11 : decode c_Mo_within 11 = .ok (.goto 4, 3) := by decide +kernel
theorem d_Mo_within_14 : decode c_Mo_within 14 = .ok (.iconst 0, 1) := by decide +kernel
theorem d_Mo_within_15 : decode c_Mo_within 15 = .ok (.ireturn, 1) := by decide +kernel
theorem d_Mo_fail_0 : decode c_Mo_fail 0 = .ok (.aload_n 0, 1) := by decide +kernel
theorem d_Mo_fail_1 : decode c_Mo_fail 1 = .ok (.iload_n 1, 1) := by decide +kernel
theorem d_Mo_fail_2 : decode c_Mo_fail 2 = .ok (.putfield 71, 3) := by decide +kernel
theorem d_Mo_fail_5 : decode c_Mo_fail 5 = .ok (.iconst 0, 1) := by decide +kernel
theorem d_Mo_fail_6 : decode c_Mo_fail 6 = .ok (.ireturn, 1) := by decide +kernel
theorem d_Mo_erase_0 : decode c_Mo_erase 0 = .ok (.aload_n 0, 1) := by decide +kernel
theorem d_Mo_erase_1 : decode c_Mo_erase 1 = .ok (.iconst 0, 1) := by decide +kernel
theorem d_Mo_erase_2 : decode c_Mo_erase 2 = .ok (.putfield 71, 3) := by decide +kernel
theorem d_Mo_erase_5 : decode c_Mo_erase 5 = .ok (.aload_n 0, 1) := by decide +kernel
theorem d_Mo_erase_6 : decode c_Mo_erase 6 = .ok (.getfield 84, 3) := by decide +kernel
theorem d_Mo_erase_9 : decode c_Mo_erase 9 = .ok (.istore_n 1, 1) := by decide +kernel
theorem d_Mo_erase_10 : decode c_Mo_erase 10 = .ok (.aload_n 0, 1) := by decide +kernel
theorem d_Mo_erase_11 : decode c_Mo_erase 11 = .ok (.iconst 0, 1) := by decide +kernel
theorem d_Mo_erase_12 : decode c_Mo_erase 12 = .ok (.putfield 84, 3) := by decide +kernel
theorem d_Mo_erase_15 : decode c_Mo_erase 15 = .ok (.iload_n 1, 1) := by decide +kernel
theorem d_Mo_erase_16 : decode c_Mo_erase 16 = .ok (.ireturn, 1) := by decide +kernel
theorem d_Mo_place_0 : decode c_Mo_place 0 = .ok (.aload_n 0, 1) := by decide +kernel
theorem d_Mo_place_1 : decode c_Mo_place 1 = .ok (.iconst 0, 1) := by decide +kernel
theorem d_Mo_place_2 : decode c_Mo_place 2 = .ok (.putfield 71, 3) := by decide +kernel
theorem d_Mo_place_5 : decode c_Mo_place 5 = .ok (.aload_n 0, 1) := by decide +kernel
theorem d_Mo_place_6 : decode c_Mo_place 6 = .ok (.getfield 13, 3) := by decide +kernel
theorem d_Mo_place_9 : decode c_Mo_place 9 = .ok (.ireturn, 1) := by decide +kernel
theorem d_Mo_drop_0 : decode c_Mo_drop 0 = .ok (.aload_n 0, 1) := by decide +kernel
theorem d_Mo_drop_1 : decode c_Mo_drop 1 = .ok (.iconst 0, 1) := by decide +kernel
theorem d_Mo_drop_2 : decode c_Mo_drop 2 = .ok (.putfield 71, 3) := by decide +kernel
theorem d_Mo_drop_5 : decode c_Mo_drop 5 = .ok (.aload_n 0, 1) := by decide +kernel
theorem d_Mo_drop_6 : decode c_Mo_drop 6 = .ok (.getfield 185, 3) := by decide +kernel
theorem d_Mo_drop_9 : decode c_Mo_drop 9 = .ok (.istore_n 1, 1) := by decide +kernel
theorem d_Mo_drop_10 : decode c_Mo_drop 10 = .ok (.aload_n 0, 1) := by decide +kernel
theorem d_Mo_drop_11 : decode c_Mo_drop 11 = .ok (.iconst 0, 1) := by decide +kernel
theorem d_Mo_drop_12 : decode c_Mo_drop 12 = .ok (.putfield 185, 3) := by decide +kernel
theorem d_Mo_drop_15 : decode c_Mo_drop 15 = .ok (.aload_n 0, 1) := by decide +kernel
theorem d_Mo_drop_16 : decode c_Mo_drop 16 = .ok (.iconst 1, 1) := by decide +kernel
theorem d_Mo_drop_17 : decode c_Mo_drop 17 = .ok (.putfield 64, 3) := by decide +kernel
theorem d_Mo_drop_20 : decode c_Mo_drop 20 = .ok (.iload_n 1, 1) := by decide +kernel
theorem d_Mo_drop_21 : decode c_Mo_drop 21 = .ok (.ireturn, 1) := by decide +kernel
theorem d_Mo_write_0 : decode c_Mo_write 0 = .ok (.aload_n 0, 1) := by decide +kernel
theorem d_Mo_write_1 : decode c_Mo_write 1 = .ok (.iconst 0, 1) := by decide +kernel
theorem d_Mo_write_2 : decode c_Mo_write 2 = .ok (.putfield 71, 3) := by decide +kernel
theorem d_Mo_write_5 : decode c_Mo_write 5 = .ok (.iload_n 3, 1) := by decide +kernel
theorem d_Mo_write_6 : decode c_Mo_write 6 = .ok (.iconst 1, 1) := by decide +kernel
theorem d_Mo_write_7 : decode c_Mo_write 7 = .ok (.bipush 8, 2) := by decide +kernel
theorem d_Mo_write_9 : decode c_Mo_write 9 = .ok (.invokestatic 74, 3) := by decide +kernel
theorem d_Mo_write_12 : decode c_Mo_write 12 = .ok (.ifCond .ne 9, 3) := by decide +kernel
theorem d_Mo_write_15 : decode c_Mo_write 15 = .ok (.aload_n 0, 1) := by decide +kernel
theorem d_Mo_write_16 : decode c_Mo_write 16 = .ok (.iconst 1, 1) := by decide +kernel
theorem d_Mo_write_17 : decode c_Mo_write 17 = .ok (.invokevirtual 78, 3) := by decide +kernel
theorem d_Mo_write_20 : decode c_Mo_write 20 = .ok (.ireturn, 1) := by decide +kernel
theorem d_Mo_write_21 : decode c_Mo_write 21 = .ok (.iconst 1, 1) := by decide +kernel
theorem d_Mo_write_22 : decode c_Mo_write 22 = .ok (.istore 4, 2) := by decide +kernel
theorem d_Mo_write_24 : decode c_Mo_write 24 = .ok (.iconst 0, 1) := by decide +kernel
theorem d_Mo_write_25 : decode c_Mo_write 25 = .ok (.istore 5, 2) := by decide +kernel
theorem d_Mo_write_27 : decode c_Mo_write 27 = .ok (.iload 5, 2) := by decide +kernel
theorem d_Mo_write_29 : decode c_Mo_write 29 = .ok (.iload_n 3, 1) := by decide +kernel
theorem d_Mo_write_30 : decode c_Mo_write 30 = .ok (.if_icmp .ge 54, 3) := by decide +kernel
theorem d_Mo_write_33 : decode c_Mo_write 33 = .ok (.lload_n 1, 1) := by decide +kernel
theorem d_Mo_write_34 : decode c_Mo_write 34 = .ok (.bipush 8, 2) := by decide +kernel
theorem d_Mo_write_36 : decode c_Mo_write 36 = .ok (.iload 5, 2) := by decide +kernel
theorem d_Mo_write_38 : decode c_Mo_write 38 = .ok (.imul, 1) := by decide +kernel
theorem d_Mo_write_39 : decode c_Mo_write 39 = .ok (.lshr, 1) := by decide +kernel
theorem d_Mo_write_40 : decode c_Mo_write 40 = .ok (.ldc2_w 82, 3) := by decide +kernel
theorem d_Mo_write_43 : decode c_Mo_write 43 = .ok (.land, 1) := by decide +kernel
theorem d_Mo_write_44 : decode c_Mo_write 44 = .ok (.l2i, 1) := by decide +kernel
theorem d_Mo_write_45 : decode c_Mo_write 45 = .ok (.istore 6, 2) := by decide +kernel
theorem d_Mo_write_47 : decode c_Mo_write 47 = .ok (.iload 4, 2) := by decide +kernel
theorem d_Mo_write_49 : decode c_Mo_write 49 = .ok (.ifCond .eq 26, 3) := by decide +kernel
theorem d_Mo_write_52 : decode c_Mo_write 52 = .ok (.iload 6, 2) := by decide +kernel
theorem d_Mo_write_54 : decode c_Mo_write 54 = .ok (.bipush 10, 2) := by decide +kernel
theorem d_Mo_write_56 : decode c_Mo_write 56 = .ok (.if_icmp .eq 15, 3) := by decide +kernel
theorem d_Mo_write_59 : decode c_Mo_write 59 = .ok (.iload 6, 2) := by decide +kernel
theorem d_Mo_write_61 : decode c_Mo_write 61 = .ok (.bipush 32, 2) := by decide +kernel
theorem d_Mo_write_63 : decode c_Mo_write 63 = .ok (.bipush 126, 2) := by decide +kernel
theorem d_Mo_write_65 : decode c_Mo_write 65 = .ok (.invokestatic 74, 3) := by decide +kernel
theorem d_Mo_write_68 : decode c_Mo_write 68 = .ok (.ifCond .eq 7, 3) := by decide +kernel
theorem d_Mo_write_71 : decode c_Mo_write 71 = .ok (.iconst 1, 1) := by decide +kernel
theorem d_Mo_write_72 : decode c_Mo_write 72 = .ok (.goto 4, 3) := by decide +kernel
theorem d_Mo_write_75 : decode c_Mo_write 75 = .ok (.iconst 0, 1) := by decide +kernel
theorem d_Mo_write_76 : decode c_Mo_write 76 = .ok (.istore 4, 2) := by decide +kernel
theorem d_Mo_write_78 : decode c_Mo_write 78 = .ok (.iinc 5 1, 3) := by decide +kernel
theorem d_Mo_write_81 : decode c_Mo_write 81 = .ok (.goto (-54), 3) := by decide +kernel
theorem d_Mo_write_84 : decode c_Mo_write 84 = .ok (.iload 4, 2) := by decide +kernel
theorem d_Mo_write_86 : decode c_Mo_write 86 = .ok (.ifCond .ne 9, 3) := by decide +kernel
theorem d_Mo_write_89 : decode c_Mo_write 89 = .ok (.aload_n 0, 1) := by decide +kernel
theorem d_Mo_write_90 : decode c_Mo_write 90 = .ok (.iconst 1, 1) := by decide +kernel
theorem d_Mo_write_91 : decode c_Mo_write 91 = .ok (.invokevirtual 78, 3) := by decide +kernel
theorem d_Mo_write_94 : decode c_Mo_write 94 = .ok (.ireturn, 1) := by decide +kernel
theorem d_Mo_write_95 : decode c_Mo_write 95 = .ok (.aload_n 0, 1) := by decide +kernel
theorem d_Mo_write_96 : decode c_Mo_write 96 = .ok (.getfield 84, 3) := by decide +kernel
theorem d_Mo_write_99 : decode c_Mo_write 99 = .ok (.iload_n 3, 1) := by decide +kernel
theorem d_Mo_write_100 : decode c_Mo_write 100 = .ok (.iadd, 1) := by decide +kernel
theorem d_Mo_write_101 : decode c_Mo_write 101 = .ok (.sipush 240, 3) := by decide +kernel
theorem d_Mo_write_104 : decode c_Mo_write 104 = .ok (.if_icmp .le 9, 3) := by decide +kernel
theorem d_Mo_write_107 : decode c_Mo_write 107 = .ok (.aload_n 0, 1) := by decide +kernel
theorem d_Mo_write_108 : decode c_Mo_write 108 = .ok (.iconst 2, 1) := by decide +kernel
theorem d_Mo_write_109 : decode c_Mo_write 109 = .ok (.invokevirtual 78, 3) := by decide +kernel
theorem d_Mo_write_112 : decode c_Mo_write 112 = .ok (.ireturn, 1) := by decide +kernel
theorem d_Mo_write_113 : decode c_Mo_write 113 = .ok (.iconst 0, 1) := by decide +kernel
theorem d_Mo_write_114 : decode c_Mo_write 114 = .ok (.istore 5, 2) := by decide +kernel
theorem d_Mo_write_116 : decode c_Mo_write 116 = .ok (.iload 5, 2) := by decide +kernel
theorem d_Mo_write_118 : decode c_Mo_write 118 = .ok (.iload_n 3, 1) := by decide +kernel
theorem d_Mo_write_119 : decode c_Mo_write 119 = .ok (.if_icmp .ge 33, 3) := by decide +kernel
theorem d_Mo_write_122 : decode c_Mo_write 122 = .ok (.aload_n 0, 1) := by decide +kernel
theorem d_Mo_write_123 : decode c_Mo_write 123 = .ok (.getfield 7, 3) := by decide +kernel
theorem d_Mo_write_126 : decode c_Mo_write 126 = .ok (.aload_n 0, 1) := by decide +kernel
theorem d_Mo_write_127 : decode c_Mo_write 127 = .ok (.getfield 84, 3) := by decide +kernel
theorem d_Mo_write_130 : decode c_Mo_write 130 = .ok (.iload 5, 2) := by decide +kernel
theorem d_Mo_write_132 : decode c_Mo_write 132 = .ok (.iadd, 1) := by decide +kernel
theorem d_Mo_write_133 : decode c_Mo_write 133 = .ok (.lload_n 1, 1) := by decide +kernel
theorem d_Mo_write_134 : decode c_Mo_write 134 = .ok (.bipush 8, 2) := by decide +kernel
theorem d_Mo_write_136 : decode c_Mo_write 136 = .ok (.iload 5, 2) := by decide +kernel
theorem d_Mo_write_138 : decode c_Mo_write 138 = .ok (.imul, 1) := by decide +kernel
theorem d_Mo_write_139 : decode c_Mo_write 139 = .ok (.lshr, 1) := by decide +kernel
theorem d_Mo_write_140 : decode c_Mo_write 140 = .ok (.ldc2_w 82, 3) := by decide +kernel
theorem d_Mo_write_143 : decode c_Mo_write 143 = .ok (.land, 1) := by decide +kernel
theorem d_Mo_write_144 : decode c_Mo_write 144 = .ok (.l2i, 1) := by decide +kernel
theorem d_Mo_write_145 : decode c_Mo_write 145 = .ok (.iastore, 1) := by decide +kernel
theorem d_Mo_write_146 : decode c_Mo_write 146 = .ok (.iinc 5 1, 3) := by decide +kernel
theorem d_Mo_write_149 : decode c_Mo_write 149 = .ok (.goto (-33), 3) := by decide +kernel
theorem d_Mo_write_152 : decode c_Mo_write 152 = .ok (.aload_n 0, 1) := by decide +kernel
theorem d_Mo_write_153 : decode c_Mo_write 153 = .ok (.dup, 1) := by decide +kernel
theorem d_Mo_write_154 : decode c_Mo_write 154 = .ok (.getfield 84, 3) := by decide +kernel
theorem d_Mo_write_157 : decode c_Mo_write 157 = .ok (.iload_n 3, 1) := by decide +kernel
theorem d_Mo_write_158 : decode c_Mo_write 158 = .ok (.iadd, 1) := by decide +kernel
theorem d_Mo_write_159 : decode c_Mo_write 159 = .ok (.putfield 84, 3) := by decide +kernel
theorem d_Mo_write_162 : decode c_Mo_write 162 = .ok (.aload_n 0, 1) := by decide +kernel
theorem d_Mo_write_163 : decode c_Mo_write 163 = .ok (.getfield 84, 3) := by decide +kernel
theorem d_Mo_write_166 : decode c_Mo_write 166 = .ok (.ireturn, 1) := by decide +kernel
/-- the reference's object: J says its numbers by the places of their fields -/
abbrev moC (ad : Nat → Nat) (J : Nat → Int32) : va_E := .inr (7, [.int (J 0), .int (J 1), .ref (ad 225), .int (J 3), .int (J 4), .ref (ad 226), .ref (ad 227), .int (J 7), .ref (ad 228), .ref (ad 229), .ref (ad 230), .ref (ad 231), .ref (ad 232), .ref (ad 233), .int (J 14), .ref (ad 234), .int (J 16), .int (J 17), .int (J 18), .ref (ad 235), .ref (ad 236), .ref (ad 237), .ref (ad 238), .ref (ad 239), .int (J 24), .ref (ad 240), .int (J 26), .ref (ad 241), .int (J 28)])
def J1 (J J' : Nat → Int32) (c : Int32) : Prop := J' 0 = c ∧ ∀ i, i ≠ 0 → J' i = J i
def bm8 (x : Int64) (k : Int32) : Int32 := ((x >>> ((8 * k).toInt64 &&& 63)) &&& 255).toInt32
def apM (f : Nat → Int32) (Z : Nat) (x : Int64) (k : Nat) : Nat → Int32 := fun i => if Z ≤ i ∧ i < Z + k then bm8 x (nI (i - Z)) else f i
theorem apM_0 (f : Nat → Int32) (Z : Nat) (x : Int64) : apM f Z x 0 = f := by
  funext i
  unfold apM
  rw [if_neg (by omega)]
theorem apM_s (f : Nat → Int32) (Z : Nat) (x : Int64) (k : Nat) : upd (apM f Z x k) (Z + k) (bm8 x (nI k)) = apM f Z x (k + 1) := by
  funext i
  unfold upd apM
  by_cases h : i = Z + k
  · subst h
    rw [if_pos rfl, if_pos (by omega)]
    congr 2
    omega
  · rw [if_neg h]
    by_cases h2 : Z ≤ i ∧ i < Z + k
    · rw [if_pos h2, if_pos (by omega)]
    · rw [if_neg h2, if_neg (by omega)]
theorem if01n {c : Bool} (h : ¬ (if c then (1 : Int32) else 0) = 0) : c = true := by cases c <;> simp_all
theorem if01z {c : Bool} (h : (if c then (1 : Int32) else 0) = 0) : c = false := by cases c <;> simp_all
set_option maxHeartbeats 4000000 in
set_option maxRecDepth 100000 in
theorem m_Mo_within (l : Launch) (x a b : Int32) : MS l y_Mo_within c_Mo_within 3 (some .boolean) ({ frames := 0, cells := 0, slots := 0, locals := 0 } : Room) [.int (x), .int (a), .int (b)] (fun r => r = if x < a ∨ b < x then 0 else 1) := by
  refine Met.ofW (cc := c_Mo_within) (maxL := 3) (ret := (some .boolean)) (by decide) rfl ?_
  intro p e s m args below meth c s₁ B hml hv
  obtain ⟨rfl, hN⟩ := hv
  have hx := B.exec
  have hb := B.bytes
  have hr := B.returns
  have hlocks := B.notSynchronized
  have Bx : p.tables.exec = Jvm.exec ∧ c.code = c_Mo_within ∧ (∀ w ∈ TB, w.before [.int (x), .int (a), .int (b)].toArray s = true) ∧ s.vm.findClass "AbnfChartModel" = some m.cls ∧ True := ⟨hx, hb, tb_all (atoms_spec B.pre) hN, findClass_of_methodNamed B.named, trivial⟩
  have hl := lv_entry ([.int (x), .int (a), .int (b)]) (n := 3) (Nat.le_of_ble_eq_true rfl)
  rw [lg_entry_eq]
  generalize (lg_sl ([.int (x), .int (a), .int (b)]) ++ List.replicate (3 - (lg_sl ([.int (x), .int (a), .int (b)])).length) Slot.unset).toArray = ls at hl ⊢
  have hl : lv_has ls 3 [(0, .int (x)), (1, .int (a)), (2, .int (b))] := hl
  refine lv_iload_n Bx.1 Bx.2.1 d_Mo_within_0 rfl (lv_at hl 0 rfl) ?_
  refine lv_iload_n Bx.1 Bx.2.1 d_Mo_within_1 rfl (lv_at hl 1 rfl) ?_
  refine lv_icmp_lt Bx.1 Bx.2.1 d_Mo_within_2 rfl (fun h => ?_) (fun h => ?_)
  · refine lv_iconst (v := 0) Bx.1 Bx.2.1 d_Mo_within_14 (by decide) ?_
    exact W.zret (v := 0) hx hb hr rfl (fun t ht hW => ⟨0, rfl, (if_pos (Or.inl h)).symm, ht⟩) (fun _ h => by cases h) d_Mo_within_15
  · refine lv_iload_n Bx.1 Bx.2.1 d_Mo_within_5 rfl (lv_at hl 0 rfl) ?_
    refine lv_iload_n Bx.1 Bx.2.1 d_Mo_within_6 rfl (lv_at hl 2 rfl) ?_
    refine lv_icmp_gt Bx.1 Bx.2.1 d_Mo_within_7 rfl (fun h2 => ?_) (fun h2 => ?_)
    · refine lv_iconst (v := 0) Bx.1 Bx.2.1 d_Mo_within_14 (by decide) ?_
      exact W.zret (v := 0) hx hb hr rfl (fun t ht hW => ⟨0, rfl, (if_pos (Or.inr h2)).symm, ht⟩) (fun _ h => by cases h) d_Mo_within_15
    · refine lv_iconst (v := 1) Bx.1 Bx.2.1 d_Mo_within_10 (by decide) ?_
      refine lv_goto Bx.1 Bx.2.1 d_Mo_within_11 rfl ?_
      exact W.zret (v := 1) hx hb hr rfl (fun t ht hW => ⟨1, rfl, (if_neg (fun q => q.elim h h2)).symm, ht⟩) (fun _ h => by cases h) d_Mo_within_15
set_option maxHeartbeats 4000000 in
set_option maxRecDepth 100000 in
theorem m_Mo_fail (l : Launch) {D : va_G} {cy : Nat → ClassId} {sz n : Nat} {ad : Nat → Nat} {mem : Nat → va_E} {J : Nat → Int32} {k : Int32} (hn : 242 ≤ n) (h4 : mem 224 = moC ad J) : MI l D cy sz n ad y_Mo_fail c_Mo_fail 2 (some .int) ({ frames := 0, cells := 0, slots := 0, locals := 0 } : Room) mem [.ref (ad 224), .int (k)] (fun r mem' => r = 0 ∧ mem' = va_up mem 224 (moC ad (va_up J 0 k))) := by
  refine Met.ofW (cc := c_Mo_fail) (maxL := 2) (ret := (some .int)) (by decide) rfl ?_
  intro p e s m args below meth c s₁ B hml hv
  obtain ⟨rfl, E, hP, hD⟩ := hv
  have hx := B.exec
  have hb := B.bytes
  have hr := B.returns
  have hlocks := B.notSynchronized
  have Bx : MB p s m [.ref (ad 224), .int (k)].toArray c c_Mo_fail "AbnfChartModel" D cy := ⟨hx, hb, tb_all (atoms_spec B.pre) E.2.1, findClass_of_methodNamed B.named, E.1⟩
  have hS : va_S (Az sz) s.heap s.heap [] := va_S.rf
  have hl := lv_entry ([.ref (ad 224), .int (k)]) (n := 2) (Nat.le_of_ble_eq_true rfl)
  rw [lg_entry_eq]
  generalize (lg_sl ([.ref (ad 224), .int (k)]) ++ List.replicate (2 - (lg_sl ([.ref (ad 224), .int (k)])).length) Slot.unset).toArray = ls at hl ⊢
  have hl : lv_has ls 2 [(0, .ref (ad 224)), (1, .int (k))] := hl
  refine lv_aload_n Bx.1 Bx.2.1 d_Mo_fail_0 rfl (lv_at hl 0 rfl) ?_
  refine lv_iload_n Bx.1 Bx.2.1 d_Mo_fail_1 rfl (lv_at hl 1 rfl) ?_
  refine f_put Bx hP hD hS (by omega) h4 rfl inMo tyMo okMo nmMo 0 (by decide) kw_656 rfl rfl rfl rfl (Nat.le_of_ble_eq_true rfl) d_Mo_fail_2 (fun H locs hP hS => ?_)
  obtain ⟨mem1, e_mem1⟩ : ∃ z, z = va_up mem (224) (.inr (7, [.int (k), .int (J 1), .ref (ad 225), .int (J 3), .int (J 4), .ref (ad 226), .ref (ad 227), .int (J 7), .ref (ad 228), .ref (ad 229), .ref (ad 230), .ref (ad 231), .ref (ad 232), .ref (ad 233), .int (J 14), .ref (ad 234), .int (J 16), .int (J 17), .int (J 18), .ref (ad 235), .ref (ad 236), .ref (ad 237), .ref (ad 238), .ref (ad 239), .int (J 24), .ref (ad 240), .int (J 26), .ref (ad 241), .int (J 28)])) := ⟨_, rfl⟩
  have hP : va_P D vcl (fw n ad mem1) H := by rw [e_mem1]; exact hP
  have hD : va_D (Az sz) (fw n ad mem1) := fw_D hD
  have h_mem1 : mem1 (224) = .inr (7, [.int (k), .int (J 1), .ref (ad 225), .int (J 3), .int (J 4), .ref (ad 226), .ref (ad 227), .int (J 7), .ref (ad 228), .ref (ad 229), .ref (ad 230), .ref (ad 231), .ref (ad 232), .ref (ad 233), .int (J 14), .ref (ad 234), .int (J 16), .int (J 17), .int (J 18), .ref (ad 235), .ref (ad 236), .ref (ad 237), .ref (ad 238), .ref (ad 239), .int (J 24), .ref (ad 240), .int (J 26), .ref (ad 241), .int (J 28)]) := by rw [e_mem1, va_up_self]
  refine lv_iconst (v := 0) Bx.1 Bx.2.1 d_Mo_fail_5 (by decide) ?_
  exact W.iret (v := 0) hx hb hr (fun t ht hW => ⟨⟨0, mem1, rfl, ⟨rfl, by rw [e_mem1]; rfl⟩, by show va_P _ _ _ t.heap; rw [ht]; exact hP⟩, hS.F ht⟩) hS.2.2 d_Mo_fail_6
set_option maxHeartbeats 4000000 in
set_option maxRecDepth 100000 in
theorem m_Mo_place (l : Launch) {D : va_G} {cy : Nat → ClassId} {sz n : Nat} {ad : Nat → Nat} {mem : Nat → va_E} {J : Nat → Int32} (hn : 242 ≤ n) (h4 : mem 224 = moC ad J) : MI l D cy sz n ad y_Mo_place c_Mo_place 1 (some .int) ({ frames := 0, cells := 0, slots := 0, locals := 0 } : Room) mem [.ref (ad 224)] (fun r mem' => r = J 3 ∧ mem' = va_up mem 224 (moC ad (va_up J 0 0))) := by
  refine Met.ofW (cc := c_Mo_place) (maxL := 1) (ret := (some .int)) (by decide) rfl ?_
  intro p e s m args below meth c s₁ B hml hv
  obtain ⟨rfl, E, hP, hD⟩ := hv
  have hx := B.exec
  have hb := B.bytes
  have hr := B.returns
  have hlocks := B.notSynchronized
  have Bx : MB p s m [.ref (ad 224)].toArray c c_Mo_place "AbnfChartModel" D cy := ⟨hx, hb, tb_all (atoms_spec B.pre) E.2.1, findClass_of_methodNamed B.named, E.1⟩
  have hS : va_S (Az sz) s.heap s.heap [] := va_S.rf
  have hl := lv_entry ([.ref (ad 224)]) (n := 1) (Nat.le_of_ble_eq_true rfl)
  rw [lg_entry_eq]
  generalize (lg_sl ([.ref (ad 224)]) ++ List.replicate (1 - (lg_sl ([.ref (ad 224)])).length) Slot.unset).toArray = ls at hl ⊢
  have hl : lv_has ls 1 [(0, .ref (ad 224))] := hl
  refine lv_aload_n Bx.1 Bx.2.1 d_Mo_place_0 rfl (lv_at hl 0 rfl) ?_
  refine lv_iconst (v := 0) Bx.1 Bx.2.1 d_Mo_place_1 (by decide) ?_
  refine f_put Bx hP hD hS (by omega) h4 rfl inMo tyMo okMo nmMo 0 (by decide) kw_656 rfl rfl rfl rfl (Nat.le_of_ble_eq_true rfl) d_Mo_place_2 (fun H locs hP hS => ?_)
  obtain ⟨mem1, e_mem1⟩ : ∃ z, z = va_up mem (224) (.inr (7, [.int (0), .int (J 1), .ref (ad 225), .int (J 3), .int (J 4), .ref (ad 226), .ref (ad 227), .int (J 7), .ref (ad 228), .ref (ad 229), .ref (ad 230), .ref (ad 231), .ref (ad 232), .ref (ad 233), .int (J 14), .ref (ad 234), .int (J 16), .int (J 17), .int (J 18), .ref (ad 235), .ref (ad 236), .ref (ad 237), .ref (ad 238), .ref (ad 239), .int (J 24), .ref (ad 240), .int (J 26), .ref (ad 241), .int (J 28)])) := ⟨_, rfl⟩
  have hP : va_P D vcl (fw n ad mem1) H := by rw [e_mem1]; exact hP
  have hD : va_D (Az sz) (fw n ad mem1) := fw_D hD
  have h_mem1 : mem1 (224) = .inr (7, [.int (0), .int (J 1), .ref (ad 225), .int (J 3), .int (J 4), .ref (ad 226), .ref (ad 227), .int (J 7), .ref (ad 228), .ref (ad 229), .ref (ad 230), .ref (ad 231), .ref (ad 232), .ref (ad 233), .int (J 14), .ref (ad 234), .int (J 16), .int (J 17), .int (J 18), .ref (ad 235), .ref (ad 236), .ref (ad 237), .ref (ad 238), .ref (ad 239), .int (J 24), .ref (ad 240), .int (J 26), .ref (ad 241), .int (J 28)]) := by rw [e_mem1, va_up_self]
  refine lv_aload_n Bx.1 Bx.2.1 d_Mo_place_5 rfl (lv_at hl 0 rfl) ?_
  refine f_get Bx hP (by omega) h_mem1 rfl inMo 3 (by decide) kw_659 rfl rfl d_Mo_place_6 ?_
  exact W.iret (v := J 3) hx hb hr (fun t ht hW => ⟨⟨J 3, mem1, rfl, ⟨rfl, by rw [e_mem1]; rfl⟩, by show va_P _ _ _ t.heap; rw [ht]; exact hP⟩, hS.F ht⟩) hS.2.2 d_Mo_place_9
set_option maxHeartbeats 4000000 in
set_option maxRecDepth 100000 in
theorem m_Mo_erase (l : Launch) {D : va_G} {cy : Nat → ClassId} {sz n : Nat} {ad : Nat → Nat} {mem : Nat → va_E} {J : Nat → Int32} (hn : 242 ≤ n) (h4 : mem 224 = moC ad J) : MI l D cy sz n ad y_Mo_erase c_Mo_erase 2 (some .int) ({ frames := 0, cells := 0, slots := 0, locals := 0 } : Room) mem [.ref (ad 224)] (fun r mem' => r = J 1 ∧ mem' = va_up mem 224 (moC ad (va_up (va_up J 0 0) 1 0))) := by
  refine Met.ofW (cc := c_Mo_erase) (maxL := 2) (ret := (some .int)) (by decide) rfl ?_
  intro p e s m args below meth c s₁ B hml hv
  obtain ⟨rfl, E, hP, hD⟩ := hv
  have hx := B.exec
  have hb := B.bytes
  have hr := B.returns
  have hlocks := B.notSynchronized
  have Bx : MB p s m [.ref (ad 224)].toArray c c_Mo_erase "AbnfChartModel" D cy := ⟨hx, hb, tb_all (atoms_spec B.pre) E.2.1, findClass_of_methodNamed B.named, E.1⟩
  have hS : va_S (Az sz) s.heap s.heap [] := va_S.rf
  have hl := lv_entry ([.ref (ad 224)]) (n := 2) (Nat.le_of_ble_eq_true rfl)
  rw [lg_entry_eq]
  generalize (lg_sl ([.ref (ad 224)]) ++ List.replicate (2 - (lg_sl ([.ref (ad 224)])).length) Slot.unset).toArray = ls at hl ⊢
  have hl : lv_has ls 2 [(0, .ref (ad 224))] := hl
  refine lv_aload_n Bx.1 Bx.2.1 d_Mo_erase_0 rfl (lv_at hl 0 rfl) ?_
  refine lv_iconst (v := 0) Bx.1 Bx.2.1 d_Mo_erase_1 (by decide) ?_
  refine f_put Bx hP hD hS (by omega) h4 rfl inMo tyMo okMo nmMo 0 (by decide) kw_656 rfl rfl rfl rfl (Nat.le_of_ble_eq_true rfl) d_Mo_erase_2 (fun H locs hP hS => ?_)
  obtain ⟨mem1, e_mem1⟩ : ∃ z, z = va_up mem (224) (.inr (7, [.int (0), .int (J 1), .ref (ad 225), .int (J 3), .int (J 4), .ref (ad 226), .ref (ad 227), .int (J 7), .ref (ad 228), .ref (ad 229), .ref (ad 230), .ref (ad 231), .ref (ad 232), .ref (ad 233), .int (J 14), .ref (ad 234), .int (J 16), .int (J 17), .int (J 18), .ref (ad 235), .ref (ad 236), .ref (ad 237), .ref (ad 238), .ref (ad 239), .int (J 24), .ref (ad 240), .int (J 26), .ref (ad 241), .int (J 28)])) := ⟨_, rfl⟩
  have hP : va_P D vcl (fw n ad mem1) H := by rw [e_mem1]; exact hP
  have hD : va_D (Az sz) (fw n ad mem1) := fw_D hD
  have h_mem1 : mem1 (224) = .inr (7, [.int (0), .int (J 1), .ref (ad 225), .int (J 3), .int (J 4), .ref (ad 226), .ref (ad 227), .int (J 7), .ref (ad 228), .ref (ad 229), .ref (ad 230), .ref (ad 231), .ref (ad 232), .ref (ad 233), .int (J 14), .ref (ad 234), .int (J 16), .int (J 17), .int (J 18), .ref (ad 235), .ref (ad 236), .ref (ad 237), .ref (ad 238), .ref (ad 239), .int (J 24), .ref (ad 240), .int (J 26), .ref (ad 241), .int (J 28)]) := by rw [e_mem1, va_up_self]
  refine lv_aload_n Bx.1 Bx.2.1 d_Mo_erase_5 rfl (lv_at hl 0 rfl) ?_
  refine f_get Bx hP (by omega) h_mem1 rfl inMo 1 (by decide) kw_657 rfl rfl d_Mo_erase_6 ?_
  refine lv_istore_n (lv' := [(1, .int (J 1)), (0, .ref (ad 224))]) Bx.1 Bx.2.1 d_Mo_erase_9 rfl hl (by decide) rfl (fun ls hl => ?_)
  refine lv_aload_n Bx.1 Bx.2.1 d_Mo_erase_10 rfl (lv_at hl 1 rfl) ?_
  refine lv_iconst (v := 0) Bx.1 Bx.2.1 d_Mo_erase_11 (by decide) ?_
  refine f_put Bx hP hD hS (by omega) h_mem1 rfl inMo tyMo okMo nmMo 1 (by decide) kw_657 rfl rfl rfl rfl (Nat.le_of_ble_eq_true rfl) d_Mo_erase_12 (fun H locs hP hS => ?_)
  obtain ⟨mem2, e_mem2⟩ : ∃ z, z = va_up mem1 (224) (.inr (7, [.int (0), .int (0), .ref (ad 225), .int (J 3), .int (J 4), .ref (ad 226), .ref (ad 227), .int (J 7), .ref (ad 228), .ref (ad 229), .ref (ad 230), .ref (ad 231), .ref (ad 232), .ref (ad 233), .int (J 14), .ref (ad 234), .int (J 16), .int (J 17), .int (J 18), .ref (ad 235), .ref (ad 236), .ref (ad 237), .ref (ad 238), .ref (ad 239), .int (J 24), .ref (ad 240), .int (J 26), .ref (ad 241), .int (J 28)])) := ⟨_, rfl⟩
  have hP : va_P D vcl (fw n ad mem2) H := by rw [e_mem2]; exact hP
  have hD : va_D (Az sz) (fw n ad mem2) := fw_D hD
  have h_mem2 : mem2 (224) = .inr (7, [.int (0), .int (0), .ref (ad 225), .int (J 3), .int (J 4), .ref (ad 226), .ref (ad 227), .int (J 7), .ref (ad 228), .ref (ad 229), .ref (ad 230), .ref (ad 231), .ref (ad 232), .ref (ad 233), .int (J 14), .ref (ad 234), .int (J 16), .int (J 17), .int (J 18), .ref (ad 235), .ref (ad 236), .ref (ad 237), .ref (ad 238), .ref (ad 239), .int (J 24), .ref (ad 240), .int (J 26), .ref (ad 241), .int (J 28)]) := by rw [e_mem2, va_up_self]
  refine lv_iload_n Bx.1 Bx.2.1 d_Mo_erase_15 rfl (lv_at hl 0 rfl) ?_
  exact W.iret (v := J 1) hx hb hr (fun t ht hW => ⟨⟨J 1, mem2, rfl, ⟨rfl, by rw [e_mem2, e_mem1, up_up]; rfl⟩, by show va_P _ _ _ t.heap; rw [ht]; exact hP⟩, hS.F ht⟩) hS.2.2 d_Mo_erase_16
set_option maxHeartbeats 4000000 in
set_option maxRecDepth 100000 in
theorem m_Mo_drop (l : Launch) {D : va_G} {cy : Nat → ClassId} {sz n : Nat} {ad : Nat → Nat} {mem : Nat → va_E} {J : Nat → Int32} (hn : 242 ≤ n) (h4 : mem 224 = moC ad J) : MI l D cy sz n ad y_Mo_drop c_Mo_drop 2 (some .int) ({ frames := 0, cells := 0, slots := 0, locals := 0 } : Room) mem [.ref (ad 224)] (fun r mem' => r = J 24 ∧ mem' = va_up mem 224 (moC ad (va_up (va_up (va_up J 0 0) 24 0) 26 1))) := by
  refine Met.ofW (cc := c_Mo_drop) (maxL := 2) (ret := (some .int)) (by decide) rfl ?_
  intro p e s m args below meth c s₁ B hml hv
  obtain ⟨rfl, E, hP, hD⟩ := hv
  have hx := B.exec
  have hb := B.bytes
  have hr := B.returns
  have hlocks := B.notSynchronized
  have Bx : MB p s m [.ref (ad 224)].toArray c c_Mo_drop "AbnfChartModel" D cy := ⟨hx, hb, tb_all (atoms_spec B.pre) E.2.1, findClass_of_methodNamed B.named, E.1⟩
  have hS : va_S (Az sz) s.heap s.heap [] := va_S.rf
  have hl := lv_entry ([.ref (ad 224)]) (n := 2) (Nat.le_of_ble_eq_true rfl)
  rw [lg_entry_eq]
  generalize (lg_sl ([.ref (ad 224)]) ++ List.replicate (2 - (lg_sl ([.ref (ad 224)])).length) Slot.unset).toArray = ls at hl ⊢
  have hl : lv_has ls 2 [(0, .ref (ad 224))] := hl
  refine lv_aload_n Bx.1 Bx.2.1 d_Mo_drop_0 rfl (lv_at hl 0 rfl) ?_
  refine lv_iconst (v := 0) Bx.1 Bx.2.1 d_Mo_drop_1 (by decide) ?_
  refine f_put Bx hP hD hS (by omega) h4 rfl inMo tyMo okMo nmMo 0 (by decide) kw_656 rfl rfl rfl rfl (Nat.le_of_ble_eq_true rfl) d_Mo_drop_2 (fun H locs hP hS => ?_)
  obtain ⟨mem1, e_mem1⟩ : ∃ z, z = va_up mem (224) (.inr (7, [.int (0), .int (J 1), .ref (ad 225), .int (J 3), .int (J 4), .ref (ad 226), .ref (ad 227), .int (J 7), .ref (ad 228), .ref (ad 229), .ref (ad 230), .ref (ad 231), .ref (ad 232), .ref (ad 233), .int (J 14), .ref (ad 234), .int (J 16), .int (J 17), .int (J 18), .ref (ad 235), .ref (ad 236), .ref (ad 237), .ref (ad 238), .ref (ad 239), .int (J 24), .ref (ad 240), .int (J 26), .ref (ad 241), .int (J 28)])) := ⟨_, rfl⟩
  have hP : va_P D vcl (fw n ad mem1) H := by rw [e_mem1]; exact hP
  have hD : va_D (Az sz) (fw n ad mem1) := fw_D hD
  have h_mem1 : mem1 (224) = .inr (7, [.int (0), .int (J 1), .ref (ad 225), .int (J 3), .int (J 4), .ref (ad 226), .ref (ad 227), .int (J 7), .ref (ad 228), .ref (ad 229), .ref (ad 230), .ref (ad 231), .ref (ad 232), .ref (ad 233), .int (J 14), .ref (ad 234), .int (J 16), .int (J 17), .int (J 18), .ref (ad 235), .ref (ad 236), .ref (ad 237), .ref (ad 238), .ref (ad 239), .int (J 24), .ref (ad 240), .int (J 26), .ref (ad 241), .int (J 28)]) := by rw [e_mem1, va_up_self]
  refine lv_aload_n Bx.1 Bx.2.1 d_Mo_drop_5 rfl (lv_at hl 0 rfl) ?_
  refine f_get Bx hP (by omega) h_mem1 rfl inMo 24 (by decide) kw_680 rfl rfl d_Mo_drop_6 ?_
  refine lv_istore_n (lv' := [(1, .int (J 24)), (0, .ref (ad 224))]) Bx.1 Bx.2.1 d_Mo_drop_9 rfl hl (by decide) rfl (fun ls hl => ?_)
  refine lv_aload_n Bx.1 Bx.2.1 d_Mo_drop_10 rfl (lv_at hl 1 rfl) ?_
  refine lv_iconst (v := 0) Bx.1 Bx.2.1 d_Mo_drop_11 (by decide) ?_
  refine f_put Bx hP hD hS (by omega) h_mem1 rfl inMo tyMo okMo nmMo 24 (by decide) kw_680 rfl rfl rfl rfl (Nat.le_of_ble_eq_true rfl) d_Mo_drop_12 (fun H locs hP hS => ?_)
  obtain ⟨mem2, e_mem2⟩ : ∃ z, z = va_up mem1 (224) (.inr (7, [.int (0), .int (J 1), .ref (ad 225), .int (J 3), .int (J 4), .ref (ad 226), .ref (ad 227), .int (J 7), .ref (ad 228), .ref (ad 229), .ref (ad 230), .ref (ad 231), .ref (ad 232), .ref (ad 233), .int (J 14), .ref (ad 234), .int (J 16), .int (J 17), .int (J 18), .ref (ad 235), .ref (ad 236), .ref (ad 237), .ref (ad 238), .ref (ad 239), .int (0), .ref (ad 240), .int (J 26), .ref (ad 241), .int (J 28)])) := ⟨_, rfl⟩
  have hP : va_P D vcl (fw n ad mem2) H := by rw [e_mem2]; exact hP
  have hD : va_D (Az sz) (fw n ad mem2) := fw_D hD
  have h_mem2 : mem2 (224) = .inr (7, [.int (0), .int (J 1), .ref (ad 225), .int (J 3), .int (J 4), .ref (ad 226), .ref (ad 227), .int (J 7), .ref (ad 228), .ref (ad 229), .ref (ad 230), .ref (ad 231), .ref (ad 232), .ref (ad 233), .int (J 14), .ref (ad 234), .int (J 16), .int (J 17), .int (J 18), .ref (ad 235), .ref (ad 236), .ref (ad 237), .ref (ad 238), .ref (ad 239), .int (0), .ref (ad 240), .int (J 26), .ref (ad 241), .int (J 28)]) := by rw [e_mem2, va_up_self]
  refine lv_aload_n Bx.1 Bx.2.1 d_Mo_drop_15 rfl (lv_at hl 1 rfl) ?_
  refine lv_iconst (v := 1) Bx.1 Bx.2.1 d_Mo_drop_16 (by decide) ?_
  refine f_put Bx hP hD hS (by omega) h_mem2 rfl inMo tyMo okMo nmMo 26 (by decide) kw_682 rfl rfl rfl rfl (Nat.le_of_ble_eq_true rfl) d_Mo_drop_17 (fun H locs hP hS => ?_)
  obtain ⟨mem3, e_mem3⟩ : ∃ z, z = va_up mem2 (224) (.inr (7, [.int (0), .int (J 1), .ref (ad 225), .int (J 3), .int (J 4), .ref (ad 226), .ref (ad 227), .int (J 7), .ref (ad 228), .ref (ad 229), .ref (ad 230), .ref (ad 231), .ref (ad 232), .ref (ad 233), .int (J 14), .ref (ad 234), .int (J 16), .int (J 17), .int (J 18), .ref (ad 235), .ref (ad 236), .ref (ad 237), .ref (ad 238), .ref (ad 239), .int (0), .ref (ad 240), .int (1), .ref (ad 241), .int (J 28)])) := ⟨_, rfl⟩
  have hP : va_P D vcl (fw n ad mem3) H := by rw [e_mem3]; exact hP
  have hD : va_D (Az sz) (fw n ad mem3) := fw_D hD
  have h_mem3 : mem3 (224) = .inr (7, [.int (0), .int (J 1), .ref (ad 225), .int (J 3), .int (J 4), .ref (ad 226), .ref (ad 227), .int (J 7), .ref (ad 228), .ref (ad 229), .ref (ad 230), .ref (ad 231), .ref (ad 232), .ref (ad 233), .int (J 14), .ref (ad 234), .int (J 16), .int (J 17), .int (J 18), .ref (ad 235), .ref (ad 236), .ref (ad 237), .ref (ad 238), .ref (ad 239), .int (0), .ref (ad 240), .int (1), .ref (ad 241), .int (J 28)]) := by rw [e_mem3, va_up_self]
  refine lv_iload_n Bx.1 Bx.2.1 d_Mo_drop_20 rfl (lv_at hl 0 rfl) ?_
  exact W.iret (v := J 24) hx hb hr (fun t ht hW => ⟨⟨J 24, mem3, rfl, ⟨rfl, by rw [e_mem3, e_mem2, e_mem1, up_up, up_up]; rfl⟩, by show va_P _ _ _ t.heap; rw [ht]; exact hP⟩, hS.F ht⟩) hS.2.2 d_Mo_drop_21
set_option maxHeartbeats 4000000 in
set_option maxRecDepth 100000 in
theorem m_Mo_write (l : Launch) {D : va_G} {cy : Nat → ClassId} {sz n : Nat} {ad : Nat → Nat} {mem : Nat → va_E} {J : Nat → Int32} {Z : Nat} {f : Nat → Int32} {x : Int64} {k : Int32} (hn : 242 ≤ n) (h4 : mem 224 = moC ad J) (hJ : J 1 = nI Z) (hZ : Z ≤ 240) (h5 : mem 225 = .inl (cy 1, 240, .inl f)) : MI l D cy sz n ad y_Mo_write c_Mo_write 7 (some .int) ({ frames := 1, cells := 0, slots := 0, locals := 30 } : Room) mem [.ref (ad 224), .long (x), .int (k)] (fun r mem' => ((k < 1 ∨ 8 < k) ∧ r = 0 ∧ ∃ J' : Nat → Int32, mem' = va_up mem 224 (moC ad J') ∧ J1 J J' 1) ∨ ∃ M : Nat, k = nI M ∧ 1 ≤ M ∧ M ≤ 8 ∧ ((allB (fun i => okT (bm8 x (nI i))) M = false ∧ r = 0 ∧ ∃ J' : Nat → Int32, mem' = va_up mem 224 (moC ad J') ∧ J1 J J' 1) ∨ (allB (fun i => okT (bm8 x (nI i))) M = true ∧ 240 < Z + M ∧ r = 0 ∧ ∃ J' : Nat → Int32, mem' = va_up mem 224 (moC ad J') ∧ J1 J J' 2) ∨ (allB (fun i => okT (bm8 x (nI i))) M = true ∧ Z + M ≤ 240 ∧ r = nI (Z + M) ∧ ∃ J' : Nat → Int32, mem' = va_up (va_up mem 225 (.inl (cy 1, 240, .inl (apM f Z x M)))) 224 (moC ad J') ∧ J' 0 = 0 ∧ J' 1 = nI (Z + M) ∧ ∀ i, i ≠ 0 → i ≠ 1 → J' i = J i))) := by
  refine Met.ofW (cc := c_Mo_write) (maxL := 7) (ret := (some .int)) (by decide) rfl ?_
  intro p e s m args below meth c s₁ B hml hv
  obtain ⟨rfl, E, hP, hD⟩ := hv
  have hx := B.exec
  have hb := B.bytes
  have hr := B.returns
  have hlocks := B.notSynchronized
  have Bx : MB p s m [.ref (ad 224), .long (x), .int (k)].toArray c c_Mo_write "AbnfChartModel" D cy := ⟨hx, hb, tb_all (atoms_spec B.pre) E.2.1, findClass_of_methodNamed B.named, E.1⟩
  have hS : va_S (Az sz) s.heap s.heap [] := va_S.rf
  have hl := lv_entry ([.ref (ad 224), .long (x), .int (k)]) (n := 7) (Nat.le_of_ble_eq_true rfl)
  rw [lg_entry_eq]
  generalize (lg_sl ([.ref (ad 224), .long (x), .int (k)]) ++ List.replicate (7 - (lg_sl ([.ref (ad 224), .long (x), .int (k)])).length) Slot.unset).toArray = ls at hl ⊢
  have hl : lv_has ls 7 [(0, .ref (ad 224)), (1, .long (x)), (3, .int (k))] := hl
  refine lv_aload_n Bx.1 Bx.2.1 d_Mo_write_0 rfl (lv_at hl 0 rfl) ?_
  refine lv_iconst (v := 0) Bx.1 Bx.2.1 d_Mo_write_1 (by decide) ?_
  refine f_put Bx hP hD hS (by omega) h4 rfl inMo tyMo okMo nmMo 0 (by decide) kw_656 rfl rfl rfl rfl (Nat.le_of_ble_eq_true rfl) d_Mo_write_2 (fun H locs hP hS => ?_)
  obtain ⟨mem1, e_mem1⟩ : ∃ z, z = va_up mem (224) (.inr (7, [.int (0), .int (J 1), .ref (ad 225), .int (J 3), .int (J 4), .ref (ad 226), .ref (ad 227), .int (J 7), .ref (ad 228), .ref (ad 229), .ref (ad 230), .ref (ad 231), .ref (ad 232), .ref (ad 233), .int (J 14), .ref (ad 234), .int (J 16), .int (J 17), .int (J 18), .ref (ad 235), .ref (ad 236), .ref (ad 237), .ref (ad 238), .ref (ad 239), .int (J 24), .ref (ad 240), .int (J 26), .ref (ad 241), .int (J 28)])) := ⟨_, rfl⟩
  have hP : va_P D vcl (fw n ad mem1) H := by rw [e_mem1]; exact hP
  have hD : va_D (Az sz) (fw n ad mem1) := fw_D hD
  have h_mem1 : mem1 (224) = .inr (7, [.int (0), .int (J 1), .ref (ad 225), .int (J 3), .int (J 4), .ref (ad 226), .ref (ad 227), .int (J 7), .ref (ad 228), .ref (ad 229), .ref (ad 230), .ref (ad 231), .ref (ad 232), .ref (ad 233), .int (J 14), .ref (ad 234), .int (J 16), .int (J 17), .int (J 18), .ref (ad 235), .ref (ad 236), .ref (ad 237), .ref (ad 238), .ref (ad 239), .int (J 24), .ref (ad 240), .int (J 26), .ref (ad 241), .int (J 28)]) := by rw [e_mem1, va_up_self]
  have hJ0 : mem1 224 = moC ad (va_up J 0 0) := h_mem1
  have h51 : mem1 225 = .inl (cy 1, 240, .inl f) := by rw [e_mem1, va_up_ne _ _ (by decide)]; exact h5
  refine lv_iload_n Bx.1 Bx.2.1 d_Mo_write_5 rfl (lv_at hl 2 rfl) ?_
  refine lv_iconst (v := 1) Bx.1 Bx.2.1 d_Mo_write_6 (by decide) ?_
  refine lv_bipush (v := 8) Bx.1 Bx.2.1 d_Mo_write_7 (by decide) ?_
  refine f_callSi (na := 3) (As := [.int (k), .int (1), .int (8)]) (rest := []) Bx hml E.2.1 (m_Mo_within l k 1 8) kw_750 kw_751 kw_8 kw_752 (by decide +kernel) ⟨rfl, rfl⟩ ⟨Nat.le_of_ble_eq_true rfl, Nat.le_of_ble_eq_true rfl⟩ rfl hl.1 (Nat.le_of_ble_eq_true rfl) d_Mo_write_9 ⟨Nat.le_of_ble_eq_true rfl, Nat.le_of_ble_eq_true rfl⟩ (fun r2 hr1 => ?_)
  subst hr1
  refine lv_if_ne Bx.1 Bx.2.1 d_Mo_write_12 rfl (fun h => ?_) (fun h => ?_)
  · obtain ⟨N, hN1, hN8, rfl⟩ := bc_ok h
    refine lv_iconst (v := 1) Bx.1 Bx.2.1 d_Mo_write_21 (by decide) ?_
    refine lv_istore (lv' := [(4, .int (1)), (0, .ref (ad 224)), (1, .long (x)), (3, .int (nI N))]) Bx.1 Bx.2.1 d_Mo_write_22 hl (by decide) rfl (fun ls hl => ?_)
    refine lv_iconst (v := 0) Bx.1 Bx.2.1 d_Mo_write_24 (by decide) ?_
    refine lv_istore (lv' := [(5, .int (0)), (4, .int (1)), (0, .ref (ad 224)), (1, .long (x)), (3, .int (nI N))]) Bx.1 Bx.2.1 d_Mo_write_25 hl (by decide) rfl (fun ls hl => ?_)
    have loop2 : ∀ (d k : Nat) (ls : Array Slot) (H : Heap) (locs : List Loc), k + d = N → allB (fun i => okT (bm8 x (nI i))) N = true → Z + N ≤ 240 → lv_has ls 7 [(5, .int (nI k)), (0, .ref (ad 224)), (1, .long (x)), (3, .int (nI N))] → va_P D vcl (fw n ad (va_up mem1 225 (.inl (cy 1, 240, .inl (apM f Z x k))))) H → va_S (Az sz) s.heap H locs → W p l e (headSpec (Cond.code y_Mo_write c_Mo_write 7 (some .int) :: tg) ({ frames := 1, cells := 0, slots := 0, locals := 30 } : Room)).room s m [.ref (ad 224), .long (x), .int (nI N)].toArray below meth c H locs 0 0 (MQ below (va_Qi (fun r mem' => (((nI N) < 1 ∨ 8 < (nI N)) ∧ r = 0 ∧ ∃ J' : Nat → Int32, mem' = va_up mem 224 (moC ad J') ∧ J1 J J' 1) ∨ ∃ M : Nat, (nI N) = nI M ∧ 1 ≤ M ∧ M ≤ 8 ∧ ((allB (fun i => okT (bm8 x (nI i))) M = false ∧ r = 0 ∧ ∃ J' : Nat → Int32, mem' = va_up mem 224 (moC ad J') ∧ J1 J J' 1) ∨ (allB (fun i => okT (bm8 x (nI i))) M = true ∧ 240 < Z + M ∧ r = 0 ∧ ∃ J' : Nat → Int32, mem' = va_up mem 224 (moC ad J') ∧ J1 J J' 2) ∨ (allB (fun i => okT (bm8 x (nI i))) M = true ∧ Z + M ≤ 240 ∧ r = nI (Z + M) ∧ ∃ J' : Nat → Int32, mem' = va_up (va_up mem 225 (.inl (cy 1, 240, .inl (apM f Z x M)))) 224 (moC ad J') ∧ J' 0 = 0 ∧ J' 1 = nI (Z + M) ∧ ∀ i, i ≠ 0 → i ≠ 1 → J' i = J i))) (PP D n ad) (Az sz)) [.ref (ad 224), .long (x), .int (nI N)].toArray s 0 0 (Az sz)) (F0 m 116 ls []) := by
      intro d
      induction d with
      | zero =>
        intro k ls H locs hk ha hroom hl hP hS
        obtain rfl : k = N := by omega
        have hD : va_D (Az sz) (fw n ad (va_up mem1 225 (.inl (cy 1, 240, .inl (apM f Z x k))))) := fw_D hD
        have h4k : (va_up mem1 225 (.inl (cy 1, 240, .inl (apM f Z x k)))) 224 = moC ad (va_up J 0 0) := by rw [va_up_ne _ _ (by decide)]; exact hJ0
        have h5k : (va_up mem1 225 (.inl (cy 1, 240, .inl (apM f Z x k)))) 225 = .inl (cy 1, 240, .inl (apM f Z x k)) := va_up_self _ _ _
        refine lv_iload Bx.1 Bx.2.1 d_Mo_write_116 (lv_at hl 0 rfl) ?_
        refine lv_iload_n Bx.1 Bx.2.1 d_Mo_write_118 rfl (lv_at hl 3 rfl) ?_
        refine lv_icmp_ge Bx.1 Bx.2.1 d_Mo_write_119 rfl (fun h => ?_) (fun h => ?_)
        · refine lv_aload_n Bx.1 Bx.2.1 d_Mo_write_152 rfl (lv_at hl 1 rfl) ?_
          refine lv_dup Bx.1 Bx.2.1 d_Mo_write_153 rfl ?_
          refine f_get Bx hP (by omega) h4k rfl inMo 1 (by decide) kw_657 rfl rfl d_Mo_write_154 ?_
          refine lv_iload_n Bx.1 Bx.2.1 d_Mo_write_157 rfl (lv_at hl 3 rfl) ?_
          refine lv_iadd Bx.1 Bx.2.1 d_Mo_write_158 ?_
          rw [show (va_up J 0 0) 1 = nI Z from hJ, nI_add]
          refine f_put Bx hP hD hS (by omega) h4k rfl inMo tyMo okMo nmMo 1 (by decide) kw_657 rfl rfl rfl rfl (Nat.le_of_ble_eq_true rfl) d_Mo_write_159 (fun H locs hP hS => ?_)
          obtain ⟨mem3, e_mem3⟩ : ∃ z, z = va_up (va_up mem1 225 (.inl (cy 1, 240, .inl (apM f Z x k)))) (224) (.inr (7, [.int (0), .int (nI (Z + k)), .ref (ad 225), .int (J 3), .int (J 4), .ref (ad 226), .ref (ad 227), .int (J 7), .ref (ad 228), .ref (ad 229), .ref (ad 230), .ref (ad 231), .ref (ad 232), .ref (ad 233), .int (J 14), .ref (ad 234), .int (J 16), .int (J 17), .int (J 18), .ref (ad 235), .ref (ad 236), .ref (ad 237), .ref (ad 238), .ref (ad 239), .int (J 24), .ref (ad 240), .int (J 26), .ref (ad 241), .int (J 28)])) := ⟨_, rfl⟩
          have hP : va_P D vcl (fw n ad mem3) H := by rw [e_mem3]; exact hP
          have hD : va_D (Az sz) (fw n ad mem3) := fw_D hD
          have h_mem3 : mem3 (224) = .inr (7, [.int (0), .int (nI (Z + k)), .ref (ad 225), .int (J 3), .int (J 4), .ref (ad 226), .ref (ad 227), .int (J 7), .ref (ad 228), .ref (ad 229), .ref (ad 230), .ref (ad 231), .ref (ad 232), .ref (ad 233), .int (J 14), .ref (ad 234), .int (J 16), .int (J 17), .int (J 18), .ref (ad 235), .ref (ad 236), .ref (ad 237), .ref (ad 238), .ref (ad 239), .int (J 24), .ref (ad 240), .int (J 26), .ref (ad 241), .int (J 28)]) := by rw [e_mem3, va_up_self]
          refine lv_aload_n Bx.1 Bx.2.1 d_Mo_write_162 rfl (lv_at hl 1 rfl) ?_
          refine f_get Bx hP (by omega) h_mem3 rfl inMo 1 (by decide) kw_657 rfl rfl d_Mo_write_163 ?_
          exact W.iret (v := nI (Z + k)) hx hb hr (fun t ht hW => ⟨⟨nI (Z + k), mem3, rfl, Or.inr ⟨k, rfl, hN1, hN8, Or.inr (Or.inr ⟨ha, hroom, rfl, ⟨(va_up (va_up J 0 0) 1 (nI (Z + k))), by rw [e_mem3, e_mem1, up_sw mem _ _ (show (224 : Nat) ≠ 225 by decide), up_up]; rfl, rfl, rfl, fun i a b => by rw [va_up_ne _ _ b, va_up_ne _ _ a]⟩⟩)⟩, by show va_P _ _ _ t.heap; rw [ht]; exact hP⟩, hS.F ht⟩) hS.2.2 d_Mo_write_166
        · exact absurd (nI_le (Nat.le_refl k) (by omega)) h
      | succ d ih =>
        intro k ls H locs hk ha hroom hl hP hS
        have hD : va_D (Az sz) (fw n ad (va_up mem1 225 (.inl (cy 1, 240, .inl (apM f Z x k))))) := fw_D hD
        have h4k : (va_up mem1 225 (.inl (cy 1, 240, .inl (apM f Z x k)))) 224 = moC ad (va_up J 0 0) := by rw [va_up_ne _ _ (by decide)]; exact hJ0
        have h5k : (va_up mem1 225 (.inl (cy 1, 240, .inl (apM f Z x k)))) 225 = .inl (cy 1, 240, .inl (apM f Z x k)) := va_up_self _ _ _
        refine lv_iload Bx.1 Bx.2.1 d_Mo_write_116 (lv_at hl 0 rfl) ?_
        refine lv_iload_n Bx.1 Bx.2.1 d_Mo_write_118 rfl (lv_at hl 3 rfl) ?_
        refine lv_icmp_ge Bx.1 Bx.2.1 d_Mo_write_119 rfl (fun h => ?_) (fun h => ?_)
        · exact absurd h (nI_ge (by omega) (by omega))
        · refine lv_aload_n Bx.1 Bx.2.1 d_Mo_write_122 rfl (lv_at hl 1 rfl) ?_
          refine f_get Bx hP (by omega) h4k rfl inMo 2 (by decide) kw_658 rfl rfl d_Mo_write_123 ?_
          refine lv_aload_n Bx.1 Bx.2.1 d_Mo_write_126 rfl (lv_at hl 1 rfl) ?_
          refine f_get Bx hP (by omega) h4k rfl inMo 1 (by decide) kw_657 rfl rfl d_Mo_write_127 ?_
          refine lv_iload Bx.1 Bx.2.1 d_Mo_write_130 (lv_at hl 0 rfl) ?_
          refine lv_iadd Bx.1 Bx.2.1 d_Mo_write_132 ?_
          rw [show (va_up J 0 0) 1 = nI Z from hJ, nI_add]
          refine lv_lload_n Bx.1 Bx.2.1 d_Mo_write_133 rfl (lv_at hl 2 rfl) ?_
          refine lv_bipush (v := 8) Bx.1 Bx.2.1 d_Mo_write_134 (by decide) ?_
          refine lv_iload Bx.1 Bx.2.1 d_Mo_write_136 (lv_at hl 0 rfl) ?_
          refine lv_imul Bx.1 Bx.2.1 d_Mo_write_138 ?_
          refine lv_lshr Bx.1 Bx.2.1 d_Mo_write_139 rfl ?_
          refine lv_ldc2 Bx.1 Bx.2.1 Bx.2.2.2.1 (Bx.2.2.1 _ (tb_g kw_757 rfl)) d_Mo_write_140 ?_
          refine lv_land Bx.1 Bx.2.1 d_Mo_write_143 ?_
          refine lv_l2i Bx.1 Bx.2.1 d_Mo_write_144 rfl ?_
          refine f_iast (x := bm8 x (nI k)) (i := nI (Z + k)) Bx hP hD hS (by omega) h5k (vp_in_nI (by omega) (by decide)) d_Mo_write_145 (fun H locs hP hS => ?_)
          rw [nI_clamp (by omega), apM_s, up_up] at hP
          refine lv_iinc (lv' := [(5, .int ((nI k + (1)))), (0, .ref (ad 224)), (1, .long (x)), (3, .int (nI N))]) Bx.1 Bx.2.1 d_Mo_write_146 hl (k := 0) rfl rfl (by decide) rfl (fun ls hl => ?_)
          refine lv_goto Bx.1 Bx.2.1 d_Mo_write_149 rfl ?_
          exact ih (k + 1) ls H locs (by omega) ha hroom (by rw [nI_succ]; exact (lv_sub hl [0, 1, 2, 3] rfl)) hP hS
    have tail : ∀ ls : Array Slot, lv_has ls 7 [(4, .int (if allB (fun i => okT (bm8 x (nI i))) N then 1 else 0)), (0, .ref (ad 224)), (1, .long (x)), (3, .int (nI N))] → W p l e (headSpec (Cond.code y_Mo_write c_Mo_write 7 (some .int) :: tg) ({ frames := 1, cells := 0, slots := 0, locals := 30 } : Room)).room s m [.ref (ad 224), .long (x), .int (nI N)].toArray below meth c H locs 0 0 (MQ below (va_Qi (fun r mem' => (((nI N) < 1 ∨ 8 < (nI N)) ∧ r = 0 ∧ ∃ J' : Nat → Int32, mem' = va_up mem 224 (moC ad J') ∧ J1 J J' 1) ∨ ∃ M : Nat, (nI N) = nI M ∧ 1 ≤ M ∧ M ≤ 8 ∧ ((allB (fun i => okT (bm8 x (nI i))) M = false ∧ r = 0 ∧ ∃ J' : Nat → Int32, mem' = va_up mem 224 (moC ad J') ∧ J1 J J' 1) ∨ (allB (fun i => okT (bm8 x (nI i))) M = true ∧ 240 < Z + M ∧ r = 0 ∧ ∃ J' : Nat → Int32, mem' = va_up mem 224 (moC ad J') ∧ J1 J J' 2) ∨ (allB (fun i => okT (bm8 x (nI i))) M = true ∧ Z + M ≤ 240 ∧ r = nI (Z + M) ∧ ∃ J' : Nat → Int32, mem' = va_up (va_up mem 225 (.inl (cy 1, 240, .inl (apM f Z x M)))) 224 (moC ad J') ∧ J' 0 = 0 ∧ J' 1 = nI (Z + M) ∧ ∀ i, i ≠ 0 → i ≠ 1 → J' i = J i))) (PP D n ad) (Az sz)) [.ref (ad 224), .long (x), .int (nI N)].toArray s 0 0 (Az sz)) (F0 m 84 ls []) := by
      intro ls hl
      refine lv_iload Bx.1 Bx.2.1 d_Mo_write_84 (lv_at hl 0 rfl) ?_
      refine lv_if_ne Bx.1 Bx.2.1 d_Mo_write_86 rfl (fun h2 => ?_) (fun h2 => ?_)
      · have ha := if01n h2
        refine lv_aload_n Bx.1 Bx.2.1 d_Mo_write_95 rfl (lv_at hl 1 rfl) ?_
        refine f_get Bx hP (by omega) hJ0 rfl inMo 1 (by decide) kw_657 rfl rfl d_Mo_write_96 ?_
        refine lv_iload_n Bx.1 Bx.2.1 d_Mo_write_99 rfl (lv_at hl 3 rfl) ?_
        refine lv_iadd Bx.1 Bx.2.1 d_Mo_write_100 ?_
        refine lv_sipush (v := 240) Bx.1 Bx.2.1 d_Mo_write_101 (by decide) ?_
        refine lv_icmp_le Bx.1 Bx.2.1 d_Mo_write_104 rfl (fun h3 => ?_) (fun h3 => ?_)
        · have hroom : Z + N ≤ 240 := by rw [show (va_up J 0 0) 1 = nI Z from hJ, nI_add, show (240 : Int32) = nI 240 from rfl, nI_leI (by omega) (by decide)] at h3; exact h3
          refine lv_iconst (v := 0) Bx.1 Bx.2.1 d_Mo_write_113 (by decide) ?_
          refine lv_istore (lv' := [(5, .int (0)), (4, .int (if allB (fun i => okT (bm8 x (nI i))) N then 1 else 0)), (0, .ref (ad 224)), (1, .long (x)), (3, .int (nI N))]) Bx.1 Bx.2.1 d_Mo_write_114 hl (by decide) rfl (fun ls hl => ?_)
          exact loop2 N 0 ls _ _ (by omega) ha hroom (lv_sub hl [0, 2, 3, 4] rfl) (by rw [apM_0, up_id mem1 h51]; exact hP) hS
        · have hroom : 240 < Z + N := by rw [show (va_up J 0 0) 1 = nI Z from hJ, nI_add, show (240 : Int32) = nI 240 from rfl, nI_leI (by omega) (by decide)] at h3; omega
          refine lv_aload_n Bx.1 Bx.2.1 d_Mo_write_107 rfl (lv_at hl 1 rfl) ?_
          refine lv_iconst (v := 2) Bx.1 Bx.2.1 d_Mo_write_108 (by decide) ?_
          refine f_callVi (na := 1) (As := [.int (2)]) (rest := []) Bx hml E hP hD hS (by omega) hJ0 rfl (m_Mo_fail l hn hJ0) kw_753 kw_755 sel_Mo_fail kw_8 kw_756 (by decide +kernel) ⟨rfl, rfl⟩ ⟨Nat.le_of_ble_eq_true rfl, Nat.le_of_ble_eq_true rfl⟩ rfl hl.1 (Nat.le_of_ble_eq_true rfl) d_Mo_write_109 ⟨Nat.le_of_ble_eq_true rfl, Nat.le_of_ble_eq_true rfl⟩ (fun r4 mem5 H locs hq hP hS => ?_)
          have hD : va_D (Az sz) (fw n ad mem5) := fw_D hD
          obtain ⟨hq0, hq⟩ := hq
          subst hq0
          exact W.iret (v := 0) hx hb hr (fun t ht hW => ⟨⟨0, mem5, rfl, Or.inr ⟨N, rfl, hN1, hN8, Or.inr (Or.inl ⟨ha, hroom, rfl, ⟨va_up (va_up J 0 0) 0 2, by rw [hq, e_mem1, up_up], va_up_self _ _ _, fun i hi => by rw [va_up_ne _ _ hi, va_up_ne _ _ hi]⟩⟩)⟩, by show va_P _ _ _ t.heap; rw [ht]; exact hP⟩, hS.F ht⟩) hS.2.2 d_Mo_write_112
      · refine lv_aload_n Bx.1 Bx.2.1 d_Mo_write_89 rfl (lv_at hl 1 rfl) ?_
        refine lv_iconst (v := 1) Bx.1 Bx.2.1 d_Mo_write_90 (by decide) ?_
        refine f_callVi (na := 1) (As := [.int (1)]) (rest := []) Bx hml E hP hD hS (by omega) hJ0 rfl (m_Mo_fail l hn hJ0) kw_753 kw_755 sel_Mo_fail kw_8 kw_756 (by decide +kernel) ⟨rfl, rfl⟩ ⟨Nat.le_of_ble_eq_true rfl, Nat.le_of_ble_eq_true rfl⟩ rfl hl.1 (Nat.le_of_ble_eq_true rfl) d_Mo_write_91 ⟨Nat.le_of_ble_eq_true rfl, Nat.le_of_ble_eq_true rfl⟩ (fun r6 mem7 H locs hq hP hS => ?_)
        have hD : va_D (Az sz) (fw n ad mem7) := fw_D hD
        obtain ⟨hq0, hq⟩ := hq
        subst hq0
        exact W.iret (v := 0) hx hb hr (fun t ht hW => ⟨⟨0, mem7, rfl, Or.inr ⟨N, rfl, hN1, hN8, Or.inl ⟨if01z h2, rfl, ⟨va_up (va_up J 0 0) 0 1, by rw [hq, e_mem1, up_up], va_up_self _ _ _, fun i hi => by rw [va_up_ne _ _ hi, va_up_ne _ _ hi]⟩⟩⟩, by show va_P _ _ _ t.heap; rw [ht]; exact hP⟩, hS.F ht⟩) hS.2.2 d_Mo_write_94
    have loop1 : ∀ (d k : Nat) (ls : Array Slot), k + d = N → lv_has ls 7 [(5, .int (nI k)), (4, .int (if allB (fun i => okT (bm8 x (nI i))) k then 1 else 0)), (0, .ref (ad 224)), (1, .long (x)), (3, .int (nI N))] → W p l e (headSpec (Cond.code y_Mo_write c_Mo_write 7 (some .int) :: tg) ({ frames := 1, cells := 0, slots := 0, locals := 30 } : Room)).room s m [.ref (ad 224), .long (x), .int (nI N)].toArray below meth c H locs 0 0 (MQ below (va_Qi (fun r mem' => (((nI N) < 1 ∨ 8 < (nI N)) ∧ r = 0 ∧ ∃ J' : Nat → Int32, mem' = va_up mem 224 (moC ad J') ∧ J1 J J' 1) ∨ ∃ M : Nat, (nI N) = nI M ∧ 1 ≤ M ∧ M ≤ 8 ∧ ((allB (fun i => okT (bm8 x (nI i))) M = false ∧ r = 0 ∧ ∃ J' : Nat → Int32, mem' = va_up mem 224 (moC ad J') ∧ J1 J J' 1) ∨ (allB (fun i => okT (bm8 x (nI i))) M = true ∧ 240 < Z + M ∧ r = 0 ∧ ∃ J' : Nat → Int32, mem' = va_up mem 224 (moC ad J') ∧ J1 J J' 2) ∨ (allB (fun i => okT (bm8 x (nI i))) M = true ∧ Z + M ≤ 240 ∧ r = nI (Z + M) ∧ ∃ J' : Nat → Int32, mem' = va_up (va_up mem 225 (.inl (cy 1, 240, .inl (apM f Z x M)))) 224 (moC ad J') ∧ J' 0 = 0 ∧ J' 1 = nI (Z + M) ∧ ∀ i, i ≠ 0 → i ≠ 1 → J' i = J i))) (PP D n ad) (Az sz)) [.ref (ad 224), .long (x), .int (nI N)].toArray s 0 0 (Az sz)) (F0 m 27 ls []) := by
      intro d
      induction d with
      | zero =>
        intro k ls hk hl
        obtain rfl : k = N := by omega
        refine lv_iload Bx.1 Bx.2.1 d_Mo_write_27 (lv_at hl 0 rfl) ?_
        refine lv_iload_n Bx.1 Bx.2.1 d_Mo_write_29 rfl (lv_at hl 4 rfl) ?_
        refine lv_icmp_ge Bx.1 Bx.2.1 d_Mo_write_30 rfl (fun h => ?_) (fun h => ?_)
        · exact tail ls (lv_sub hl [1, 2, 3, 4] rfl)
        · exact absurd (nI_le (Nat.le_refl k) (by omega)) h
      | succ d ih =>
        intro k ls hk hl
        refine lv_iload Bx.1 Bx.2.1 d_Mo_write_27 (lv_at hl 0 rfl) ?_
        refine lv_iload_n Bx.1 Bx.2.1 d_Mo_write_29 rfl (lv_at hl 4 rfl) ?_
        refine lv_icmp_ge Bx.1 Bx.2.1 d_Mo_write_30 rfl (fun h => ?_) (fun h => ?_)
        · exact absurd h (nI_ge (by omega) (by omega))
        · refine lv_lload_n Bx.1 Bx.2.1 d_Mo_write_33 rfl (lv_at hl 3 rfl) ?_
          refine lv_bipush (v := 8) Bx.1 Bx.2.1 d_Mo_write_34 (by decide) ?_
          refine lv_iload Bx.1 Bx.2.1 d_Mo_write_36 (lv_at hl 0 rfl) ?_
          refine lv_imul Bx.1 Bx.2.1 d_Mo_write_38 ?_
          refine lv_lshr Bx.1 Bx.2.1 d_Mo_write_39 rfl ?_
          refine lv_ldc2 Bx.1 Bx.2.1 Bx.2.2.2.1 (Bx.2.2.1 _ (tb_g kw_757 rfl)) d_Mo_write_40 ?_
          refine lv_land Bx.1 Bx.2.1 d_Mo_write_43 ?_
          refine lv_l2i Bx.1 Bx.2.1 d_Mo_write_44 rfl ?_
          refine lv_istore (lv' := [(6, .int (((x) >>> ((8 * nI k).toInt64 &&& 63) &&& 255).toInt32)), (5, .int (nI k)), (4, .int (if allB (fun i => okT (bm8 x (nI i))) k then 1 else 0)), (0, .ref (ad 224)), (1, .long (x)), (3, .int (nI N))]) Bx.1 Bx.2.1 d_Mo_write_45 hl (by decide) rfl (fun ls hl => ?_)
          refine lv_iload Bx.1 Bx.2.1 d_Mo_write_47 (lv_at hl 2 rfl) ?_
          refine lv_if_eq Bx.1 Bx.2.1 d_Mo_write_49 rfl (fun h1 => ?_) (fun h1 => ?_)
          · have hg := if01z h1
            refine lv_iconst (v := 0) Bx.1 Bx.2.1 d_Mo_write_75 (by decide) ?_
            refine lv_istore (lv' := [(4, .int (0)), (6, .int (((x) >>> ((8 * nI k).toInt64 &&& 63) &&& 255).toInt32)), (5, .int (nI k)), (0, .ref (ad 224)), (1, .long (x)), (3, .int (nI N))]) Bx.1 Bx.2.1 d_Mo_write_76 hl (by decide) rfl (fun ls hl => ?_)
            refine lv_iinc (lv' := [(5, .int ((nI k + (1)))), (4, .int (0)), (6, .int (((x) >>> ((8 * nI k).toInt64 &&& 63) &&& 255).toInt32)), (0, .ref (ad 224)), (1, .long (x)), (3, .int (nI N))]) Bx.1 Bx.2.1 d_Mo_write_78 hl (k := 2) rfl rfl (by decide) rfl (fun ls hl => ?_)
            refine lv_goto Bx.1 Bx.2.1 d_Mo_write_81 rfl ?_
            exact ih (k + 1) ls (by omega) (by rw [nI_succ, show allB (fun i => okT (bm8 x (nI i))) (k + 1) = false from by simp only [allB, hg, Bool.false_and]]; exact (lv_sub hl [0, 1, 3, 4, 5] rfl))
          · have hg := if01n h1
            refine lv_iload Bx.1 Bx.2.1 d_Mo_write_52 (lv_at hl 0 rfl) ?_
            refine lv_bipush (v := 10) Bx.1 Bx.2.1 d_Mo_write_54 (by decide) ?_
            refine lv_icmp_eq Bx.1 Bx.2.1 d_Mo_write_56 rfl (fun h2 => ?_) (fun h2 => ?_)
            · have hc : bm8 x (nI k) = 10 := h2
              refine lv_iconst (v := 1) Bx.1 Bx.2.1 d_Mo_write_71 (by decide) ?_
              refine lv_goto Bx.1 Bx.2.1 d_Mo_write_72 rfl ?_
              refine lv_istore (lv' := [(4, .int (1)), (6, .int (((x) >>> ((8 * nI k).toInt64 &&& 63) &&& 255).toInt32)), (5, .int (nI k)), (0, .ref (ad 224)), (1, .long (x)), (3, .int (nI N))]) Bx.1 Bx.2.1 d_Mo_write_76 hl (by decide) rfl (fun ls hl => ?_)
              refine lv_iinc (lv' := [(5, .int ((nI k + (1)))), (4, .int (1)), (6, .int (((x) >>> ((8 * nI k).toInt64 &&& 63) &&& 255).toInt32)), (0, .ref (ad 224)), (1, .long (x)), (3, .int (nI N))]) Bx.1 Bx.2.1 d_Mo_write_78 hl (k := 2) rfl rfl (by decide) rfl (fun ls hl => ?_)
              refine lv_goto Bx.1 Bx.2.1 d_Mo_write_81 rfl ?_
              exact ih (k + 1) ls (by omega) (by rw [nI_succ, show allB (fun i => okT (bm8 x (nI i))) (k + 1) = true from allB_yes hg (by simp [okT, hc])]; exact (lv_sub hl [0, 1, 3, 4, 5] rfl))
            · have hc : ¬ bm8 x (nI k) = 10 := h2
              refine lv_iload Bx.1 Bx.2.1 d_Mo_write_59 (lv_at hl 0 rfl) ?_
              refine lv_bipush (v := 32) Bx.1 Bx.2.1 d_Mo_write_61 (by decide) ?_
              refine lv_bipush (v := 126) Bx.1 Bx.2.1 d_Mo_write_63 (by decide) ?_
              refine f_callSi (na := 3) (As := [.int (bm8 x (nI k)), .int (32), .int (126)]) (rest := []) Bx hml E.2.1 (m_Mo_within l (bm8 x (nI k)) 32 126) kw_750 kw_751 kw_8 kw_752 (by decide +kernel) ⟨rfl, rfl⟩ ⟨Nat.le_of_ble_eq_true rfl, Nat.le_of_ble_eq_true rfl⟩ rfl hl.1 (Nat.le_of_ble_eq_true rfl) d_Mo_write_65 ⟨Nat.le_of_ble_eq_true rfl, Nat.le_of_ble_eq_true rfl⟩ (fun r8 hr3 => ?_)
              subst hr3
              refine lv_if_eq Bx.1 Bx.2.1 d_Mo_write_68 rfl (fun h3 => ?_) (fun h3 => ?_)
              · have hc2 : bm8 x (nI k) < 32 ∨ 126 < bm8 x (nI k) := by
                  by_cases q : bm8 x (nI k) < 32 ∨ 126 < bm8 x (nI k)
                  · exact q
                  · rw [if_neg q] at h3; exact absurd h3 (by decide)
                have hc3 : okT (bm8 x (nI k)) = false := by
                  simp only [okT, hc, decide_false, Bool.false_or]
                  rcases hc2 with q | q
                  · simp [q]
                  · simp [Int32.not_le.mpr q]
                refine lv_iconst (v := 0) Bx.1 Bx.2.1 d_Mo_write_75 (by decide) ?_
                refine lv_istore (lv' := [(4, .int (0)), (6, .int (bm8 x (nI k))), (5, .int (nI k)), (0, .ref (ad 224)), (1, .long (x)), (3, .int (nI N))]) Bx.1 Bx.2.1 d_Mo_write_76 hl (by decide) rfl (fun ls hl => ?_)
                refine lv_iinc (lv' := [(5, .int ((nI k + (1)))), (4, .int (0)), (6, .int (bm8 x (nI k))), (0, .ref (ad 224)), (1, .long (x)), (3, .int (nI N))]) Bx.1 Bx.2.1 d_Mo_write_78 hl (k := 2) rfl rfl (by decide) rfl (fun ls hl => ?_)
                refine lv_goto Bx.1 Bx.2.1 d_Mo_write_81 rfl ?_
                exact ih (k + 1) ls (by omega) (by rw [nI_succ, show allB (fun i => okT (bm8 x (nI i))) (k + 1) = false from by simp [allB, hc3]]; exact (lv_sub hl [0, 1, 3, 4, 5] rfl))
              · have hc2 : ¬ (bm8 x (nI k) < 32 ∨ 126 < bm8 x (nI k)) := fun q => by rw [if_pos q] at h3; exact h3 rfl
                have hc3 : okT (bm8 x (nI k)) = true := by
                  have q1 : ¬ bm8 x (nI k) < 32 := fun q => hc2 (Or.inl q)
                  have q2 : bm8 x (nI k) ≤ 126 := Int32.not_lt.mp (fun q => hc2 (Or.inr q))
                  simp [okT, q1, q2]
                refine lv_iconst (v := 1) Bx.1 Bx.2.1 d_Mo_write_71 (by decide) ?_
                refine lv_goto Bx.1 Bx.2.1 d_Mo_write_72 rfl ?_
                refine lv_istore (lv' := [(4, .int (1)), (6, .int (bm8 x (nI k))), (5, .int (nI k)), (0, .ref (ad 224)), (1, .long (x)), (3, .int (nI N))]) Bx.1 Bx.2.1 d_Mo_write_76 hl (by decide) rfl (fun ls hl => ?_)
                refine lv_iinc (lv' := [(5, .int ((nI k + (1)))), (4, .int (1)), (6, .int (bm8 x (nI k))), (0, .ref (ad 224)), (1, .long (x)), (3, .int (nI N))]) Bx.1 Bx.2.1 d_Mo_write_78 hl (k := 2) rfl rfl (by decide) rfl (fun ls hl => ?_)
                refine lv_goto Bx.1 Bx.2.1 d_Mo_write_81 rfl ?_
                exact ih (k + 1) ls (by omega) (by rw [nI_succ, allB_yes hg hc3]; exact (lv_sub hl [0, 1, 3, 4, 5] rfl))
    exact loop1 N 0 ls (by omega) (lv_sub hl [0, 1, 2, 3, 4] rfl)
  · refine lv_aload_n Bx.1 Bx.2.1 d_Mo_write_15 rfl (lv_at hl 0 rfl) ?_
    refine lv_iconst (v := 1) Bx.1 Bx.2.1 d_Mo_write_16 (by decide) ?_
    refine f_callVi (na := 1) (As := [.int (1)]) (rest := []) Bx hml E hP hD hS (by omega) h_mem1 rfl (m_Mo_fail l hn hJ0) kw_753 kw_755 sel_Mo_fail kw_8 kw_756 (by decide +kernel) ⟨rfl, rfl⟩ ⟨Nat.le_of_ble_eq_true rfl, Nat.le_of_ble_eq_true rfl⟩ rfl hl.1 (Nat.le_of_ble_eq_true rfl) d_Mo_write_17 ⟨Nat.le_of_ble_eq_true rfl, Nat.le_of_ble_eq_true rfl⟩ (fun r9 mem10 H locs hq hP hS => ?_)
    have hD : va_D (Az sz) (fw n ad mem10) := fw_D hD
    obtain ⟨hq0, hq⟩ := hq
    subst hq0
    exact W.iret (v := 0) hx hb hr (fun t ht hW => ⟨⟨0, mem10, rfl, Or.inl ⟨bc_no h, rfl, ⟨va_up (va_up J 0 0) 0 1, by rw [hq, e_mem1, up_up], va_up_self _ _ _, fun i hi => by rw [va_up_ne _ _ hi, va_up_ne _ _ hi]⟩⟩, by show va_P _ _ _ t.heap; rw [ht]; exact hP⟩, hS.F ht⟩) hS.2.2 d_Mo_write_20
end
section
theorem d_Mo_give_0 : decode c_Mo_give 0 = .ok (.aload_n 0, 1) := by decide +kernel
theorem d_Mo_give_1 : decode c_Mo_give 1 = .ok (.iconst 0, 1) := by decide +kernel
theorem d_Mo_give_2 : decode c_Mo_give 2 = .ok (.putfield 71, 3) := by decide +kernel
theorem d_Mo_give_5 : decode c_Mo_give 5 = .ok (.iload_n 3, 1) := by decide +kernel
theorem d_Mo_give_6 : decode c_Mo_give 6 = .ok (.iconst 1, 1) := by decide +kernel
theorem d_Mo_give_7 : decode c_Mo_give 7 = .ok (.bipush 8, 2) := by decide +kernel
theorem d_Mo_give_9 : decode c_Mo_give 9 = .ok (.invokestatic 74, 3) := by decide +kernel
theorem d_Mo_give_12 : decode c_Mo_give 12 = .ok (.ifCond .ne 9, 3) := by decide +kernel
theorem d_Mo_give_15 : decode c_Mo_give 15 = .ok (.aload_n 0, 1) := by decide +kernel
theorem d_Mo_give_16 : decode c_Mo_give 16 = .ok (.iconst 1, 1) := by decide +kernel
theorem d_Mo_give_17 : decode c_Mo_give 17 = .ok (.invokevirtual 78, 3) := by decide +kernel
theorem d_Mo_give_20 : decode c_Mo_give 20 = .ok (.ireturn, 1) := by decide +kernel
theorem d_Mo_give_21 : decode c_Mo_give 21 = .ok (.iconst 1, 1) := by decide +kernel
theorem d_Mo_give_22 : decode c_Mo_give 22 = .ok (.istore 4, 2) := by decide +kernel
theorem d_Mo_give_24 : decode c_Mo_give 24 = .ok (.iconst 0, 1) := by decide +kernel
theorem d_Mo_give_25 : decode c_Mo_give 25 = .ok (.istore 5, 2) := by decide +kernel
theorem d_Mo_give_27 : decode c_Mo_give 27 = .ok (.iload 5, 2) := by decide +kernel
theorem d_Mo_give_29 : decode c_Mo_give 29 = .ok (.iload_n 3, 1) := by decide +kernel
theorem d_Mo_give_30 : decode c_Mo_give 30 = .ok (.if_icmp .ge 39, 3) := by decide +kernel
theorem d_Mo_give_33 : decode c_Mo_give 33 = .ok (.iload 4, 2) := by decide +kernel
theorem d_Mo_give_35 : decode c_Mo_give 35 = .ok (.ifCond .eq 25, 3) := by decide +kernel
theorem d_Mo_give_38 : decode c_Mo_give 38 = .ok (.lload_n 1, 1) := by decide +kernel
theorem d_Mo_give_39 : decode c_Mo_give 39 = .ok (.bipush 8, 2) := by decide +kernel
theorem d_Mo_give_41 : decode c_Mo_give 41 = .ok (.iload 5, 2) := by decide +kernel
theorem d_Mo_give_43 : decode c_Mo_give 43 = .ok (.imul, 1) := by decide +kernel
theorem d_Mo_give_44 : decode c_Mo_give 44 = .ok (.lshr, 1) := by decide +kernel
theorem d_Mo_give_45 : decode c_Mo_give 45 = .ok (.ldc2_w 82, 3) := by decide +kernel
theorem d_Mo_give_48 : decode c_Mo_give 48 = .ok (.land, 1) := by decide +kernel
theorem d_Mo_give_49 : decode c_Mo_give 49 = .ok (.ldc2_w 183, 3) := by decide +kernel
theorem d_Mo_give_52 : decode c_Mo_give 52 = .ok (.lcmp, 1) := by decide +kernel
theorem d_Mo_give_53 : decode c_Mo_give 53 = .ok (.ifCond .ge 7, 3) := by decide +kernel
theorem d_Mo_give_56 : decode c_Mo_give 56 = .ok (.iconst 1, 1) := by decide +kernel
theorem d_Mo_give_57 : decode c_Mo_give 57 = .ok (.goto 4, 3) := by decide +kernel
theorem d_Mo_give_60 : decode c_Mo_give 60 = .ok (.iconst 0, 1) := by decide +kernel
theorem d_Mo_give_61 : decode c_Mo_give 61 = .ok (.istore 4, 2) := by decide +kernel
theorem d_Mo_give_63 : decode c_Mo_give 63 = .ok (.iinc 5 1, 3) := by decide +kernel
theorem d_Mo_give_66 : decode c_Mo_give 66 = .ok (.goto (-39), 3) := by decide +kernel
theorem d_Mo_give_69 : decode c_Mo_give 69 = .ok (.iload 4, 2) := by decide +kernel
theorem d_Mo_give_71 : decode c_Mo_give 71 = .ok (.ifCond .ne 9, 3) := by decide +kernel
theorem d_Mo_give_74 : decode c_Mo_give 74 = .ok (.aload_n 0, 1) := by decide +kernel
theorem d_Mo_give_75 : decode c_Mo_give 75 = .ok (.iconst 1, 1) := by decide +kernel
theorem d_Mo_give_76 : decode c_Mo_give 76 = .ok (.invokevirtual 78, 3) := by decide +kernel
theorem d_Mo_give_79 : decode c_Mo_give 79 = .ok (.ireturn, 1) := by decide +kernel
theorem d_Mo_give_80 : decode c_Mo_give 80 = .ok (.aload_n 0, 1) := by decide +kernel
theorem d_Mo_give_81 : decode c_Mo_give 81 = .ok (.getfield 185, 3) := by decide +kernel
theorem d_Mo_give_84 : decode c_Mo_give 84 = .ok (.iload_n 3, 1) := by decide +kernel
theorem d_Mo_give_85 : decode c_Mo_give 85 = .ok (.iadd, 1) := by decide +kernel
theorem d_Mo_give_86 : decode c_Mo_give 86 = .ok (.bipush 24, 2) := by decide +kernel
theorem d_Mo_give_88 : decode c_Mo_give 88 = .ok (.if_icmp .le 9, 3) := by decide +kernel
theorem d_Mo_give_91 : decode c_Mo_give 91 = .ok (.aload_n 0, 1) := by decide +kernel
theorem d_Mo_give_92 : decode c_Mo_give 92 = .ok (.iconst 2, 1) := by decide +kernel
theorem d_Mo_give_93 : decode c_Mo_give 93 = .ok (.invokevirtual 78, 3) := by decide +kernel
theorem d_Mo_give_96 : decode c_Mo_give 96 = .ok (.ireturn, 1) := by decide +kernel
theorem d_Mo_give_97 : decode c_Mo_give 97 = .ok (.iconst 0, 1) := by decide +kernel
theorem d_Mo_give_98 : decode c_Mo_give 98 = .ok (.istore 5, 2) := by decide +kernel
theorem d_Mo_give_100 : decode c_Mo_give 100 = .ok (.iload 5, 2) := by decide +kernel
theorem d_Mo_give_102 : decode c_Mo_give 102 = .ok (.iload_n 3, 1) := by decide +kernel
theorem d_Mo_give_103 : decode c_Mo_give 103 = .ok (.if_icmp .ge 33, 3) := by decide +kernel
theorem d_Mo_give_106 : decode c_Mo_give 106 = .ok (.aload_n 0, 1) := by decide +kernel
theorem d_Mo_give_107 : decode c_Mo_give 107 = .ok (.getfield 61, 3) := by decide +kernel
theorem d_Mo_give_110 : decode c_Mo_give 110 = .ok (.aload_n 0, 1) := by decide +kernel
theorem d_Mo_give_111 : decode c_Mo_give 111 = .ok (.getfield 185, 3) := by decide +kernel
theorem d_Mo_give_114 : decode c_Mo_give 114 = .ok (.iload 5, 2) := by decide +kernel
theorem d_Mo_give_116 : decode c_Mo_give 116 = .ok (.iadd, 1) := by decide +kernel
theorem d_Mo_give_117 : decode c_Mo_give 117 = .ok (.lload_n 1, 1) := by decide +kernel
theorem d_Mo_give_118 : decode c_Mo_give 118 = .ok (.bipush 8, 2) := by decide +kernel
theorem d_Mo_give_120 : decode c_Mo_give 120 = .ok (.iload 5, 2) := by decide +kernel
theorem d_Mo_give_122 : decode c_Mo_give 122 = .ok (.imul, 1) := by decide +kernel
theorem d_Mo_give_123 : decode c_Mo_give 123 = .ok (.lshr, 1) := by decide +kernel
theorem d_Mo_give_124 : decode c_Mo_give 124 = .ok (.ldc2_w 82, 3) := by decide +kernel
theorem d_Mo_give_127 : decode c_Mo_give 127 = .ok (.land, 1) := by decide +kernel
theorem d_Mo_give_128 : decode c_Mo_give 128 = .ok (.l2i, 1) := by decide +kernel
theorem d_Mo_give_129 : decode c_Mo_give 129 = .ok (.iastore, 1) := by decide +kernel
theorem d_Mo_give_130 : decode c_Mo_give 130 = .ok (.iinc 5 1, 3) := by decide +kernel
theorem d_Mo_give_133 : decode c_Mo_give 133 = .ok (.goto (-33), 3) := by decide +kernel
theorem d_Mo_give_136 : decode c_Mo_give 136 = .ok (.aload_n 0, 1) := by decide +kernel
theorem d_Mo_give_137 : decode c_Mo_give 137 = .ok (.dup, 1) := by decide +kernel
theorem d_Mo_give_138 : decode c_Mo_give 138 = .ok (.getfield 185, 3) := by decide +kernel
theorem d_Mo_give_141 : decode c_Mo_give 141 = .ok (.iload_n 3, 1) := by decide +kernel
theorem d_Mo_give_142 : decode c_Mo_give 142 = .ok (.iadd, 1) := by decide +kernel
theorem d_Mo_give_143 : decode c_Mo_give 143 = .ok (.putfield 185, 3) := by decide +kernel
theorem d_Mo_give_146 : decode c_Mo_give 146 = .ok (.aload_n 0, 1) := by decide +kernel
theorem d_Mo_give_147 : decode c_Mo_give 147 = .ok (.iconst 1, 1) := by decide +kernel
theorem d_Mo_give_148 : decode c_Mo_give 148 = .ok (.putfield 64, 3) := by decide +kernel
theorem d_Mo_give_151 : decode c_Mo_give 151 = .ok (.aload_n 0, 1) := by decide +kernel
theorem d_Mo_give_152 : decode c_Mo_give 152 = .ok (.getfield 185, 3) := by decide +kernel
theorem d_Mo_give_155 : decode c_Mo_give 155 = .ok (.ireturn, 1) := by decide +kernel
theorem d_Mo_rule_0 : decode c_Mo_rule 0 = .ok (.aload_n 0, 1) := by decide +kernel
theorem d_Mo_rule_1 : decode c_Mo_rule 1 = .ok (.iconst 0, 1) := by decide +kernel
theorem d_Mo_rule_2 : decode c_Mo_rule 2 = .ok (.putfield 71, 3) := by decide +kernel
theorem d_Mo_rule_5 : decode c_Mo_rule 5 = .ok (.iconst 0, 1) := by decide +kernel
theorem d_Mo_rule_6 : decode c_Mo_rule 6 = .ok (.istore_n 3, 1) := by decide +kernel
theorem d_Mo_rule_7 : decode c_Mo_rule 7 = .ok (.iload_n 3, 1) := by decide +kernel
theorem d_Mo_rule_8 : decode c_Mo_rule 8 = .ok (.aload_n 0, 1) := by decide +kernel
theorem d_Mo_rule_9 : decode c_Mo_rule 9 = .ok (.getfield 120, 3) := by decide +kernel
theorem d_Mo_rule_12 : decode c_Mo_rule 12 = .ok (.if_icmp .ge 22, 3) := by decide +kernel
theorem d_Mo_rule_15 : decode c_Mo_rule 15 = .ok (.aload_n 0, 1) := by decide +kernel
theorem d_Mo_rule_16 : decode c_Mo_rule 16 = .ok (.getfield 17, 3) := by decide +kernel
theorem d_Mo_rule_19 : decode c_Mo_rule 19 = .ok (.iload_n 3, 1) := by decide +kernel
theorem d_Mo_rule_20 : decode c_Mo_rule 20 = .ok (.laload, 1) := by decide +kernel
theorem d_Mo_rule_21 : decode c_Mo_rule 21 = .ok (.lload_n 1, 1) := by decide +kernel
theorem d_Mo_rule_22 : decode c_Mo_rule 22 = .ok (.lcmp, 1) := by decide +kernel
theorem d_Mo_rule_23 : decode c_Mo_rule 23 = .ok (.ifCond .ne 5, 3) := by decide +kernel
theorem d_Mo_rule_26 : decode c_Mo_rule 26 = .ok (.iload_n 3, 1) := by decide +kernel
theorem d_Mo_rule_27 : decode c_Mo_rule 27 = .ok (.ireturn, 1) := by decide +kernel
theorem d_Mo_rule_28 : decode c_Mo_rule 28 = .ok (.iinc 3 1, 3) := by decide +kernel
theorem d_Mo_rule_31 : decode c_Mo_rule 31 = .ok (.goto (-24), 3) := by decide +kernel
theorem d_Mo_rule_34 : decode c_Mo_rule 34 = .ok (.aload_n 0, 1) := by decide +kernel
theorem d_Mo_rule_35 : decode c_Mo_rule 35 = .ok (.iconst 1, 1) := by decide +kernel
theorem d_Mo_rule_36 : decode c_Mo_rule 36 = .ok (.invokevirtual 78, 3) := by decide +kernel
theorem d_Mo_rule_39 : decode c_Mo_rule 39 = .ok (.ireturn, 1) := by decide +kernel
theorem d_Mo_count_0 : decode c_Mo_count 0 = .ok (.aload_n 0, 1) := by decide +kernel
theorem d_Mo_count_1 : decode c_Mo_count 1 = .ok (.iconst 0, 1) := by decide +kernel
theorem d_Mo_count_2 : decode c_Mo_count 2 = .ok (.putfield 71, 3) := by decide +kernel
theorem d_Mo_count_5 : decode c_Mo_count 5 = .ok (.iload_n 1, 1) := by decide +kernel
theorem d_Mo_count_6 : decode c_Mo_count 6 = .ok (.iconst 0, 1) := by decide +kernel
theorem d_Mo_count_7 : decode c_Mo_count 7 = .ok (.iconst 2, 1) := by decide +kernel
theorem d_Mo_count_8 : decode c_Mo_count 8 = .ok (.invokestatic 74, 3) := by decide +kernel
theorem d_Mo_count_11 : decode c_Mo_count 11 = .ok (.ifCond .ne 9, 3) := by decide +kernel
theorem d_Mo_count_14 : decode c_Mo_count 14 = .ok (.aload_n 0, 1) := by decide +kernel
theorem d_Mo_count_15 : decode c_Mo_count 15 = .ok (.iconst 1, 1) := by decide +kernel
theorem d_Mo_count_16 : decode c_Mo_count 16 = .ok (.invokevirtual 78, 3) := by decide +kernel
theorem d_Mo_count_19 : decode c_Mo_count 19 = .ok (.ireturn, 1) := by decide +kernel
theorem d_Mo_count_20 : decode c_Mo_count 20 = .ok (.iconst 0, 1) := by decide +kernel
theorem d_Mo_count_21 : decode c_Mo_count 21 = .ok (.istore_n 2, 1) := by decide +kernel
theorem d_Mo_count_22 : decode c_Mo_count 22 = .ok (.iconst 0, 1) := by decide +kernel
theorem d_Mo_count_23 : decode c_Mo_count 23 = .ok (.istore_n 3, 1) := by decide +kernel
theorem d_Mo_count_24 : decode c_Mo_count 24 = .ok (.iload_n 3, 1) := by decide +kernel
theorem d_Mo_count_25 : decode c_Mo_count 25 = .ok (.aload_n 0, 1) := by decide +kernel
theorem d_Mo_count_26 : decode c_Mo_count 26 = .ok (.getfield 120, 3) := by decide +kernel
theorem d_Mo_count_29 : decode c_Mo_count 29 = .ok (.if_icmp .ge 26, 3) := by decide +kernel
theorem d_Mo_count_32 : decode c_Mo_count 32 = .ok (.iload_n 2, 1) := by decide +kernel
theorem d_Mo_count_33 : decode c_Mo_count 33 = .ok (.aload_n 0, 1) := by decide +kernel
theorem d_Mo_count_34 : decode c_Mo_count 34 = .ok (.getfield 21, 3) := by decide +kernel
theorem d_Mo_count_37 : decode c_Mo_count 37 = .ok (.iload_n 3, 1) := by decide +kernel
theorem d_Mo_count_38 : decode c_Mo_count 38 = .ok (.iaload, 1) := by decide +kernel
theorem d_Mo_count_39 : decode c_Mo_count 39 = .ok (.ifCond .lt 7, 3) := by decide +kernel
theorem d_Mo_count_42 : decode c_Mo_count 42 = .ok (.iconst 1, 1) := by decide +kernel
theorem d_Mo_count_43 : decode c_Mo_count 43 = .ok (.goto 4, 3) := by decide +kernel
theorem d_Mo_count_46 : decode c_Mo_count 46 = .ok (.iconst 0, 1) := by decide +kernel
theorem d_Mo_count_47 : decode c_Mo_count 47 = .ok (.iadd, 1) := by decide +kernel
theorem d_Mo_count_48 : decode c_Mo_count 48 = .ok (.istore_n 2, 1) := by decide +kernel
theorem d_Mo_count_49 : decode c_Mo_count 49 = .ok (.iinc 3 1, 3) := by decide +kernel
theorem d_Mo_count_52 : decode c_Mo_count 52 = .ok (.goto (-28), 3) := by decide +kernel
theorem d_Mo_count_55 : decode c_Mo_count 55 = .ok (.iload_n 1, 1) := by decide +kernel
theorem d_Mo_count_56 : decode c_Mo_count 56 = .ok (.ifCond .ne 10, 3) := by decide +kernel
theorem d_Mo_count_59 : decode c_Mo_count 59 = .ok (.aload_n 0, 1) := by decide +kernel
theorem d_Mo_count_60 : decode c_Mo_count 60 = .ok (.getfield 120, 3) := by decide +kernel
theorem d_Mo_count_63 : decode c_Mo_count 63 = .ok (.goto 16, 3) := by decide +kernel
theorem d_Mo_count_66 : decode c_Mo_count 66 = .ok (.iload_n 1, 1) := by decide +kernel
theorem d_Mo_count_67 : decode c_Mo_count 67 = .ok (.iconst 1, 1) := by decide +kernel
theorem d_Mo_count_68 : decode c_Mo_count 68 = .ok (.if_icmp .ne 10, 3) := by decide +kernel
theorem d_Mo_count_71 : decode c_Mo_count 71 = .ok (.aload_n 0, 1) := by decide +kernel
theorem d_Mo_count_72 : decode c_Mo_count 72 = .ok (.getfield 110, 3) := by decide +kernel
theorem d_Mo_count_75 : decode c_Mo_count 75 = .ok (.goto 4, 3) := by decide +kernel
theorem d_Mo_count_78 : decode c_Mo_count 78 = .ok (.iload_n 2, 1) := by decide +kernel
theorem d_Mo_count_79 : decode c_Mo_count 79 = .ok (.ireturn, 1) := by decide +kernel
theorem d_Mo_matches_0 : decode c_Mo_matches 0 = .ok (.aload_n 0, 1) := by decide +kernel
theorem d_Mo_matches_1 : decode c_Mo_matches 1 = .ok (.iconst 0, 1) := by decide +kernel
theorem d_Mo_matches_2 : decode c_Mo_matches 2 = .ok (.putfield 71, 3) := by decide +kernel
theorem d_Mo_matches_5 : decode c_Mo_matches 5 = .ok (.iload_n 1, 1) := by decide +kernel
theorem d_Mo_matches_6 : decode c_Mo_matches 6 = .ok (.iconst 0, 1) := by decide +kernel
theorem d_Mo_matches_7 : decode c_Mo_matches 7 = .ok (.aload_n 0, 1) := by decide +kernel
theorem d_Mo_matches_8 : decode c_Mo_matches 8 = .ok (.getfield 120, 3) := by decide +kernel
theorem d_Mo_matches_11 : decode c_Mo_matches 11 = .ok (.iconst 1, 1) := by decide +kernel
theorem d_Mo_matches_12 : decode c_Mo_matches 12 = .ok (.isub, 1) := by decide +kernel
theorem d_Mo_matches_13 : decode c_Mo_matches 13 = .ok (.invokestatic 74, 3) := by decide +kernel
theorem d_Mo_matches_16 : decode c_Mo_matches 16 = .ok (.ifCond .ne 17, 3) := by decide +kernel
theorem d_Mo_matches_19 : decode c_Mo_matches 19 = .ok (.aload_n 0, 1) := by decide +kernel
theorem d_Mo_matches_20 : decode c_Mo_matches 20 = .ok (.iconst 1, 1) := by decide +kernel
theorem d_Mo_matches_21 : decode c_Mo_matches 21 = .ok (.invokevirtual 78, 3) := by decide +kernel
theorem d_Mo_matches_24 : decode c_Mo_matches 24 = .ok (.ifCond .le 7, 3) := by decide +kernel
theorem d_Mo_matches_27 : decode c_Mo_matches 27 = .ok (.iconst 1, 1) := by decide +kernel
theorem d_Mo_matches_28 : decode c_Mo_matches 28 = .ok (.goto 4, 3) := by decide +kernel
theorem d_Mo_matches_31 : decode c_Mo_matches 31 = .ok (.iconst 0, 1) := by decide +kernel
theorem d_Mo_matches_32 : decode c_Mo_matches 32 = .ok (.ireturn, 1) := by decide +kernel
theorem d_Mo_matches_33 : decode c_Mo_matches 33 = .ok (.iload_n 2, 1) := by decide +kernel
theorem d_Mo_matches_34 : decode c_Mo_matches 34 = .ok (.ifCond .lt 16, 3) := by decide +kernel
theorem d_Mo_matches_37 : decode c_Mo_matches 37 = .ok (.iload_n 3, 1) := by decide +kernel
theorem d_Mo_matches_38 : decode c_Mo_matches 38 = .ok (.iload_n 2, 1) := by decide +kernel
theorem d_Mo_matches_39 : decode c_Mo_matches 39 = .ok (.if_icmp .lt 11, 3) := by decide +kernel
theorem d_Mo_matches_42 : decode c_Mo_matches 42 = .ok (.iload_n 3, 1) := by decide +kernel
theorem d_Mo_matches_43 : decode c_Mo_matches 43 = .ok (.aload_n 0, 1) := by decide +kernel
theorem d_Mo_matches_44 : decode c_Mo_matches 44 = .ok (.getfield 185, 3) := by decide +kernel
theorem d_Mo_matches_47 : decode c_Mo_matches 47 = .ok (.if_icmp .le 17, 3) := by decide +kernel
theorem d_Mo_matches_50 : decode c_Mo_matches 50 = .ok (.aload_n 0, 1) := by decide +kernel
theorem d_Mo_matches_51 : decode c_Mo_matches 51 = .ok (.iconst 2, 1) := by decide +kernel
theorem d_Mo_matches_52 : decode c_Mo_matches 52 = .ok (.invokevirtual 78, 3) := by decide +kernel
theorem d_Mo_matches_55 : decode c_Mo_matches 55 = .ok (.ifCond .le 7, 3) := by decide +kernel
theorem d_Mo_matches_58 : decode c_Mo_matches 58 = .ok (.iconst 1, 1) := by decide +kernel
theorem d_Mo_matches_59 : decode c_Mo_matches 59 = .ok (.goto 4, 3) := by decide +kernel
theorem d_Mo_matches_62 : decode c_Mo_matches 62 = .ok (.iconst 0, 1) := by decide +kernel
theorem d_Mo_matches_63 : decode c_Mo_matches 63 = .ok (.ireturn, 1) := by decide +kernel
theorem d_Mo_matches_64 : decode c_Mo_matches 64 = .ok (.aload_n 0, 1) := by decide +kernel
theorem d_Mo_matches_65 : decode c_Mo_matches 65 = .ok (.iload_n 1, 1) := by decide +kernel
theorem d_Mo_matches_66 : decode c_Mo_matches 66 = .ok (.iload_n 2, 1) := by decide +kernel
theorem d_Mo_matches_67 : decode c_Mo_matches 67 = .ok (.invokevirtual 204, 3) := by decide +kernel
theorem d_Mo_matches_70 : decode c_Mo_matches 70 = .ok (.iload_n 3, 1) := by decide +kernel
theorem d_Mo_matches_71 : decode c_Mo_matches 71 = .ok (.ishr, 1) := by decide +kernel
theorem d_Mo_matches_72 : decode c_Mo_matches 72 = .ok (.iconst 1, 1) := by decide +kernel
theorem d_Mo_matches_73 : decode c_Mo_matches 73 = .ok (.iand, 1) := by decide +kernel
theorem d_Mo_matches_74 : decode c_Mo_matches 74 = .ok (.iconst 1, 1) := by decide +kernel
theorem d_Mo_matches_75 : decode c_Mo_matches 75 = .ok (.if_icmp .ne 7, 3) := by decide +kernel
theorem d_Mo_matches_78 : decode c_Mo_matches 78 = .ok (.iconst 1, 1) := by decide +kernel
theorem d_Mo_matches_79 : decode c_Mo_matches 79 = .ok (.goto 4, 3) := by decide +kernel
theorem d_Mo_matches_82 : decode c_Mo_matches 82 = .ok (.iconst 0, 1) := by decide +kernel
theorem d_Mo_matches_83 : decode c_Mo_matches 83 = .ok (.ireturn, 1) := by decide +kernel
theorem d_Mo_longest_0 : decode c_Mo_longest 0 = .ok (.aload_n 0, 1) := by decide +kernel
theorem d_Mo_longest_1 : decode c_Mo_longest 1 = .ok (.iconst 0, 1) := by decide +kernel
theorem d_Mo_longest_2 : decode c_Mo_longest 2 = .ok (.putfield 71, 3) := by decide +kernel
theorem d_Mo_longest_5 : decode c_Mo_longest 5 = .ok (.iload_n 1, 1) := by decide +kernel
theorem d_Mo_longest_6 : decode c_Mo_longest 6 = .ok (.iconst 0, 1) := by decide +kernel
theorem d_Mo_longest_7 : decode c_Mo_longest 7 = .ok (.aload_n 0, 1) := by decide +kernel
theorem d_Mo_longest_8 : decode c_Mo_longest 8 = .ok (.getfield 120, 3) := by decide +kernel
theorem d_Mo_longest_11 : decode c_Mo_longest 11 = .ok (.iconst 1, 1) := by decide +kernel
theorem d_Mo_longest_12 : decode c_Mo_longest 12 = .ok (.isub, 1) := by decide +kernel
theorem d_Mo_longest_13 : decode c_Mo_longest 13 = .ok (.invokestatic 74, 3) := by decide +kernel
theorem d_Mo_longest_16 : decode c_Mo_longest 16 = .ok (.ifCond .ne 9, 3) := by decide +kernel
theorem d_Mo_longest_19 : decode c_Mo_longest 19 = .ok (.aload_n 0, 1) := by decide +kernel
theorem d_Mo_longest_20 : decode c_Mo_longest 20 = .ok (.iconst 1, 1) := by decide +kernel
theorem d_Mo_longest_21 : decode c_Mo_longest 21 = .ok (.invokevirtual 78, 3) := by decide +kernel
theorem d_Mo_longest_24 : decode c_Mo_longest 24 = .ok (.ireturn, 1) := by decide +kernel
theorem d_Mo_longest_25 : decode c_Mo_longest 25 = .ok (.iload_n 2, 1) := by decide +kernel
theorem d_Mo_longest_26 : decode c_Mo_longest 26 = .ok (.iconst 0, 1) := by decide +kernel
theorem d_Mo_longest_27 : decode c_Mo_longest 27 = .ok (.aload_n 0, 1) := by decide +kernel
theorem d_Mo_longest_28 : decode c_Mo_longest 28 = .ok (.getfield 185, 3) := by decide +kernel
theorem d_Mo_longest_31 : decode c_Mo_longest 31 = .ok (.invokestatic 74, 3) := by decide +kernel
theorem d_Mo_longest_34 : decode c_Mo_longest 34 = .ok (.ifCond .ne 9, 3) := by decide +kernel
theorem d_Mo_longest_37 : decode c_Mo_longest 37 = .ok (.aload_n 0, 1) := by decide +kernel
theorem d_Mo_longest_38 : decode c_Mo_longest 38 = .ok (.iconst 2, 1) := by decide +kernel
theorem d_Mo_longest_39 : decode c_Mo_longest 39 = .ok (.invokevirtual 78, 3) := by decide +kernel
theorem d_Mo_longest_42 : decode c_Mo_longest 42 = .ok (.ireturn, 1) := by decide +kernel
theorem d_Mo_longest_43 : decode c_Mo_longest 43 = .ok (.iconst (-1), 1) := by decide +kernel
theorem d_Mo_longest_44 : decode c_Mo_longest 44 = .ok (.istore_n 3, 1) := by decide +kernel
theorem d_Mo_longest_45 : decode c_Mo_longest 45 = .ok (.iload_n 2, 1) := by decide +kernel
theorem d_Mo_longest_46 : decode c_Mo_longest 46 = .ok (.istore 4, 2) := by decide +kernel
theorem d_Mo_longest_48 : decode c_Mo_longest 48 = .ok (.iload 4, 2) := by decide +kernel
theorem d_Mo_longest_50 : decode c_Mo_longest 50 = .ok (.aload_n 0, 1) := by decide +kernel
theorem d_Mo_longest_51 : decode c_Mo_longest 51 = .ok (.getfield 185, 3) := by decide +kernel
theorem d_Mo_longest_54 : decode c_Mo_longest 54 = .ok (.if_icmp .gt 31, 3) := by decide +kernel
theorem d_Mo_longest_57 : decode c_Mo_longest 57 = .ok (.aload_n 0, 1) := by decide +kernel
theorem d_Mo_longest_58 : decode c_Mo_longest 58 = .ok (.iload_n 1, 1) := by decide +kernel
theorem d_Mo_longest_59 : decode c_Mo_longest 59 = .ok (.iload_n 2, 1) := by decide +kernel
theorem d_Mo_longest_60 : decode c_Mo_longest 60 = .ok (.invokevirtual 204, 3) := by decide +kernel
theorem d_Mo_longest_63 : decode c_Mo_longest 63 = .ok (.iload 4, 2) := by decide +kernel
theorem d_Mo_longest_65 : decode c_Mo_longest 65 = .ok (.ishr, 1) := by decide +kernel
theorem d_Mo_longest_66 : decode c_Mo_longest 66 = .ok (.iconst 1, 1) := by decide +kernel
theorem d_Mo_longest_67 : decode c_Mo_longest 67 = .ok (.iand, 1) := by decide +kernel
theorem d_Mo_longest_68 : decode c_Mo_longest 68 = .ok (.iconst 1, 1) := by decide +kernel
theorem d_Mo_longest_69 : decode c_Mo_longest 69 = .ok (.if_icmp .ne 8, 3) := by decide +kernel
theorem d_Mo_longest_72 : decode c_Mo_longest 72 = .ok (.iload 4, 2) := by decide +kernel
theorem d_Mo_longest_74 : decode c_Mo_longest 74 = .ok (.goto 4, 3) := by decide +kernel
theorem d_Mo_longest_77 : decode c_Mo_longest 77 = .ok (.iload_n 3, 1) := by decide +kernel
theorem d_Mo_longest_78 : decode c_Mo_longest 78 = .ok (.istore_n 3, 1) := by decide +kernel
theorem d_Mo_longest_79 : decode c_Mo_longest 79 = .ok (.iinc 4 1, 3) := by decide +kernel
theorem d_Mo_longest_82 : decode c_Mo_longest 82 = .ok (.goto (-34), 3) := by decide +kernel
theorem d_Mo_longest_85 : decode c_Mo_longest 85 = .ok (.iload_n 3, 1) := by decide +kernel
theorem d_Mo_longest_86 : decode c_Mo_longest 86 = .ok (.ireturn, 1) := by decide +kernel
theorem d_Mo_pieces_0 : decode c_Mo_pieces 0 = .ok (.aload_n 0, 1) := by decide +kernel
theorem d_Mo_pieces_1 : decode c_Mo_pieces 1 = .ok (.iconst 0, 1) := by decide +kernel
theorem d_Mo_pieces_2 : decode c_Mo_pieces 2 = .ok (.putfield 71, 3) := by decide +kernel
theorem d_Mo_pieces_5 : decode c_Mo_pieces 5 = .ok (.iload_n 1, 1) := by decide +kernel
theorem d_Mo_pieces_6 : decode c_Mo_pieces 6 = .ok (.iconst 0, 1) := by decide +kernel
theorem d_Mo_pieces_7 : decode c_Mo_pieces 7 = .ok (.aload_n 0, 1) := by decide +kernel
theorem d_Mo_pieces_8 : decode c_Mo_pieces 8 = .ok (.getfield 120, 3) := by decide +kernel
theorem d_Mo_pieces_11 : decode c_Mo_pieces 11 = .ok (.iconst 1, 1) := by decide +kernel
theorem d_Mo_pieces_12 : decode c_Mo_pieces 12 = .ok (.isub, 1) := by decide +kernel
theorem d_Mo_pieces_13 : decode c_Mo_pieces 13 = .ok (.invokestatic 74, 3) := by decide +kernel
theorem d_Mo_pieces_16 : decode c_Mo_pieces 16 = .ok (.ifCond .ne 9, 3) := by decide +kernel
theorem d_Mo_pieces_19 : decode c_Mo_pieces 19 = .ok (.aload_n 0, 1) := by decide +kernel
theorem d_Mo_pieces_20 : decode c_Mo_pieces 20 = .ok (.iconst 1, 1) := by decide +kernel
theorem d_Mo_pieces_21 : decode c_Mo_pieces 21 = .ok (.invokevirtual 78, 3) := by decide +kernel
theorem d_Mo_pieces_24 : decode c_Mo_pieces 24 = .ok (.ireturn, 1) := by decide +kernel
theorem d_Mo_pieces_25 : decode c_Mo_pieces 25 = .ok (.iconst 0, 1) := by decide +kernel
theorem d_Mo_pieces_26 : decode c_Mo_pieces 26 = .ok (.istore_n 2, 1) := by decide +kernel
theorem d_Mo_pieces_27 : decode c_Mo_pieces 27 = .ok (.iconst 0, 1) := by decide +kernel
theorem d_Mo_pieces_28 : decode c_Mo_pieces 28 = .ok (.istore_n 3, 1) := by decide +kernel
theorem d_Mo_pieces_29 : decode c_Mo_pieces 29 = .ok (.iload_n 3, 1) := by decide +kernel
theorem d_Mo_pieces_30 : decode c_Mo_pieces 30 = .ok (.aload_n 0, 1) := by decide +kernel
theorem d_Mo_pieces_31 : decode c_Mo_pieces 31 = .ok (.getfield 185, 3) := by decide +kernel
theorem d_Mo_pieces_34 : decode c_Mo_pieces 34 = .ok (.if_icmp .gt 41, 3) := by decide +kernel
theorem d_Mo_pieces_37 : decode c_Mo_pieces 37 = .ok (.iload_n 3, 1) := by decide +kernel
theorem d_Mo_pieces_38 : decode c_Mo_pieces 38 = .ok (.istore 4, 2) := by decide +kernel
theorem d_Mo_pieces_40 : decode c_Mo_pieces 40 = .ok (.iload 4, 2) := by decide +kernel
theorem d_Mo_pieces_42 : decode c_Mo_pieces 42 = .ok (.aload_n 0, 1) := by decide +kernel
theorem d_Mo_pieces_43 : decode c_Mo_pieces 43 = .ok (.getfield 185, 3) := by decide +kernel
theorem d_Mo_pieces_46 : decode c_Mo_pieces 46 = .ok (.if_icmp .gt 23, 3) := by decide +kernel
theorem d_Mo_pieces_49 : decode c_Mo_pieces 49 = .ok (.iload_n 2, 1) := by decide +kernel
theorem d_Mo_pieces_50 : decode c_Mo_pieces 50 = .ok (.aload_n 0, 1) := by decide +kernel
theorem d_Mo_pieces_51 : decode c_Mo_pieces 51 = .ok (.iload_n 1, 1) := by decide +kernel
theorem d_Mo_pieces_52 : decode c_Mo_pieces 52 = .ok (.iload_n 3, 1) := by decide +kernel
theorem d_Mo_pieces_53 : decode c_Mo_pieces 53 = .ok (.invokevirtual 204, 3) := by decide +kernel
theorem d_Mo_pieces_56 : decode c_Mo_pieces 56 = .ok (.iload 4, 2) := by decide +kernel
theorem d_Mo_pieces_58 : decode c_Mo_pieces 58 = .ok (.ishr, 1) := by decide +kernel
theorem d_Mo_pieces_59 : decode c_Mo_pieces 59 = .ok (.iconst 1, 1) := by decide +kernel
theorem d_Mo_pieces_60 : decode c_Mo_pieces 60 = .ok (.iand, 1) := by decide +kernel
theorem d_Mo_pieces_61 : decode c_Mo_pieces 61 = .ok (.iadd, 1) := by decide +kernel
theorem d_Mo_pieces_62 : decode c_Mo_pieces 62 = .ok (.istore_n 2, 1) := by decide +kernel
theorem d_Mo_pieces_63 : decode c_Mo_pieces 63 = .ok (.iinc 4 1, 3) := by decide +kernel
theorem d_Mo_pieces_66 : decode c_Mo_pieces 66 = .ok (.goto (-26), 3) := by decide +kernel
theorem d_Mo_pieces_69 : decode c_Mo_pieces 69 = .ok (.iinc 3 1, 3) := by decide +kernel
theorem d_Mo_pieces_72 : decode c_Mo_pieces 72 = .ok (.goto (-43), 3) := by decide +kernel
theorem d_Mo_pieces_75 : decode c_Mo_pieces 75 = .ok (.iload_n 2, 1) := by decide +kernel
theorem d_Mo_pieces_76 : decode c_Mo_pieces 76 = .ok (.ireturn, 1) := by decide +kernel
theorem d_Mo_here_0 : decode c_Mo_here 0 = .ok (.aload_n 0, 1) := by decide +kernel
theorem d_Mo_here_1 : decode c_Mo_here 1 = .ok (.getfield 87, 3) := by decide +kernel
theorem d_Mo_here_4 : decode c_Mo_here 4 = .ok (.aload_n 0, 1) := by decide +kernel
theorem d_Mo_here_5 : decode c_Mo_here 5 = .ok (.getfield 84, 3) := by decide +kernel
theorem d_Mo_here_8 : decode c_Mo_here 8 = .ok (.if_icmp .ge 15, 3) := by decide +kernel
theorem d_Mo_here_11 : decode c_Mo_here 11 = .ok (.aload_n 0, 1) := by decide +kernel
theorem d_Mo_here_12 : decode c_Mo_here 12 = .ok (.getfield 7, 3) := by decide +kernel
theorem d_Mo_here_15 : decode c_Mo_here 15 = .ok (.aload_n 0, 1) := by decide +kernel
theorem d_Mo_here_16 : decode c_Mo_here 16 = .ok (.getfield 87, 3) := by decide +kernel
theorem d_Mo_here_19 : decode c_Mo_here 19 = .ok (.iaload, 1) := by decide +kernel
theorem d_Mo_here_20 : decode c_Mo_here 20 = .ok (.goto 4, 3) := by decide +kernel
theorem d_Mo_here_23 : decode c_Mo_here 23 = .ok (.iconst (-1), 1) := by decide +kernel
theorem d_Mo_here_24 : decode c_Mo_here 24 = .ok (.ireturn, 1) := by decide +kernel
theorem d_Mo_letter_0 : decode c_Mo_letter 0 = .ok (.iload_n 0, 1) := by decide +kernel
theorem d_Mo_letter_1 : decode c_Mo_letter 1 = .ok (.bipush 97, 2) := by decide +kernel
theorem d_Mo_letter_3 : decode c_Mo_letter 3 = .ok (.bipush 122, 2) := by decide +kernel
theorem d_Mo_letter_5 : decode c_Mo_letter 5 = .ok (.invokestatic 74, 3) := by decide +kernel
theorem d_Mo_letter_8 : decode c_Mo_letter 8 = .ok (.ifCond .ne 14, 3) := by decide +kernel
theorem d_Mo_letter_11 : decode c_Mo_letter 11 = .ok (.iload_n 0, 1) := by decide +kernel
theorem d_Mo_letter_12 : decode c_Mo_letter 12 = .ok (.bipush 65, 2) := by decide +kernel
theorem d_Mo_letter_14 : decode c_Mo_letter 14 = .ok (.bipush 90, 2) := by decide +kernel
theorem d_Mo_letter_16 : decode c_Mo_letter 16 = .ok (.invokestatic 74, 3) := by decide +kernel
theorem d_Mo_letter_19 : decode c_Mo_letter 19 = .ok (.ifCond .eq 7, 3) := by decide +kernel
theorem d_Mo_letter_22 : decode c_Mo_letter 22 = .ok (.iconst 1, 1) := by decide +kernel
theorem d_Mo_letter_23 : decode c_Mo_letter 23 = .ok (.goto 4, 3) := by decide +kernel
theorem d_Mo_letter_26 : decode c_Mo_letter 26 = .ok (.iconst 0, 1) := by decide +kernel
theorem d_Mo_letter_27 : decode c_Mo_letter 27 = .ok (.ireturn, 1) := by decide +kernel
theorem d_Mo_wrong_0 : decode c_Mo_wrong 0 = .ok (.aload_n 0, 1) := by decide +kernel
theorem d_Mo_wrong_1 : decode c_Mo_wrong 1 = .ok (.getfield 90, 3) := by decide +kernel
theorem d_Mo_wrong_4 : decode c_Mo_wrong 4 = .ok (.ifCond .ne 13, 3) := by decide +kernel
theorem d_Mo_wrong_7 : decode c_Mo_wrong 7 = .ok (.aload_n 0, 1) := by decide +kernel
theorem d_Mo_wrong_8 : decode c_Mo_wrong 8 = .ok (.iload_n 1, 1) := by decide +kernel
theorem d_Mo_wrong_9 : decode c_Mo_wrong 9 = .ok (.putfield 90, 3) := by decide +kernel
theorem d_Mo_wrong_12 : decode c_Mo_wrong 12 = .ok (.aload_n 0, 1) := by decide +kernel
theorem d_Mo_wrong_13 : decode c_Mo_wrong 13 = .ok (.iload_n 2, 1) := by decide +kernel
theorem d_Mo_wrong_14 : decode c_Mo_wrong 14 = .ok (.putfield 13, 3) := by decide +kernel
theorem d_Mo_wrong_17 : decode c_Mo_wrong 17 = .ok (.return_, 1) := by decide +kernel
theorem d_Mo_line_0 : decode c_Mo_line 0 = .ok (.iload_n 1, 1) := by decide +kernel
theorem d_Mo_line_1 : decode c_Mo_line 1 = .ok (.istore_n 2, 1) := by decide +kernel
theorem d_Mo_line_2 : decode c_Mo_line 2 = .ok (.iload_n 2, 1) := by decide +kernel
theorem d_Mo_line_3 : decode c_Mo_line 3 = .ok (.aload_n 0, 1) := by decide +kernel
theorem d_Mo_line_4 : decode c_Mo_line 4 = .ok (.getfield 84, 3) := by decide +kernel
theorem d_Mo_line_7 : decode c_Mo_line 7 = .ok (.if_icmp .ge 52, 3) := by decide +kernel
theorem d_Mo_line_10 : decode c_Mo_line 10 = .ok (.aload_n 0, 1) := by decide +kernel
theorem d_Mo_line_11 : decode c_Mo_line 11 = .ok (.iload_n 2, 1) := by decide +kernel
theorem d_Mo_line_12 : decode c_Mo_line 12 = .ok (.invokevirtual 93, 3) := by decide +kernel
theorem d_Mo_line_15 : decode c_Mo_line 15 = .ok (.istore_n 3, 1) := by decide +kernel
theorem d_Mo_line_16 : decode c_Mo_line 16 = .ok (.iload_n 3, 1) := by decide +kernel
theorem d_Mo_line_17 : decode c_Mo_line 17 = .ok (.aload_n 0, 1) := by decide +kernel
theorem d_Mo_line_18 : decode c_Mo_line 18 = .ok (.getfield 84, 3) := by decide +kernel
theorem d_Mo_line_21 : decode c_Mo_line 21 = .ok (.if_icmp .ge 16, 3) := by decide +kernel
theorem d_Mo_line_24 : decode c_Mo_line 24 = .ok (.aload_n 0, 1) := by decide +kernel
theorem d_Mo_line_25 : decode c_Mo_line 25 = .ok (.getfield 7, 3) := by decide +kernel
theorem d_Mo_line_28 : decode c_Mo_line 28 = .ok (.iload_n 3, 1) := by decide +kernel
theorem d_Mo_line_29 : decode c_Mo_line 29 = .ok (.iaload, 1) := by decide +kernel
theorem d_Mo_line_30 : decode c_Mo_line 30 = .ok (.bipush 10, 2) := by decide +kernel
theorem d_Mo_line_32 : decode c_Mo_line 32 = .ok (.if_icmp .eq 5, 3) := by decide +kernel
theorem d_Mo_line_35 : decode c_Mo_line 35 = .ok (.iload_n 2, 1) := by decide +kernel
theorem d_Mo_line_36 : decode c_Mo_line 36 = .ok (.ireturn, 1) := by decide +kernel
theorem d_Mo_line_37 : decode c_Mo_line 37 = .ok (.iload_n 3, 1) := by decide +kernel
theorem d_Mo_line_38 : decode c_Mo_line 38 = .ok (.aload_n 0, 1) := by decide +kernel
theorem d_Mo_line_39 : decode c_Mo_line 39 = .ok (.getfield 84, 3) := by decide +kernel
theorem d_Mo_line_42 : decode c_Mo_line 42 = .ok (.if_icmp .ge 9, 3) := by decide +kernel
theorem d_Mo_line_45 : decode c_Mo_line 45 = .ok (.iload_n 3, 1) := by decide +kernel
theorem d_Mo_line_46 : decode c_Mo_line 46 = .ok (.iconst 1, 1) := by decide +kernel
theorem d_Mo_line_47 : decode c_Mo_line 47 = .ok (.iadd, 1) := by decide +kernel
theorem d_Mo_line_48 : decode c_Mo_line 48 = .ok (.goto 7, 3) := by decide +kernel
theorem d_Mo_line_51 : decode c_Mo_line 51 = .ok (.aload_n 0, 1) := by decide +kernel
theorem d_Mo_line_52 : decode c_Mo_line 52 = .ok (.getfield 84, 3) := by decide +kernel
theorem d_Mo_line_55 : decode c_Mo_line 55 = .ok (.istore_n 2, 1) := by decide +kernel
theorem d_Mo_line_56 : decode c_Mo_line 56 = .ok (.goto (-54), 3) := by decide +kernel
theorem d_Mo_line_59 : decode c_Mo_line 59 = .ok (.aload_n 0, 1) := by decide +kernel
theorem d_Mo_line_60 : decode c_Mo_line 60 = .ok (.getfield 84, 3) := by decide +kernel
theorem d_Mo_line_63 : decode c_Mo_line 63 = .ok (.ireturn, 1) := by decide +kernel
theorem d_Mo_read_0 : decode c_Mo_read 0 = .ok (.aload_n 0, 1) := by decide +kernel
theorem d_Mo_read_1 : decode c_Mo_read 1 = .ok (.iconst 0, 1) := by decide +kernel
theorem d_Mo_read_2 : decode c_Mo_read 2 = .ok (.putfield 71, 3) := by decide +kernel
theorem d_Mo_read_5 : decode c_Mo_read 5 = .ok (.aload_n 0, 1) := by decide +kernel
theorem d_Mo_read_6 : decode c_Mo_read 6 = .ok (.iconst 0, 1) := by decide +kernel
theorem d_Mo_read_7 : decode c_Mo_read 7 = .ok (.putfield 90, 3) := by decide +kernel
theorem d_Mo_read_10 : decode c_Mo_read 10 = .ok (.aload_n 0, 1) := by decide +kernel
theorem d_Mo_read_11 : decode c_Mo_read 11 = .ok (.iconst (-1), 1) := by decide +kernel
theorem d_Mo_read_12 : decode c_Mo_read 12 = .ok (.putfield 13, 3) := by decide +kernel
theorem d_Mo_read_15 : decode c_Mo_read 15 = .ok (.aload_n 0, 1) := by decide +kernel
theorem d_Mo_read_16 : decode c_Mo_read 16 = .ok (.iconst 0, 1) := by decide +kernel
theorem d_Mo_read_17 : decode c_Mo_read 17 = .ok (.putfield 120, 3) := by decide +kernel
theorem d_Mo_read_20 : decode c_Mo_read 20 = .ok (.aload_n 0, 1) := by decide +kernel
theorem d_Mo_read_21 : decode c_Mo_read 21 = .ok (.iconst 0, 1) := by decide +kernel
theorem d_Mo_read_22 : decode c_Mo_read 22 = .ok (.putfield 110, 3) := by decide +kernel
theorem d_Mo_read_25 : decode c_Mo_read 25 = .ok (.aload_n 0, 1) := by decide +kernel
theorem d_Mo_read_26 : decode c_Mo_read 26 = .ok (.iconst 0, 1) := by decide +kernel
theorem d_Mo_read_27 : decode c_Mo_read 27 = .ok (.putfield 165, 3) := by decide +kernel
theorem d_Mo_read_30 : decode c_Mo_read 30 = .ok (.aload_n 0, 1) := by decide +kernel
theorem d_Mo_read_31 : decode c_Mo_read 31 = .ok (.iconst 1, 1) := by decide +kernel
theorem d_Mo_read_32 : decode c_Mo_read 32 = .ok (.putfield 64, 3) := by decide +kernel
theorem d_Mo_read_35 : decode c_Mo_read 35 = .ok (.aload_n 0, 1) := by decide +kernel
theorem d_Mo_read_36 : decode c_Mo_read 36 = .ok (.iconst 0, 1) := by decide +kernel
theorem d_Mo_read_37 : decode c_Mo_read 37 = .ok (.putfield 142, 3) := by decide +kernel
theorem d_Mo_read_40 : decode c_Mo_read 40 = .ok (.aload_n 0, 1) := by decide +kernel
theorem d_Mo_read_41 : decode c_Mo_read 41 = .ok (.aload_n 0, 1) := by decide +kernel
theorem d_Mo_read_42 : decode c_Mo_read 42 = .ok (.iconst 0, 1) := by decide +kernel
theorem d_Mo_read_43 : decode c_Mo_read 43 = .ok (.invokevirtual 100, 3) := by decide +kernel
theorem d_Mo_read_46 : decode c_Mo_read 46 = .ok (.putfield 87, 3) := by decide +kernel
theorem d_Mo_read_49 : decode c_Mo_read 49 = .ok (.iconst 1, 1) := by decide +kernel
theorem d_Mo_read_50 : decode c_Mo_read 50 = .ok (.istore_n 1, 1) := by decide +kernel
theorem d_Mo_read_51 : decode c_Mo_read 51 = .ok (.iload_n 1, 1) := by decide +kernel
theorem d_Mo_read_52 : decode c_Mo_read 52 = .ok (.ifCond .eq 98, 3) := by decide +kernel
theorem d_Mo_read_55 : decode c_Mo_read 55 = .ok (.aload_n 0, 1) := by decide +kernel
theorem d_Mo_read_56 : decode c_Mo_read 56 = .ok (.getfield 90, 3) := by decide +kernel
theorem d_Mo_read_59 : decode c_Mo_read 59 = .ok (.ifCond .ne 91, 3) := by decide +kernel
theorem d_Mo_read_62 : decode c_Mo_read 62 = .ok (.aload_n 0, 1) := by decide +kernel
theorem d_Mo_read_63 : decode c_Mo_read 63 = .ok (.invokevirtual 96, 3) := by decide +kernel
theorem d_Mo_read_66 : decode c_Mo_read 66 = .ok (.invokestatic 103, 3) := by decide +kernel
theorem d_Mo_read_69 : decode c_Mo_read 69 = .ok (.ifCond .eq 10, 3) := by decide +kernel
theorem d_Mo_read_72 : decode c_Mo_read 72 = .ok (.aload_n 0, 1) := by decide +kernel
theorem d_Mo_read_73 : decode c_Mo_read 73 = .ok (.invokevirtual 180, 3) := by decide +kernel
theorem d_Mo_read_76 : decode c_Mo_read 76 = .ok (.goto 12, 3) := by decide +kernel
theorem d_Mo_read_79 : decode c_Mo_read 79 = .ok (.aload_n 0, 1) := by decide +kernel
theorem d_Mo_read_80 : decode c_Mo_read 80 = .ok (.iconst 1, 1) := by decide +kernel
theorem d_Mo_read_81 : decode c_Mo_read 81 = .ok (.aload_n 0, 1) := by decide +kernel
theorem d_Mo_read_82 : decode c_Mo_read 82 = .ok (.getfield 87, 3) := by decide +kernel
theorem d_Mo_read_85 : decode c_Mo_read 85 = .ok (.invokevirtual 113, 3) := by decide +kernel
theorem d_Mo_read_88 : decode c_Mo_read 88 = .ok (.aload_n 0, 1) := by decide +kernel
theorem d_Mo_read_89 : decode c_Mo_read 89 = .ok (.getfield 90, 3) := by decide +kernel
theorem d_Mo_read_92 : decode c_Mo_read 92 = .ok (.ifCond .ne 35, 3) := by decide +kernel
theorem d_Mo_read_95 : decode c_Mo_read 95 = .ok (.aload_n 0, 1) := by decide +kernel
theorem d_Mo_read_96 : decode c_Mo_read 96 = .ok (.getfield 87, 3) := by decide +kernel
theorem d_Mo_read_99 : decode c_Mo_read 99 = .ok (.aload_n 0, 1) := by decide +kernel
theorem d_Mo_read_100 : decode c_Mo_read 100 = .ok (.getfield 84, 3) := by decide +kernel
theorem d_Mo_read_103 : decode c_Mo_read 103 = .ok (.if_icmp .ge 24, 3) := by decide +kernel
theorem d_Mo_read_106 : decode c_Mo_read 106 = .ok (.aload_n 0, 1) := by decide +kernel
theorem d_Mo_read_107 : decode c_Mo_read 107 = .ok (.aload_n 0, 1) := by decide +kernel
theorem d_Mo_read_108 : decode c_Mo_read 108 = .ok (.getfield 87, 3) := by decide +kernel
theorem d_Mo_read_111 : decode c_Mo_read 111 = .ok (.iconst 1, 1) := by decide +kernel
theorem d_Mo_read_112 : decode c_Mo_read 112 = .ok (.iadd, 1) := by decide +kernel
theorem d_Mo_read_113 : decode c_Mo_read 113 = .ok (.invokevirtual 100, 3) := by decide +kernel
theorem d_Mo_read_116 : decode c_Mo_read 116 = .ok (.aload_n 0, 1) := by decide +kernel
theorem d_Mo_read_117 : decode c_Mo_read 117 = .ok (.getfield 84, 3) := by decide +kernel
theorem d_Mo_read_120 : decode c_Mo_read 120 = .ok (.if_icmp .ge 7, 3) := by decide +kernel
theorem d_Mo_read_123 : decode c_Mo_read 123 = .ok (.iconst 1, 1) := by decide +kernel
theorem d_Mo_read_124 : decode c_Mo_read 124 = .ok (.goto 4, 3) := by decide +kernel
theorem d_Mo_read_127 : decode c_Mo_read 127 = .ok (.iconst 0, 1) := by decide +kernel
theorem d_Mo_read_128 : decode c_Mo_read 128 = .ok (.istore_n 1, 1) := by decide +kernel
theorem d_Mo_read_129 : decode c_Mo_read 129 = .ok (.iload_n 1, 1) := by decide +kernel
theorem d_Mo_read_130 : decode c_Mo_read 130 = .ok (.ifCond .eq (-79), 3) := by decide +kernel
theorem d_Mo_read_133 : decode c_Mo_read 133 = .ok (.aload_n 0, 1) := by decide +kernel
theorem d_Mo_read_134 : decode c_Mo_read 134 = .ok (.aload_n 0, 1) := by decide +kernel
theorem d_Mo_read_135 : decode c_Mo_read 135 = .ok (.aload_n 0, 1) := by decide +kernel
theorem d_Mo_read_136 : decode c_Mo_read 136 = .ok (.getfield 87, 3) := by decide +kernel
theorem d_Mo_read_139 : decode c_Mo_read 139 = .ok (.iconst 1, 1) := by decide +kernel
theorem d_Mo_read_140 : decode c_Mo_read 140 = .ok (.iadd, 1) := by decide +kernel
theorem d_Mo_read_141 : decode c_Mo_read 141 = .ok (.invokevirtual 100, 3) := by decide +kernel
theorem d_Mo_read_144 : decode c_Mo_read 144 = .ok (.putfield 87, 3) := by decide +kernel
theorem d_Mo_read_147 : decode c_Mo_read 147 = .ok (.goto (-96), 3) := by decide +kernel
theorem d_Mo_read_150 : decode c_Mo_read 150 = .ok (.aload_n 0, 1) := by decide +kernel
theorem d_Mo_read_151 : decode c_Mo_read 151 = .ok (.getfield 90, 3) := by decide +kernel
theorem d_Mo_read_154 : decode c_Mo_read 154 = .ok (.ifCond .ne 8, 3) := by decide +kernel
theorem d_Mo_read_157 : decode c_Mo_read 157 = .ok (.aload_n 0, 1) := by decide +kernel
theorem d_Mo_read_158 : decode c_Mo_read 158 = .ok (.getfield 120, 3) := by decide +kernel
theorem d_Mo_read_161 : decode c_Mo_read 161 = .ok (.ireturn, 1) := by decide +kernel
theorem d_Mo_read_162 : decode c_Mo_read 162 = .ok (.aload_n 0, 1) := by decide +kernel
theorem d_Mo_read_163 : decode c_Mo_read 163 = .ok (.iconst 0, 1) := by decide +kernel
theorem d_Mo_read_164 : decode c_Mo_read 164 = .ok (.putfield 120, 3) := by decide +kernel
theorem d_Mo_read_167 : decode c_Mo_read 167 = .ok (.aload_n 0, 1) := by decide +kernel
theorem d_Mo_read_168 : decode c_Mo_read 168 = .ok (.iconst 0, 1) := by decide +kernel
theorem d_Mo_read_169 : decode c_Mo_read 169 = .ok (.putfield 110, 3) := by decide +kernel
theorem d_Mo_read_172 : decode c_Mo_read 172 = .ok (.aload_n 0, 1) := by decide +kernel
theorem d_Mo_read_173 : decode c_Mo_read 173 = .ok (.aload_n 0, 1) := by decide +kernel
theorem d_Mo_read_174 : decode c_Mo_read 174 = .ok (.getfield 90, 3) := by decide +kernel
theorem d_Mo_read_177 : decode c_Mo_read 177 = .ok (.invokevirtual 78, 3) := by decide +kernel
theorem d_Mo_read_180 : decode c_Mo_read 180 = .ok (.ireturn, 1) := by decide +kernel
theorem and255 (w : Int64) : ∃ m : Nat, m < 256 ∧ w &&& 255 = lN m := by
  refine ⟨(w &&& 255).toBitVec.toNat, ?_, ?_⟩
  · show (w.toBitVec &&& (255 : Int64).toBitVec).toNat < 256
    rw [BitVec.toNat_and]
    exact Nat.lt_of_le_of_lt Nat.and_le_right (by decide)
  · apply Int64.toBitVec_inj.mp
    show _ = BitVec.ofNat 64 _
    rw [BitVec.ofNat_toNat, BitVec.setWidth_eq]
theorem sh_l : ∀ k, k < 8 → ((8 * nI k).toInt64 &&& 63).toBitVec.smod 64 = BitVec.ofNat 64 (8 * k) := by decide +kernel
theorem sh_u : ∀ k, k < 8 → ((8 * nI k).toInt64.toUInt64 &&& Int64.toUInt64 63).toBitVec % 64 = BitVec.ofNat 64 (8 * k) := by decide +kernel
theorem b255 : ∀ j, j < 64 → (255#64).getLsbD j = decide (j < 8) := by decide +kernel
theorem bm_by (x : Int64) {i : Nat} (h : i < 8) : bm8 x (nI i) = by8 x (nI i) := by
  unfold bm8 by8
  congr 1
  apply Int64.toBitVec_inj.mp
  show (x >>> ((8 * nI i).toInt64 &&& 63)).toBitVec &&& 255#64 = (x.toUInt64 >>> ((8 * nI i).toInt64.toUInt64 &&& Int64.toUInt64 63)).toBitVec &&& 255#64
  rw [Int64.toBitVec_shiftRight, UInt64.toBitVec_shiftRight, sh_l i h, sh_u i h]
  apply BitVec.eq_of_getLsbD_eq
  intro j hj
  rw [BitVec.getLsbD_and, BitVec.getLsbD_and, b255 j hj]
  by_cases h8 : j < 8
  · have e1 : (BitVec.ofNat 64 (8 * i)).toNat = 8 * i := by rw [BitVec.toNat_ofNat]; omega
    rw [BitVec.sshiftRight', e1, BitVec.getLsbD_sshiftRight, BitVec.ushiftRight_eq', BitVec.getLsbD_ushiftRight, e1, if_pos (by omega)]
    have : x.toUInt64.toBitVec = x.toBitVec := rfl
    simp [this, h8, hj]
  · simp [h8]
theorem no_rule (i : Int32) {j : Int32} (hR : j = 0) : i < 0 ∨ j - 1 < i := by
  subst hR
  by_cases q : i < 0
  · exact Or.inl q
  · refine Or.inr ?_
    rw [Int32.lt_iff_toInt_lt] at q ⊢
    have e0 : (0 : Int32).toInt = 0 := by decide
    have e1 : (0 - 1 : Int32).toInt = -1 := by decide
    omega
theorem cmp128 (w : Int64) : (¬ lg_cmp (w &&& 255) 128 < 0 → okI (w &&& 255).toInt32 = false) ∧ (lg_cmp (w &&& 255) 128 < 0 → okI (w &&& 255).toInt32 = true) := by
  obtain ⟨m, hm, e⟩ := and255 w
  rw [e, lN_i]
  have h1 : (128 : Int64) = lN 128 := rfl
  have h2 : okI (nI m) = decide (m ≤ 127) := by
    unfold okI
    rw [show (127 : Int32) = nI 127 from rfl]
    exact decide_eq_decide.mpr (nI_leI (by omega) (by decide))
  rw [h2, h1]
  unfold lg_cmp
  by_cases q : 128 < m
  · rw [if_pos ((lN_lt (by decide) (by omega)).mpr q)]
    exact ⟨fun _ => by simp; omega, fun z => absurd z (by decide)⟩
  · rw [if_neg (fun z => q ((lN_lt (by decide) (by omega)).mp z))]
    by_cases q2 : m = 128
    · subst q2
      rw [if_pos rfl]
      exact ⟨fun _ => by decide, fun z => absurd z (by decide)⟩
    · rw [if_neg (fun z => q2 ((lN_eq (by omega) (by decide)).mp z))]
      exact ⟨fun z => absurd (by decide) z, fun _ => by simp; omega⟩
set_option maxHeartbeats 4000000 in
set_option maxRecDepth 100000 in
theorem m_Mo_give (l : Launch) {D : va_G} {cy : Nat → ClassId} {sz n : Nat} {ad : Nat → Nat} {mem : Nat → va_E} {J : Nat → Int32} {Z : Nat} {f : Nat → Int32} {x : Int64} {k : Int32} (hn : 242 ≤ n) (h4 : mem 224 = moC ad J) (hJ : J 24 = nI Z) (hZ : Z ≤ 24) (h5 : mem 240 = .inl (cy 1, 24, .inl f)) : MI l D cy sz n ad y_Mo_give c_Mo_give 6 (some .int) ({ frames := 1, cells := 0, slots := 0, locals := 30 } : Room) mem [.ref (ad 224), .long (x), .int (k)] (fun r mem' => ((k < 1 ∨ 8 < k) ∧ r = 0 ∧ ∃ J' : Nat → Int32, mem' = va_up mem 224 (moC ad J') ∧ J1 J J' 1) ∨ ∃ M : Nat, k = nI M ∧ 1 ≤ M ∧ M ≤ 8 ∧ ((allB (fun i => okI (bm8 x (nI i))) M = false ∧ r = 0 ∧ ∃ J' : Nat → Int32, mem' = va_up mem 224 (moC ad J') ∧ J1 J J' 1) ∨ (allB (fun i => okI (bm8 x (nI i))) M = true ∧ 24 < Z + M ∧ r = 0 ∧ ∃ J' : Nat → Int32, mem' = va_up mem 224 (moC ad J') ∧ J1 J J' 2) ∨ (allB (fun i => okI (bm8 x (nI i))) M = true ∧ Z + M ≤ 24 ∧ r = nI (Z + M) ∧ ∃ J' : Nat → Int32, mem' = va_up (va_up mem 240 (.inl (cy 1, 24, .inl (apM f Z x M)))) 224 (moC ad J') ∧ J' 0 = 0 ∧ J' 24 = nI (Z + M) ∧ J' 26 = 1 ∧ ∀ i, i ≠ 0 → i ≠ 24 → i ≠ 26 → J' i = J i))) := by
  refine Met.ofW (cc := c_Mo_give) (maxL := 6) (ret := (some .int)) (by decide) rfl ?_
  intro p e s m args below meth c s₁ B hml hv
  obtain ⟨rfl, E, hP, hD⟩ := hv
  have hx := B.exec
  have hb := B.bytes
  have hr := B.returns
  have hlocks := B.notSynchronized
  have Bx : MB p s m [.ref (ad 224), .long (x), .int (k)].toArray c c_Mo_give "AbnfChartModel" D cy := ⟨hx, hb, tb_all (atoms_spec B.pre) E.2.1, findClass_of_methodNamed B.named, E.1⟩
  have hS : va_S (Az sz) s.heap s.heap [] := va_S.rf
  have hl := lv_entry ([.ref (ad 224), .long (x), .int (k)]) (n := 6) (Nat.le_of_ble_eq_true rfl)
  rw [lg_entry_eq]
  generalize (lg_sl ([.ref (ad 224), .long (x), .int (k)]) ++ List.replicate (6 - (lg_sl ([.ref (ad 224), .long (x), .int (k)])).length) Slot.unset).toArray = ls at hl ⊢
  have hl : lv_has ls 6 [(0, .ref (ad 224)), (1, .long (x)), (3, .int (k))] := hl
  refine lv_aload_n Bx.1 Bx.2.1 d_Mo_give_0 rfl (lv_at hl 0 rfl) ?_
  refine lv_iconst (v := 0) Bx.1 Bx.2.1 d_Mo_give_1 (by decide) ?_
  refine f_put Bx hP hD hS (by omega) h4 rfl inMo tyMo okMo nmMo 0 (by decide) kw_656 rfl rfl rfl rfl (Nat.le_of_ble_eq_true rfl) d_Mo_give_2 (fun H locs hP hS => ?_)
  obtain ⟨mem1, e_mem1⟩ : ∃ z, z = va_up mem (224) (.inr (7, [.int (0), .int (J 1), .ref (ad 225), .int (J 3), .int (J 4), .ref (ad 226), .ref (ad 227), .int (J 7), .ref (ad 228), .ref (ad 229), .ref (ad 230), .ref (ad 231), .ref (ad 232), .ref (ad 233), .int (J 14), .ref (ad 234), .int (J 16), .int (J 17), .int (J 18), .ref (ad 235), .ref (ad 236), .ref (ad 237), .ref (ad 238), .ref (ad 239), .int (J 24), .ref (ad 240), .int (J 26), .ref (ad 241), .int (J 28)])) := ⟨_, rfl⟩
  have hP : va_P D vcl (fw n ad mem1) H := by rw [e_mem1]; exact hP
  have hD : va_D (Az sz) (fw n ad mem1) := fw_D hD
  have h_mem1 : mem1 (224) = .inr (7, [.int (0), .int (J 1), .ref (ad 225), .int (J 3), .int (J 4), .ref (ad 226), .ref (ad 227), .int (J 7), .ref (ad 228), .ref (ad 229), .ref (ad 230), .ref (ad 231), .ref (ad 232), .ref (ad 233), .int (J 14), .ref (ad 234), .int (J 16), .int (J 17), .int (J 18), .ref (ad 235), .ref (ad 236), .ref (ad 237), .ref (ad 238), .ref (ad 239), .int (J 24), .ref (ad 240), .int (J 26), .ref (ad 241), .int (J 28)]) := by rw [e_mem1, va_up_self]
  have hJ0 : mem1 224 = moC ad (va_up J 0 0) := h_mem1
  have h51 : mem1 240 = .inl (cy 1, 24, .inl f) := by rw [e_mem1, va_up_ne _ _ (by decide)]; exact h5
  refine lv_iload_n Bx.1 Bx.2.1 d_Mo_give_5 rfl (lv_at hl 2 rfl) ?_
  refine lv_iconst (v := 1) Bx.1 Bx.2.1 d_Mo_give_6 (by decide) ?_
  refine lv_bipush (v := 8) Bx.1 Bx.2.1 d_Mo_give_7 (by decide) ?_
  refine f_callSi (na := 3) (As := [.int (k), .int (1), .int (8)]) (rest := []) Bx hml E.2.1 (m_Mo_within l k 1 8) kw_750 kw_751 kw_8 kw_752 (by decide +kernel) ⟨rfl, rfl⟩ ⟨Nat.le_of_ble_eq_true rfl, Nat.le_of_ble_eq_true rfl⟩ rfl hl.1 (Nat.le_of_ble_eq_true rfl) d_Mo_give_9 ⟨Nat.le_of_ble_eq_true rfl, Nat.le_of_ble_eq_true rfl⟩ (fun r2 hr1 => ?_)
  subst hr1
  refine lv_if_ne Bx.1 Bx.2.1 d_Mo_give_12 rfl (fun h => ?_) (fun h => ?_)
  · obtain ⟨N, hN1, hN8, rfl⟩ := bc_ok h
    refine lv_iconst (v := 1) Bx.1 Bx.2.1 d_Mo_give_21 (by decide) ?_
    refine lv_istore (lv' := [(4, .int (1)), (0, .ref (ad 224)), (1, .long (x)), (3, .int (nI N))]) Bx.1 Bx.2.1 d_Mo_give_22 hl (by decide) rfl (fun ls hl => ?_)
    refine lv_iconst (v := 0) Bx.1 Bx.2.1 d_Mo_give_24 (by decide) ?_
    refine lv_istore (lv' := [(5, .int (0)), (4, .int (1)), (0, .ref (ad 224)), (1, .long (x)), (3, .int (nI N))]) Bx.1 Bx.2.1 d_Mo_give_25 hl (by decide) rfl (fun ls hl => ?_)
    have loop2 : ∀ (d k : Nat) (ls : Array Slot) (H : Heap) (locs : List Loc), k + d = N → allB (fun i => okI (bm8 x (nI i))) N = true → Z + N ≤ 24 → lv_has ls 6 [(5, .int (nI k)), (0, .ref (ad 224)), (1, .long (x)), (3, .int (nI N))] → va_P D vcl (fw n ad (va_up mem1 240 (.inl (cy 1, 24, .inl (apM f Z x k))))) H → va_S (Az sz) s.heap H locs → W p l e (headSpec (Cond.code y_Mo_give c_Mo_give 6 (some .int) :: tg) ({ frames := 1, cells := 0, slots := 0, locals := 30 } : Room)).room s m [.ref (ad 224), .long (x), .int (nI N)].toArray below meth c H locs 0 0 (MQ below (va_Qi (fun r mem' => (((nI N) < 1 ∨ 8 < (nI N)) ∧ r = 0 ∧ ∃ J' : Nat → Int32, mem' = va_up mem 224 (moC ad J') ∧ J1 J J' 1) ∨ ∃ M : Nat, (nI N) = nI M ∧ 1 ≤ M ∧ M ≤ 8 ∧ ((allB (fun i => okI (bm8 x (nI i))) M = false ∧ r = 0 ∧ ∃ J' : Nat → Int32, mem' = va_up mem 224 (moC ad J') ∧ J1 J J' 1) ∨ (allB (fun i => okI (bm8 x (nI i))) M = true ∧ 24 < Z + M ∧ r = 0 ∧ ∃ J' : Nat → Int32, mem' = va_up mem 224 (moC ad J') ∧ J1 J J' 2) ∨ (allB (fun i => okI (bm8 x (nI i))) M = true ∧ Z + M ≤ 24 ∧ r = nI (Z + M) ∧ ∃ J' : Nat → Int32, mem' = va_up (va_up mem 240 (.inl (cy 1, 24, .inl (apM f Z x M)))) 224 (moC ad J') ∧ J' 0 = 0 ∧ J' 24 = nI (Z + M) ∧ J' 26 = 1 ∧ ∀ i, i ≠ 0 → i ≠ 24 → i ≠ 26 → J' i = J i))) (PP D n ad) (Az sz)) [.ref (ad 224), .long (x), .int (nI N)].toArray s 0 0 (Az sz)) (F0 m 100 ls []) := by
      intro d
      induction d with
      | zero =>
        intro k ls H locs hk ha hroom hl hP hS
        obtain rfl : k = N := by omega
        have hD : va_D (Az sz) (fw n ad (va_up mem1 240 (.inl (cy 1, 24, .inl (apM f Z x k))))) := fw_D hD
        have h4k : (va_up mem1 240 (.inl (cy 1, 24, .inl (apM f Z x k)))) 224 = moC ad (va_up J 0 0) := by rw [va_up_ne _ _ (by decide)]; exact hJ0
        have h5k : (va_up mem1 240 (.inl (cy 1, 24, .inl (apM f Z x k)))) 240 = .inl (cy 1, 24, .inl (apM f Z x k)) := va_up_self _ _ _
        refine lv_iload Bx.1 Bx.2.1 d_Mo_give_100 (lv_at hl 0 rfl) ?_
        refine lv_iload_n Bx.1 Bx.2.1 d_Mo_give_102 rfl (lv_at hl 3 rfl) ?_
        refine lv_icmp_ge Bx.1 Bx.2.1 d_Mo_give_103 rfl (fun h => ?_) (fun h => ?_)
        · refine lv_aload_n Bx.1 Bx.2.1 d_Mo_give_136 rfl (lv_at hl 1 rfl) ?_
          refine lv_dup Bx.1 Bx.2.1 d_Mo_give_137 rfl ?_
          refine f_get Bx hP (by omega) h4k rfl inMo 24 (by decide) kw_680 rfl rfl d_Mo_give_138 ?_
          refine lv_iload_n Bx.1 Bx.2.1 d_Mo_give_141 rfl (lv_at hl 3 rfl) ?_
          refine lv_iadd Bx.1 Bx.2.1 d_Mo_give_142 ?_
          rw [show (va_up J 0 0) 24 = nI Z from hJ, nI_add]
          refine f_put Bx hP hD hS (by omega) h4k rfl inMo tyMo okMo nmMo 24 (by decide) kw_680 rfl rfl rfl rfl (Nat.le_of_ble_eq_true rfl) d_Mo_give_143 (fun H locs hP hS => ?_)
          obtain ⟨mem3, e_mem3⟩ : ∃ z, z = va_up (va_up mem1 240 (.inl (cy 1, 24, .inl (apM f Z x k)))) (224) (.inr (7, [.int (0), .int (J 1), .ref (ad 225), .int (J 3), .int (J 4), .ref (ad 226), .ref (ad 227), .int (J 7), .ref (ad 228), .ref (ad 229), .ref (ad 230), .ref (ad 231), .ref (ad 232), .ref (ad 233), .int (J 14), .ref (ad 234), .int (J 16), .int (J 17), .int (J 18), .ref (ad 235), .ref (ad 236), .ref (ad 237), .ref (ad 238), .ref (ad 239), .int (nI (Z + k)), .ref (ad 240), .int (J 26), .ref (ad 241), .int (J 28)])) := ⟨_, rfl⟩
          have hP : va_P D vcl (fw n ad mem3) H := by rw [e_mem3]; exact hP
          have hD : va_D (Az sz) (fw n ad mem3) := fw_D hD
          have h_mem3 : mem3 (224) = .inr (7, [.int (0), .int (J 1), .ref (ad 225), .int (J 3), .int (J 4), .ref (ad 226), .ref (ad 227), .int (J 7), .ref (ad 228), .ref (ad 229), .ref (ad 230), .ref (ad 231), .ref (ad 232), .ref (ad 233), .int (J 14), .ref (ad 234), .int (J 16), .int (J 17), .int (J 18), .ref (ad 235), .ref (ad 236), .ref (ad 237), .ref (ad 238), .ref (ad 239), .int (nI (Z + k)), .ref (ad 240), .int (J 26), .ref (ad 241), .int (J 28)]) := by rw [e_mem3, va_up_self]
          refine lv_aload_n Bx.1 Bx.2.1 d_Mo_give_146 rfl (lv_at hl 1 rfl) ?_
          refine lv_iconst (v := 1) Bx.1 Bx.2.1 d_Mo_give_147 (by decide) ?_
          refine f_put Bx hP hD hS (by omega) h_mem3 rfl inMo tyMo okMo nmMo 26 (by decide) kw_682 rfl rfl rfl rfl (Nat.le_of_ble_eq_true rfl) d_Mo_give_148 (fun H locs hP hS => ?_)
          obtain ⟨mem4, e_mem4⟩ : ∃ z, z = va_up mem3 (224) (.inr (7, [.int (0), .int (J 1), .ref (ad 225), .int (J 3), .int (J 4), .ref (ad 226), .ref (ad 227), .int (J 7), .ref (ad 228), .ref (ad 229), .ref (ad 230), .ref (ad 231), .ref (ad 232), .ref (ad 233), .int (J 14), .ref (ad 234), .int (J 16), .int (J 17), .int (J 18), .ref (ad 235), .ref (ad 236), .ref (ad 237), .ref (ad 238), .ref (ad 239), .int (nI (Z + k)), .ref (ad 240), .int (1), .ref (ad 241), .int (J 28)])) := ⟨_, rfl⟩
          have hP : va_P D vcl (fw n ad mem4) H := by rw [e_mem4]; exact hP
          have hD : va_D (Az sz) (fw n ad mem4) := fw_D hD
          have h_mem4 : mem4 (224) = .inr (7, [.int (0), .int (J 1), .ref (ad 225), .int (J 3), .int (J 4), .ref (ad 226), .ref (ad 227), .int (J 7), .ref (ad 228), .ref (ad 229), .ref (ad 230), .ref (ad 231), .ref (ad 232), .ref (ad 233), .int (J 14), .ref (ad 234), .int (J 16), .int (J 17), .int (J 18), .ref (ad 235), .ref (ad 236), .ref (ad 237), .ref (ad 238), .ref (ad 239), .int (nI (Z + k)), .ref (ad 240), .int (1), .ref (ad 241), .int (J 28)]) := by rw [e_mem4, va_up_self]
          refine lv_aload_n Bx.1 Bx.2.1 d_Mo_give_151 rfl (lv_at hl 1 rfl) ?_
          refine f_get Bx hP (by omega) h_mem4 rfl inMo 24 (by decide) kw_680 rfl rfl d_Mo_give_152 ?_
          exact W.iret (v := nI (Z + k)) hx hb hr (fun t ht hW => ⟨⟨nI (Z + k), mem4, rfl, Or.inr ⟨k, rfl, hN1, hN8, Or.inr (Or.inr ⟨ha, hroom, rfl, ⟨(va_up (va_up (va_up J 0 0) 24 (nI (Z + k))) 26 1), by rw [e_mem4, e_mem3, up_up, e_mem1, up_sw mem _ _ (show (224 : Nat) ≠ 240 by decide), up_up]; rfl, rfl, rfl, rfl, fun i a b c => by rw [va_up_ne _ _ c, va_up_ne _ _ b, va_up_ne _ _ a]⟩⟩)⟩, by show va_P _ _ _ t.heap; rw [ht]; exact hP⟩, hS.F ht⟩) hS.2.2 d_Mo_give_155
        · exact absurd (nI_le (Nat.le_refl k) (by omega)) h
      | succ d ih =>
        intro k ls H locs hk ha hroom hl hP hS
        have hD : va_D (Az sz) (fw n ad (va_up mem1 240 (.inl (cy 1, 24, .inl (apM f Z x k))))) := fw_D hD
        have h4k : (va_up mem1 240 (.inl (cy 1, 24, .inl (apM f Z x k)))) 224 = moC ad (va_up J 0 0) := by rw [va_up_ne _ _ (by decide)]; exact hJ0
        have h5k : (va_up mem1 240 (.inl (cy 1, 24, .inl (apM f Z x k)))) 240 = .inl (cy 1, 24, .inl (apM f Z x k)) := va_up_self _ _ _
        refine lv_iload Bx.1 Bx.2.1 d_Mo_give_100 (lv_at hl 0 rfl) ?_
        refine lv_iload_n Bx.1 Bx.2.1 d_Mo_give_102 rfl (lv_at hl 3 rfl) ?_
        refine lv_icmp_ge Bx.1 Bx.2.1 d_Mo_give_103 rfl (fun h => ?_) (fun h => ?_)
        · exact absurd h (nI_ge (by omega) (by omega))
        · refine lv_aload_n Bx.1 Bx.2.1 d_Mo_give_106 rfl (lv_at hl 1 rfl) ?_
          refine f_get Bx hP (by omega) h4k rfl inMo 25 (by decide) kw_681 rfl rfl d_Mo_give_107 ?_
          refine lv_aload_n Bx.1 Bx.2.1 d_Mo_give_110 rfl (lv_at hl 1 rfl) ?_
          refine f_get Bx hP (by omega) h4k rfl inMo 24 (by decide) kw_680 rfl rfl d_Mo_give_111 ?_
          refine lv_iload Bx.1 Bx.2.1 d_Mo_give_114 (lv_at hl 0 rfl) ?_
          refine lv_iadd Bx.1 Bx.2.1 d_Mo_give_116 ?_
          rw [show (va_up J 0 0) 24 = nI Z from hJ, nI_add]
          refine lv_lload_n Bx.1 Bx.2.1 d_Mo_give_117 rfl (lv_at hl 2 rfl) ?_
          refine lv_bipush (v := 8) Bx.1 Bx.2.1 d_Mo_give_118 (by decide) ?_
          refine lv_iload Bx.1 Bx.2.1 d_Mo_give_120 (lv_at hl 0 rfl) ?_
          refine lv_imul Bx.1 Bx.2.1 d_Mo_give_122 ?_
          refine lv_lshr Bx.1 Bx.2.1 d_Mo_give_123 rfl ?_
          refine lv_ldc2 Bx.1 Bx.2.1 Bx.2.2.2.1 (Bx.2.2.1 _ (tb_g kw_757 rfl)) d_Mo_give_124 ?_
          refine lv_land Bx.1 Bx.2.1 d_Mo_give_127 ?_
          refine lv_l2i Bx.1 Bx.2.1 d_Mo_give_128 rfl ?_
          refine f_iast (x := bm8 x (nI k)) (i := nI (Z + k)) Bx hP hD hS (by omega) h5k (vp_in_nI (by omega) (by decide)) d_Mo_give_129 (fun H locs hP hS => ?_)
          rw [nI_clamp (by omega), apM_s, up_up] at hP
          refine lv_iinc (lv' := [(5, .int ((nI k + (1)))), (0, .ref (ad 224)), (1, .long (x)), (3, .int (nI N))]) Bx.1 Bx.2.1 d_Mo_give_130 hl (k := 0) rfl rfl (by decide) rfl (fun ls hl => ?_)
          refine lv_goto Bx.1 Bx.2.1 d_Mo_give_133 rfl ?_
          exact ih (k + 1) ls H locs (by omega) ha hroom (by rw [nI_succ]; exact (lv_sub hl [0, 1, 2, 3] rfl)) hP hS
    have tail : ∀ ls : Array Slot, lv_has ls 6 [(4, .int (if allB (fun i => okI (bm8 x (nI i))) N then 1 else 0)), (0, .ref (ad 224)), (1, .long (x)), (3, .int (nI N))] → W p l e (headSpec (Cond.code y_Mo_give c_Mo_give 6 (some .int) :: tg) ({ frames := 1, cells := 0, slots := 0, locals := 30 } : Room)).room s m [.ref (ad 224), .long (x), .int (nI N)].toArray below meth c H locs 0 0 (MQ below (va_Qi (fun r mem' => (((nI N) < 1 ∨ 8 < (nI N)) ∧ r = 0 ∧ ∃ J' : Nat → Int32, mem' = va_up mem 224 (moC ad J') ∧ J1 J J' 1) ∨ ∃ M : Nat, (nI N) = nI M ∧ 1 ≤ M ∧ M ≤ 8 ∧ ((allB (fun i => okI (bm8 x (nI i))) M = false ∧ r = 0 ∧ ∃ J' : Nat → Int32, mem' = va_up mem 224 (moC ad J') ∧ J1 J J' 1) ∨ (allB (fun i => okI (bm8 x (nI i))) M = true ∧ 24 < Z + M ∧ r = 0 ∧ ∃ J' : Nat → Int32, mem' = va_up mem 224 (moC ad J') ∧ J1 J J' 2) ∨ (allB (fun i => okI (bm8 x (nI i))) M = true ∧ Z + M ≤ 24 ∧ r = nI (Z + M) ∧ ∃ J' : Nat → Int32, mem' = va_up (va_up mem 240 (.inl (cy 1, 24, .inl (apM f Z x M)))) 224 (moC ad J') ∧ J' 0 = 0 ∧ J' 24 = nI (Z + M) ∧ J' 26 = 1 ∧ ∀ i, i ≠ 0 → i ≠ 24 → i ≠ 26 → J' i = J i))) (PP D n ad) (Az sz)) [.ref (ad 224), .long (x), .int (nI N)].toArray s 0 0 (Az sz)) (F0 m 69 ls []) := by
      intro ls hl
      refine lv_iload Bx.1 Bx.2.1 d_Mo_give_69 (lv_at hl 0 rfl) ?_
      refine lv_if_ne Bx.1 Bx.2.1 d_Mo_give_71 rfl (fun h2 => ?_) (fun h2 => ?_)
      · have ha := if01n h2
        refine lv_aload_n Bx.1 Bx.2.1 d_Mo_give_80 rfl (lv_at hl 1 rfl) ?_
        refine f_get Bx hP (by omega) hJ0 rfl inMo 24 (by decide) kw_680 rfl rfl d_Mo_give_81 ?_
        refine lv_iload_n Bx.1 Bx.2.1 d_Mo_give_84 rfl (lv_at hl 3 rfl) ?_
        refine lv_iadd Bx.1 Bx.2.1 d_Mo_give_85 ?_
        refine lv_bipush (v := 24) Bx.1 Bx.2.1 d_Mo_give_86 (by decide) ?_
        refine lv_icmp_le Bx.1 Bx.2.1 d_Mo_give_88 rfl (fun h3 => ?_) (fun h3 => ?_)
        · have hroom : Z + N ≤ 24 := by rw [show (va_up J 0 0) 24 = nI Z from hJ, nI_add, show (24 : Int32) = nI 24 from rfl, nI_leI (by omega) (by decide)] at h3; exact h3
          refine lv_iconst (v := 0) Bx.1 Bx.2.1 d_Mo_give_97 (by decide) ?_
          refine lv_istore (lv' := [(5, .int (0)), (4, .int (if allB (fun i => okI (bm8 x (nI i))) N then 1 else 0)), (0, .ref (ad 224)), (1, .long (x)), (3, .int (nI N))]) Bx.1 Bx.2.1 d_Mo_give_98 hl (by decide) rfl (fun ls hl => ?_)
          exact loop2 N 0 ls _ _ (by omega) ha hroom (lv_sub hl [0, 2, 3, 4] rfl) (by rw [apM_0, up_id mem1 h51]; exact hP) hS
        · have hroom : 24 < Z + N := by rw [show (va_up J 0 0) 24 = nI Z from hJ, nI_add, show (24 : Int32) = nI 24 from rfl, nI_leI (by omega) (by decide)] at h3; omega
          refine lv_aload_n Bx.1 Bx.2.1 d_Mo_give_91 rfl (lv_at hl 1 rfl) ?_
          refine lv_iconst (v := 2) Bx.1 Bx.2.1 d_Mo_give_92 (by decide) ?_
          refine f_callVi (na := 1) (As := [.int (2)]) (rest := []) Bx hml E hP hD hS (by omega) hJ0 rfl (m_Mo_fail l hn hJ0) kw_753 kw_755 sel_Mo_fail kw_8 kw_756 (by decide +kernel) ⟨rfl, rfl⟩ ⟨Nat.le_of_ble_eq_true rfl, Nat.le_of_ble_eq_true rfl⟩ rfl hl.1 (Nat.le_of_ble_eq_true rfl) d_Mo_give_93 ⟨Nat.le_of_ble_eq_true rfl, Nat.le_of_ble_eq_true rfl⟩ (fun r5 mem6 H locs hq hP hS => ?_)
          have hD : va_D (Az sz) (fw n ad mem6) := fw_D hD
          obtain ⟨hq0, hq⟩ := hq
          subst hq0
          exact W.iret (v := 0) hx hb hr (fun t ht hW => ⟨⟨0, mem6, rfl, Or.inr ⟨N, rfl, hN1, hN8, Or.inr (Or.inl ⟨ha, hroom, rfl, ⟨va_up (va_up J 0 0) 0 2, by rw [hq, e_mem1, up_up], va_up_self _ _ _, fun i hi => by rw [va_up_ne _ _ hi, va_up_ne _ _ hi]⟩⟩)⟩, by show va_P _ _ _ t.heap; rw [ht]; exact hP⟩, hS.F ht⟩) hS.2.2 d_Mo_give_96
      · refine lv_aload_n Bx.1 Bx.2.1 d_Mo_give_74 rfl (lv_at hl 1 rfl) ?_
        refine lv_iconst (v := 1) Bx.1 Bx.2.1 d_Mo_give_75 (by decide) ?_
        refine f_callVi (na := 1) (As := [.int (1)]) (rest := []) Bx hml E hP hD hS (by omega) hJ0 rfl (m_Mo_fail l hn hJ0) kw_753 kw_755 sel_Mo_fail kw_8 kw_756 (by decide +kernel) ⟨rfl, rfl⟩ ⟨Nat.le_of_ble_eq_true rfl, Nat.le_of_ble_eq_true rfl⟩ rfl hl.1 (Nat.le_of_ble_eq_true rfl) d_Mo_give_76 ⟨Nat.le_of_ble_eq_true rfl, Nat.le_of_ble_eq_true rfl⟩ (fun r7 mem8 H locs hq hP hS => ?_)
        have hD : va_D (Az sz) (fw n ad mem8) := fw_D hD
        obtain ⟨hq0, hq⟩ := hq
        subst hq0
        exact W.iret (v := 0) hx hb hr (fun t ht hW => ⟨⟨0, mem8, rfl, Or.inr ⟨N, rfl, hN1, hN8, Or.inl ⟨if01z h2, rfl, ⟨va_up (va_up J 0 0) 0 1, by rw [hq, e_mem1, up_up], va_up_self _ _ _, fun i hi => by rw [va_up_ne _ _ hi, va_up_ne _ _ hi]⟩⟩⟩, by show va_P _ _ _ t.heap; rw [ht]; exact hP⟩, hS.F ht⟩) hS.2.2 d_Mo_give_79
    have loop1 : ∀ (d k : Nat) (ls : Array Slot), k + d = N → lv_has ls 6 [(5, .int (nI k)), (4, .int (if allB (fun i => okI (bm8 x (nI i))) k then 1 else 0)), (0, .ref (ad 224)), (1, .long (x)), (3, .int (nI N))] → W p l e (headSpec (Cond.code y_Mo_give c_Mo_give 6 (some .int) :: tg) ({ frames := 1, cells := 0, slots := 0, locals := 30 } : Room)).room s m [.ref (ad 224), .long (x), .int (nI N)].toArray below meth c H locs 0 0 (MQ below (va_Qi (fun r mem' => (((nI N) < 1 ∨ 8 < (nI N)) ∧ r = 0 ∧ ∃ J' : Nat → Int32, mem' = va_up mem 224 (moC ad J') ∧ J1 J J' 1) ∨ ∃ M : Nat, (nI N) = nI M ∧ 1 ≤ M ∧ M ≤ 8 ∧ ((allB (fun i => okI (bm8 x (nI i))) M = false ∧ r = 0 ∧ ∃ J' : Nat → Int32, mem' = va_up mem 224 (moC ad J') ∧ J1 J J' 1) ∨ (allB (fun i => okI (bm8 x (nI i))) M = true ∧ 24 < Z + M ∧ r = 0 ∧ ∃ J' : Nat → Int32, mem' = va_up mem 224 (moC ad J') ∧ J1 J J' 2) ∨ (allB (fun i => okI (bm8 x (nI i))) M = true ∧ Z + M ≤ 24 ∧ r = nI (Z + M) ∧ ∃ J' : Nat → Int32, mem' = va_up (va_up mem 240 (.inl (cy 1, 24, .inl (apM f Z x M)))) 224 (moC ad J') ∧ J' 0 = 0 ∧ J' 24 = nI (Z + M) ∧ J' 26 = 1 ∧ ∀ i, i ≠ 0 → i ≠ 24 → i ≠ 26 → J' i = J i))) (PP D n ad) (Az sz)) [.ref (ad 224), .long (x), .int (nI N)].toArray s 0 0 (Az sz)) (F0 m 27 ls []) := by
      intro d
      induction d with
      | zero =>
        intro k ls hk hl
        obtain rfl : k = N := by omega
        refine lv_iload Bx.1 Bx.2.1 d_Mo_give_27 (lv_at hl 0 rfl) ?_
        refine lv_iload_n Bx.1 Bx.2.1 d_Mo_give_29 rfl (lv_at hl 4 rfl) ?_
        refine lv_icmp_ge Bx.1 Bx.2.1 d_Mo_give_30 rfl (fun h => ?_) (fun h => ?_)
        · exact tail ls (lv_sub hl [1, 2, 3, 4] rfl)
        · exact absurd (nI_le (Nat.le_refl k) (by omega)) h
      | succ d ih =>
        intro k ls hk hl
        refine lv_iload Bx.1 Bx.2.1 d_Mo_give_27 (lv_at hl 0 rfl) ?_
        refine lv_iload_n Bx.1 Bx.2.1 d_Mo_give_29 rfl (lv_at hl 4 rfl) ?_
        refine lv_icmp_ge Bx.1 Bx.2.1 d_Mo_give_30 rfl (fun h => ?_) (fun h => ?_)
        · exact absurd h (nI_ge (by omega) (by omega))
        · refine lv_iload Bx.1 Bx.2.1 d_Mo_give_33 (lv_at hl 1 rfl) ?_
          refine lv_if_eq Bx.1 Bx.2.1 d_Mo_give_35 rfl (fun h1 => ?_) (fun h1 => ?_)
          · have hg := if01z h1
            refine lv_iconst (v := 0) Bx.1 Bx.2.1 d_Mo_give_60 (by decide) ?_
            refine lv_istore (lv' := [(4, .int (0)), (5, .int (nI k)), (0, .ref (ad 224)), (1, .long (x)), (3, .int (nI N))]) Bx.1 Bx.2.1 d_Mo_give_61 hl (by decide) rfl (fun ls hl => ?_)
            refine lv_iinc (lv' := [(5, .int ((nI k + (1)))), (4, .int (0)), (0, .ref (ad 224)), (1, .long (x)), (3, .int (nI N))]) Bx.1 Bx.2.1 d_Mo_give_63 hl (k := 1) rfl rfl (by decide) rfl (fun ls hl => ?_)
            refine lv_goto Bx.1 Bx.2.1 d_Mo_give_66 rfl ?_
            exact ih (k + 1) ls (by omega) (by rw [nI_succ, show allB (fun i => okI (bm8 x (nI i))) (k + 1) = false from by simp only [allB, hg, Bool.false_and]]; exact (lv_sub hl [0, 1, 2, 3, 4] rfl))
          · have hg := if01n h1
            refine lv_lload_n Bx.1 Bx.2.1 d_Mo_give_38 rfl (lv_at hl 3 rfl) ?_
            refine lv_bipush (v := 8) Bx.1 Bx.2.1 d_Mo_give_39 (by decide) ?_
            refine lv_iload Bx.1 Bx.2.1 d_Mo_give_41 (lv_at hl 0 rfl) ?_
            refine lv_imul Bx.1 Bx.2.1 d_Mo_give_43 ?_
            refine lv_lshr Bx.1 Bx.2.1 d_Mo_give_44 rfl ?_
            refine lv_ldc2 Bx.1 Bx.2.1 Bx.2.2.2.1 (Bx.2.2.1 _ (tb_g kw_757 rfl)) d_Mo_give_45 ?_
            refine lv_land Bx.1 Bx.2.1 d_Mo_give_48 ?_
            refine lv_ldc2 Bx.1 Bx.2.1 Bx.2.2.2.1 (Bx.2.2.1 _ (tb_g kw_865 rfl)) d_Mo_give_49 ?_
            refine W.lcmp Bx.1 Bx.2.1 d_Mo_give_52 ?_
            refine lv_if_ge Bx.1 Bx.2.1 d_Mo_give_53 rfl (fun h2 => ?_) (fun h2 => ?_)
            · have hc3 : okI (bm8 x (nI k)) = false := (cmp128 _).1 (Int32.not_lt.mpr h2)
              refine lv_iconst (v := 0) Bx.1 Bx.2.1 d_Mo_give_60 (by decide) ?_
              refine lv_istore (lv' := [(4, .int (0)), (5, .int (nI k)), (0, .ref (ad 224)), (1, .long (x)), (3, .int (nI N))]) Bx.1 Bx.2.1 d_Mo_give_61 hl (by decide) rfl (fun ls hl => ?_)
              refine lv_iinc (lv' := [(5, .int ((nI k + (1)))), (4, .int (0)), (0, .ref (ad 224)), (1, .long (x)), (3, .int (nI N))]) Bx.1 Bx.2.1 d_Mo_give_63 hl (k := 1) rfl rfl (by decide) rfl (fun ls hl => ?_)
              refine lv_goto Bx.1 Bx.2.1 d_Mo_give_66 rfl ?_
              exact ih (k + 1) ls (by omega) (by rw [nI_succ, show allB (fun i => okI (bm8 x (nI i))) (k + 1) = false from by simp only [allB, hc3, Bool.and_false]]; exact (lv_sub hl [0, 1, 2, 3, 4] rfl))
            · have hc3 : okI (bm8 x (nI k)) = true := (cmp128 _).2 (Int32.not_le.mp h2)
              refine lv_iconst (v := 1) Bx.1 Bx.2.1 d_Mo_give_56 (by decide) ?_
              refine lv_goto Bx.1 Bx.2.1 d_Mo_give_57 rfl ?_
              refine lv_istore (lv' := [(4, .int (1)), (5, .int (nI k)), (0, .ref (ad 224)), (1, .long (x)), (3, .int (nI N))]) Bx.1 Bx.2.1 d_Mo_give_61 hl (by decide) rfl (fun ls hl => ?_)
              refine lv_iinc (lv' := [(5, .int ((nI k + (1)))), (4, .int (1)), (0, .ref (ad 224)), (1, .long (x)), (3, .int (nI N))]) Bx.1 Bx.2.1 d_Mo_give_63 hl (k := 1) rfl rfl (by decide) rfl (fun ls hl => ?_)
              refine lv_goto Bx.1 Bx.2.1 d_Mo_give_66 rfl ?_
              exact ih (k + 1) ls (by omega) (by rw [nI_succ, show allB (fun i => okI (bm8 x (nI i))) (k + 1) = true from allB_yes hg hc3]; exact (lv_sub hl [0, 1, 2, 3, 4] rfl))
    exact loop1 N 0 ls (by omega) (lv_sub hl [0, 1, 2, 3, 4] rfl)
  · refine lv_aload_n Bx.1 Bx.2.1 d_Mo_give_15 rfl (lv_at hl 0 rfl) ?_
    refine lv_iconst (v := 1) Bx.1 Bx.2.1 d_Mo_give_16 (by decide) ?_
    refine f_callVi (na := 1) (As := [.int (1)]) (rest := []) Bx hml E hP hD hS (by omega) h_mem1 rfl (m_Mo_fail l hn hJ0) kw_753 kw_755 sel_Mo_fail kw_8 kw_756 (by decide +kernel) ⟨rfl, rfl⟩ ⟨Nat.le_of_ble_eq_true rfl, Nat.le_of_ble_eq_true rfl⟩ rfl hl.1 (Nat.le_of_ble_eq_true rfl) d_Mo_give_17 ⟨Nat.le_of_ble_eq_true rfl, Nat.le_of_ble_eq_true rfl⟩ (fun r9 mem10 H locs hq hP hS => ?_)
    have hD : va_D (Az sz) (fw n ad mem10) := fw_D hD
    obtain ⟨hq0, hq⟩ := hq
    subst hq0
    exact W.iret (v := 0) hx hb hr (fun t ht hW => ⟨⟨0, mem10, rfl, Or.inl ⟨bc_no h, rfl, ⟨va_up (va_up J 0 0) 0 1, by rw [hq, e_mem1, up_up], va_up_self _ _ _, fun i hi => by rw [va_up_ne _ _ hi, va_up_ne _ _ hi]⟩⟩, by show va_P _ _ _ t.heap; rw [ht]; exact hP⟩, hS.F ht⟩) hS.2.2 d_Mo_give_20
set_option maxHeartbeats 4000000 in
set_option maxRecDepth 100000 in
theorem m_Mo_rule0 (l : Launch) {D : va_G} {cy : Nat → ClassId} {sz n : Nat} {ad : Nat → Nat} {mem : Nat → va_E} {J : Nat → Int32} {x : Int64} (hn : 242 ≤ n) (h4 : mem 224 = moC ad J) (hR : J 4 = 0) : MI l D cy sz n ad y_Mo_rule c_Mo_rule 4 (some .int) ({ frames := 1, cells := 0, slots := 0, locals := 30 } : Room) mem [.ref (ad 224), .long (x)] (fun r mem' => r = 0 ∧ ∃ J' : Nat → Int32, mem' = va_up mem 224 (moC ad J') ∧ J1 J J' 1) := by
  refine Met.ofW (cc := c_Mo_rule) (maxL := 4) (ret := (some .int)) (by decide) rfl ?_
  intro p e s m args below meth c s₁ B hml hv
  obtain ⟨rfl, E, hP, hD⟩ := hv
  have hx := B.exec
  have hb := B.bytes
  have hr := B.returns
  have hlocks := B.notSynchronized
  have Bx : MB p s m [.ref (ad 224), .long (x)].toArray c c_Mo_rule "AbnfChartModel" D cy := ⟨hx, hb, tb_all (atoms_spec B.pre) E.2.1, findClass_of_methodNamed B.named, E.1⟩
  have hS : va_S (Az sz) s.heap s.heap [] := va_S.rf
  have hl := lv_entry ([.ref (ad 224), .long (x)]) (n := 4) (Nat.le_of_ble_eq_true rfl)
  rw [lg_entry_eq]
  generalize (lg_sl ([.ref (ad 224), .long (x)]) ++ List.replicate (4 - (lg_sl ([.ref (ad 224), .long (x)])).length) Slot.unset).toArray = ls at hl ⊢
  have hl : lv_has ls 4 [(0, .ref (ad 224)), (1, .long (x))] := hl
  refine lv_aload_n Bx.1 Bx.2.1 d_Mo_rule_0 rfl (lv_at hl 0 rfl) ?_
  refine lv_iconst (v := 0) Bx.1 Bx.2.1 d_Mo_rule_1 (by decide) ?_
  refine f_put Bx hP hD hS (by omega) h4 rfl inMo tyMo okMo nmMo 0 (by decide) kw_656 rfl rfl rfl rfl (Nat.le_of_ble_eq_true rfl) d_Mo_rule_2 (fun H locs hP hS => ?_)
  obtain ⟨mem1, e_mem1⟩ : ∃ z, z = va_up mem (224) (.inr (7, [.int (0), .int (J 1), .ref (ad 225), .int (J 3), .int (J 4), .ref (ad 226), .ref (ad 227), .int (J 7), .ref (ad 228), .ref (ad 229), .ref (ad 230), .ref (ad 231), .ref (ad 232), .ref (ad 233), .int (J 14), .ref (ad 234), .int (J 16), .int (J 17), .int (J 18), .ref (ad 235), .ref (ad 236), .ref (ad 237), .ref (ad 238), .ref (ad 239), .int (J 24), .ref (ad 240), .int (J 26), .ref (ad 241), .int (J 28)])) := ⟨_, rfl⟩
  have hP : va_P D vcl (fw n ad mem1) H := by rw [e_mem1]; exact hP
  have hD : va_D (Az sz) (fw n ad mem1) := fw_D hD
  have h_mem1 : mem1 (224) = .inr (7, [.int (0), .int (J 1), .ref (ad 225), .int (J 3), .int (J 4), .ref (ad 226), .ref (ad 227), .int (J 7), .ref (ad 228), .ref (ad 229), .ref (ad 230), .ref (ad 231), .ref (ad 232), .ref (ad 233), .int (J 14), .ref (ad 234), .int (J 16), .int (J 17), .int (J 18), .ref (ad 235), .ref (ad 236), .ref (ad 237), .ref (ad 238), .ref (ad 239), .int (J 24), .ref (ad 240), .int (J 26), .ref (ad 241), .int (J 28)]) := by rw [e_mem1, va_up_self]
  have hJ0 : mem1 224 = moC ad (va_up J 0 0) := h_mem1
  refine lv_iconst (v := 0) Bx.1 Bx.2.1 d_Mo_rule_5 (by decide) ?_
  refine lv_istore_n (lv' := [(3, .int (0)), (0, .ref (ad 224)), (1, .long (x))]) Bx.1 Bx.2.1 d_Mo_rule_6 rfl hl (by decide) rfl (fun ls hl => ?_)
  refine lv_iload_n Bx.1 Bx.2.1 d_Mo_rule_7 rfl (lv_at hl 0 rfl) ?_
  refine lv_aload_n Bx.1 Bx.2.1 d_Mo_rule_8 rfl (lv_at hl 1 rfl) ?_
  refine f_get Bx hP (by omega) h_mem1 rfl inMo 4 (by decide) kw_660 rfl rfl d_Mo_rule_9 ?_
  refine lv_icmp_ge Bx.1 Bx.2.1 d_Mo_rule_12 rfl (fun h => ?_) (fun h => ?_)
  · refine lv_aload_n Bx.1 Bx.2.1 d_Mo_rule_34 rfl (lv_at hl 1 rfl) ?_
    refine lv_iconst (v := 1) Bx.1 Bx.2.1 d_Mo_rule_35 (by decide) ?_
    refine f_callVi (na := 1) (As := [.int (1)]) (rest := []) Bx hml E hP hD hS (by omega) h_mem1 rfl (m_Mo_fail l hn (J := (va_up J 0 0)) hJ0) kw_753 kw_755 sel_Mo_fail kw_8 kw_756 (by decide +kernel) ⟨rfl, rfl⟩ ⟨Nat.le_of_ble_eq_true rfl, Nat.le_of_ble_eq_true rfl⟩ rfl hl.1 (Nat.le_of_ble_eq_true rfl) d_Mo_rule_36 ⟨Nat.le_of_ble_eq_true rfl, Nat.le_of_ble_eq_true rfl⟩ (fun r2 mem3 H locs hq hP hS => ?_)
    have hD : va_D (Az sz) (fw n ad mem3) := fw_D hD
    obtain ⟨hq0, hq⟩ := hq
    subst hq0
    exact W.iret (v := 0) hx hb hr (fun t ht hW => ⟨⟨0, mem3, rfl, ⟨rfl, ⟨va_up (va_up J 0 0) 0 1, by rw [hq, e_mem1, up_up], va_up_self _ _ _, fun i hi => by rw [va_up_ne _ _ hi, va_up_ne _ _ hi]⟩⟩, by show va_P _ _ _ t.heap; rw [ht]; exact hP⟩, hS.F ht⟩) hS.2.2 d_Mo_rule_39
  · exact absurd (by rw [hR]; decide) h
set_option maxHeartbeats 4000000 in
set_option maxRecDepth 100000 in
theorem m_Mo_matches0 (l : Launch) {D : va_G} {cy : Nat → ClassId} {sz n : Nat} {ad : Nat → Nat} {mem : Nat → va_E} {J : Nat → Int32} {i1 i2 i3 : Int32} (hn : 242 ≤ n) (h4 : mem 224 = moC ad J) (hR : J 4 = 0) : MI l D cy sz n ad y_Mo_matches c_Mo_matches 4 (some .boolean) ({ frames := 1, cells := 0, slots := 0, locals := 30 } : Room) mem [.ref (ad 224), .int (i1), .int (i2), .int (i3)] (fun r mem' => r = 0 ∧ ∃ J' : Nat → Int32, mem' = va_up mem 224 (moC ad J') ∧ J1 J J' 1) := by
  refine Met.ofW (cc := c_Mo_matches) (maxL := 4) (ret := (some .boolean)) (by decide) rfl ?_
  intro p e s m args below meth c s₁ B hml hv
  obtain ⟨rfl, E, hP, hD⟩ := hv
  have hx := B.exec
  have hb := B.bytes
  have hr := B.returns
  have hlocks := B.notSynchronized
  have Bx : MB p s m [.ref (ad 224), .int (i1), .int (i2), .int (i3)].toArray c c_Mo_matches "AbnfChartModel" D cy := ⟨hx, hb, tb_all (atoms_spec B.pre) E.2.1, findClass_of_methodNamed B.named, E.1⟩
  have hS : va_S (Az sz) s.heap s.heap [] := va_S.rf
  have hl := lv_entry ([.ref (ad 224), .int (i1), .int (i2), .int (i3)]) (n := 4) (Nat.le_of_ble_eq_true rfl)
  rw [lg_entry_eq]
  generalize (lg_sl ([.ref (ad 224), .int (i1), .int (i2), .int (i3)]) ++ List.replicate (4 - (lg_sl ([.ref (ad 224), .int (i1), .int (i2), .int (i3)])).length) Slot.unset).toArray = ls at hl ⊢
  have hl : lv_has ls 4 [(0, .ref (ad 224)), (1, .int (i1)), (2, .int (i2)), (3, .int (i3))] := hl
  refine lv_aload_n Bx.1 Bx.2.1 d_Mo_matches_0 rfl (lv_at hl 0 rfl) ?_
  refine lv_iconst (v := 0) Bx.1 Bx.2.1 d_Mo_matches_1 (by decide) ?_
  refine f_put Bx hP hD hS (by omega) h4 rfl inMo tyMo okMo nmMo 0 (by decide) kw_656 rfl rfl rfl rfl (Nat.le_of_ble_eq_true rfl) d_Mo_matches_2 (fun H locs hP hS => ?_)
  obtain ⟨mem1, e_mem1⟩ : ∃ z, z = va_up mem (224) (.inr (7, [.int (0), .int (J 1), .ref (ad 225), .int (J 3), .int (J 4), .ref (ad 226), .ref (ad 227), .int (J 7), .ref (ad 228), .ref (ad 229), .ref (ad 230), .ref (ad 231), .ref (ad 232), .ref (ad 233), .int (J 14), .ref (ad 234), .int (J 16), .int (J 17), .int (J 18), .ref (ad 235), .ref (ad 236), .ref (ad 237), .ref (ad 238), .ref (ad 239), .int (J 24), .ref (ad 240), .int (J 26), .ref (ad 241), .int (J 28)])) := ⟨_, rfl⟩
  have hP : va_P D vcl (fw n ad mem1) H := by rw [e_mem1]; exact hP
  have hD : va_D (Az sz) (fw n ad mem1) := fw_D hD
  have h_mem1 : mem1 (224) = .inr (7, [.int (0), .int (J 1), .ref (ad 225), .int (J 3), .int (J 4), .ref (ad 226), .ref (ad 227), .int (J 7), .ref (ad 228), .ref (ad 229), .ref (ad 230), .ref (ad 231), .ref (ad 232), .ref (ad 233), .int (J 14), .ref (ad 234), .int (J 16), .int (J 17), .int (J 18), .ref (ad 235), .ref (ad 236), .ref (ad 237), .ref (ad 238), .ref (ad 239), .int (J 24), .ref (ad 240), .int (J 26), .ref (ad 241), .int (J 28)]) := by rw [e_mem1, va_up_self]
  have hJ0 : mem1 224 = moC ad (va_up J 0 0) := h_mem1
  refine lv_iload_n Bx.1 Bx.2.1 d_Mo_matches_5 rfl (lv_at hl 1 rfl) ?_
  refine lv_iconst (v := 0) Bx.1 Bx.2.1 d_Mo_matches_6 (by decide) ?_
  refine lv_aload_n Bx.1 Bx.2.1 d_Mo_matches_7 rfl (lv_at hl 0 rfl) ?_
  refine f_get Bx hP (by omega) h_mem1 rfl inMo 4 (by decide) kw_660 rfl rfl d_Mo_matches_8 ?_
  refine lv_iconst (v := 1) Bx.1 Bx.2.1 d_Mo_matches_11 (by decide) ?_
  refine lv_isub Bx.1 Bx.2.1 d_Mo_matches_12 ?_
  refine f_callSi (na := 3) (As := [.int (i1), .int (0), .int (J 4 - 1)]) (rest := []) Bx hml E.2.1 (m_Mo_within l i1 0 (J 4 - 1)) kw_750 kw_751 kw_8 kw_752 (by decide +kernel) ⟨rfl, rfl⟩ ⟨Nat.le_of_ble_eq_true rfl, Nat.le_of_ble_eq_true rfl⟩ rfl hl.1 (Nat.le_of_ble_eq_true rfl) d_Mo_matches_13 ⟨Nat.le_of_ble_eq_true rfl, Nat.le_of_ble_eq_true rfl⟩ (fun r2 hr1 => ?_)
  subst hr1
  refine lv_if_ne Bx.1 Bx.2.1 d_Mo_matches_16 rfl (fun h => ?_) (fun h => ?_)
  · exact absurd (if_pos (no_rule i1 hR)) h
  · refine lv_aload_n Bx.1 Bx.2.1 d_Mo_matches_19 rfl (lv_at hl 0 rfl) ?_
    refine lv_iconst (v := 1) Bx.1 Bx.2.1 d_Mo_matches_20 (by decide) ?_
    refine f_callVi (na := 1) (As := [.int (1)]) (rest := []) Bx hml E hP hD hS (by omega) h_mem1 rfl (m_Mo_fail l hn (J := (va_up J 0 0)) hJ0) kw_753 kw_755 sel_Mo_fail kw_8 kw_756 (by decide +kernel) ⟨rfl, rfl⟩ ⟨Nat.le_of_ble_eq_true rfl, Nat.le_of_ble_eq_true rfl⟩ rfl hl.1 (Nat.le_of_ble_eq_true rfl) d_Mo_matches_21 ⟨Nat.le_of_ble_eq_true rfl, Nat.le_of_ble_eq_true rfl⟩ (fun r3 mem4 H locs hq hP hS => ?_)
    have hD : va_D (Az sz) (fw n ad mem4) := fw_D hD
    obtain ⟨hq0, hq⟩ := hq
    subst hq0
    refine lv_if_le Bx.1 Bx.2.1 d_Mo_matches_24 rfl (fun h2 => ?_) (fun h2 => ?_)
    · refine lv_iconst (v := 0) Bx.1 Bx.2.1 d_Mo_matches_31 (by decide) ?_
      exact W.zret (v := 0) hx hb hr rfl (fun t ht hW => ⟨⟨0, mem4, rfl, ⟨rfl, ⟨va_up (va_up J 0 0) 0 1, by rw [hq, e_mem1, up_up], va_up_self _ _ _, fun i hi => by rw [va_up_ne _ _ hi, va_up_ne _ _ hi]⟩⟩, by show va_P _ _ _ t.heap; rw [ht]; exact hP⟩, hS.F ht⟩) hS.2.2 d_Mo_matches_32
    · exact absurd (by decide) h2
set_option maxHeartbeats 4000000 in
set_option maxRecDepth 100000 in
theorem m_Mo_longest0 (l : Launch) {D : va_G} {cy : Nat → ClassId} {sz n : Nat} {ad : Nat → Nat} {mem : Nat → va_E} {J : Nat → Int32} {i1 i2 : Int32} (hn : 242 ≤ n) (h4 : mem 224 = moC ad J) (hR : J 4 = 0) : MI l D cy sz n ad y_Mo_longest c_Mo_longest 5 (some .int) ({ frames := 1, cells := 0, slots := 0, locals := 30 } : Room) mem [.ref (ad 224), .int (i1), .int (i2)] (fun r mem' => r = 0 ∧ ∃ J' : Nat → Int32, mem' = va_up mem 224 (moC ad J') ∧ J1 J J' 1) := by
  refine Met.ofW (cc := c_Mo_longest) (maxL := 5) (ret := (some .int)) (by decide) rfl ?_
  intro p e s m args below meth c s₁ B hml hv
  obtain ⟨rfl, E, hP, hD⟩ := hv
  have hx := B.exec
  have hb := B.bytes
  have hr := B.returns
  have hlocks := B.notSynchronized
  have Bx : MB p s m [.ref (ad 224), .int (i1), .int (i2)].toArray c c_Mo_longest "AbnfChartModel" D cy := ⟨hx, hb, tb_all (atoms_spec B.pre) E.2.1, findClass_of_methodNamed B.named, E.1⟩
  have hS : va_S (Az sz) s.heap s.heap [] := va_S.rf
  have hl := lv_entry ([.ref (ad 224), .int (i1), .int (i2)]) (n := 5) (Nat.le_of_ble_eq_true rfl)
  rw [lg_entry_eq]
  generalize (lg_sl ([.ref (ad 224), .int (i1), .int (i2)]) ++ List.replicate (5 - (lg_sl ([.ref (ad 224), .int (i1), .int (i2)])).length) Slot.unset).toArray = ls at hl ⊢
  have hl : lv_has ls 5 [(0, .ref (ad 224)), (1, .int (i1)), (2, .int (i2))] := hl
  refine lv_aload_n Bx.1 Bx.2.1 d_Mo_longest_0 rfl (lv_at hl 0 rfl) ?_
  refine lv_iconst (v := 0) Bx.1 Bx.2.1 d_Mo_longest_1 (by decide) ?_
  refine f_put Bx hP hD hS (by omega) h4 rfl inMo tyMo okMo nmMo 0 (by decide) kw_656 rfl rfl rfl rfl (Nat.le_of_ble_eq_true rfl) d_Mo_longest_2 (fun H locs hP hS => ?_)
  obtain ⟨mem1, e_mem1⟩ : ∃ z, z = va_up mem (224) (.inr (7, [.int (0), .int (J 1), .ref (ad 225), .int (J 3), .int (J 4), .ref (ad 226), .ref (ad 227), .int (J 7), .ref (ad 228), .ref (ad 229), .ref (ad 230), .ref (ad 231), .ref (ad 232), .ref (ad 233), .int (J 14), .ref (ad 234), .int (J 16), .int (J 17), .int (J 18), .ref (ad 235), .ref (ad 236), .ref (ad 237), .ref (ad 238), .ref (ad 239), .int (J 24), .ref (ad 240), .int (J 26), .ref (ad 241), .int (J 28)])) := ⟨_, rfl⟩
  have hP : va_P D vcl (fw n ad mem1) H := by rw [e_mem1]; exact hP
  have hD : va_D (Az sz) (fw n ad mem1) := fw_D hD
  have h_mem1 : mem1 (224) = .inr (7, [.int (0), .int (J 1), .ref (ad 225), .int (J 3), .int (J 4), .ref (ad 226), .ref (ad 227), .int (J 7), .ref (ad 228), .ref (ad 229), .ref (ad 230), .ref (ad 231), .ref (ad 232), .ref (ad 233), .int (J 14), .ref (ad 234), .int (J 16), .int (J 17), .int (J 18), .ref (ad 235), .ref (ad 236), .ref (ad 237), .ref (ad 238), .ref (ad 239), .int (J 24), .ref (ad 240), .int (J 26), .ref (ad 241), .int (J 28)]) := by rw [e_mem1, va_up_self]
  have hJ0 : mem1 224 = moC ad (va_up J 0 0) := h_mem1
  refine lv_iload_n Bx.1 Bx.2.1 d_Mo_longest_5 rfl (lv_at hl 1 rfl) ?_
  refine lv_iconst (v := 0) Bx.1 Bx.2.1 d_Mo_longest_6 (by decide) ?_
  refine lv_aload_n Bx.1 Bx.2.1 d_Mo_longest_7 rfl (lv_at hl 0 rfl) ?_
  refine f_get Bx hP (by omega) h_mem1 rfl inMo 4 (by decide) kw_660 rfl rfl d_Mo_longest_8 ?_
  refine lv_iconst (v := 1) Bx.1 Bx.2.1 d_Mo_longest_11 (by decide) ?_
  refine lv_isub Bx.1 Bx.2.1 d_Mo_longest_12 ?_
  refine f_callSi (na := 3) (As := [.int (i1), .int (0), .int (J 4 - 1)]) (rest := []) Bx hml E.2.1 (m_Mo_within l i1 0 (J 4 - 1)) kw_750 kw_751 kw_8 kw_752 (by decide +kernel) ⟨rfl, rfl⟩ ⟨Nat.le_of_ble_eq_true rfl, Nat.le_of_ble_eq_true rfl⟩ rfl hl.1 (Nat.le_of_ble_eq_true rfl) d_Mo_longest_13 ⟨Nat.le_of_ble_eq_true rfl, Nat.le_of_ble_eq_true rfl⟩ (fun r2 hr1 => ?_)
  subst hr1
  refine lv_if_ne Bx.1 Bx.2.1 d_Mo_longest_16 rfl (fun h => ?_) (fun h => ?_)
  · exact absurd (if_pos (no_rule i1 hR)) h
  · refine lv_aload_n Bx.1 Bx.2.1 d_Mo_longest_19 rfl (lv_at hl 0 rfl) ?_
    refine lv_iconst (v := 1) Bx.1 Bx.2.1 d_Mo_longest_20 (by decide) ?_
    refine f_callVi (na := 1) (As := [.int (1)]) (rest := []) Bx hml E hP hD hS (by omega) h_mem1 rfl (m_Mo_fail l hn (J := (va_up J 0 0)) hJ0) kw_753 kw_755 sel_Mo_fail kw_8 kw_756 (by decide +kernel) ⟨rfl, rfl⟩ ⟨Nat.le_of_ble_eq_true rfl, Nat.le_of_ble_eq_true rfl⟩ rfl hl.1 (Nat.le_of_ble_eq_true rfl) d_Mo_longest_21 ⟨Nat.le_of_ble_eq_true rfl, Nat.le_of_ble_eq_true rfl⟩ (fun r3 mem4 H locs hq hP hS => ?_)
    have hD : va_D (Az sz) (fw n ad mem4) := fw_D hD
    obtain ⟨hq0, hq⟩ := hq
    subst hq0
    exact W.iret (v := 0) hx hb hr (fun t ht hW => ⟨⟨0, mem4, rfl, ⟨rfl, ⟨va_up (va_up J 0 0) 0 1, by rw [hq, e_mem1, up_up], va_up_self _ _ _, fun i hi => by rw [va_up_ne _ _ hi, va_up_ne _ _ hi]⟩⟩, by show va_P _ _ _ t.heap; rw [ht]; exact hP⟩, hS.F ht⟩) hS.2.2 d_Mo_longest_24
set_option maxHeartbeats 4000000 in
set_option maxRecDepth 100000 in
theorem m_Mo_pieces0 (l : Launch) {D : va_G} {cy : Nat → ClassId} {sz n : Nat} {ad : Nat → Nat} {mem : Nat → va_E} {J : Nat → Int32} {i1 : Int32} (hn : 242 ≤ n) (h4 : mem 224 = moC ad J) (hR : J 4 = 0) : MI l D cy sz n ad y_Mo_pieces c_Mo_pieces 5 (some .int) ({ frames := 1, cells := 0, slots := 0, locals := 30 } : Room) mem [.ref (ad 224), .int (i1)] (fun r mem' => r = 0 ∧ ∃ J' : Nat → Int32, mem' = va_up mem 224 (moC ad J') ∧ J1 J J' 1) := by
  refine Met.ofW (cc := c_Mo_pieces) (maxL := 5) (ret := (some .int)) (by decide) rfl ?_
  intro p e s m args below meth c s₁ B hml hv
  obtain ⟨rfl, E, hP, hD⟩ := hv
  have hx := B.exec
  have hb := B.bytes
  have hr := B.returns
  have hlocks := B.notSynchronized
  have Bx : MB p s m [.ref (ad 224), .int (i1)].toArray c c_Mo_pieces "AbnfChartModel" D cy := ⟨hx, hb, tb_all (atoms_spec B.pre) E.2.1, findClass_of_methodNamed B.named, E.1⟩
  have hS : va_S (Az sz) s.heap s.heap [] := va_S.rf
  have hl := lv_entry ([.ref (ad 224), .int (i1)]) (n := 5) (Nat.le_of_ble_eq_true rfl)
  rw [lg_entry_eq]
  generalize (lg_sl ([.ref (ad 224), .int (i1)]) ++ List.replicate (5 - (lg_sl ([.ref (ad 224), .int (i1)])).length) Slot.unset).toArray = ls at hl ⊢
  have hl : lv_has ls 5 [(0, .ref (ad 224)), (1, .int (i1))] := hl
  refine lv_aload_n Bx.1 Bx.2.1 d_Mo_pieces_0 rfl (lv_at hl 0 rfl) ?_
  refine lv_iconst (v := 0) Bx.1 Bx.2.1 d_Mo_pieces_1 (by decide) ?_
  refine f_put Bx hP hD hS (by omega) h4 rfl inMo tyMo okMo nmMo 0 (by decide) kw_656 rfl rfl rfl rfl (Nat.le_of_ble_eq_true rfl) d_Mo_pieces_2 (fun H locs hP hS => ?_)
  obtain ⟨mem1, e_mem1⟩ : ∃ z, z = va_up mem (224) (.inr (7, [.int (0), .int (J 1), .ref (ad 225), .int (J 3), .int (J 4), .ref (ad 226), .ref (ad 227), .int (J 7), .ref (ad 228), .ref (ad 229), .ref (ad 230), .ref (ad 231), .ref (ad 232), .ref (ad 233), .int (J 14), .ref (ad 234), .int (J 16), .int (J 17), .int (J 18), .ref (ad 235), .ref (ad 236), .ref (ad 237), .ref (ad 238), .ref (ad 239), .int (J 24), .ref (ad 240), .int (J 26), .ref (ad 241), .int (J 28)])) := ⟨_, rfl⟩
  have hP : va_P D vcl (fw n ad mem1) H := by rw [e_mem1]; exact hP
  have hD : va_D (Az sz) (fw n ad mem1) := fw_D hD
  have h_mem1 : mem1 (224) = .inr (7, [.int (0), .int (J 1), .ref (ad 225), .int (J 3), .int (J 4), .ref (ad 226), .ref (ad 227), .int (J 7), .ref (ad 228), .ref (ad 229), .ref (ad 230), .ref (ad 231), .ref (ad 232), .ref (ad 233), .int (J 14), .ref (ad 234), .int (J 16), .int (J 17), .int (J 18), .ref (ad 235), .ref (ad 236), .ref (ad 237), .ref (ad 238), .ref (ad 239), .int (J 24), .ref (ad 240), .int (J 26), .ref (ad 241), .int (J 28)]) := by rw [e_mem1, va_up_self]
  have hJ0 : mem1 224 = moC ad (va_up J 0 0) := h_mem1
  refine lv_iload_n Bx.1 Bx.2.1 d_Mo_pieces_5 rfl (lv_at hl 1 rfl) ?_
  refine lv_iconst (v := 0) Bx.1 Bx.2.1 d_Mo_pieces_6 (by decide) ?_
  refine lv_aload_n Bx.1 Bx.2.1 d_Mo_pieces_7 rfl (lv_at hl 0 rfl) ?_
  refine f_get Bx hP (by omega) h_mem1 rfl inMo 4 (by decide) kw_660 rfl rfl d_Mo_pieces_8 ?_
  refine lv_iconst (v := 1) Bx.1 Bx.2.1 d_Mo_pieces_11 (by decide) ?_
  refine lv_isub Bx.1 Bx.2.1 d_Mo_pieces_12 ?_
  refine f_callSi (na := 3) (As := [.int (i1), .int (0), .int (J 4 - 1)]) (rest := []) Bx hml E.2.1 (m_Mo_within l i1 0 (J 4 - 1)) kw_750 kw_751 kw_8 kw_752 (by decide +kernel) ⟨rfl, rfl⟩ ⟨Nat.le_of_ble_eq_true rfl, Nat.le_of_ble_eq_true rfl⟩ rfl hl.1 (Nat.le_of_ble_eq_true rfl) d_Mo_pieces_13 ⟨Nat.le_of_ble_eq_true rfl, Nat.le_of_ble_eq_true rfl⟩ (fun r2 hr1 => ?_)
  subst hr1
  refine lv_if_ne Bx.1 Bx.2.1 d_Mo_pieces_16 rfl (fun h => ?_) (fun h => ?_)
  · exact absurd (if_pos (no_rule i1 hR)) h
  · refine lv_aload_n Bx.1 Bx.2.1 d_Mo_pieces_19 rfl (lv_at hl 0 rfl) ?_
    refine lv_iconst (v := 1) Bx.1 Bx.2.1 d_Mo_pieces_20 (by decide) ?_
    refine f_callVi (na := 1) (As := [.int (1)]) (rest := []) Bx hml E hP hD hS (by omega) h_mem1 rfl (m_Mo_fail l hn (J := (va_up J 0 0)) hJ0) kw_753 kw_755 sel_Mo_fail kw_8 kw_756 (by decide +kernel) ⟨rfl, rfl⟩ ⟨Nat.le_of_ble_eq_true rfl, Nat.le_of_ble_eq_true rfl⟩ rfl hl.1 (Nat.le_of_ble_eq_true rfl) d_Mo_pieces_21 ⟨Nat.le_of_ble_eq_true rfl, Nat.le_of_ble_eq_true rfl⟩ (fun r3 mem4 H locs hq hP hS => ?_)
    have hD : va_D (Az sz) (fw n ad mem4) := fw_D hD
    obtain ⟨hq0, hq⟩ := hq
    subst hq0
    exact W.iret (v := 0) hx hb hr (fun t ht hW => ⟨⟨0, mem4, rfl, ⟨rfl, ⟨va_up (va_up J 0 0) 0 1, by rw [hq, e_mem1, up_up], va_up_self _ _ _, fun i hi => by rw [va_up_ne _ _ hi, va_up_ne _ _ hi]⟩⟩, by show va_P _ _ _ t.heap; rw [ht]; exact hP⟩, hS.F ht⟩) hS.2.2 d_Mo_pieces_24
set_option maxHeartbeats 4000000 in
set_option maxRecDepth 100000 in
theorem m_Mo_count0 (l : Launch) {D : va_G} {cy : Nat → ClassId} {sz n : Nat} {ad : Nat → Nat} {mem : Nat → va_E} {J : Nat → Int32} {k : Int32} (hn : 242 ≤ n) (h4 : mem 224 = moC ad J) (hR : J 4 = 0) (hE : J 7 = 0) : MI l D cy sz n ad y_Mo_count c_Mo_count 4 (some .int) ({ frames := 1, cells := 0, slots := 0, locals := 30 } : Room) mem [.ref (ad 224), .int (k)] (fun r mem' => r = 0 ∧ ∃ J' : Nat → Int32, mem' = va_up mem 224 (moC ad J') ∧ J1 J J' (if k < 0 ∨ 2 < k then 1 else 0)) := by
  refine Met.ofW (cc := c_Mo_count) (maxL := 4) (ret := (some .int)) (by decide) rfl ?_
  intro p e s m args below meth c s₁ B hml hv
  obtain ⟨rfl, E, hP, hD⟩ := hv
  have hx := B.exec
  have hb := B.bytes
  have hr := B.returns
  have hlocks := B.notSynchronized
  have Bx : MB p s m [.ref (ad 224), .int (k)].toArray c c_Mo_count "AbnfChartModel" D cy := ⟨hx, hb, tb_all (atoms_spec B.pre) E.2.1, findClass_of_methodNamed B.named, E.1⟩
  have hS : va_S (Az sz) s.heap s.heap [] := va_S.rf
  have hl := lv_entry ([.ref (ad 224), .int (k)]) (n := 4) (Nat.le_of_ble_eq_true rfl)
  rw [lg_entry_eq]
  generalize (lg_sl ([.ref (ad 224), .int (k)]) ++ List.replicate (4 - (lg_sl ([.ref (ad 224), .int (k)])).length) Slot.unset).toArray = ls at hl ⊢
  have hl : lv_has ls 4 [(0, .ref (ad 224)), (1, .int (k))] := hl
  refine lv_aload_n Bx.1 Bx.2.1 d_Mo_count_0 rfl (lv_at hl 0 rfl) ?_
  refine lv_iconst (v := 0) Bx.1 Bx.2.1 d_Mo_count_1 (by decide) ?_
  refine f_put Bx hP hD hS (by omega) h4 rfl inMo tyMo okMo nmMo 0 (by decide) kw_656 rfl rfl rfl rfl (Nat.le_of_ble_eq_true rfl) d_Mo_count_2 (fun H locs hP hS => ?_)
  obtain ⟨mem1, e_mem1⟩ : ∃ z, z = va_up mem (224) (.inr (7, [.int (0), .int (J 1), .ref (ad 225), .int (J 3), .int (J 4), .ref (ad 226), .ref (ad 227), .int (J 7), .ref (ad 228), .ref (ad 229), .ref (ad 230), .ref (ad 231), .ref (ad 232), .ref (ad 233), .int (J 14), .ref (ad 234), .int (J 16), .int (J 17), .int (J 18), .ref (ad 235), .ref (ad 236), .ref (ad 237), .ref (ad 238), .ref (ad 239), .int (J 24), .ref (ad 240), .int (J 26), .ref (ad 241), .int (J 28)])) := ⟨_, rfl⟩
  have hP : va_P D vcl (fw n ad mem1) H := by rw [e_mem1]; exact hP
  have hD : va_D (Az sz) (fw n ad mem1) := fw_D hD
  have h_mem1 : mem1 (224) = .inr (7, [.int (0), .int (J 1), .ref (ad 225), .int (J 3), .int (J 4), .ref (ad 226), .ref (ad 227), .int (J 7), .ref (ad 228), .ref (ad 229), .ref (ad 230), .ref (ad 231), .ref (ad 232), .ref (ad 233), .int (J 14), .ref (ad 234), .int (J 16), .int (J 17), .int (J 18), .ref (ad 235), .ref (ad 236), .ref (ad 237), .ref (ad 238), .ref (ad 239), .int (J 24), .ref (ad 240), .int (J 26), .ref (ad 241), .int (J 28)]) := by rw [e_mem1, va_up_self]
  have hJ0 : mem1 224 = moC ad (va_up J 0 0) := h_mem1
  refine lv_iload_n Bx.1 Bx.2.1 d_Mo_count_5 rfl (lv_at hl 1 rfl) ?_
  refine lv_iconst (v := 0) Bx.1 Bx.2.1 d_Mo_count_6 (by decide) ?_
  refine lv_iconst (v := 2) Bx.1 Bx.2.1 d_Mo_count_7 (by decide) ?_
  refine f_callSi (na := 3) (As := [.int (k), .int (0), .int (2)]) (rest := []) Bx hml E.2.1 (m_Mo_within l k 0 2) kw_750 kw_751 kw_8 kw_752 (by decide +kernel) ⟨rfl, rfl⟩ ⟨Nat.le_of_ble_eq_true rfl, Nat.le_of_ble_eq_true rfl⟩ rfl hl.1 (Nat.le_of_ble_eq_true rfl) d_Mo_count_8 ⟨Nat.le_of_ble_eq_true rfl, Nat.le_of_ble_eq_true rfl⟩ (fun r2 hr1 => ?_)
  subst hr1
  refine lv_if_ne Bx.1 Bx.2.1 d_Mo_count_11 rfl (fun h => ?_) (fun h => ?_)
  · have hk : ¬ (k < 0 ∨ 2 < k) := fun q => h (if_pos q)
    refine lv_iconst (v := 0) Bx.1 Bx.2.1 d_Mo_count_20 (by decide) ?_
    refine lv_istore_n (lv' := [(2, .int (0)), (0, .ref (ad 224)), (1, .int (k))]) Bx.1 Bx.2.1 d_Mo_count_21 rfl hl (by decide) rfl (fun ls hl => ?_)
    refine lv_iconst (v := 0) Bx.1 Bx.2.1 d_Mo_count_22 (by decide) ?_
    refine lv_istore_n (lv' := [(3, .int (0)), (2, .int (0)), (0, .ref (ad 224)), (1, .int (k))]) Bx.1 Bx.2.1 d_Mo_count_23 rfl hl (by decide) rfl (fun ls hl => ?_)
    refine lv_iload_n Bx.1 Bx.2.1 d_Mo_count_24 rfl (lv_at hl 0 rfl) ?_
    refine lv_aload_n Bx.1 Bx.2.1 d_Mo_count_25 rfl (lv_at hl 2 rfl) ?_
    refine f_get Bx hP (by omega) h_mem1 rfl inMo 4 (by decide) kw_660 rfl rfl d_Mo_count_26 ?_
    refine lv_icmp_ge Bx.1 Bx.2.1 d_Mo_count_29 rfl (fun h2 => ?_) (fun h2 => ?_)
    · refine lv_iload_n Bx.1 Bx.2.1 d_Mo_count_55 rfl (lv_at hl 3 rfl) ?_
      refine lv_if_ne Bx.1 Bx.2.1 d_Mo_count_56 rfl (fun h3 => ?_) (fun h3 => ?_)
      · refine lv_iload_n Bx.1 Bx.2.1 d_Mo_count_66 rfl (lv_at hl 3 rfl) ?_
        refine lv_iconst (v := 1) Bx.1 Bx.2.1 d_Mo_count_67 (by decide) ?_
        refine lv_icmp_ne Bx.1 Bx.2.1 d_Mo_count_68 rfl (fun h4 => ?_) (fun h4 => ?_)
        · refine lv_iload_n Bx.1 Bx.2.1 d_Mo_count_78 rfl (lv_at hl 1 rfl) ?_
          exact W.iret (v := 0) hx hb hr (fun t ht hW => ⟨⟨0, mem1, rfl, ⟨rfl, va_up J 0 0, by rw [e_mem1]; rfl, by rw [if_neg hk]; rfl, fun i hi => va_up_ne _ _ hi⟩, by show va_P _ _ _ t.heap; rw [ht]; exact hP⟩, hS.F ht⟩) hS.2.2 d_Mo_count_79
        · refine lv_aload_n Bx.1 Bx.2.1 d_Mo_count_71 rfl (lv_at hl 2 rfl) ?_
          refine f_get Bx hP (by omega) h_mem1 rfl inMo 7 (by decide) kw_663 rfl rfl d_Mo_count_72 ?_
          refine lv_goto Bx.1 Bx.2.1 d_Mo_count_75 rfl ?_
          rw [hE]
          exact W.iret (v := 0) hx hb hr (fun t ht hW => ⟨⟨0, mem1, rfl, ⟨rfl, va_up J 0 0, by rw [e_mem1]; rfl, by rw [if_neg hk]; rfl, fun i hi => va_up_ne _ _ hi⟩, by show va_P _ _ _ t.heap; rw [ht]; exact hP⟩, hS.F ht⟩) hS.2.2 d_Mo_count_79
      · refine lv_aload_n Bx.1 Bx.2.1 d_Mo_count_59 rfl (lv_at hl 2 rfl) ?_
        refine f_get Bx hP (by omega) h_mem1 rfl inMo 4 (by decide) kw_660 rfl rfl d_Mo_count_60 ?_
        refine lv_goto Bx.1 Bx.2.1 d_Mo_count_63 rfl ?_
        rw [hR]
        exact W.iret (v := 0) hx hb hr (fun t ht hW => ⟨⟨0, mem1, rfl, ⟨rfl, va_up J 0 0, by rw [e_mem1]; rfl, by rw [if_neg hk]; rfl, fun i hi => va_up_ne _ _ hi⟩, by show va_P _ _ _ t.heap; rw [ht]; exact hP⟩, hS.F ht⟩) hS.2.2 d_Mo_count_79
    · exact absurd (by rw [hR]; decide) h2
  · have hk : k < 0 ∨ 2 < k := by
      by_cases q : k < 0 ∨ 2 < k
      · exact q
      · rw [if_neg q] at h; exact absurd h (by decide)
    refine lv_aload_n Bx.1 Bx.2.1 d_Mo_count_14 rfl (lv_at hl 0 rfl) ?_
    refine lv_iconst (v := 1) Bx.1 Bx.2.1 d_Mo_count_15 (by decide) ?_
    refine f_callVi (na := 1) (As := [.int (1)]) (rest := []) Bx hml E hP hD hS (by omega) h_mem1 rfl (m_Mo_fail l hn (J := (va_up J 0 0)) hJ0) kw_753 kw_755 sel_Mo_fail kw_8 kw_756 (by decide +kernel) ⟨rfl, rfl⟩ ⟨Nat.le_of_ble_eq_true rfl, Nat.le_of_ble_eq_true rfl⟩ rfl hl.1 (Nat.le_of_ble_eq_true rfl) d_Mo_count_16 ⟨Nat.le_of_ble_eq_true rfl, Nat.le_of_ble_eq_true rfl⟩ (fun r3 mem4 H locs hq hP hS => ?_)
    have hD : va_D (Az sz) (fw n ad mem4) := fw_D hD
    obtain ⟨hq0, hq⟩ := hq
    subst hq0
    exact W.iret (v := 0) hx hb hr (fun t ht hW => ⟨⟨0, mem4, rfl, ⟨rfl, ⟨va_up (va_up J 0 0) 0 1, by rw [hq, e_mem1, up_up], by rw [if_pos hk]; exact va_up_self _ _ _, fun i hi => by rw [va_up_ne _ _ hi, va_up_ne _ _ hi]⟩⟩, by show va_P _ _ _ t.heap; rw [ht]; exact hP⟩, hS.F ht⟩) hS.2.2 d_Mo_count_19
end
section
/-! methods that may throw, counted well: a normal end makes no cell, a throw makes one -/
section XR
variable {p : Program} {l : Launch} {e : Env} {R : Room} {s : State} {m : MethodId} {args : Array Value} {below : List Frame} {meth : Method} {c : Code} {H : Heap} {locs : List Loc} {cells slots : Nat} {Q : State → Prop}
/-- where no cell is new, nothing has been used -/
theorem x_reset {T : State} (hz : T.heap.size = s.heap.size) (X : Stand p l e R s m args below meth c T locs cells slots) : Stand p l e R s m args below meth c T locs 0 0 := by
  obtain ⟨a1, a2, a3, a4, a5, a6, a7, a8, a9, a10, a11, a12, a13, h1, h2, h3, h4, h5, h6⟩ := X
  have hd : (T.setVm s.vm).heap.toList.drop s.heap.size = [] := List.drop_eq_nil_of_le (by show T.heap.toList.length ≤ _; rw [Array.length_toList, hz]; exact Nat.le_refl _)
  refine ⟨a1, a2, a3, a4, a5, a6, a7, a8, a9, a10, a11, a12, a13, h1, h2, ?_, h4, ?_, h6⟩
  · show T.heap.size ≤ _
    omega
  · rw [hd]; exact Nat.le_refl _
theorem x_size {g : JFrame} (kk : H.size = s.heap.size → W p l e R s m args below meth c H locs 0 slots Q g) : W p l e R s m args below meth c H locs 0 slots Q g := by
  intro T hT X
  have h1 : s.heap.size ≤ T.heap.size := X.same.2.1
  have h2 : T.heap.size ≤ s.heap.size + 0 := X.same.2.2.1
  exact kk (by rw [← hT]; omega) T hT X
theorem x_sizeX {g : JFrame} {q : Addr} (kk : H.size = s.heap.size → vx_W p l e R s m args below meth c H locs 0 slots Q g q) : vx_W p l e R s m args below meth c H locs 0 slots Q g q := by
  intro T hT X
  have h1 : s.heap.size ≤ T.heap.size := X.same.2.1
  have h2 : T.heap.size ≤ s.heap.size + 0 := X.same.2.2.1
  exact kk (by rw [← hT]; omega) T hT X
abbrev QX (Qc : Array Value → State → Outcome → State → Prop) : Array Value → State → Outcome → State → Prop := fun a st oc t => Qc a st oc t ∧ t.heap.size = st.heap.size
/-- a reference as an answer -/
def QR {S : Type} (post : Nat → S → Prop) (B : S → State → Prop) (A : Nat → Prop) : Array Value → State → Outcome → State → Prop := fun _ st oc t => (∃ (r : Nat) (u : S), oc = .returned (some (.ref r)) ∧ post r u ∧ B u t) ∧ va_F A st t
variable {mc ms : Nat} {free : Addr → Prop} {A0 A1 : Nat → Prop} {H0 : Heap} {a : Array Value} {pc : Nat} {ls : Array Slot} {st0 rest : List Value}
theorem x_calli {S SX : Type} {post : Int32 → S → Prop} {px : SX → Prop} {B : S → State → Prop} {BX : String → SX → State → Prop} {AX : Nat → Prop} (hr : vx_Run p l e R s m args below meth c H locs 0 0 mc ms (F0 m pc ls st0) rest (QX (va_Qi post B A1) a) (vx_X px BX AX) free) (hS : va_S A0 H0 H locs) (hA : ∀ q, q < H.size → A1 q → A0 q) (hf : ∀ q, free q → A0 q) (hAX : ∀ q, q < H.size → AX q → A0 q)
    (kx : ∀ (E : String) (ce : Cell) (q9 : Addr) (u : SX) (t : State) (H1 : Heap) (locs1 : List Loc), t.heap = H1 → s.vm.Alike t.vm → px u → BX E u t → H.size ≤ H1.size → (∀ q : Nat, q < H.size → ¬ AX q → H1[q]? = H[q]?) → va_S A0 H0 H1 locs1 → H1[q9]? = some ce → ce.vm = .none → s.vm.findClass E = some ce.cls → vx_W p l e R s m args below meth c H1 locs1 (0 + mc) (0 + ms) Q (F0 m pc ls rest) q9)
    (kk : ∀ (r : Int32) (u : S) (t : State) (H1 : Heap) (locs1 : List Loc), t.heap = H1 → post r u → B u t → va_S A0 H0 H1 locs1 → W p l e R s m args below meth c H1 locs1 0 0 Q (F0 m (pc + 3) ls (.int r :: rest))) : W p l e R s m args below meth c H locs 0 0 Q (F0 m pc ls st0) := by
  refine x_size (fun hz => ?_)
  intro T hT X
  rcases hr T hT X with ⟨v, st₀, t, T', L, h0, X', hL, e1, e2, ⟨⟨⟨r, u, hv, hp, hb⟩, hF⟩, hsz⟩, st⟩ | ⟨q, st₀, t, T', L, E, ce, h0, X', hL, e1, e2, ⟨u, hp, hb, hF⟩, hce, hcv, hcl, st⟩
  · cases hv
    obtain ⟨k1, k2, k3⟩ := vx_keep h0 e1 hS hA hf hL hF
    obtain ⟨t2, a1, b1⟩ := kk r u t T'.heap (locs ++ L) e1.symm hp hb k3 T' rfl (x_reset (by rw [e1, hsz, h0, hz]) X')
    exact ⟨t2, st t2 a1, b1⟩
  · obtain ⟨k1, k2, k3⟩ := vx_keep h0 e1 hS hAX hf hL hF
    obtain ⟨t2, a1, b1⟩ := kx E ce q u t T'.heap (locs ++ L) e1.symm (by rw [← e2]; exact X'.warmed.alike) hp hb k1 k2 k3 (by rw [e1]; exact hce) hcv hcl T' rfl X'
    exact ⟨t2, st.trans a1, b1⟩
theorem x_callr {S SX : Type} {post : Nat → S → Prop} {px : SX → Prop} {B : S → State → Prop} {BX : String → SX → State → Prop} {AX : Nat → Prop} (hr : vx_Run p l e R s m args below meth c H locs 0 0 mc ms (F0 m pc ls st0) rest (QX (QR post B A1) a) (vx_X px BX AX) free) (hS : va_S A0 H0 H locs) (hA : ∀ q, q < H.size → A1 q → A0 q) (hf : ∀ q, free q → A0 q) (hAX : ∀ q, q < H.size → AX q → A0 q)
    (kx : ∀ (E : String) (ce : Cell) (q9 : Addr) (u : SX) (t : State) (H1 : Heap) (locs1 : List Loc), t.heap = H1 → s.vm.Alike t.vm → px u → BX E u t → H.size ≤ H1.size → (∀ q : Nat, q < H.size → ¬ AX q → H1[q]? = H[q]?) → va_S A0 H0 H1 locs1 → H1[q9]? = some ce → ce.vm = .none → s.vm.findClass E = some ce.cls → vx_W p l e R s m args below meth c H1 locs1 (0 + mc) (0 + ms) Q (F0 m pc ls rest) q9)
    (kk : ∀ (r : Nat) (u : S) (t : State) (H1 : Heap) (locs1 : List Loc), t.heap = H1 → post r u → B u t → va_S A0 H0 H1 locs1 → W p l e R s m args below meth c H1 locs1 0 0 Q (F0 m (pc + 3) ls (.ref r :: rest))) : W p l e R s m args below meth c H locs 0 0 Q (F0 m pc ls st0) := by
  refine x_size (fun hz => ?_)
  intro T hT X
  rcases hr T hT X with ⟨v, st₀, t, T', L, h0, X', hL, e1, e2, ⟨⟨⟨r, u, hv, hp, hb⟩, hF⟩, hsz⟩, st⟩ | ⟨q, st₀, t, T', L, E, ce, h0, X', hL, e1, e2, ⟨u, hp, hb, hF⟩, hce, hcv, hcl, st⟩
  · cases hv
    obtain ⟨k1, k2, k3⟩ := vx_keep h0 e1 hS hA hf hL hF
    obtain ⟨t2, a1, b1⟩ := kk r u t T'.heap (locs ++ L) e1.symm hp hb k3 T' rfl (x_reset (by rw [e1, hsz, h0, hz]) X')
    exact ⟨t2, st t2 a1, b1⟩
  · obtain ⟨k1, k2, k3⟩ := vx_keep h0 e1 hS hAX hf hL hF
    obtain ⟨t2, a1, b1⟩ := kx E ce q u t T'.heap (locs ++ L) e1.symm (by rw [← e2]; exact X'.warmed.alike) hp hb k1 k2 k3 (by rw [e1]; exact hce) hcv hcl T' rfl X'
    exact ⟨t2, st.trans a1, b1⟩
theorem x_callv {S SX : Type} {post : S → Prop} {px : SX → Prop} {B : S → State → Prop} {BX : String → SX → State → Prop} {AX : Nat → Prop} (hr : vx_Run p l e R s m args below meth c H locs 0 0 mc ms (F0 m pc ls st0) rest (QX (va_Qv post B A1) a) (vx_X px BX AX) free) (hS : va_S A0 H0 H locs) (hA : ∀ q, q < H.size → A1 q → A0 q) (hf : ∀ q, free q → A0 q) (hAX : ∀ q, q < H.size → AX q → A0 q)
    (kx : ∀ (E : String) (ce : Cell) (q9 : Addr) (u : SX) (t : State) (H1 : Heap) (locs1 : List Loc), t.heap = H1 → s.vm.Alike t.vm → px u → BX E u t → H.size ≤ H1.size → (∀ q : Nat, q < H.size → ¬ AX q → H1[q]? = H[q]?) → va_S A0 H0 H1 locs1 → H1[q9]? = some ce → ce.vm = .none → s.vm.findClass E = some ce.cls → vx_W p l e R s m args below meth c H1 locs1 (0 + mc) (0 + ms) Q (F0 m pc ls rest) q9)
    (kk : ∀ (u : S) (t : State) (H1 : Heap) (locs1 : List Loc), t.heap = H1 → post u → B u t → va_S A0 H0 H1 locs1 → W p l e R s m args below meth c H1 locs1 0 0 Q (F0 m (pc + 3) ls rest)) : W p l e R s m args below meth c H locs 0 0 Q (F0 m pc ls st0) := by
  refine x_size (fun hz => ?_)
  intro T hT X
  rcases hr T hT X with ⟨v, st₀, t, T', L, h0, X', hL, e1, e2, ⟨⟨⟨u, hv, hp, hb⟩, hF⟩, hsz⟩, st⟩ | ⟨q, st₀, t, T', L, E, ce, h0, X', hL, e1, e2, ⟨u, hp, hb, hF⟩, hce, hcv, hcl, st⟩
  · cases hv
    obtain ⟨k1, k2, k3⟩ := vx_keep h0 e1 hS hA hf hL hF
    obtain ⟨t2, a1, b1⟩ := kk u t T'.heap (locs ++ L) e1.symm hp hb k3 T' rfl (x_reset (by rw [e1, hsz, h0, hz]) X')
    exact ⟨t2, st t2 a1, b1⟩
  · obtain ⟨k1, k2, k3⟩ := vx_keep h0 e1 hS hAX hf hL hF
    obtain ⟨t2, a1, b1⟩ := kx E ce q u t T'.heap (locs ++ L) e1.symm (by rw [← e2]; exact X'.warmed.alike) hp hb k1 k2 k3 (by rw [e1]; exact hce) hcv hcl T' rfl X'
    exact ⟨t2, st.trans a1, b1⟩
theorem callR {S : Type} {post : Nat → S → Prop} {B : S → State → Prop} (hr : va_Run p l e R s m args below meth c H locs cells slots mc ms (F0 m pc ls st0) rest (QR post B A1 a) free) (hS : va_S A0 H0 H locs) (hA : ∀ q, q < H.size → A1 q → A0 q) (hf : ∀ q, free q → A0 q)
    (kk : ∀ (r : Nat) (u : S) (t : State) (H1 : Heap) (locs1 : List Loc), t.heap = H1 → post r u → B u t → va_S A0 H0 H1 locs1 → W p l e R s m args below meth c H1 locs1 (cells + mc) (slots + ms) Q (F0 m (pc + 3) ls (.ref r :: rest))) : W p l e R s m args below meth c H locs cells slots Q (F0 m pc ls st0) := by
  intro T hT X
  obtain ⟨v, st₀, t, T', L, h0, X', hL, e1, e2, ⟨⟨r, u, hv, hp, hb⟩, hF⟩, st⟩ := hr T hT X
  cases hv
  obtain ⟨k1, k2, k3⟩ := vx_keep h0 e1 hS hA hf hL hF
  obtain ⟨t2, a1, b1⟩ := kk r u t T'.heap (locs ++ L) e1.symm hp hb k3 T' rfl X'
  exact ⟨t2, st t2 a1, b1⟩
end XR
section XF
variable {p : Program} {l : Launch} {e : Env} {R : Room} {s : State} {m : MethodId} {args : Array Value} {below : List Frame} {meth : Method} {c : Code} {H : Heap} {locs : List Loc} {cells slots : Nat} {Q : State → Prop}
variable {cc : ByteArray} {pc nL : Nat} {ls : Array Slot} {rest : List Value} {D : va_G} {cy : Nat → ClassId} {own C host : String} {T : u_T} {N ci index sz n j maxL na ik ic : Nat} {ad : Nat → Nat} {mem : Nat → va_E} {fs As : List Value} {y : MethodName} {bytes : ByteArray} {ret : Option FieldType} {rm : Room}
abbrev NXi (l : Launch) (D : va_G) (cy : Nat → ClassId) (sz n : Nat) (ad : Nat → Nat) (y : MethodName) (bytes : ByteArray) (maxL : Nat) (ret : Option FieldType) (rm : Room) (mem : Nat → va_E) (av : List Value) (post : Int32 → (Nat → va_E) → Prop) (px : String → (Nat → va_E) → Prop) : Prop :=
  vx_Met l y (.code y bytes maxL ret :: tg) rm (va_Pc av (PR D cy sz n ad mem)) (QX (va_Qi post (PP D n ad) (Az sz))) (XQ D sz n ad px) 1 6 (Az sz)
abbrev NXv (l : Launch) (D : va_G) (cy : Nat → ClassId) (sz n : Nat) (ad : Nat → Nat) (y : MethodName) (bytes : ByteArray) (maxL : Nat) (rm : Room) (mem : Nat → va_E) (av : List Value) (post : (Nat → va_E) → Prop) (px : String → (Nat → va_E) → Prop) : Prop :=
  vx_Met l y (.code y bytes maxL none :: tg) rm (va_Pc av (PR D cy sz n ad mem)) (QX (va_Qv post (PP D n ad) (Az sz))) (XQ D sz n ad px) 1 6 (Az sz)
abbrev NXr (l : Launch) (D : va_G) (cy : Nat → ClassId) (sz n : Nat) (ad : Nat → Nat) (y : MethodName) (bytes : ByteArray) (maxL : Nat) (ret : Option FieldType) (rm : Room) (mem : Nat → va_E) (av : List Value) (post : Nat → (Nat → va_E) → Prop) (px : String → (Nat → va_E) → Prop) : Prop :=
  vx_Met l y (.code y bytes maxL ret :: tg) rm (va_Pc av (PR D cy sz n ad mem)) (QX (QR post (PP D n ad) (Az sz))) (XQ D sz n ad px) 1 6 (Az sz)
abbrev MR (l : Launch) (D : va_G) (cy : Nat → ClassId) (sz n : Nat) (ad : Nat → Nat) (y : MethodName) (bytes : ByteArray) (maxL : Nat) (ret : Option FieldType) (rm : Room) (mem : Nat → va_E) (av : List Value) (post : Nat → (Nat → va_E) → Prop) : Prop :=
  Met l y (.code y bytes maxL ret :: tg) rm (va_Pc av (PR D cy sz n ad mem)) (QR post (PP D n ad) (Az sz)) 0 0 (Az sz)
theorem f_xVi {post : Int32 → (Nat → va_E) → Prop} {px : String → (Nat → va_E) → Prop} (B : MB p s m args c cc own D cy) (hml : c.maxLocals = nL) (E : EV D cy sz s) (hP : va_P D vcl (fw n ad mem) H) (hD : va_D (Az sz) (fw n ad mem)) (hS : va_S (Az sz) s.heap H locs) (hj : j < n) (hm : mem j = .inr (ci, fs)) (hc : vcl[ci]? = some (C, T, N))
    (M : NXi l D cy sz n ad y bytes maxL ret rm mem (.ref (ad j) :: As) post px) (h1 : Cond.methodLink own index y ∈ lw_tbl) (h2 : Cond.instanceMethod y ∈ lw_tbl) (h3 : Cond.selects C y y ∈ lw_tbl) (h4 : Cond.initialized C ∈ lw_tbl) (h5 : Cond.code y bytes maxL ret ∈ lw_tbl)
    (hd : y.cls = C ∧ y.cls ≠ "java/lang/invoke/MethodHandle" ∧ y.cls ≠ "java/lang/invoke/VarHandle" ∧ (parseMethodDescriptor y.desc).map (fun d => d.parameters.length) = some na) (hrm : rm.cells = 1 ∧ rm.slots = 6) (hR : rm.frames + 1 ≤ R.frames ∧ 8 + (maxL + 11) + rm.locals ≤ R.locals) (hn : As.length = na) (hsz : ls.size = nL) (hw : (rest.map fun v => v.category).sum ≤ 8) (hdg : decode cc pc = .ok (.invokevirtual index, 3)) (hf : 1 ≤ R.cells ∧ 6 ≤ R.slots)
    (kx : ∀ (X : String) (ce : Cell) (q9 : Addr) (mem' : Nat → va_E) (H1 : Heap) (locs1 : List Loc), px X mem' → va_P D vcl (fw n ad mem') H1 → va_S (Az sz) s.heap H1 locs1 → H1[q9]? = some ce → ce.vm = .none → s.vm.findClass X = some ce.cls → vx_W p l e R s m args below meth c H1 locs1 1 6 Q (F0 m pc ls rest) q9)
    (kk : ∀ (r : Int32) (mem' : Nat → va_E) (H1 : Heap) (locs1 : List Loc), post r mem' → va_P D vcl (fw n ad mem') H1 → va_S (Az sz) s.heap H1 locs1 → W p l e R s m args below meth c H1 locs1 0 0 Q (F0 m (pc + 3) ls (.int r :: rest))) :
    W p l e R s m args below meth c H locs 0 0 Q (F0 m pc ls (As.reverse ++ .ref (ad j) :: rest)) :=
  x_calli (vx_runV (As := As) (rest := rest) ⟨B.1, B.2.1, hml, B.2.2.2.1, B.2.2.1⟩ M (cwV na B.2.2.1 (gdV h1 h2 h3 h4 h5) rfl hrm.1 hrm.2 hd hR) (f_preV B E hP hD hS hj hm hc) rfl hn hsz rfl (lv_room hw) hdg ⟨by omega, by omega⟩) hS (fun q _ h => h) (fun q h => h) (fun q _ h => h)
    (fun X ce q9 u t H1 locs1 ht _ _ hb _ _ hS1 g1 g2 g3 => kx X ce q9 u H1 locs1 hb.1 (by rw [← ht]; exact hb.2) hS1 g1 g2 g3)
    (fun r u t H1 locs1 ht hp hb hS1 => kk r u H1 locs1 hp (by rw [← ht]; exact hb) hS1)
theorem f_xVr {post : Nat → (Nat → va_E) → Prop} {px : String → (Nat → va_E) → Prop} (B : MB p s m args c cc own D cy) (hml : c.maxLocals = nL) (E : EV D cy sz s) (hP : va_P D vcl (fw n ad mem) H) (hD : va_D (Az sz) (fw n ad mem)) (hS : va_S (Az sz) s.heap H locs) (hj : j < n) (hm : mem j = .inr (ci, fs)) (hc : vcl[ci]? = some (C, T, N))
    (M : NXr l D cy sz n ad y bytes maxL ret rm mem (.ref (ad j) :: As) post px) (h1 : Cond.methodLink own index y ∈ lw_tbl) (h2 : Cond.instanceMethod y ∈ lw_tbl) (h3 : Cond.selects C y y ∈ lw_tbl) (h4 : Cond.initialized C ∈ lw_tbl) (h5 : Cond.code y bytes maxL ret ∈ lw_tbl)
    (hd : y.cls = C ∧ y.cls ≠ "java/lang/invoke/MethodHandle" ∧ y.cls ≠ "java/lang/invoke/VarHandle" ∧ (parseMethodDescriptor y.desc).map (fun d => d.parameters.length) = some na) (hrm : rm.cells = 1 ∧ rm.slots = 6) (hR : rm.frames + 1 ≤ R.frames ∧ 8 + (maxL + 11) + rm.locals ≤ R.locals) (hn : As.length = na) (hsz : ls.size = nL) (hw : (rest.map fun v => v.category).sum ≤ 8) (hdg : decode cc pc = .ok (.invokevirtual index, 3)) (hf : 1 ≤ R.cells ∧ 6 ≤ R.slots)
    (kx : ∀ (X : String) (ce : Cell) (q9 : Addr) (mem' : Nat → va_E) (H1 : Heap) (locs1 : List Loc), px X mem' → va_P D vcl (fw n ad mem') H1 → va_S (Az sz) s.heap H1 locs1 → H1[q9]? = some ce → ce.vm = .none → s.vm.findClass X = some ce.cls → vx_W p l e R s m args below meth c H1 locs1 1 6 Q (F0 m pc ls rest) q9)
    (kk : ∀ (r : Nat) (mem' : Nat → va_E) (H1 : Heap) (locs1 : List Loc), post r mem' → va_P D vcl (fw n ad mem') H1 → va_S (Az sz) s.heap H1 locs1 → W p l e R s m args below meth c H1 locs1 0 0 Q (F0 m (pc + 3) ls (.ref r :: rest))) :
    W p l e R s m args below meth c H locs 0 0 Q (F0 m pc ls (As.reverse ++ .ref (ad j) :: rest)) :=
  x_callr (vx_runV (As := As) (rest := rest) ⟨B.1, B.2.1, hml, B.2.2.2.1, B.2.2.1⟩ M (cwV na B.2.2.1 (gdV h1 h2 h3 h4 h5) rfl hrm.1 hrm.2 hd hR) (f_preV B E hP hD hS hj hm hc) rfl hn hsz rfl (lv_room hw) hdg ⟨by omega, by omega⟩) hS (fun q _ h => h) (fun q h => h) (fun q _ h => h)
    (fun X ce q9 u t H1 locs1 ht _ _ hb _ _ hS1 g1 g2 g3 => kx X ce q9 u H1 locs1 hb.1 (by rw [← ht]; exact hb.2) hS1 g1 g2 g3)
    (fun r u t H1 locs1 ht hp hb hS1 => kk r u H1 locs1 hp (by rw [← ht]; exact hb) hS1)
theorem f_xVv {post : (Nat → va_E) → Prop} {px : String → (Nat → va_E) → Prop} (B : MB p s m args c cc own D cy) (hml : c.maxLocals = nL) (E : EV D cy sz s) (hP : va_P D vcl (fw n ad mem) H) (hD : va_D (Az sz) (fw n ad mem)) (hS : va_S (Az sz) s.heap H locs) (hj : j < n) (hm : mem j = .inr (ci, fs)) (hc : vcl[ci]? = some (C, T, N))
    (M : NXv l D cy sz n ad y bytes maxL rm mem (.ref (ad j) :: As) post px) (h1 : Cond.methodLink own index y ∈ lw_tbl) (h2 : Cond.instanceMethod y ∈ lw_tbl) (h3 : Cond.selects C y y ∈ lw_tbl) (h4 : Cond.initialized C ∈ lw_tbl) (h5 : Cond.code y bytes maxL none ∈ lw_tbl)
    (hd : y.cls = C ∧ y.cls ≠ "java/lang/invoke/MethodHandle" ∧ y.cls ≠ "java/lang/invoke/VarHandle" ∧ (parseMethodDescriptor y.desc).map (fun d => d.parameters.length) = some na) (hrm : rm.cells = 1 ∧ rm.slots = 6) (hR : rm.frames + 1 ≤ R.frames ∧ 8 + (maxL + 11) + rm.locals ≤ R.locals) (hn : As.length = na) (hsz : ls.size = nL) (hw : (rest.map fun v => v.category).sum ≤ 8) (hdg : decode cc pc = .ok (.invokevirtual index, 3)) (hf : 1 ≤ R.cells ∧ 6 ≤ R.slots)
    (kx : ∀ (X : String) (ce : Cell) (q9 : Addr) (mem' : Nat → va_E) (H1 : Heap) (locs1 : List Loc), px X mem' → va_P D vcl (fw n ad mem') H1 → va_S (Az sz) s.heap H1 locs1 → H1[q9]? = some ce → ce.vm = .none → s.vm.findClass X = some ce.cls → vx_W p l e R s m args below meth c H1 locs1 1 6 Q (F0 m pc ls rest) q9)
    (kk : ∀ (mem' : Nat → va_E) (H1 : Heap) (locs1 : List Loc), post mem' → va_P D vcl (fw n ad mem') H1 → va_S (Az sz) s.heap H1 locs1 → W p l e R s m args below meth c H1 locs1 0 0 Q (F0 m (pc + 3) ls rest)) :
    W p l e R s m args below meth c H locs 0 0 Q (F0 m pc ls (As.reverse ++ .ref (ad j) :: rest)) :=
  x_callv (vx_runV (As := As) (rest := rest) ⟨B.1, B.2.1, hml, B.2.2.2.1, B.2.2.1⟩ M (cwV na B.2.2.1 (gdV h1 h2 h3 h4 h5) rfl hrm.1 hrm.2 hd hR) (f_preV B E hP hD hS hj hm hc) rfl hn hsz rfl (lv_room hw) hdg ⟨by omega, by omega⟩) hS (fun q _ h => h) (fun q h => h) (fun q _ h => h)
    (fun X ce q9 u t H1 locs1 ht _ _ hb _ _ hS1 g1 g2 g3 => kx X ce q9 u H1 locs1 hb.1 (by rw [← ht]; exact hb.2) hS1 g1 g2 g3)
    (fun u t H1 locs1 ht hp hb hS1 => kk u H1 locs1 hp (by rw [← ht]; exact hb) hS1)
theorem f_callVr {post : Nat → (Nat → va_E) → Prop} (B : MB p s m args c cc own D cy) (hml : c.maxLocals = nL) (E : EV D cy sz s) (hP : va_P D vcl (fw n ad mem) H) (hD : va_D (Az sz) (fw n ad mem)) (hS : va_S (Az sz) s.heap H locs) (hj : j < n) (hm : mem j = .inr (ci, fs)) (hc : vcl[ci]? = some (C, T, N))
    (M : MR l D cy sz n ad y bytes maxL ret rm mem (.ref (ad j) :: As) post) (h1 : Cond.methodLink own index y ∈ lw_tbl) (h2 : Cond.instanceMethod y ∈ lw_tbl) (h3 : Cond.selects C y y ∈ lw_tbl) (h4 : Cond.initialized C ∈ lw_tbl) (h5 : Cond.code y bytes maxL ret ∈ lw_tbl)
    (hd : y.cls = C ∧ y.cls ≠ "java/lang/invoke/MethodHandle" ∧ y.cls ≠ "java/lang/invoke/VarHandle" ∧ (parseMethodDescriptor y.desc).map (fun d => d.parameters.length) = some na) (hrm : rm.cells = 0 ∧ rm.slots = 0) (hR : rm.frames + 1 ≤ R.frames ∧ 8 + (maxL + 11) + rm.locals ≤ R.locals) (hn : As.length = na) (hsz : ls.size = nL) (hw : (rest.map fun v => v.category).sum ≤ 8) (hdg : decode cc pc = .ok (.invokevirtual index, 3)) (hf : cells ≤ R.cells ∧ slots ≤ R.slots)
    (kk : ∀ (r : Nat) (mem' : Nat → va_E) (H1 : Heap) (locs1 : List Loc), post r mem' → va_P D vcl (fw n ad mem') H1 → va_S (Az sz) s.heap H1 locs1 → W p l e R s m args below meth c H1 locs1 cells slots Q (F0 m (pc + 3) ls (.ref r :: rest))) :
    W p l e R s m args below meth c H locs cells slots Q (F0 m pc ls (As.reverse ++ .ref (ad j) :: rest)) :=
  callR (va_runV (As := As) (rest := rest) ⟨B.1, B.2.1, hml, B.2.2.2.1, B.2.2.1⟩ M (cwV na B.2.2.1 (gdV h1 h2 h3 h4 h5) rfl hrm.1 hrm.2 hd hR) (f_preV B E hP hD hS hj hm hc) rfl hn hsz rfl (lv_room hw) hdg hf) hS (fun q _ h => h) (fun q h => h)
    (fun r u t H1 locs1 ht hp hb hS1 => kk r u H1 locs1 hp (by rw [← ht]; exact hb) hS1)
theorem x_iret {post : Int32 → (Nat → va_E) → Prop} {v : Int32} {px : String → (Nat → va_E) → Prop} (hx : p.tables.exec = Jvm.exec) (hb : c.code = cc) (hlocks : meth.locks = false) (hr : meth.sig.returnType = some .int) (hp : post v mem) (hP : va_P D vcl (fw n ad mem) H) (hS : va_S (Az sz) s.heap H locs) (hdg : decode cc pc = .ok (.ireturn, 1)) : W p l e R s m args below meth c H locs 0 0 (vx_MQ below (QX (va_Qi post (PP D n ad) (Az sz))) (XQ D sz n ad px) args s 1 6 (Az sz)) (F0 m pc ls [.int v]) :=
  x_size (fun hz => vx_ret (W.widen (k := 1) (n := 6) (by decide) (by decide) (W.iret (v := v) hx hb hr (fun t ht _ => ⟨⟨⟨v, mem, rfl, hp, by show va_P _ _ _ t.heap; rw [ht]; exact hP⟩, hS.F ht⟩, by rw [ht]; exact hz⟩) hS.2.2 hdg)))
theorem x_zret {post : Int32 → (Nat → va_E) → Prop} {v : Int32} {ty : FieldType} {px : String → (Nat → va_E) → Prop} (hx : p.tables.exec = Jvm.exec) (hb : c.code = cc) (hlocks : meth.locks = false) (hr : meth.sig.returnType = some ty) (hn : narrow ty (.int v) = .int v) (hp : post v mem) (hP : va_P D vcl (fw n ad mem) H) (hS : va_S (Az sz) s.heap H locs) (hdg : decode cc pc = .ok (.ireturn, 1)) : W p l e R s m args below meth c H locs 0 0 (vx_MQ below (QX (va_Qi post (PP D n ad) (Az sz))) (XQ D sz n ad px) args s 1 6 (Az sz)) (F0 m pc ls [.int v]) :=
  x_size (fun hz => vx_ret (W.widen (k := 1) (n := 6) (by decide) (by decide) (W.zret (v := v) hx hb hr hn (fun t ht _ => ⟨⟨⟨v, mem, rfl, hp, by show va_P _ _ _ t.heap; rw [ht]; exact hP⟩, hS.F ht⟩, by rw [ht]; exact hz⟩) hS.2.2 hdg)))
theorem x_vret {post : (Nat → va_E) → Prop} {px : String → (Nat → va_E) → Prop} (hx : p.tables.exec = Jvm.exec) (hb : c.code = cc) (hlocks : meth.locks = false) (hr : meth.sig.returnType = none) (hp : post mem) (hP : va_P D vcl (fw n ad mem) H) (hS : va_S (Az sz) s.heap H locs) (hdg : decode cc pc = .ok (.return_, 1)) : W p l e R s m args below meth c H locs 0 0 (vx_MQ below (QX (va_Qv post (PP D n ad) (Az sz))) (XQ D sz n ad px) args s 1 6 (Az sz)) (F0 m pc ls []) :=
  x_size (fun hz => vx_ret (W.widen (k := 1) (n := 6) (by decide) (by decide) (W.vret hx hb hr (fun t ht _ => ⟨⟨⟨mem, rfl, hp, by show va_P _ _ _ t.heap; rw [ht]; exact hP⟩, hS.F ht⟩, by rw [ht]; exact hz⟩) hS.2.2 hdg)))
theorem x_aret {post : Nat → (Nat → va_E) → Prop} {v : Nat} {nm : String} {px : String → (Nat → va_E) → Prop} (hx : p.tables.exec = Jvm.exec) (hb : c.code = cc) (hlocks : meth.locks = false) (hr : meth.sig.returnType = some (.object nm)) (hp : post v mem) (hP : va_P D vcl (fw n ad mem) H) (hS : va_S (Az sz) s.heap H locs) (hdg : decode cc pc = .ok (.areturn, 1)) : W p l e R s m args below meth c H locs 0 0 (vx_MQ below (QX (QR post (PP D n ad) (Az sz))) (XQ D sz n ad px) args s 1 6 (Az sz)) (F0 m pc ls [.ref v]) :=
  x_size (fun hz => vx_ret (W.widen (k := 1) (n := 6) (by decide) (by decide) (W.aret (v := .ref v) hx hb hr (Or.inl ⟨nm, rfl⟩) (Or.inr ⟨v, rfl⟩) (fun t ht _ => ⟨⟨⟨v, mem, rfl, hp, by show va_P _ _ _ t.heap; rw [ht]; exact hP⟩, hS.F ht⟩, by rw [ht]; exact hz⟩) hS.2.2 hdg)))
theorem r_aret {post : Nat → (Nat → va_E) → Prop} {v : Nat} {nm : String} (hx : p.tables.exec = Jvm.exec) (hb : c.code = cc) (hlocks : meth.locks = false) (hr : meth.sig.returnType = some (.object nm)) (hp : post v mem) (hP : va_P D vcl (fw n ad mem) H) (hS : va_S (Az sz) s.heap H locs) (hdg : decode cc pc = .ok (.areturn, 1)) : W p l e R s m args below meth c H locs 0 0 (MQ below (QR post (PP D n ad) (Az sz)) args s 0 0 (Az sz)) (F0 m pc ls [.ref v]) :=
  W.aret (v := .ref v) hx hb hr (Or.inl ⟨nm, rfl⟩) (Or.inr ⟨v, rfl⟩) (fun t ht _ => ⟨⟨v, mem, rfl, hp, by show va_P _ _ _ t.heap; rw [ht]; exact hP⟩, hS.F ht⟩) hS.2.2 hdg
end XF
end
section
/-! the class's cells while and behind a reading, weakly: kinds, bounds, links that go on to later elements -/
def rfA (ad : Nat → Nat) (off st k : Nat) : Nat → Option Nat := fun i => if i < k then some (ad (off + st * i)) else none
def oE (ad : Nat → Nat) (lo hi : Nat) (v : Value) : Prop := v = .null ∨ ∃ j, lo ≤ j ∧ j < hi ∧ v = .ref (ad (20 + 2 * j))
def oR (ad : Nat → Nat) (v : Value) : Prop := v = .null ∨ ∃ i, i < 12 ∧ v = .ref (ad (7 + i))
theorem oE.mono {ad : Nat → Nat} {lo hi lo' hi' : Nat} {v : Value} (h : oE ad lo hi v) (h1 : lo' ≤ lo) (h2 : hi ≤ hi') : oE ad lo' hi' v := h.elim Or.inl (fun ⟨j, a, b, c⟩ => Or.inr ⟨j, by omega, by omega, c⟩)
def RuI (ad : Nat → Nat) (rc ec : Nat) (mem : Nat → va_E) (i : Nat) : Prop := ∃ (nm : Int64) (v w : Value), mem (7 + i) = .inr (5, [.long nm, v, w]) ∧ (i < rc → oE ad 0 ec v ∧ oE ad 0 ec w)
def ElI (ad : Nat → Nat) (ec : Nat) (mem : Nat → va_E) (k : Nat) : Prop := ∃ (a b c : Int32) (q v w : Value), mem (20 + 2 * k) = .inr (2, [.int a, .int b, .int c, q, v, w, .ref (ad (21 + 2 * k))]) ∧ (k < ec → oR ad q ∧ oE ad (k + 1) ec v ∧ oE ad (k + 1) ec w)
def GI (cy : Nat → ClassId) (ad : Nat → Nat) (rc ec : Nat) (wh : Int32) (mem : Nat → va_E) : Prop :=
  (rc ≤ 12 ∧ ec ≤ 100) ∧ mem 5 = .inr (3, [.ref (ad 6), .ref (ad 19), .ref (ad 220), .int (nI rc), .int (nI ec), .int wh]) ∧ mem 6 = gaC (cy 5) 12 (rfA ad 7 1 12) ∧ mem 19 = gaC (cy 4) 100 (rfA ad 20 2 100) ∧ (∀ i, i < 12 → RuI ad rc ec mem i) ∧ (∀ k, k < 100 → ElI ad ec mem k ∧ ∃ g : Nat → Int32, mem (21 + 2 * k) = .inl (cy 1, 25, .inl g)) ∧ ∃ (S : Nat) (g : Nat → Int32), S ≤ 240 ∧ mem 220 = .inr (0, [.ref (ad 221), .int (nI S)]) ∧ mem 221 = .inl (cy 0, 240, .inl g)
def RS (cy : Nat → ClassId) (ad : Nat → Nat) (rc ec : Nat) (m0 mem : Nat → va_E) : Prop := GI cy ad rc ec 0 mem ∧ (∃ a t : Int32, mem 222 = .inr (4, [.ref (ad 1), .ref (ad 5), .int a, .int t])) ∧ ∀ i, i < 5 ∨ 223 ≤ i → mem i = m0 i
section INV
variable {cy : Nat → ClassId} {ad : Nat → Nat} {rc ec : Nat} {wh : Int32} {mem m0 : Nat → va_E}
theorem RuI.at {mem' : Nat → va_E} {i : Nat} (h : RuI ad rc ec mem i) (e : mem' (7 + i) = mem (7 + i)) : RuI ad rc ec mem' i := by
  obtain ⟨nm, v, w, h1, h2⟩ := h
  exact ⟨nm, v, w, e.trans h1, h2⟩
theorem ElI.at {mem' : Nat → va_E} {k : Nat} (h : ElI ad ec mem k) (e : mem' (20 + 2 * k) = mem (20 + 2 * k)) : ElI ad ec mem' k := by
  obtain ⟨a, b, c, q, v, w, h1, h2⟩ := h
  exact ⟨a, b, c, q, v, w, e.trans h1, h2⟩
theorem GI.frame {mem' : Nat → va_E} (h : GI cy ad rc ec wh mem) (e : ∀ i, 5 ≤ i → i < 222 → mem' i = mem i) : GI cy ad rc ec wh mem' := by
  obtain ⟨h1, h5, h6, h19, hr, he, S, g, hS, h220, h221⟩ := h
  refine ⟨h1, (e 5 (by omega) (by omega)).trans h5, (e 6 (by omega) (by omega)).trans h6, (e 19 (by omega) (by omega)).trans h19, fun i hi => (hr i hi).at (e _ (by omega) (by omega)), fun k hk => ⟨(he k hk).1.at (e _ (by omega) (by omega)), ?_⟩, S, g, hS, (e 220 (by omega) (by omega)).trans h220, (e 221 (by omega) (by omega)).trans h221⟩
  obtain ⟨g', h⟩ := (he k hk).2
  exact ⟨g', (e _ (by omega) (by omega)).trans h⟩
theorem GI.upEl (h : GI cy ad rc ec wh mem) {k : Nat} (hk : k < 100) {a b c : Int32} {q v w : Value} (hq : k < ec → oR ad q ∧ oE ad (k + 1) ec v ∧ oE ad (k + 1) ec w) : GI cy ad rc ec wh (va_up mem (20 + 2 * k) (.inr (2, [.int a, .int b, .int c, q, v, w, .ref (ad (21 + 2 * k))]))) := by
  obtain ⟨h1, h5, h6, h19, hr, he, S, g, hS, h220, h221⟩ := h
  refine ⟨h1, (va_up_ne _ _ (by omega)).trans h5, (va_up_ne _ _ (by omega)).trans h6, (va_up_ne _ _ (by omega)).trans h19, fun i hi => (hr i hi).at (va_up_ne _ _ (by omega)), fun j hj => ⟨?_, ?_⟩, S, g, hS, (va_up_ne _ _ (by omega)).trans h220, (va_up_ne _ _ (by omega)).trans h221⟩
  · by_cases hjk : j = k
    · subst hjk
      exact ⟨a, b, c, q, v, w, va_up_self _ _ _, hq⟩
    · exact (he j hj).1.at (va_up_ne _ _ (by omega))
  · obtain ⟨g', h⟩ := (he j hj).2
    exact ⟨g', (va_up_ne _ _ (by omega)).trans h⟩
theorem GI.upEnds (h : GI cy ad rc ec wh mem) {k : Nat} (hk : k < 100) {g0 : Nat → Int32} : GI cy ad rc ec wh (va_up mem (21 + 2 * k) (.inl (cy 1, 25, .inl g0))) := by
  obtain ⟨h1, h5, h6, h19, hr, he, S, g, hS, h220, h221⟩ := h
  refine ⟨h1, (va_up_ne _ _ (by omega)).trans h5, (va_up_ne _ _ (by omega)).trans h6, (va_up_ne _ _ (by omega)).trans h19, fun i hi => (hr i hi).at (va_up_ne _ _ (by omega)), fun j hj => ⟨(he j hj).1.at (va_up_ne _ _ (by omega)), ?_⟩, S, g, hS, (va_up_ne _ _ (by omega)).trans h220, (va_up_ne _ _ (by omega)).trans h221⟩
  by_cases hjk : j = k
  · subst hjk
    exact ⟨g0, va_up_self _ _ _⟩
  · obtain ⟨g', h⟩ := (he j hj).2
    exact ⟨g', (va_up_ne _ _ (by omega)).trans h⟩
theorem GI.upRu (h : GI cy ad rc ec wh mem) {k : Nat} (hk : k < 12) {nm : Int64} {v w : Value} (hq : k < rc → oE ad 0 ec v ∧ oE ad 0 ec w) : GI cy ad rc ec wh (va_up mem (7 + k) (.inr (5, [.long nm, v, w]))) := by
  obtain ⟨h1, h5, h6, h19, hr, he, S, g, hS, h220, h221⟩ := h
  refine ⟨h1, (va_up_ne _ _ (by omega)).trans h5, (va_up_ne _ _ (by omega)).trans h6, (va_up_ne _ _ (by omega)).trans h19, fun i hi => ?_, fun j hj => ⟨(he j hj).1.at (va_up_ne _ _ (by omega)), ?_⟩, S, g, hS, (va_up_ne _ _ (by omega)).trans h220, (va_up_ne _ _ (by omega)).trans h221⟩
  · by_cases hik : i = k
    · subst hik
      exact ⟨nm, v, w, va_up_self _ _ _, hq⟩
    · exact (hr i hi).at (va_up_ne _ _ (by omega))
  · obtain ⟨g', h⟩ := (he j hj).2
    exact ⟨g', (va_up_ne _ _ (by omega)).trans h⟩
/-- a new row of counts; what lies behind the old ones must be known -/
theorem GI.up5 (h : GI cy ad rc ec wh mem) {rc' ec' : Nat} {wh' : Int32} (hc : rc' ≤ 12 ∧ ec' ≤ 100) (hr' : ∀ i, i < 12 → i < rc' → ∃ (nm : Int64) (v w : Value), mem (7 + i) = .inr (5, [.long nm, v, w]) ∧ oE ad 0 ec' v ∧ oE ad 0 ec' w) (he' : ∀ k, k < 100 → k < ec' → ∃ (a b c : Int32) (q v w : Value), mem (20 + 2 * k) = .inr (2, [.int a, .int b, .int c, q, v, w, .ref (ad (21 + 2 * k))]) ∧ oR ad q ∧ oE ad (k + 1) ec' v ∧ oE ad (k + 1) ec' w) :
    GI cy ad rc' ec' wh' (va_up mem 5 (.inr (3, [.ref (ad 6), .ref (ad 19), .ref (ad 220), .int (nI rc'), .int (nI ec'), .int wh']))) := by
  obtain ⟨h1, h5, h6, h19, hr, he, S, g, hS, h220, h221⟩ := h
  refine ⟨hc, va_up_self _ _ _, (va_up_ne _ _ (by omega)).trans h6, (va_up_ne _ _ (by omega)).trans h19, fun i hi => ?_, fun j hj => ⟨?_, ?_⟩, S, g, hS, (va_up_ne _ _ (by omega)).trans h220, (va_up_ne _ _ (by omega)).trans h221⟩
  · by_cases hi2 : i < rc'
    · obtain ⟨nm, v, w, e, o⟩ := hr' i hi hi2
      exact ⟨nm, v, w, (va_up_ne _ _ (by omega)).trans e, fun _ => o⟩
    · obtain ⟨nm, v, w, e, -⟩ := hr i hi
      exact ⟨nm, v, w, (va_up_ne _ _ (by omega)).trans e, fun h => absurd h hi2⟩
  · by_cases hj2 : j < ec'
    · obtain ⟨a, b, c, q, v, w, e, o⟩ := he' j hj hj2
      exact ⟨a, b, c, q, v, w, (va_up_ne _ _ (by omega)).trans e, fun _ => o⟩
    · obtain ⟨a, b, c, q, v, w, e, -⟩ := (he j hj).1
      exact ⟨a, b, c, q, v, w, (va_up_ne _ _ (by omega)).trans e, fun h => absurd h hj2⟩
  · obtain ⟨g', h⟩ := (he j hj).2
    exact ⟨g', (va_up_ne _ _ (by omega)).trans h⟩
theorem GI.up220 (h : GI cy ad rc ec wh mem) {S' : Nat} (hS' : S' ≤ 240) : GI cy ad rc ec wh (va_up mem 220 (.inr (0, [.ref (ad 221), .int (nI S')]))) := by
  obtain ⟨h1, h5, h6, h19, hr, he, S, g, hS, h220, h221⟩ := h
  refine ⟨h1, (va_up_ne _ _ (by omega)).trans h5, (va_up_ne _ _ (by omega)).trans h6, (va_up_ne _ _ (by omega)).trans h19, fun i hi => (hr i hi).at (va_up_ne _ _ (by omega)), fun j hj => ⟨(he j hj).1.at (va_up_ne _ _ (by omega)), ?_⟩, S', g, hS', va_up_self _ _ _, (va_up_ne _ _ (by omega)).trans h221⟩
  obtain ⟨g', h⟩ := (he j hj).2
  exact ⟨g', (va_up_ne _ _ (by omega)).trans h⟩
theorem GI.up221 (h : GI cy ad rc ec wh mem) {g0 : Nat → Int32} : GI cy ad rc ec wh (va_up mem 221 (.inl (cy 0, 240, .inl g0))) := by
  obtain ⟨h1, h5, h6, h19, hr, he, S, g, hS, h220, h221⟩ := h
  refine ⟨h1, (va_up_ne _ _ (by omega)).trans h5, (va_up_ne _ _ (by omega)).trans h6, (va_up_ne _ _ (by omega)).trans h19, fun i hi => (hr i hi).at (va_up_ne _ _ (by omega)), fun j hj => ⟨(he j hj).1.at (va_up_ne _ _ (by omega)), ?_⟩, S, g0, hS, (va_up_ne _ _ (by omega)).trans h220, va_up_self _ _ _⟩
  obtain ⟨g', h⟩ := (he j hj).2
  exact ⟨g', (va_up_ne _ _ (by omega)).trans h⟩
theorem GI.upAny (h : GI cy ad rc ec wh mem) {j : Nat} {x : va_E} (hj : j < 5 ∨ 222 ≤ j) : GI cy ad rc ec wh (va_up mem j x) := h.frame (fun i h1 h2 => va_up_ne _ _ (by omega))
theorem RS.at222 (h : RS cy ad rc ec m0 mem) {a t : Int32} : RS cy ad rc ec m0 (va_up mem 222 (.inr (4, [.ref (ad 1), .ref (ad 5), .int a, .int t]))) := ⟨h.1.upAny (by omega), ⟨a, t, va_up_self _ _ _⟩, fun i hi => (va_up_ne _ _ (by omega)).trans (h.2.2 i hi)⟩
theorem RS.mk {rc' ec' : Nat} {j : Nat} {x : va_E} (h : RS cy ad rc ec m0 mem) (hj : 5 ≤ j ∧ j < 222) (hg : GI cy ad rc' ec' 0 (va_up mem j x)) : RS cy ad rc' ec' m0 (va_up mem j x) := by
  obtain ⟨a, t, e⟩ := h.2.1
  exact ⟨hg, ⟨a, t, (va_up_ne _ _ (by omega)).trans e⟩, fun i hi => (va_up_ne _ _ (by omega)).trans (h.2.2 i hi)⟩
end INV
section RQ
variable {p : Program} {l : Launch} {e : Env} {R : Room} {s : State} {m : MethodId} {args : Array Value} {below : List Frame} {meth : Method} {c : Code} {H : Heap} {locs : List Loc} {cells slots : Nat} {Q : State → Prop}
variable {cc : ByteArray} {pc : Nat} {ls : Array Slot} {rest : List Value} {D : va_G} {cy : Nat → ClassId} {own : String} {sz n j : Nat} {ad : Nat → Nat} {mem : Nat → va_E}
/-- a reference out of a row -/
theorem f_aald {C : String} {t0 N' : Nat} {f : Nat → Option Nat} (B : MB p s m args c cc own D cy) (hP : va_P D vcl (fw n ad mem) H) (hj : j < n) (hm : mem j = gaC (cy t0) N' f) (ht : (ty6 cy)[t0]? = some (cy t0, .object C)) {i : Int32} {q : Nat} (k : Nat) (hi : i = nI k) (hk : k < N') (hN : N' < 2 ^ 31) (hf : f k = some q) (hdg : decode cc pc = .ok (.aaload, 1)) (kk : W p l e R s m args below meth c H locs cells slots Q (F0 m (pc + 1) ls (.ref q :: rest))) : W p l e R s m args below meth c H locs cells slots Q (F0 m pc ls (.int i :: .ref (ad j) :: rest)) := by
  subst hi
  refine va_aldq B.1 B.2.1 B.2.2.2.2 hP j t0 (fw_atm hj hm) ht (vp_in_nI hk hN) hdg ?_
  rw [nI_clamp (by omega), hf]
  exact kk
end RQ
end
section
theorem d_Rd_isNameCode_0 : decode c_Rd_isNameCode 0 = .ok (.iload_n 0, 1) := by decide +kernel
theorem d_Rd_isNameCode_1 : decode c_Rd_isNameCode 1 = .ok (.invokestatic 175, 3) := by decide +kernel
theorem d_Rd_isNameCode_4 : decode c_Rd_isNameCode 4 = .ok (.ifCond .ne 16, 3) := by decide +kernel
theorem d_Rd_isNameCode_7 : decode c_Rd_isNameCode 7 = .ok (.iload_n 0, 1) := by decide +kernel
theorem d_Rd_isNameCode_8 : decode c_Rd_isNameCode 8 = .ok (.invokestatic 119, 3) := by decide +kernel
theorem d_Rd_isNameCode_11 : decode c_Rd_isNameCode 11 = .ok (.ifCond .ne 9, 3) := by decide +kernel
theorem d_Rd_isNameCode_14 : decode c_Rd_isNameCode 14 = .ok (.iload_n 0, 1) := by decide +kernel
theorem d_Rd_isNameCode_15 : decode c_Rd_isNameCode 15 = .ok (.bipush 45, 2) := by decide +kernel
theorem d_Rd_isNameCode_17 : decode c_Rd_isNameCode 17 = .ok (.if_icmp .ne 7, 3) := by decide +kernel
theorem d_Rd_isNameCode_20 : decode c_Rd_isNameCode 20 = .ok (.iconst 1, 1) := by decide +kernel
theorem d_Rd_isNameCode_21 : decode c_Rd_isNameCode 21 = .ok (.goto 4, 3) := by decide +kernel
theorem d_Rd_isNameCode_24 : decode c_Rd_isNameCode 24 = .ok (.iconst 0, 1) := by decide +kernel
theorem d_Rd_isNameCode_25 : decode c_Rd_isNameCode 25 = .ok (.ireturn, 1) := by decide +kernel
theorem d_Rd_beginsRepeat_0 : decode c_Rd_beginsRepeat 0 = .ok (.iload_n 0, 1) := by decide +kernel
theorem d_Rd_beginsRepeat_1 : decode c_Rd_beginsRepeat 1 = .ok (.invokestatic 119, 3) := by decide +kernel
theorem d_Rd_beginsRepeat_4 : decode c_Rd_beginsRepeat 4 = .ok (.ifCond .ne 9, 3) := by decide +kernel
theorem d_Rd_beginsRepeat_7 : decode c_Rd_beginsRepeat 7 = .ok (.iload_n 0, 1) := by decide +kernel
theorem d_Rd_beginsRepeat_8 : decode c_Rd_beginsRepeat 8 = .ok (.bipush 42, 2) := by decide +kernel
theorem d_Rd_beginsRepeat_10 : decode c_Rd_beginsRepeat 10 = .ok (.if_icmp .ne 7, 3) := by decide +kernel
theorem d_Rd_beginsRepeat_13 : decode c_Rd_beginsRepeat 13 = .ok (.iconst 1, 1) := by decide +kernel
theorem d_Rd_beginsRepeat_14 : decode c_Rd_beginsRepeat 14 = .ok (.goto 4, 3) := by decide +kernel
theorem d_Rd_beginsRepeat_17 : decode c_Rd_beginsRepeat 17 = .ok (.iconst 0, 1) := by decide +kernel
theorem d_Rd_beginsRepeat_18 : decode c_Rd_beginsRepeat 18 = .ok (.ireturn, 1) := by decide +kernel
theorem d_Rd_beginsRepetition_0 : decode c_Rd_beginsRepetition 0 = .ok (.iload_n 0, 1) := by decide +kernel
theorem d_Rd_beginsRepetition_1 : decode c_Rd_beginsRepetition 1 = .ok (.invokestatic 101, 3) := by decide +kernel
theorem d_Rd_beginsRepetition_4 : decode c_Rd_beginsRepetition 4 = .ok (.ifCond .ne 34, 3) := by decide +kernel
theorem d_Rd_beginsRepetition_7 : decode c_Rd_beginsRepetition 7 = .ok (.iload_n 0, 1) := by decide +kernel
theorem d_Rd_beginsRepetition_8 : decode c_Rd_beginsRepetition 8 = .ok (.invokestatic 175, 3) := by decide +kernel
theorem d_Rd_beginsRepetition_11 : decode c_Rd_beginsRepetition 11 = .ok (.ifCond .ne 27, 3) := by decide +kernel
theorem d_Rd_beginsRepetition_14 : decode c_Rd_beginsRepetition 14 = .ok (.iload_n 0, 1) := by decide +kernel
theorem d_Rd_beginsRepetition_15 : decode c_Rd_beginsRepetition 15 = .ok (.bipush 40, 2) := by decide +kernel
theorem d_Rd_beginsRepetition_17 : decode c_Rd_beginsRepetition 17 = .ok (.if_icmp .eq 21, 3) := by decide +kernel
theorem d_Rd_beginsRepetition_20 : decode c_Rd_beginsRepetition 20 = .ok (.iload_n 0, 1) := by decide +kernel
theorem d_Rd_beginsRepetition_21 : decode c_Rd_beginsRepetition 21 = .ok (.bipush 91, 2) := by decide +kernel
theorem d_Rd_beginsRepetition_23 : decode c_Rd_beginsRepetition 23 = .ok (.if_icmp .eq 15, 3) := by decide +kernel
theorem d_Rd_beginsRepetition_26 : decode c_Rd_beginsRepetition 26 = .ok (.iload_n 0, 1) := by decide +kernel
theorem d_Rd_beginsRepetition_27 : decode c_Rd_beginsRepetition 27 = .ok (.bipush 34, 2) := by decide +kernel
theorem d_Rd_beginsRepetition_29 : decode c_Rd_beginsRepetition 29 = .ok (.if_icmp .eq 9, 3) := by decide +kernel
theorem d_Rd_beginsRepetition_32 : decode c_Rd_beginsRepetition 32 = .ok (.iload_n 0, 1) := by decide +kernel
theorem d_Rd_beginsRepetition_33 : decode c_Rd_beginsRepetition 33 = .ok (.bipush 37, 2) := by decide +kernel
theorem d_Rd_beginsRepetition_35 : decode c_Rd_beginsRepetition 35 = .ok (.if_icmp .ne 7, 3) := by decide +kernel
theorem d_Rd_beginsRepetition_38 : decode c_Rd_beginsRepetition 38 = .ok (.iconst 1, 1) := by decide +kernel
theorem d_Rd_beginsRepetition_39 : decode c_Rd_beginsRepetition 39 = .ok (.goto 4, 3) := by decide +kernel
theorem d_Rd_beginsRepetition_42 : decode c_Rd_beginsRepetition 42 = .ok (.iconst 0, 1) := by decide +kernel
theorem d_Rd_beginsRepetition_43 : decode c_Rd_beginsRepetition 43 = .ok (.ireturn, 1) := by decide +kernel
theorem d_Rd_isStringCode_0 : decode c_Rd_isStringCode 0 = .ok (.iload_n 0, 1) := by decide +kernel
theorem d_Rd_isStringCode_1 : decode c_Rd_isStringCode 1 = .ok (.bipush 32, 2) := by decide +kernel
theorem d_Rd_isStringCode_3 : decode c_Rd_isStringCode 3 = .ok (.if_icmp .lt 19, 3) := by decide +kernel
theorem d_Rd_isStringCode_6 : decode c_Rd_isStringCode 6 = .ok (.iload_n 0, 1) := by decide +kernel
theorem d_Rd_isStringCode_7 : decode c_Rd_isStringCode 7 = .ok (.bipush 126, 2) := by decide +kernel
theorem d_Rd_isStringCode_9 : decode c_Rd_isStringCode 9 = .ok (.if_icmp .gt 13, 3) := by decide +kernel
theorem d_Rd_isStringCode_12 : decode c_Rd_isStringCode 12 = .ok (.iload_n 0, 1) := by decide +kernel
theorem d_Rd_isStringCode_13 : decode c_Rd_isStringCode 13 = .ok (.bipush 34, 2) := by decide +kernel
theorem d_Rd_isStringCode_15 : decode c_Rd_isStringCode 15 = .ok (.if_icmp .eq 7, 3) := by decide +kernel
theorem d_Rd_isStringCode_18 : decode c_Rd_isStringCode 18 = .ok (.iconst 1, 1) := by decide +kernel
theorem d_Rd_isStringCode_19 : decode c_Rd_isStringCode 19 = .ok (.goto 4, 3) := by decide +kernel
theorem d_Rd_isStringCode_22 : decode c_Rd_isStringCode 22 = .ok (.iconst 0, 1) := by decide +kernel
theorem d_Rd_isStringCode_23 : decode c_Rd_isStringCode 23 = .ok (.ireturn, 1) := by decide +kernel
theorem d_Rd_digitOf_0 : decode c_Rd_digitOf 0 = .ok (.iload_n 0, 1) := by decide +kernel
theorem d_Rd_digitOf_1 : decode c_Rd_digitOf 1 = .ok (.bipush 48, 2) := by decide +kernel
theorem d_Rd_digitOf_3 : decode c_Rd_digitOf 3 = .ok (.if_icmp .lt 14, 3) := by decide +kernel
theorem d_Rd_digitOf_6 : decode c_Rd_digitOf 6 = .ok (.iload_n 0, 1) := by decide +kernel
theorem d_Rd_digitOf_7 : decode c_Rd_digitOf 7 = .ok (.bipush 57, 2) := by decide +kernel
theorem d_Rd_digitOf_9 : decode c_Rd_digitOf 9 = .ok (.if_icmp .gt 8, 3) := by decide +kernel
theorem d_Rd_digitOf_12 : decode c_Rd_digitOf 12 = .ok (.iload_n 0, 1) := by decide +kernel
theorem d_Rd_digitOf_13 : decode c_Rd_digitOf 13 = .ok (.bipush 48, 2) := by decide +kernel
theorem d_Rd_digitOf_15 : decode c_Rd_digitOf 15 = .ok (.isub, 1) := by decide +kernel
theorem d_Rd_digitOf_16 : decode c_Rd_digitOf 16 = .ok (.ireturn, 1) := by decide +kernel
theorem d_Rd_digitOf_17 : decode c_Rd_digitOf 17 = .ok (.iload_n 1, 1) := by decide +kernel
theorem d_Rd_digitOf_18 : decode c_Rd_digitOf 18 = .ok (.bipush 16, 2) := by decide +kernel
theorem d_Rd_digitOf_20 : decode c_Rd_digitOf 20 = .ok (.if_icmp .ne 23, 3) := by decide +kernel
theorem d_Rd_digitOf_23 : decode c_Rd_digitOf 23 = .ok (.iload_n 0, 1) := by decide +kernel
theorem d_Rd_digitOf_24 : decode c_Rd_digitOf 24 = .ok (.bipush 97, 2) := by decide +kernel
theorem d_Rd_digitOf_26 : decode c_Rd_digitOf 26 = .ok (.if_icmp .lt 17, 3) := by decide +kernel
theorem d_Rd_digitOf_29 : decode c_Rd_digitOf 29 = .ok (.iload_n 0, 1) := by decide +kernel
theorem d_Rd_digitOf_30 : decode c_Rd_digitOf 30 = .ok (.bipush 102, 2) := by decide +kernel
theorem d_Rd_digitOf_32 : decode c_Rd_digitOf 32 = .ok (.if_icmp .gt 11, 3) := by decide +kernel
theorem d_Rd_digitOf_35 : decode c_Rd_digitOf 35 = .ok (.iload_n 0, 1) := by decide +kernel
theorem d_Rd_digitOf_36 : decode c_Rd_digitOf 36 = .ok (.bipush 97, 2) := by decide +kernel
theorem d_Rd_digitOf_38 : decode c_Rd_digitOf 38 = .ok (.isub, 1) := by decide +kernel
theorem d_Rd_digitOf_39 : decode c_Rd_digitOf 39 = .ok (.bipush 10, 2) := by decide +kernel
theorem d_Rd_digitOf_41 : decode c_Rd_digitOf 41 = .ok (.iadd, 1) := by decide +kernel
theorem d_Rd_digitOf_42 : decode c_Rd_digitOf 42 = .ok (.ireturn, 1) := by decide +kernel
theorem d_Rd_digitOf_43 : decode c_Rd_digitOf 43 = .ok (.iload_n 1, 1) := by decide +kernel
theorem d_Rd_digitOf_44 : decode c_Rd_digitOf 44 = .ok (.bipush 16, 2) := by decide +kernel
theorem d_Rd_digitOf_46 : decode c_Rd_digitOf 46 = .ok (.if_icmp .ne 25, 3) := by decide +kernel
theorem d_Rd_digitOf_49 : decode c_Rd_digitOf 49 = .ok (.iload_n 0, 1) := by decide +kernel
theorem d_Rd_digitOf_50 : decode c_Rd_digitOf 50 = .ok (.bipush 65, 2) := by decide +kernel
theorem d_Rd_digitOf_52 : decode c_Rd_digitOf 52 = .ok (.if_icmp .lt 19, 3) := by decide +kernel
theorem d_Rd_digitOf_55 : decode c_Rd_digitOf 55 = .ok (.iload_n 0, 1) := by decide +kernel
theorem d_Rd_digitOf_56 : decode c_Rd_digitOf 56 = .ok (.bipush 70, 2) := by decide +kernel
theorem d_Rd_digitOf_58 : decode c_Rd_digitOf 58 = .ok (.if_icmp .gt 13, 3) := by decide +kernel
theorem d_Rd_digitOf_61 : decode c_Rd_digitOf 61 = .ok (.iload_n 0, 1) := by decide +kernel
theorem d_Rd_digitOf_62 : decode c_Rd_digitOf 62 = .ok (.bipush 65, 2) := by decide +kernel
theorem d_Rd_digitOf_64 : decode c_Rd_digitOf 64 = .ok (.isub, 1) := by decide +kernel
theorem d_Rd_digitOf_65 : decode c_Rd_digitOf 65 = .ok (.bipush 10, 2) := by decide +kernel
theorem d_Rd_digitOf_67 : decode c_Rd_digitOf 67 = .ok (.iadd, 1) := by decide +kernel
theorem d_Rd_digitOf_68 : decode c_Rd_digitOf 68 = .ok (.goto 4, 3) := by decide +kernel
theorem d_Rd_digitOf_71 : decode c_Rd_digitOf 71 = .ok (.iconst (-1), 1) := by decide +kernel
theorem d_Rd_digitOf_72 : decode c_Rd_digitOf 72 = .ok (.ireturn, 1) := by decide +kernel
theorem d_Rd_peek_0 : decode c_Rd_peek 0 = .ok (.aload_n 0, 1) := by decide +kernel
theorem d_Rd_peek_1 : decode c_Rd_peek 1 = .ok (.getfield 9, 3) := by decide +kernel
theorem d_Rd_peek_4 : decode c_Rd_peek 4 = .ok (.aload_n 0, 1) := by decide +kernel
theorem d_Rd_peek_5 : decode c_Rd_peek 5 = .ok (.getfield 19, 3) := by decide +kernel
theorem d_Rd_peek_8 : decode c_Rd_peek 8 = .ok (.invokevirtual 132, 3) := by decide +kernel
theorem d_Rd_peek_11 : decode c_Rd_peek 11 = .ok (.ireturn, 1) := by decide +kernel
theorem d_Rd_needReadable_0 : decode c_Rd_needReadable 0 = .ok (.iload_n 1, 1) := by decide +kernel
theorem d_Rd_needReadable_1 : decode c_Rd_needReadable 1 = .ok (.ifCond .ne 16, 3) := by decide +kernel
theorem d_Rd_needReadable_4 : decode c_Rd_needReadable 4 = .ok (.aload_n 0, 1) := by decide +kernel
theorem d_Rd_needReadable_5 : decode c_Rd_needReadable 5 = .ok (.iload_n 2, 1) := by decide +kernel
theorem d_Rd_needReadable_6 : decode c_Rd_needReadable 6 = .ok (.putfield 23, 3) := by decide +kernel
theorem d_Rd_needReadable_9 : decode c_Rd_needReadable 9 = .ok (.new 201, 3) := by decide +kernel
theorem d_Rd_needReadable_12 : decode c_Rd_needReadable 12 = .ok (.dup, 1) := by decide +kernel
theorem d_Rd_needReadable_13 : decode c_Rd_needReadable 13 = .ok (.invokespecial 203, 3) := by decide +kernel
theorem d_Rd_needReadable_16 : decode c_Rd_needReadable 16 = .ok (.athrow, 1) := by decide +kernel
theorem d_Rd_needReadable_17 : decode c_Rd_needReadable 17 = .ok (.return_, 1) := by decide +kernel
theorem d_Rd_needRoom_0 : decode c_Rd_needRoom 0 = .ok (.iload_n 1, 1) := by decide +kernel
theorem d_Rd_needRoom_1 : decode c_Rd_needRoom 1 = .ok (.ifCond .ne 16, 3) := by decide +kernel
theorem d_Rd_needRoom_4 : decode c_Rd_needRoom 4 = .ok (.aload_n 0, 1) := by decide +kernel
theorem d_Rd_needRoom_5 : decode c_Rd_needRoom 5 = .ok (.iload_n 2, 1) := by decide +kernel
theorem d_Rd_needRoom_6 : decode c_Rd_needRoom 6 = .ok (.putfield 23, 3) := by decide +kernel
theorem d_Rd_needRoom_9 : decode c_Rd_needRoom 9 = .ok (.new 204, 3) := by decide +kernel
theorem d_Rd_needRoom_12 : decode c_Rd_needRoom 12 = .ok (.dup, 1) := by decide +kernel
theorem d_Rd_needRoom_13 : decode c_Rd_needRoom 13 = .ok (.invokespecial 206, 3) := by decide +kernel
theorem d_Rd_needRoom_16 : decode c_Rd_needRoom 16 = .ok (.athrow, 1) := by decide +kernel
theorem d_Rd_needRoom_17 : decode c_Rd_needRoom 17 = .ok (.return_, 1) := by decide +kernel
theorem d_Rd_readDigit_0 : decode c_Rd_readDigit 0 = .ok (.aload_n 0, 1) := by decide +kernel
theorem d_Rd_readDigit_1 : decode c_Rd_readDigit 1 = .ok (.invokevirtual 54, 3) := by decide +kernel
theorem d_Rd_readDigit_4 : decode c_Rd_readDigit 4 = .ok (.invokestatic 119, 3) := by decide +kernel
theorem d_Rd_readDigit_7 : decode c_Rd_readDigit 7 = .ok (.ifCond .ne 5, 3) := by decide +kernel
theorem d_Rd_readDigit_10 : decode c_Rd_readDigit 10 = .ok (.iconst (-1), 1) := by decide +kernel
theorem d_Rd_readDigit_11 : decode c_Rd_readDigit 11 = .ok (.ireturn, 1) := by decide +kernel
theorem d_Rd_readDigit_12 : decode c_Rd_readDigit 12 = .ok (.aload_n 0, 1) := by decide +kernel
theorem d_Rd_readDigit_13 : decode c_Rd_readDigit 13 = .ok (.invokevirtual 54, 3) := by decide +kernel
theorem d_Rd_readDigit_16 : decode c_Rd_readDigit 16 = .ok (.bipush 48, 2) := by decide +kernel
theorem d_Rd_readDigit_18 : decode c_Rd_readDigit 18 = .ok (.isub, 1) := by decide +kernel
theorem d_Rd_readDigit_19 : decode c_Rd_readDigit 19 = .ok (.istore_n 1, 1) := by decide +kernel
theorem d_Rd_readDigit_20 : decode c_Rd_readDigit 20 = .ok (.aload_n 0, 1) := by decide +kernel
theorem d_Rd_readDigit_21 : decode c_Rd_readDigit 21 = .ok (.dup, 1) := by decide +kernel
theorem d_Rd_readDigit_22 : decode c_Rd_readDigit 22 = .ok (.getfield 19, 3) := by decide +kernel
theorem d_Rd_readDigit_25 : decode c_Rd_readDigit 25 = .ok (.iconst 1, 1) := by decide +kernel
theorem d_Rd_readDigit_26 : decode c_Rd_readDigit 26 = .ok (.iadd, 1) := by decide +kernel
theorem d_Rd_readDigit_27 : decode c_Rd_readDigit 27 = .ok (.putfield 19, 3) := by decide +kernel
theorem d_Rd_readDigit_30 : decode c_Rd_readDigit 30 = .ok (.iload_n 1, 1) := by decide +kernel
theorem d_Rd_readDigit_31 : decode c_Rd_readDigit 31 = .ok (.ireturn, 1) := by decide +kernel
theorem d_Rd_readRepeat_0 : decode c_Rd_readRepeat 0 = .ok (.aload_n 0, 1) := by decide +kernel
theorem d_Rd_readRepeat_1 : decode c_Rd_readRepeat 1 = .ok (.getfield 19, 3) := by decide +kernel
theorem d_Rd_readRepeat_4 : decode c_Rd_readRepeat 4 = .ok (.istore_n 2, 1) := by decide +kernel
theorem d_Rd_readRepeat_5 : decode c_Rd_readRepeat 5 = .ok (.aload_n 0, 1) := by decide +kernel
theorem d_Rd_readRepeat_6 : decode c_Rd_readRepeat 6 = .ok (.invokevirtual 110, 3) := by decide +kernel
theorem d_Rd_readRepeat_9 : decode c_Rd_readRepeat 9 = .ok (.istore_n 3, 1) := by decide +kernel
theorem d_Rd_readRepeat_10 : decode c_Rd_readRepeat 10 = .ok (.aload_n 0, 1) := by decide +kernel
theorem d_Rd_readRepeat_11 : decode c_Rd_readRepeat 11 = .ok (.invokevirtual 54, 3) := by decide +kernel
theorem d_Rd_readRepeat_14 : decode c_Rd_readRepeat 14 = .ok (.bipush 42, 2) := by decide +kernel
theorem d_Rd_readRepeat_16 : decode c_Rd_readRepeat 16 = .ok (.if_icmp .ne 38, 3) := by decide +kernel
theorem d_Rd_readRepeat_19 : decode c_Rd_readRepeat 19 = .ok (.aload_n 0, 1) := by decide +kernel
theorem d_Rd_readRepeat_20 : decode c_Rd_readRepeat 20 = .ok (.dup, 1) := by decide +kernel
theorem d_Rd_readRepeat_21 : decode c_Rd_readRepeat 21 = .ok (.getfield 19, 3) := by decide +kernel
theorem d_Rd_readRepeat_24 : decode c_Rd_readRepeat 24 = .ok (.iconst 1, 1) := by decide +kernel
theorem d_Rd_readRepeat_25 : decode c_Rd_readRepeat 25 = .ok (.iadd, 1) := by decide +kernel
theorem d_Rd_readRepeat_26 : decode c_Rd_readRepeat 26 = .ok (.putfield 19, 3) := by decide +kernel
theorem d_Rd_readRepeat_29 : decode c_Rd_readRepeat 29 = .ok (.aload_n 1, 1) := by decide +kernel
theorem d_Rd_readRepeat_30 : decode c_Rd_readRepeat 30 = .ok (.iload_n 3, 1) := by decide +kernel
theorem d_Rd_readRepeat_31 : decode c_Rd_readRepeat 31 = .ok (.iconst (-1), 1) := by decide +kernel
theorem d_Rd_readRepeat_32 : decode c_Rd_readRepeat 32 = .ok (.if_icmp .ne 7, 3) := by decide +kernel
theorem d_Rd_readRepeat_35 : decode c_Rd_readRepeat 35 = .ok (.iconst 0, 1) := by decide +kernel
theorem d_Rd_readRepeat_36 : decode c_Rd_readRepeat 36 = .ok (.goto 4, 3) := by decide +kernel
theorem d_Rd_readRepeat_39 : decode c_Rd_readRepeat 39 = .ok (.iload_n 3, 1) := by decide +kernel
theorem d_Rd_readRepeat_40 : decode c_Rd_readRepeat 40 = .ok (.putfield 113, 3) := by decide +kernel
theorem d_Rd_readRepeat_43 : decode c_Rd_readRepeat 43 = .ok (.aload_n 1, 1) := by decide +kernel
theorem d_Rd_readRepeat_44 : decode c_Rd_readRepeat 44 = .ok (.aload_n 0, 1) := by decide +kernel
theorem d_Rd_readRepeat_45 : decode c_Rd_readRepeat 45 = .ok (.invokevirtual 110, 3) := by decide +kernel
theorem d_Rd_readRepeat_48 : decode c_Rd_readRepeat 48 = .ok (.putfield 116, 3) := by decide +kernel
theorem d_Rd_readRepeat_51 : decode c_Rd_readRepeat 51 = .ok (.goto 13, 3) := by decide +kernel
theorem d_Rd_readRepeat_54 : decode c_Rd_readRepeat 54 = .ok (.aload_n 1, 1) := by decide +kernel
theorem d_Rd_readRepeat_55 : decode c_Rd_readRepeat 55 = .ok (.iload_n 3, 1) := by decide +kernel
theorem d_Rd_readRepeat_56 : decode c_Rd_readRepeat 56 = .ok (.putfield 113, 3) := by decide +kernel
theorem d_Rd_readRepeat_59 : decode c_Rd_readRepeat 59 = .ok (.aload_n 1, 1) := by decide +kernel
theorem d_Rd_readRepeat_60 : decode c_Rd_readRepeat 60 = .ok (.iload_n 3, 1) := by decide +kernel
theorem d_Rd_readRepeat_61 : decode c_Rd_readRepeat 61 = .ok (.putfield 116, 3) := by decide +kernel
theorem d_Rd_readRepeat_64 : decode c_Rd_readRepeat 64 = .ok (.aload_n 0, 1) := by decide +kernel
theorem d_Rd_readRepeat_65 : decode c_Rd_readRepeat 65 = .ok (.aload_n 1, 1) := by decide +kernel
theorem d_Rd_readRepeat_66 : decode c_Rd_readRepeat 66 = .ok (.getfield 116, 3) := by decide +kernel
theorem d_Rd_readRepeat_69 : decode c_Rd_readRepeat 69 = .ok (.iconst (-1), 1) := by decide +kernel
theorem d_Rd_readRepeat_70 : decode c_Rd_readRepeat 70 = .ok (.if_icmp .eq 14, 3) := by decide +kernel
theorem d_Rd_readRepeat_73 : decode c_Rd_readRepeat 73 = .ok (.aload_n 1, 1) := by decide +kernel
theorem d_Rd_readRepeat_74 : decode c_Rd_readRepeat 74 = .ok (.getfield 113, 3) := by decide +kernel
theorem d_Rd_readRepeat_77 : decode c_Rd_readRepeat 77 = .ok (.aload_n 1, 1) := by decide +kernel
theorem d_Rd_readRepeat_78 : decode c_Rd_readRepeat 78 = .ok (.getfield 116, 3) := by decide +kernel
theorem d_Rd_readRepeat_81 : decode c_Rd_readRepeat 81 = .ok (.if_icmp .gt 7, 3) := by decide +kernel
theorem d_Rd_readRepeat_84 : decode c_Rd_readRepeat 84 = .ok (.iconst 1, 1) := by decide +kernel
theorem d_Rd_readRepeat_85 : decode c_Rd_readRepeat 85 = .ok (.goto 4, 3) := by decide +kernel
theorem d_Rd_readRepeat_88 : decode c_Rd_readRepeat 88 = .ok (.iconst 0, 1) := by decide +kernel
theorem d_Rd_readRepeat_89 : decode c_Rd_readRepeat 89 = .ok (.iload_n 2, 1) := by decide +kernel
theorem d_Rd_readRepeat_90 : decode c_Rd_readRepeat 90 = .ok (.invokevirtual 58, 3) := by decide +kernel
theorem d_Rd_readRepeat_93 : decode c_Rd_readRepeat 93 = .ok (.return_, 1) := by decide +kernel
def TX (cy : Nat → ClassId) (ad : Nat → Nat) (Z : Nat) (f : Nat → Int32) (m0 : Nat → va_E) : Prop := m0 1 = .inr (0, [.ref (ad 2), .int (nI Z)]) ∧ Z ≤ 240 ∧ m0 2 = .inl (cy 0, 240, .inl f)
set_option maxHeartbeats 4000000 in
set_option maxRecDepth 100000 in
theorem m_Ab_isLetter (l : Launch) (x : Int32) : MS l y_Ab_isLetter c_Ab_isLetter 1 (some .boolean) ({ frames := 0, cells := 0, slots := 0, locals := 0 } : Room) [.int (x)] (fun r => True) := by
  refine Met.ofW (cc := c_Ab_isLetter) (maxL := 1) (ret := (some .boolean)) (by decide) rfl ?_
  intro p e s m args below meth c s₁ B hml hv
  obtain ⟨rfl, hN⟩ := hv
  have hx := B.exec
  have hb := B.bytes
  have hr := B.returns
  have hlocks := B.notSynchronized
  have Bx : p.tables.exec = Jvm.exec ∧ c.code = c_Ab_isLetter ∧ (∀ w ∈ TB, w.before [.int (x)].toArray s = true) ∧ s.vm.findClass "AbnfChart" = some m.cls ∧ True := ⟨hx, hb, tb_all (atoms_spec B.pre) hN, findClass_of_methodNamed B.named, trivial⟩
  have hl := lv_entry ([.int (x)]) (n := 1) (Nat.le_of_ble_eq_true rfl)
  rw [lg_entry_eq]
  generalize (lg_sl ([.int (x)]) ++ List.replicate (1 - (lg_sl ([.int (x)])).length) Slot.unset).toArray = ls at hl ⊢
  have hl : lv_has ls 1 [(0, .int (x))] := hl
  refine lv_iload_n Bx.1 Bx.2.1 d_Ab_isLetter_0 rfl (lv_at hl 0 rfl) ?_
  refine lv_bipush (v := 97) Bx.1 Bx.2.1 d_Ab_isLetter_1 (by decide) ?_
  refine lv_icmp_lt Bx.1 Bx.2.1 d_Ab_isLetter_3 rfl (fun h => ?_) (fun h => ?_)
  · refine lv_iload_n Bx.1 Bx.2.1 d_Ab_isLetter_12 rfl (lv_at hl 0 rfl) ?_
    refine lv_bipush (v := 65) Bx.1 Bx.2.1 d_Ab_isLetter_13 (by decide) ?_
    refine lv_icmp_lt Bx.1 Bx.2.1 d_Ab_isLetter_15 rfl (fun h => ?_) (fun h => ?_)
    · refine lv_iconst (v := 0) Bx.1 Bx.2.1 d_Ab_isLetter_28 (by decide) ?_
      exact W.zret (v := 0) hx hb hr rfl (fun t ht hW => ⟨0, rfl, trivial, ht⟩) (fun _ h => by cases h) d_Ab_isLetter_29
    · refine lv_iload_n Bx.1 Bx.2.1 d_Ab_isLetter_18 rfl (lv_at hl 0 rfl) ?_
      refine lv_bipush (v := 90) Bx.1 Bx.2.1 d_Ab_isLetter_19 (by decide) ?_
      refine lv_icmp_gt Bx.1 Bx.2.1 d_Ab_isLetter_21 rfl (fun h => ?_) (fun h => ?_)
      · refine lv_iconst (v := 0) Bx.1 Bx.2.1 d_Ab_isLetter_28 (by decide) ?_
        exact W.zret (v := 0) hx hb hr rfl (fun t ht hW => ⟨0, rfl, trivial, ht⟩) (fun _ h => by cases h) d_Ab_isLetter_29
      · refine lv_iconst (v := 1) Bx.1 Bx.2.1 d_Ab_isLetter_24 (by decide) ?_
        refine lv_goto Bx.1 Bx.2.1 d_Ab_isLetter_25 rfl ?_
        exact W.zret (v := 1) hx hb hr rfl (fun t ht hW => ⟨1, rfl, trivial, ht⟩) (fun _ h => by cases h) d_Ab_isLetter_29
  · refine lv_iload_n Bx.1 Bx.2.1 d_Ab_isLetter_6 rfl (lv_at hl 0 rfl) ?_
    refine lv_bipush (v := 122) Bx.1 Bx.2.1 d_Ab_isLetter_7 (by decide) ?_
    refine lv_icmp_le Bx.1 Bx.2.1 d_Ab_isLetter_9 rfl (fun h => ?_) (fun h => ?_)
    · refine lv_iconst (v := 1) Bx.1 Bx.2.1 d_Ab_isLetter_24 (by decide) ?_
      refine lv_goto Bx.1 Bx.2.1 d_Ab_isLetter_25 rfl ?_
      exact W.zret (v := 1) hx hb hr rfl (fun t ht hW => ⟨1, rfl, trivial, ht⟩) (fun _ h => by cases h) d_Ab_isLetter_29
    · refine lv_iload_n Bx.1 Bx.2.1 d_Ab_isLetter_12 rfl (lv_at hl 0 rfl) ?_
      refine lv_bipush (v := 65) Bx.1 Bx.2.1 d_Ab_isLetter_13 (by decide) ?_
      refine lv_icmp_lt Bx.1 Bx.2.1 d_Ab_isLetter_15 rfl (fun h => ?_) (fun h => ?_)
      · refine lv_iconst (v := 0) Bx.1 Bx.2.1 d_Ab_isLetter_28 (by decide) ?_
        exact W.zret (v := 0) hx hb hr rfl (fun t ht hW => ⟨0, rfl, trivial, ht⟩) (fun _ h => by cases h) d_Ab_isLetter_29
      · refine lv_iload_n Bx.1 Bx.2.1 d_Ab_isLetter_18 rfl (lv_at hl 0 rfl) ?_
        refine lv_bipush (v := 90) Bx.1 Bx.2.1 d_Ab_isLetter_19 (by decide) ?_
        refine lv_icmp_gt Bx.1 Bx.2.1 d_Ab_isLetter_21 rfl (fun h => ?_) (fun h => ?_)
        · refine lv_iconst (v := 0) Bx.1 Bx.2.1 d_Ab_isLetter_28 (by decide) ?_
          exact W.zret (v := 0) hx hb hr rfl (fun t ht hW => ⟨0, rfl, trivial, ht⟩) (fun _ h => by cases h) d_Ab_isLetter_29
        · refine lv_iconst (v := 1) Bx.1 Bx.2.1 d_Ab_isLetter_24 (by decide) ?_
          refine lv_goto Bx.1 Bx.2.1 d_Ab_isLetter_25 rfl ?_
          exact W.zret (v := 1) hx hb hr rfl (fun t ht hW => ⟨1, rfl, trivial, ht⟩) (fun _ h => by cases h) d_Ab_isLetter_29
set_option maxHeartbeats 4000000 in
set_option maxRecDepth 100000 in
theorem m_Ab_isDigit (l : Launch) (x : Int32) : MS l y_Ab_isDigit c_Ab_isDigit 1 (some .boolean) ({ frames := 0, cells := 0, slots := 0, locals := 0 } : Room) [.int (x)] (fun r => True) := by
  refine Met.ofW (cc := c_Ab_isDigit) (maxL := 1) (ret := (some .boolean)) (by decide) rfl ?_
  intro p e s m args below meth c s₁ B hml hv
  obtain ⟨rfl, hN⟩ := hv
  have hx := B.exec
  have hb := B.bytes
  have hr := B.returns
  have hlocks := B.notSynchronized
  have Bx : p.tables.exec = Jvm.exec ∧ c.code = c_Ab_isDigit ∧ (∀ w ∈ TB, w.before [.int (x)].toArray s = true) ∧ s.vm.findClass "AbnfChart" = some m.cls ∧ True := ⟨hx, hb, tb_all (atoms_spec B.pre) hN, findClass_of_methodNamed B.named, trivial⟩
  have hl := lv_entry ([.int (x)]) (n := 1) (Nat.le_of_ble_eq_true rfl)
  rw [lg_entry_eq]
  generalize (lg_sl ([.int (x)]) ++ List.replicate (1 - (lg_sl ([.int (x)])).length) Slot.unset).toArray = ls at hl ⊢
  have hl : lv_has ls 1 [(0, .int (x))] := hl
  refine lv_iload_n Bx.1 Bx.2.1 d_Ab_isDigit_0 rfl (lv_at hl 0 rfl) ?_
  refine lv_bipush (v := 48) Bx.1 Bx.2.1 d_Ab_isDigit_1 (by decide) ?_
  refine lv_icmp_lt Bx.1 Bx.2.1 d_Ab_isDigit_3 rfl (fun h => ?_) (fun h => ?_)
  · refine lv_iconst (v := 0) Bx.1 Bx.2.1 d_Ab_isDigit_16 (by decide) ?_
    exact W.zret (v := 0) hx hb hr rfl (fun t ht hW => ⟨0, rfl, trivial, ht⟩) (fun _ h => by cases h) d_Ab_isDigit_17
  · refine lv_iload_n Bx.1 Bx.2.1 d_Ab_isDigit_6 rfl (lv_at hl 0 rfl) ?_
    refine lv_bipush (v := 57) Bx.1 Bx.2.1 d_Ab_isDigit_7 (by decide) ?_
    refine lv_icmp_gt Bx.1 Bx.2.1 d_Ab_isDigit_9 rfl (fun h => ?_) (fun h => ?_)
    · refine lv_iconst (v := 0) Bx.1 Bx.2.1 d_Ab_isDigit_16 (by decide) ?_
      exact W.zret (v := 0) hx hb hr rfl (fun t ht hW => ⟨0, rfl, trivial, ht⟩) (fun _ h => by cases h) d_Ab_isDigit_17
    · refine lv_iconst (v := 1) Bx.1 Bx.2.1 d_Ab_isDigit_12 (by decide) ?_
      refine lv_goto Bx.1 Bx.2.1 d_Ab_isDigit_13 rfl ?_
      exact W.zret (v := 1) hx hb hr rfl (fun t ht hW => ⟨1, rfl, trivial, ht⟩) (fun _ h => by cases h) d_Ab_isDigit_17
set_option maxHeartbeats 4000000 in
set_option maxRecDepth 100000 in
theorem m_Ab_smallOf (l : Launch) (x : Int32) : MS l y_Ab_smallOf c_Ab_smallOf 1 (some .int) ({ frames := 0, cells := 0, slots := 0, locals := 0 } : Room) [.int (x)] (fun r => True) := by
  refine Met.ofW (cc := c_Ab_smallOf) (maxL := 1) (ret := (some .int)) (by decide) rfl ?_
  intro p e s m args below meth c s₁ B hml hv
  obtain ⟨rfl, hN⟩ := hv
  have hx := B.exec
  have hb := B.bytes
  have hr := B.returns
  have hlocks := B.notSynchronized
  have Bx : p.tables.exec = Jvm.exec ∧ c.code = c_Ab_smallOf ∧ (∀ w ∈ TB, w.before [.int (x)].toArray s = true) ∧ s.vm.findClass "AbnfChart" = some m.cls ∧ True := ⟨hx, hb, tb_all (atoms_spec B.pre) hN, findClass_of_methodNamed B.named, trivial⟩
  have hl := lv_entry ([.int (x)]) (n := 1) (Nat.le_of_ble_eq_true rfl)
  rw [lg_entry_eq]
  generalize (lg_sl ([.int (x)]) ++ List.replicate (1 - (lg_sl ([.int (x)])).length) Slot.unset).toArray = ls at hl ⊢
  have hl : lv_has ls 1 [(0, .int (x))] := hl
  refine lv_iload_n Bx.1 Bx.2.1 d_Ab_smallOf_0 rfl (lv_at hl 0 rfl) ?_
  refine lv_bipush (v := 65) Bx.1 Bx.2.1 d_Ab_smallOf_1 (by decide) ?_
  refine lv_icmp_lt Bx.1 Bx.2.1 d_Ab_smallOf_3 rfl (fun h => ?_) (fun h => ?_)
  · refine lv_iload_n Bx.1 Bx.2.1 d_Ab_smallOf_22 rfl (lv_at hl 0 rfl) ?_
    exact W.iret (v := x) hx hb hr (fun t ht hW => ⟨x, rfl, trivial, ht⟩) (fun _ h => by cases h) d_Ab_smallOf_23
  · refine lv_iload_n Bx.1 Bx.2.1 d_Ab_smallOf_6 rfl (lv_at hl 0 rfl) ?_
    refine lv_bipush (v := 90) Bx.1 Bx.2.1 d_Ab_smallOf_7 (by decide) ?_
    refine lv_icmp_gt Bx.1 Bx.2.1 d_Ab_smallOf_9 rfl (fun h => ?_) (fun h => ?_)
    · refine lv_iload_n Bx.1 Bx.2.1 d_Ab_smallOf_22 rfl (lv_at hl 0 rfl) ?_
      exact W.iret (v := x) hx hb hr (fun t ht hW => ⟨x, rfl, trivial, ht⟩) (fun _ h => by cases h) d_Ab_smallOf_23
    · refine lv_iload_n Bx.1 Bx.2.1 d_Ab_smallOf_12 rfl (lv_at hl 0 rfl) ?_
      refine lv_bipush (v := 65) Bx.1 Bx.2.1 d_Ab_smallOf_13 (by decide) ?_
      refine lv_isub Bx.1 Bx.2.1 d_Ab_smallOf_15 ?_
      refine lv_bipush (v := 97) Bx.1 Bx.2.1 d_Ab_smallOf_16 (by decide) ?_
      refine lv_iadd Bx.1 Bx.2.1 d_Ab_smallOf_18 ?_
      refine lv_goto Bx.1 Bx.2.1 d_Ab_smallOf_19 rfl ?_
      exact W.iret (v := x - 65 + 97) hx hb hr (fun t ht hW => ⟨x - 65 + 97, rfl, trivial, ht⟩) (fun _ h => by cases h) d_Ab_smallOf_23
set_option maxHeartbeats 4000000 in
set_option maxRecDepth 100000 in
theorem m_Rd_isNameCode (l : Launch) (x : Int32) : MS l y_Rd_isNameCode c_Rd_isNameCode 1 (some .boolean) ({ frames := 1, cells := 0, slots := 0, locals := 30 } : Room) [.int (x)] (fun r => True) := by
  refine Met.ofW (cc := c_Rd_isNameCode) (maxL := 1) (ret := (some .boolean)) (by decide) rfl ?_
  intro p e s m args below meth c s₁ B hml hv
  obtain ⟨rfl, hN⟩ := hv
  have hx := B.exec
  have hb := B.bytes
  have hr := B.returns
  have hlocks := B.notSynchronized
  have Bx : p.tables.exec = Jvm.exec ∧ c.code = c_Rd_isNameCode ∧ (∀ w ∈ TB, w.before [.int (x)].toArray s = true) ∧ s.vm.findClass "AbnfChart$Reader" = some m.cls ∧ True := ⟨hx, hb, tb_all (atoms_spec B.pre) hN, findClass_of_methodNamed B.named, trivial⟩
  have hl := lv_entry ([.int (x)]) (n := 1) (Nat.le_of_ble_eq_true rfl)
  rw [lg_entry_eq]
  generalize (lg_sl ([.int (x)]) ++ List.replicate (1 - (lg_sl ([.int (x)])).length) Slot.unset).toArray = ls at hl ⊢
  have hl : lv_has ls 1 [(0, .int (x))] := hl
  refine lv_iload_n Bx.1 Bx.2.1 d_Rd_isNameCode_0 rfl (lv_at hl 0 rfl) ?_
  refine f_callSNi (na := 1) (As := [.int (x)]) (rest := []) Bx hml hN (m_Ab_isLetter l (x)) kw_357 kw_358 kw_1 kw_359 (by decide +kernel) ⟨rfl, rfl⟩ ⟨Nat.le_of_ble_eq_true rfl, Nat.le_of_ble_eq_true rfl⟩ rfl hl.1 (Nat.le_of_ble_eq_true rfl) d_Rd_isNameCode_1 ⟨Nat.le_of_ble_eq_true rfl, Nat.le_of_ble_eq_true rfl⟩ (fun r2 hs1 => ?_)
  refine lv_if_ne Bx.1 Bx.2.1 d_Rd_isNameCode_4 rfl (fun h => ?_) (fun h => ?_)
  · refine lv_iconst (v := 1) Bx.1 Bx.2.1 d_Rd_isNameCode_20 (by decide) ?_
    refine lv_goto Bx.1 Bx.2.1 d_Rd_isNameCode_21 rfl ?_
    exact W.zret (v := 1) hx hb hr rfl (fun t ht hW => ⟨1, rfl, trivial, ht⟩) (fun _ h => by cases h) d_Rd_isNameCode_25
  · refine lv_iload_n Bx.1 Bx.2.1 d_Rd_isNameCode_7 rfl (lv_at hl 0 rfl) ?_
    refine f_callSNi (na := 1) (As := [.int (x)]) (rest := []) Bx hml hN (m_Ab_isDigit l (x)) kw_369 kw_370 kw_1 kw_371 (by decide +kernel) ⟨rfl, rfl⟩ ⟨Nat.le_of_ble_eq_true rfl, Nat.le_of_ble_eq_true rfl⟩ rfl hl.1 (Nat.le_of_ble_eq_true rfl) d_Rd_isNameCode_8 ⟨Nat.le_of_ble_eq_true rfl, Nat.le_of_ble_eq_true rfl⟩ (fun r4 hs3 => ?_)
    refine lv_if_ne Bx.1 Bx.2.1 d_Rd_isNameCode_11 rfl (fun h => ?_) (fun h => ?_)
    · refine lv_iconst (v := 1) Bx.1 Bx.2.1 d_Rd_isNameCode_20 (by decide) ?_
      refine lv_goto Bx.1 Bx.2.1 d_Rd_isNameCode_21 rfl ?_
      exact W.zret (v := 1) hx hb hr rfl (fun t ht hW => ⟨1, rfl, trivial, ht⟩) (fun _ h => by cases h) d_Rd_isNameCode_25
    · refine lv_iload_n Bx.1 Bx.2.1 d_Rd_isNameCode_14 rfl (lv_at hl 0 rfl) ?_
      refine lv_bipush (v := 45) Bx.1 Bx.2.1 d_Rd_isNameCode_15 (by decide) ?_
      refine lv_icmp_ne Bx.1 Bx.2.1 d_Rd_isNameCode_17 rfl (fun h => ?_) (fun h => ?_)
      · refine lv_iconst (v := 0) Bx.1 Bx.2.1 d_Rd_isNameCode_24 (by decide) ?_
        exact W.zret (v := 0) hx hb hr rfl (fun t ht hW => ⟨0, rfl, trivial, ht⟩) (fun _ h => by cases h) d_Rd_isNameCode_25
      · refine lv_iconst (v := 1) Bx.1 Bx.2.1 d_Rd_isNameCode_20 (by decide) ?_
        refine lv_goto Bx.1 Bx.2.1 d_Rd_isNameCode_21 rfl ?_
        exact W.zret (v := 1) hx hb hr rfl (fun t ht hW => ⟨1, rfl, trivial, ht⟩) (fun _ h => by cases h) d_Rd_isNameCode_25
set_option maxHeartbeats 4000000 in
set_option maxRecDepth 100000 in
theorem m_Rd_beginsRepeat (l : Launch) (x : Int32) : MS l y_Rd_beginsRepeat c_Rd_beginsRepeat 1 (some .boolean) ({ frames := 1, cells := 0, slots := 0, locals := 30 } : Room) [.int (x)] (fun r => True) := by
  refine Met.ofW (cc := c_Rd_beginsRepeat) (maxL := 1) (ret := (some .boolean)) (by decide) rfl ?_
  intro p e s m args below meth c s₁ B hml hv
  obtain ⟨rfl, hN⟩ := hv
  have hx := B.exec
  have hb := B.bytes
  have hr := B.returns
  have hlocks := B.notSynchronized
  have Bx : p.tables.exec = Jvm.exec ∧ c.code = c_Rd_beginsRepeat ∧ (∀ w ∈ TB, w.before [.int (x)].toArray s = true) ∧ s.vm.findClass "AbnfChart$Reader" = some m.cls ∧ True := ⟨hx, hb, tb_all (atoms_spec B.pre) hN, findClass_of_methodNamed B.named, trivial⟩
  have hl := lv_entry ([.int (x)]) (n := 1) (Nat.le_of_ble_eq_true rfl)
  rw [lg_entry_eq]
  generalize (lg_sl ([.int (x)]) ++ List.replicate (1 - (lg_sl ([.int (x)])).length) Slot.unset).toArray = ls at hl ⊢
  have hl : lv_has ls 1 [(0, .int (x))] := hl
  refine lv_iload_n Bx.1 Bx.2.1 d_Rd_beginsRepeat_0 rfl (lv_at hl 0 rfl) ?_
  refine f_callSNi (na := 1) (As := [.int (x)]) (rest := []) Bx hml hN (m_Ab_isDigit l (x)) kw_369 kw_370 kw_1 kw_371 (by decide +kernel) ⟨rfl, rfl⟩ ⟨Nat.le_of_ble_eq_true rfl, Nat.le_of_ble_eq_true rfl⟩ rfl hl.1 (Nat.le_of_ble_eq_true rfl) d_Rd_beginsRepeat_1 ⟨Nat.le_of_ble_eq_true rfl, Nat.le_of_ble_eq_true rfl⟩ (fun r2 hs1 => ?_)
  refine lv_if_ne Bx.1 Bx.2.1 d_Rd_beginsRepeat_4 rfl (fun h => ?_) (fun h => ?_)
  · refine lv_iconst (v := 1) Bx.1 Bx.2.1 d_Rd_beginsRepeat_13 (by decide) ?_
    refine lv_goto Bx.1 Bx.2.1 d_Rd_beginsRepeat_14 rfl ?_
    exact W.zret (v := 1) hx hb hr rfl (fun t ht hW => ⟨1, rfl, trivial, ht⟩) (fun _ h => by cases h) d_Rd_beginsRepeat_18
  · refine lv_iload_n Bx.1 Bx.2.1 d_Rd_beginsRepeat_7 rfl (lv_at hl 0 rfl) ?_
    refine lv_bipush (v := 42) Bx.1 Bx.2.1 d_Rd_beginsRepeat_8 (by decide) ?_
    refine lv_icmp_ne Bx.1 Bx.2.1 d_Rd_beginsRepeat_10 rfl (fun h => ?_) (fun h => ?_)
    · refine lv_iconst (v := 0) Bx.1 Bx.2.1 d_Rd_beginsRepeat_17 (by decide) ?_
      exact W.zret (v := 0) hx hb hr rfl (fun t ht hW => ⟨0, rfl, trivial, ht⟩) (fun _ h => by cases h) d_Rd_beginsRepeat_18
    · refine lv_iconst (v := 1) Bx.1 Bx.2.1 d_Rd_beginsRepeat_13 (by decide) ?_
      refine lv_goto Bx.1 Bx.2.1 d_Rd_beginsRepeat_14 rfl ?_
      exact W.zret (v := 1) hx hb hr rfl (fun t ht hW => ⟨1, rfl, trivial, ht⟩) (fun _ h => by cases h) d_Rd_beginsRepeat_18
set_option maxHeartbeats 4000000 in
set_option maxRecDepth 100000 in
theorem m_Rd_beginsRepetition (l : Launch) (x : Int32) : MS l y_Rd_beginsRepetition c_Rd_beginsRepetition 1 (some .boolean) ({ frames := 2, cells := 0, slots := 0, locals := 60 } : Room) [.int (x)] (fun r => True) := by
  refine Met.ofW (cc := c_Rd_beginsRepetition) (maxL := 1) (ret := (some .boolean)) (by decide) rfl ?_
  intro p e s m args below meth c s₁ B hml hv
  obtain ⟨rfl, hN⟩ := hv
  have hx := B.exec
  have hb := B.bytes
  have hr := B.returns
  have hlocks := B.notSynchronized
  have Bx : p.tables.exec = Jvm.exec ∧ c.code = c_Rd_beginsRepetition ∧ (∀ w ∈ TB, w.before [.int (x)].toArray s = true) ∧ s.vm.findClass "AbnfChart$Reader" = some m.cls ∧ True := ⟨hx, hb, tb_all (atoms_spec B.pre) hN, findClass_of_methodNamed B.named, trivial⟩
  have hl := lv_entry ([.int (x)]) (n := 1) (Nat.le_of_ble_eq_true rfl)
  rw [lg_entry_eq]
  generalize (lg_sl ([.int (x)]) ++ List.replicate (1 - (lg_sl ([.int (x)])).length) Slot.unset).toArray = ls at hl ⊢
  have hl : lv_has ls 1 [(0, .int (x))] := hl
  refine lv_iload_n Bx.1 Bx.2.1 d_Rd_beginsRepetition_0 rfl (lv_at hl 0 rfl) ?_
  refine f_callSi (na := 1) (As := [.int (x)]) (rest := []) Bx hml hN (m_Rd_beginsRepeat l (x)) kw_416 kw_417 kw_6 kw_418 (by decide +kernel) ⟨rfl, rfl⟩ ⟨Nat.le_of_ble_eq_true rfl, Nat.le_of_ble_eq_true rfl⟩ rfl hl.1 (Nat.le_of_ble_eq_true rfl) d_Rd_beginsRepetition_1 ⟨Nat.le_of_ble_eq_true rfl, Nat.le_of_ble_eq_true rfl⟩ (fun r2 hs1 => ?_)
  refine lv_if_ne Bx.1 Bx.2.1 d_Rd_beginsRepetition_4 rfl (fun h => ?_) (fun h => ?_)
  · refine lv_iconst (v := 1) Bx.1 Bx.2.1 d_Rd_beginsRepetition_38 (by decide) ?_
    refine lv_goto Bx.1 Bx.2.1 d_Rd_beginsRepetition_39 rfl ?_
    exact W.zret (v := 1) hx hb hr rfl (fun t ht hW => ⟨1, rfl, trivial, ht⟩) (fun _ h => by cases h) d_Rd_beginsRepetition_43
  · refine lv_iload_n Bx.1 Bx.2.1 d_Rd_beginsRepetition_7 rfl (lv_at hl 0 rfl) ?_
    refine f_callSNi (na := 1) (As := [.int (x)]) (rest := []) Bx hml hN (m_Ab_isLetter l (x)) kw_357 kw_358 kw_1 kw_359 (by decide +kernel) ⟨rfl, rfl⟩ ⟨Nat.le_of_ble_eq_true rfl, Nat.le_of_ble_eq_true rfl⟩ rfl hl.1 (Nat.le_of_ble_eq_true rfl) d_Rd_beginsRepetition_8 ⟨Nat.le_of_ble_eq_true rfl, Nat.le_of_ble_eq_true rfl⟩ (fun r4 hs3 => ?_)
    refine lv_if_ne Bx.1 Bx.2.1 d_Rd_beginsRepetition_11 rfl (fun h => ?_) (fun h => ?_)
    · refine lv_iconst (v := 1) Bx.1 Bx.2.1 d_Rd_beginsRepetition_38 (by decide) ?_
      refine lv_goto Bx.1 Bx.2.1 d_Rd_beginsRepetition_39 rfl ?_
      exact W.zret (v := 1) hx hb hr rfl (fun t ht hW => ⟨1, rfl, trivial, ht⟩) (fun _ h => by cases h) d_Rd_beginsRepetition_43
    · refine lv_iload_n Bx.1 Bx.2.1 d_Rd_beginsRepetition_14 rfl (lv_at hl 0 rfl) ?_
      refine lv_bipush (v := 40) Bx.1 Bx.2.1 d_Rd_beginsRepetition_15 (by decide) ?_
      refine lv_icmp_eq Bx.1 Bx.2.1 d_Rd_beginsRepetition_17 rfl (fun h => ?_) (fun h => ?_)
      · refine lv_iconst (v := 1) Bx.1 Bx.2.1 d_Rd_beginsRepetition_38 (by decide) ?_
        refine lv_goto Bx.1 Bx.2.1 d_Rd_beginsRepetition_39 rfl ?_
        exact W.zret (v := 1) hx hb hr rfl (fun t ht hW => ⟨1, rfl, trivial, ht⟩) (fun _ h => by cases h) d_Rd_beginsRepetition_43
      · refine lv_iload_n Bx.1 Bx.2.1 d_Rd_beginsRepetition_20 rfl (lv_at hl 0 rfl) ?_
        refine lv_bipush (v := 91) Bx.1 Bx.2.1 d_Rd_beginsRepetition_21 (by decide) ?_
        refine lv_icmp_eq Bx.1 Bx.2.1 d_Rd_beginsRepetition_23 rfl (fun h => ?_) (fun h => ?_)
        · refine lv_iconst (v := 1) Bx.1 Bx.2.1 d_Rd_beginsRepetition_38 (by decide) ?_
          refine lv_goto Bx.1 Bx.2.1 d_Rd_beginsRepetition_39 rfl ?_
          exact W.zret (v := 1) hx hb hr rfl (fun t ht hW => ⟨1, rfl, trivial, ht⟩) (fun _ h => by cases h) d_Rd_beginsRepetition_43
        · refine lv_iload_n Bx.1 Bx.2.1 d_Rd_beginsRepetition_26 rfl (lv_at hl 0 rfl) ?_
          refine lv_bipush (v := 34) Bx.1 Bx.2.1 d_Rd_beginsRepetition_27 (by decide) ?_
          refine lv_icmp_eq Bx.1 Bx.2.1 d_Rd_beginsRepetition_29 rfl (fun h => ?_) (fun h => ?_)
          · refine lv_iconst (v := 1) Bx.1 Bx.2.1 d_Rd_beginsRepetition_38 (by decide) ?_
            refine lv_goto Bx.1 Bx.2.1 d_Rd_beginsRepetition_39 rfl ?_
            exact W.zret (v := 1) hx hb hr rfl (fun t ht hW => ⟨1, rfl, trivial, ht⟩) (fun _ h => by cases h) d_Rd_beginsRepetition_43
          · refine lv_iload_n Bx.1 Bx.2.1 d_Rd_beginsRepetition_32 rfl (lv_at hl 0 rfl) ?_
            refine lv_bipush (v := 37) Bx.1 Bx.2.1 d_Rd_beginsRepetition_33 (by decide) ?_
            refine lv_icmp_ne Bx.1 Bx.2.1 d_Rd_beginsRepetition_35 rfl (fun h => ?_) (fun h => ?_)
            · refine lv_iconst (v := 0) Bx.1 Bx.2.1 d_Rd_beginsRepetition_42 (by decide) ?_
              exact W.zret (v := 0) hx hb hr rfl (fun t ht hW => ⟨0, rfl, trivial, ht⟩) (fun _ h => by cases h) d_Rd_beginsRepetition_43
            · refine lv_iconst (v := 1) Bx.1 Bx.2.1 d_Rd_beginsRepetition_38 (by decide) ?_
              refine lv_goto Bx.1 Bx.2.1 d_Rd_beginsRepetition_39 rfl ?_
              exact W.zret (v := 1) hx hb hr rfl (fun t ht hW => ⟨1, rfl, trivial, ht⟩) (fun _ h => by cases h) d_Rd_beginsRepetition_43
set_option maxHeartbeats 4000000 in
set_option maxRecDepth 100000 in
theorem m_Rd_isStringCode (l : Launch) (x : Int32) : MS l y_Rd_isStringCode c_Rd_isStringCode 1 (some .boolean) ({ frames := 0, cells := 0, slots := 0, locals := 0 } : Room) [.int (x)] (fun r => True) := by
  refine Met.ofW (cc := c_Rd_isStringCode) (maxL := 1) (ret := (some .boolean)) (by decide) rfl ?_
  intro p e s m args below meth c s₁ B hml hv
  obtain ⟨rfl, hN⟩ := hv
  have hx := B.exec
  have hb := B.bytes
  have hr := B.returns
  have hlocks := B.notSynchronized
  have Bx : p.tables.exec = Jvm.exec ∧ c.code = c_Rd_isStringCode ∧ (∀ w ∈ TB, w.before [.int (x)].toArray s = true) ∧ s.vm.findClass "AbnfChart$Reader" = some m.cls ∧ True := ⟨hx, hb, tb_all (atoms_spec B.pre) hN, findClass_of_methodNamed B.named, trivial⟩
  have hl := lv_entry ([.int (x)]) (n := 1) (Nat.le_of_ble_eq_true rfl)
  rw [lg_entry_eq]
  generalize (lg_sl ([.int (x)]) ++ List.replicate (1 - (lg_sl ([.int (x)])).length) Slot.unset).toArray = ls at hl ⊢
  have hl : lv_has ls 1 [(0, .int (x))] := hl
  refine lv_iload_n Bx.1 Bx.2.1 d_Rd_isStringCode_0 rfl (lv_at hl 0 rfl) ?_
  refine lv_bipush (v := 32) Bx.1 Bx.2.1 d_Rd_isStringCode_1 (by decide) ?_
  refine lv_icmp_lt Bx.1 Bx.2.1 d_Rd_isStringCode_3 rfl (fun h => ?_) (fun h => ?_)
  · refine lv_iconst (v := 0) Bx.1 Bx.2.1 d_Rd_isStringCode_22 (by decide) ?_
    exact W.zret (v := 0) hx hb hr rfl (fun t ht hW => ⟨0, rfl, trivial, ht⟩) (fun _ h => by cases h) d_Rd_isStringCode_23
  · refine lv_iload_n Bx.1 Bx.2.1 d_Rd_isStringCode_6 rfl (lv_at hl 0 rfl) ?_
    refine lv_bipush (v := 126) Bx.1 Bx.2.1 d_Rd_isStringCode_7 (by decide) ?_
    refine lv_icmp_gt Bx.1 Bx.2.1 d_Rd_isStringCode_9 rfl (fun h => ?_) (fun h => ?_)
    · refine lv_iconst (v := 0) Bx.1 Bx.2.1 d_Rd_isStringCode_22 (by decide) ?_
      exact W.zret (v := 0) hx hb hr rfl (fun t ht hW => ⟨0, rfl, trivial, ht⟩) (fun _ h => by cases h) d_Rd_isStringCode_23
    · refine lv_iload_n Bx.1 Bx.2.1 d_Rd_isStringCode_12 rfl (lv_at hl 0 rfl) ?_
      refine lv_bipush (v := 34) Bx.1 Bx.2.1 d_Rd_isStringCode_13 (by decide) ?_
      refine lv_icmp_eq Bx.1 Bx.2.1 d_Rd_isStringCode_15 rfl (fun h => ?_) (fun h => ?_)
      · refine lv_iconst (v := 0) Bx.1 Bx.2.1 d_Rd_isStringCode_22 (by decide) ?_
        exact W.zret (v := 0) hx hb hr rfl (fun t ht hW => ⟨0, rfl, trivial, ht⟩) (fun _ h => by cases h) d_Rd_isStringCode_23
      · refine lv_iconst (v := 1) Bx.1 Bx.2.1 d_Rd_isStringCode_18 (by decide) ?_
        refine lv_goto Bx.1 Bx.2.1 d_Rd_isStringCode_19 rfl ?_
        exact W.zret (v := 1) hx hb hr rfl (fun t ht hW => ⟨1, rfl, trivial, ht⟩) (fun _ h => by cases h) d_Rd_isStringCode_23
set_option maxHeartbeats 4000000 in
set_option maxRecDepth 100000 in
theorem m_Rd_digitOf (l : Launch) (x y : Int32) : MS l y_Rd_digitOf c_Rd_digitOf 2 (some .int) ({ frames := 0, cells := 0, slots := 0, locals := 0 } : Room) [.int (x), .int (y)] (fun r => True) := by
  refine Met.ofW (cc := c_Rd_digitOf) (maxL := 2) (ret := (some .int)) (by decide) rfl ?_
  intro p e s m args below meth c s₁ B hml hv
  obtain ⟨rfl, hN⟩ := hv
  have hx := B.exec
  have hb := B.bytes
  have hr := B.returns
  have hlocks := B.notSynchronized
  have Bx : p.tables.exec = Jvm.exec ∧ c.code = c_Rd_digitOf ∧ (∀ w ∈ TB, w.before [.int (x), .int (y)].toArray s = true) ∧ s.vm.findClass "AbnfChart$Reader" = some m.cls ∧ True := ⟨hx, hb, tb_all (atoms_spec B.pre) hN, findClass_of_methodNamed B.named, trivial⟩
  have hl := lv_entry ([.int (x), .int (y)]) (n := 2) (Nat.le_of_ble_eq_true rfl)
  rw [lg_entry_eq]
  generalize (lg_sl ([.int (x), .int (y)]) ++ List.replicate (2 - (lg_sl ([.int (x), .int (y)])).length) Slot.unset).toArray = ls at hl ⊢
  have hl : lv_has ls 2 [(0, .int (x)), (1, .int (y))] := hl
  refine lv_iload_n Bx.1 Bx.2.1 d_Rd_digitOf_0 rfl (lv_at hl 0 rfl) ?_
  refine lv_bipush (v := 48) Bx.1 Bx.2.1 d_Rd_digitOf_1 (by decide) ?_
  refine lv_icmp_lt Bx.1 Bx.2.1 d_Rd_digitOf_3 rfl (fun h => ?_) (fun h => ?_)
  · refine lv_iload_n Bx.1 Bx.2.1 d_Rd_digitOf_17 rfl (lv_at hl 1 rfl) ?_
    refine lv_bipush (v := 16) Bx.1 Bx.2.1 d_Rd_digitOf_18 (by decide) ?_
    refine lv_icmp_ne Bx.1 Bx.2.1 d_Rd_digitOf_20 rfl (fun h => ?_) (fun h => ?_)
    · refine lv_iload_n Bx.1 Bx.2.1 d_Rd_digitOf_43 rfl (lv_at hl 1 rfl) ?_
      refine lv_bipush (v := 16) Bx.1 Bx.2.1 d_Rd_digitOf_44 (by decide) ?_
      refine lv_icmp_ne Bx.1 Bx.2.1 d_Rd_digitOf_46 rfl (fun h => ?_) (fun h => ?_)
      · refine lv_iconst (v := -1) Bx.1 Bx.2.1 d_Rd_digitOf_71 (by decide) ?_
        exact W.iret (v := (-1)) hx hb hr (fun t ht hW => ⟨(-1), rfl, trivial, ht⟩) (fun _ h => by cases h) d_Rd_digitOf_72
      · refine lv_iload_n Bx.1 Bx.2.1 d_Rd_digitOf_49 rfl (lv_at hl 0 rfl) ?_
        refine lv_bipush (v := 65) Bx.1 Bx.2.1 d_Rd_digitOf_50 (by decide) ?_
        refine lv_icmp_lt Bx.1 Bx.2.1 d_Rd_digitOf_52 rfl (fun h => ?_) (fun h => ?_)
        · refine lv_iconst (v := -1) Bx.1 Bx.2.1 d_Rd_digitOf_71 (by decide) ?_
          exact W.iret (v := (-1)) hx hb hr (fun t ht hW => ⟨(-1), rfl, trivial, ht⟩) (fun _ h => by cases h) d_Rd_digitOf_72
        · refine lv_iload_n Bx.1 Bx.2.1 d_Rd_digitOf_55 rfl (lv_at hl 0 rfl) ?_
          refine lv_bipush (v := 70) Bx.1 Bx.2.1 d_Rd_digitOf_56 (by decide) ?_
          refine lv_icmp_gt Bx.1 Bx.2.1 d_Rd_digitOf_58 rfl (fun h => ?_) (fun h => ?_)
          · refine lv_iconst (v := -1) Bx.1 Bx.2.1 d_Rd_digitOf_71 (by decide) ?_
            exact W.iret (v := (-1)) hx hb hr (fun t ht hW => ⟨(-1), rfl, trivial, ht⟩) (fun _ h => by cases h) d_Rd_digitOf_72
          · refine lv_iload_n Bx.1 Bx.2.1 d_Rd_digitOf_61 rfl (lv_at hl 0 rfl) ?_
            refine lv_bipush (v := 65) Bx.1 Bx.2.1 d_Rd_digitOf_62 (by decide) ?_
            refine lv_isub Bx.1 Bx.2.1 d_Rd_digitOf_64 ?_
            refine lv_bipush (v := 10) Bx.1 Bx.2.1 d_Rd_digitOf_65 (by decide) ?_
            refine lv_iadd Bx.1 Bx.2.1 d_Rd_digitOf_67 ?_
            refine lv_goto Bx.1 Bx.2.1 d_Rd_digitOf_68 rfl ?_
            exact W.iret (v := x - 65 + 10) hx hb hr (fun t ht hW => ⟨x - 65 + 10, rfl, trivial, ht⟩) (fun _ h => by cases h) d_Rd_digitOf_72
    · refine lv_iload_n Bx.1 Bx.2.1 d_Rd_digitOf_23 rfl (lv_at hl 0 rfl) ?_
      refine lv_bipush (v := 97) Bx.1 Bx.2.1 d_Rd_digitOf_24 (by decide) ?_
      refine lv_icmp_lt Bx.1 Bx.2.1 d_Rd_digitOf_26 rfl (fun h => ?_) (fun h => ?_)
      · refine lv_iload_n Bx.1 Bx.2.1 d_Rd_digitOf_43 rfl (lv_at hl 1 rfl) ?_
        refine lv_bipush (v := 16) Bx.1 Bx.2.1 d_Rd_digitOf_44 (by decide) ?_
        refine lv_icmp_ne Bx.1 Bx.2.1 d_Rd_digitOf_46 rfl (fun h => ?_) (fun h => ?_)
        · refine lv_iconst (v := -1) Bx.1 Bx.2.1 d_Rd_digitOf_71 (by decide) ?_
          exact W.iret (v := (-1)) hx hb hr (fun t ht hW => ⟨(-1), rfl, trivial, ht⟩) (fun _ h => by cases h) d_Rd_digitOf_72
        · refine lv_iload_n Bx.1 Bx.2.1 d_Rd_digitOf_49 rfl (lv_at hl 0 rfl) ?_
          refine lv_bipush (v := 65) Bx.1 Bx.2.1 d_Rd_digitOf_50 (by decide) ?_
          refine lv_icmp_lt Bx.1 Bx.2.1 d_Rd_digitOf_52 rfl (fun h => ?_) (fun h => ?_)
          · refine lv_iconst (v := -1) Bx.1 Bx.2.1 d_Rd_digitOf_71 (by decide) ?_
            exact W.iret (v := (-1)) hx hb hr (fun t ht hW => ⟨(-1), rfl, trivial, ht⟩) (fun _ h => by cases h) d_Rd_digitOf_72
          · refine lv_iload_n Bx.1 Bx.2.1 d_Rd_digitOf_55 rfl (lv_at hl 0 rfl) ?_
            refine lv_bipush (v := 70) Bx.1 Bx.2.1 d_Rd_digitOf_56 (by decide) ?_
            refine lv_icmp_gt Bx.1 Bx.2.1 d_Rd_digitOf_58 rfl (fun h => ?_) (fun h => ?_)
            · refine lv_iconst (v := -1) Bx.1 Bx.2.1 d_Rd_digitOf_71 (by decide) ?_
              exact W.iret (v := (-1)) hx hb hr (fun t ht hW => ⟨(-1), rfl, trivial, ht⟩) (fun _ h => by cases h) d_Rd_digitOf_72
            · refine lv_iload_n Bx.1 Bx.2.1 d_Rd_digitOf_61 rfl (lv_at hl 0 rfl) ?_
              refine lv_bipush (v := 65) Bx.1 Bx.2.1 d_Rd_digitOf_62 (by decide) ?_
              refine lv_isub Bx.1 Bx.2.1 d_Rd_digitOf_64 ?_
              refine lv_bipush (v := 10) Bx.1 Bx.2.1 d_Rd_digitOf_65 (by decide) ?_
              refine lv_iadd Bx.1 Bx.2.1 d_Rd_digitOf_67 ?_
              refine lv_goto Bx.1 Bx.2.1 d_Rd_digitOf_68 rfl ?_
              exact W.iret (v := x - 65 + 10) hx hb hr (fun t ht hW => ⟨x - 65 + 10, rfl, trivial, ht⟩) (fun _ h => by cases h) d_Rd_digitOf_72
      · refine lv_iload_n Bx.1 Bx.2.1 d_Rd_digitOf_29 rfl (lv_at hl 0 rfl) ?_
        refine lv_bipush (v := 102) Bx.1 Bx.2.1 d_Rd_digitOf_30 (by decide) ?_
        refine lv_icmp_gt Bx.1 Bx.2.1 d_Rd_digitOf_32 rfl (fun h => ?_) (fun h => ?_)
        · refine lv_iload_n Bx.1 Bx.2.1 d_Rd_digitOf_43 rfl (lv_at hl 1 rfl) ?_
          refine lv_bipush (v := 16) Bx.1 Bx.2.1 d_Rd_digitOf_44 (by decide) ?_
          refine lv_icmp_ne Bx.1 Bx.2.1 d_Rd_digitOf_46 rfl (fun h => ?_) (fun h => ?_)
          · refine lv_iconst (v := -1) Bx.1 Bx.2.1 d_Rd_digitOf_71 (by decide) ?_
            exact W.iret (v := (-1)) hx hb hr (fun t ht hW => ⟨(-1), rfl, trivial, ht⟩) (fun _ h => by cases h) d_Rd_digitOf_72
          · refine lv_iload_n Bx.1 Bx.2.1 d_Rd_digitOf_49 rfl (lv_at hl 0 rfl) ?_
            refine lv_bipush (v := 65) Bx.1 Bx.2.1 d_Rd_digitOf_50 (by decide) ?_
            refine lv_icmp_lt Bx.1 Bx.2.1 d_Rd_digitOf_52 rfl (fun h => ?_) (fun h => ?_)
            · refine lv_iconst (v := -1) Bx.1 Bx.2.1 d_Rd_digitOf_71 (by decide) ?_
              exact W.iret (v := (-1)) hx hb hr (fun t ht hW => ⟨(-1), rfl, trivial, ht⟩) (fun _ h => by cases h) d_Rd_digitOf_72
            · refine lv_iload_n Bx.1 Bx.2.1 d_Rd_digitOf_55 rfl (lv_at hl 0 rfl) ?_
              refine lv_bipush (v := 70) Bx.1 Bx.2.1 d_Rd_digitOf_56 (by decide) ?_
              refine lv_icmp_gt Bx.1 Bx.2.1 d_Rd_digitOf_58 rfl (fun h => ?_) (fun h => ?_)
              · refine lv_iconst (v := -1) Bx.1 Bx.2.1 d_Rd_digitOf_71 (by decide) ?_
                exact W.iret (v := (-1)) hx hb hr (fun t ht hW => ⟨(-1), rfl, trivial, ht⟩) (fun _ h => by cases h) d_Rd_digitOf_72
              · refine lv_iload_n Bx.1 Bx.2.1 d_Rd_digitOf_61 rfl (lv_at hl 0 rfl) ?_
                refine lv_bipush (v := 65) Bx.1 Bx.2.1 d_Rd_digitOf_62 (by decide) ?_
                refine lv_isub Bx.1 Bx.2.1 d_Rd_digitOf_64 ?_
                refine lv_bipush (v := 10) Bx.1 Bx.2.1 d_Rd_digitOf_65 (by decide) ?_
                refine lv_iadd Bx.1 Bx.2.1 d_Rd_digitOf_67 ?_
                refine lv_goto Bx.1 Bx.2.1 d_Rd_digitOf_68 rfl ?_
                exact W.iret (v := x - 65 + 10) hx hb hr (fun t ht hW => ⟨x - 65 + 10, rfl, trivial, ht⟩) (fun _ h => by cases h) d_Rd_digitOf_72
        · refine lv_iload_n Bx.1 Bx.2.1 d_Rd_digitOf_35 rfl (lv_at hl 0 rfl) ?_
          refine lv_bipush (v := 97) Bx.1 Bx.2.1 d_Rd_digitOf_36 (by decide) ?_
          refine lv_isub Bx.1 Bx.2.1 d_Rd_digitOf_38 ?_
          refine lv_bipush (v := 10) Bx.1 Bx.2.1 d_Rd_digitOf_39 (by decide) ?_
          refine lv_iadd Bx.1 Bx.2.1 d_Rd_digitOf_41 ?_
          exact W.iret (v := x - 97 + 10) hx hb hr (fun t ht hW => ⟨x - 97 + 10, rfl, trivial, ht⟩) (fun _ h => by cases h) d_Rd_digitOf_42
  · refine lv_iload_n Bx.1 Bx.2.1 d_Rd_digitOf_6 rfl (lv_at hl 0 rfl) ?_
    refine lv_bipush (v := 57) Bx.1 Bx.2.1 d_Rd_digitOf_7 (by decide) ?_
    refine lv_icmp_gt Bx.1 Bx.2.1 d_Rd_digitOf_9 rfl (fun h => ?_) (fun h => ?_)
    · refine lv_iload_n Bx.1 Bx.2.1 d_Rd_digitOf_17 rfl (lv_at hl 1 rfl) ?_
      refine lv_bipush (v := 16) Bx.1 Bx.2.1 d_Rd_digitOf_18 (by decide) ?_
      refine lv_icmp_ne Bx.1 Bx.2.1 d_Rd_digitOf_20 rfl (fun h => ?_) (fun h => ?_)
      · refine lv_iload_n Bx.1 Bx.2.1 d_Rd_digitOf_43 rfl (lv_at hl 1 rfl) ?_
        refine lv_bipush (v := 16) Bx.1 Bx.2.1 d_Rd_digitOf_44 (by decide) ?_
        refine lv_icmp_ne Bx.1 Bx.2.1 d_Rd_digitOf_46 rfl (fun h => ?_) (fun h => ?_)
        · refine lv_iconst (v := -1) Bx.1 Bx.2.1 d_Rd_digitOf_71 (by decide) ?_
          exact W.iret (v := (-1)) hx hb hr (fun t ht hW => ⟨(-1), rfl, trivial, ht⟩) (fun _ h => by cases h) d_Rd_digitOf_72
        · refine lv_iload_n Bx.1 Bx.2.1 d_Rd_digitOf_49 rfl (lv_at hl 0 rfl) ?_
          refine lv_bipush (v := 65) Bx.1 Bx.2.1 d_Rd_digitOf_50 (by decide) ?_
          refine lv_icmp_lt Bx.1 Bx.2.1 d_Rd_digitOf_52 rfl (fun h => ?_) (fun h => ?_)
          · refine lv_iconst (v := -1) Bx.1 Bx.2.1 d_Rd_digitOf_71 (by decide) ?_
            exact W.iret (v := (-1)) hx hb hr (fun t ht hW => ⟨(-1), rfl, trivial, ht⟩) (fun _ h => by cases h) d_Rd_digitOf_72
          · refine lv_iload_n Bx.1 Bx.2.1 d_Rd_digitOf_55 rfl (lv_at hl 0 rfl) ?_
            refine lv_bipush (v := 70) Bx.1 Bx.2.1 d_Rd_digitOf_56 (by decide) ?_
            refine lv_icmp_gt Bx.1 Bx.2.1 d_Rd_digitOf_58 rfl (fun h => ?_) (fun h => ?_)
            · refine lv_iconst (v := -1) Bx.1 Bx.2.1 d_Rd_digitOf_71 (by decide) ?_
              exact W.iret (v := (-1)) hx hb hr (fun t ht hW => ⟨(-1), rfl, trivial, ht⟩) (fun _ h => by cases h) d_Rd_digitOf_72
            · refine lv_iload_n Bx.1 Bx.2.1 d_Rd_digitOf_61 rfl (lv_at hl 0 rfl) ?_
              refine lv_bipush (v := 65) Bx.1 Bx.2.1 d_Rd_digitOf_62 (by decide) ?_
              refine lv_isub Bx.1 Bx.2.1 d_Rd_digitOf_64 ?_
              refine lv_bipush (v := 10) Bx.1 Bx.2.1 d_Rd_digitOf_65 (by decide) ?_
              refine lv_iadd Bx.1 Bx.2.1 d_Rd_digitOf_67 ?_
              refine lv_goto Bx.1 Bx.2.1 d_Rd_digitOf_68 rfl ?_
              exact W.iret (v := x - 65 + 10) hx hb hr (fun t ht hW => ⟨x - 65 + 10, rfl, trivial, ht⟩) (fun _ h => by cases h) d_Rd_digitOf_72
      · refine lv_iload_n Bx.1 Bx.2.1 d_Rd_digitOf_23 rfl (lv_at hl 0 rfl) ?_
        refine lv_bipush (v := 97) Bx.1 Bx.2.1 d_Rd_digitOf_24 (by decide) ?_
        refine lv_icmp_lt Bx.1 Bx.2.1 d_Rd_digitOf_26 rfl (fun h => ?_) (fun h => ?_)
        · refine lv_iload_n Bx.1 Bx.2.1 d_Rd_digitOf_43 rfl (lv_at hl 1 rfl) ?_
          refine lv_bipush (v := 16) Bx.1 Bx.2.1 d_Rd_digitOf_44 (by decide) ?_
          refine lv_icmp_ne Bx.1 Bx.2.1 d_Rd_digitOf_46 rfl (fun h => ?_) (fun h => ?_)
          · refine lv_iconst (v := -1) Bx.1 Bx.2.1 d_Rd_digitOf_71 (by decide) ?_
            exact W.iret (v := (-1)) hx hb hr (fun t ht hW => ⟨(-1), rfl, trivial, ht⟩) (fun _ h => by cases h) d_Rd_digitOf_72
          · refine lv_iload_n Bx.1 Bx.2.1 d_Rd_digitOf_49 rfl (lv_at hl 0 rfl) ?_
            refine lv_bipush (v := 65) Bx.1 Bx.2.1 d_Rd_digitOf_50 (by decide) ?_
            refine lv_icmp_lt Bx.1 Bx.2.1 d_Rd_digitOf_52 rfl (fun h => ?_) (fun h => ?_)
            · refine lv_iconst (v := -1) Bx.1 Bx.2.1 d_Rd_digitOf_71 (by decide) ?_
              exact W.iret (v := (-1)) hx hb hr (fun t ht hW => ⟨(-1), rfl, trivial, ht⟩) (fun _ h => by cases h) d_Rd_digitOf_72
            · refine lv_iload_n Bx.1 Bx.2.1 d_Rd_digitOf_55 rfl (lv_at hl 0 rfl) ?_
              refine lv_bipush (v := 70) Bx.1 Bx.2.1 d_Rd_digitOf_56 (by decide) ?_
              refine lv_icmp_gt Bx.1 Bx.2.1 d_Rd_digitOf_58 rfl (fun h => ?_) (fun h => ?_)
              · refine lv_iconst (v := -1) Bx.1 Bx.2.1 d_Rd_digitOf_71 (by decide) ?_
                exact W.iret (v := (-1)) hx hb hr (fun t ht hW => ⟨(-1), rfl, trivial, ht⟩) (fun _ h => by cases h) d_Rd_digitOf_72
              · refine lv_iload_n Bx.1 Bx.2.1 d_Rd_digitOf_61 rfl (lv_at hl 0 rfl) ?_
                refine lv_bipush (v := 65) Bx.1 Bx.2.1 d_Rd_digitOf_62 (by decide) ?_
                refine lv_isub Bx.1 Bx.2.1 d_Rd_digitOf_64 ?_
                refine lv_bipush (v := 10) Bx.1 Bx.2.1 d_Rd_digitOf_65 (by decide) ?_
                refine lv_iadd Bx.1 Bx.2.1 d_Rd_digitOf_67 ?_
                refine lv_goto Bx.1 Bx.2.1 d_Rd_digitOf_68 rfl ?_
                exact W.iret (v := x - 65 + 10) hx hb hr (fun t ht hW => ⟨x - 65 + 10, rfl, trivial, ht⟩) (fun _ h => by cases h) d_Rd_digitOf_72
        · refine lv_iload_n Bx.1 Bx.2.1 d_Rd_digitOf_29 rfl (lv_at hl 0 rfl) ?_
          refine lv_bipush (v := 102) Bx.1 Bx.2.1 d_Rd_digitOf_30 (by decide) ?_
          refine lv_icmp_gt Bx.1 Bx.2.1 d_Rd_digitOf_32 rfl (fun h => ?_) (fun h => ?_)
          · refine lv_iload_n Bx.1 Bx.2.1 d_Rd_digitOf_43 rfl (lv_at hl 1 rfl) ?_
            refine lv_bipush (v := 16) Bx.1 Bx.2.1 d_Rd_digitOf_44 (by decide) ?_
            refine lv_icmp_ne Bx.1 Bx.2.1 d_Rd_digitOf_46 rfl (fun h => ?_) (fun h => ?_)
            · refine lv_iconst (v := -1) Bx.1 Bx.2.1 d_Rd_digitOf_71 (by decide) ?_
              exact W.iret (v := (-1)) hx hb hr (fun t ht hW => ⟨(-1), rfl, trivial, ht⟩) (fun _ h => by cases h) d_Rd_digitOf_72
            · refine lv_iload_n Bx.1 Bx.2.1 d_Rd_digitOf_49 rfl (lv_at hl 0 rfl) ?_
              refine lv_bipush (v := 65) Bx.1 Bx.2.1 d_Rd_digitOf_50 (by decide) ?_
              refine lv_icmp_lt Bx.1 Bx.2.1 d_Rd_digitOf_52 rfl (fun h => ?_) (fun h => ?_)
              · refine lv_iconst (v := -1) Bx.1 Bx.2.1 d_Rd_digitOf_71 (by decide) ?_
                exact W.iret (v := (-1)) hx hb hr (fun t ht hW => ⟨(-1), rfl, trivial, ht⟩) (fun _ h => by cases h) d_Rd_digitOf_72
              · refine lv_iload_n Bx.1 Bx.2.1 d_Rd_digitOf_55 rfl (lv_at hl 0 rfl) ?_
                refine lv_bipush (v := 70) Bx.1 Bx.2.1 d_Rd_digitOf_56 (by decide) ?_
                refine lv_icmp_gt Bx.1 Bx.2.1 d_Rd_digitOf_58 rfl (fun h => ?_) (fun h => ?_)
                · refine lv_iconst (v := -1) Bx.1 Bx.2.1 d_Rd_digitOf_71 (by decide) ?_
                  exact W.iret (v := (-1)) hx hb hr (fun t ht hW => ⟨(-1), rfl, trivial, ht⟩) (fun _ h => by cases h) d_Rd_digitOf_72
                · refine lv_iload_n Bx.1 Bx.2.1 d_Rd_digitOf_61 rfl (lv_at hl 0 rfl) ?_
                  refine lv_bipush (v := 65) Bx.1 Bx.2.1 d_Rd_digitOf_62 (by decide) ?_
                  refine lv_isub Bx.1 Bx.2.1 d_Rd_digitOf_64 ?_
                  refine lv_bipush (v := 10) Bx.1 Bx.2.1 d_Rd_digitOf_65 (by decide) ?_
                  refine lv_iadd Bx.1 Bx.2.1 d_Rd_digitOf_67 ?_
                  refine lv_goto Bx.1 Bx.2.1 d_Rd_digitOf_68 rfl ?_
                  exact W.iret (v := x - 65 + 10) hx hb hr (fun t ht hW => ⟨x - 65 + 10, rfl, trivial, ht⟩) (fun _ h => by cases h) d_Rd_digitOf_72
          · refine lv_iload_n Bx.1 Bx.2.1 d_Rd_digitOf_35 rfl (lv_at hl 0 rfl) ?_
            refine lv_bipush (v := 97) Bx.1 Bx.2.1 d_Rd_digitOf_36 (by decide) ?_
            refine lv_isub Bx.1 Bx.2.1 d_Rd_digitOf_38 ?_
            refine lv_bipush (v := 10) Bx.1 Bx.2.1 d_Rd_digitOf_39 (by decide) ?_
            refine lv_iadd Bx.1 Bx.2.1 d_Rd_digitOf_41 ?_
            exact W.iret (v := x - 97 + 10) hx hb hr (fun t ht hW => ⟨x - 97 + 10, rfl, trivial, ht⟩) (fun _ h => by cases h) d_Rd_digitOf_42
    · refine lv_iload_n Bx.1 Bx.2.1 d_Rd_digitOf_12 rfl (lv_at hl 0 rfl) ?_
      refine lv_bipush (v := 48) Bx.1 Bx.2.1 d_Rd_digitOf_13 (by decide) ?_
      refine lv_isub Bx.1 Bx.2.1 d_Rd_digitOf_15 ?_
      exact W.iret (v := x - 48) hx hb hr (fun t ht hW => ⟨x - 48, rfl, trivial, ht⟩) (fun _ h => by cases h) d_Rd_digitOf_16
set_option maxHeartbeats 4000000 in
set_option maxRecDepth 100000 in
theorem m_Rd_peek (l : Launch) {D : va_G} {cy : Nat → ClassId} {sz n : Nat} {ad : Nat → Nat} {mem : Nat → va_E} {Z : Nat} {f : Nat → Int32} {rc ec : Nat} {m0 : Nat → va_E} (hn : 224 ≤ n) (hT : TX cy ad Z f m0) (hRS : RS cy ad rc ec m0 mem) : MI l D cy sz n ad y_Rd_peek c_Rd_peek 1 (some .int) ({ frames := 1, cells := 0, slots := 0, locals := 30 } : Room) mem [.ref (ad 222)] (fun r mem' => mem' = mem) := by
  refine Met.ofW (cc := c_Rd_peek) (maxL := 1) (ret := (some .int)) (by decide) rfl ?_
  intro p e s m args below meth c s₁ B hml hv
  obtain ⟨rfl, E, hP, hD⟩ := hv
  have hx := B.exec
  have hb := B.bytes
  have hr := B.returns
  have hlocks := B.notSynchronized
  have Bx : MB p s m [.ref (ad 222)].toArray c c_Rd_peek "AbnfChart$Reader" D cy := ⟨hx, hb, tb_all (atoms_spec B.pre) E.2.1, findClass_of_methodNamed B.named, E.1⟩
  have hS : va_S (Az sz) s.heap s.heap [] := va_S.rf
  have hl := lv_entry ([.ref (ad 222)]) (n := 1) (Nat.le_of_ble_eq_true rfl)
  rw [lg_entry_eq]
  generalize (lg_sl ([.ref (ad 222)]) ++ List.replicate (1 - (lg_sl ([.ref (ad 222)])).length) Slot.unset).toArray = ls at hl ⊢
  have hl : lv_has ls 1 [(0, .ref (ad 222))] := hl
  obtain ⟨at1, ft2, h9_3⟩ := hRS.2.1
  have h1_4 : mem 1 = .inr (0, [.ref (ad 2), .int (nI Z)]) := (hRS.2.2 1 (by omega)).trans hT.1
  have h2_5 : mem 2 = .inl (cy 0, 240, .inl f) := (hRS.2.2 2 (by omega)).trans hT.2.2
  have h5_6 := hRS.1.2.1
  obtain ⟨S7, g8, hS_9, h220_10, h221_11⟩ := hRS.1.2.2.2.2.2.2
  refine lv_aload_n Bx.1 Bx.2.1 d_Rd_peek_0 rfl (lv_at hl 0 rfl) ?_
  refine f_get Bx hP (by omega) h9_3 rfl inRd 0 (by decide) kw_144 rfl rfl d_Rd_peek_1 ?_
  refine lv_aload_n Bx.1 Bx.2.1 d_Rd_peek_4 rfl (lv_at hl 0 rfl) ?_
  refine f_get Bx hP (by omega) h9_3 rfl inRd 2 (by decide) kw_146 rfl rfl d_Rd_peek_5 ?_
  refine f_callVi (na := 1) (As := [.int (at1)]) (rest := []) Bx hml E hP hD hS (by omega) h1_4 rfl (m_Ch_codeAt l (by omega) h1_4 (by omega) h2_5 (by rw [nI_toInt (by have := hT.2.1; omega)]; have := hT.2.1; omega)) kw_341 kw_342 kw_343 kw_2 kw_344 (by decide +kernel) ⟨rfl, rfl⟩ ⟨Nat.le_of_ble_eq_true rfl, Nat.le_of_ble_eq_true rfl⟩ rfl hl.1 (Nat.le_of_ble_eq_true rfl) d_Rd_peek_8 ⟨Nat.le_of_ble_eq_true rfl, Nat.le_of_ble_eq_true rfl⟩ (fun r12 mem13 H locs hq hP hS => ?_)
  have hD : va_D (Az sz) (fw n ad mem13) := fw_D hD
  exact W.iret (v := r12) hx hb hr (fun t ht hW => ⟨⟨r12, mem13, rfl, hq.2, by show va_P _ _ _ t.heap; rw [ht]; exact hP⟩, hS.F ht⟩) hS.2.2 d_Rd_peek_11
set_option maxHeartbeats 4000000 in
set_option maxRecDepth 100000 in
theorem m_Rd_needReadable (l : Launch) {D : va_G} {cy : Nat → ClassId} {sz n : Nat} {ad : Nat → Nat} {mem : Nat → va_E} {Z : Nat} {f : Nat → Int32} {rc ec : Nat} {m0 : Nat → va_E} {g k : Int32} (hlt : l.stackTraces = false) (hn : 224 ≤ n) (hT : TX cy ad Z f m0) (hRS : RS cy ad rc ec m0 mem) : NXv l D cy sz n ad y_Rd_needReadable c_Rd_needReadable 3 ({ frames := 6, cells := 1, slots := 6, locals := 90 } : Room) mem [.ref (ad 222), .int (g), .int (k)] (fun mem' => RS cy ad rc ec m0 mem' ∧ mem' = mem ∧ g ≠ 0) (fun X mem' => (X = cIA ∨ X = cIS) ∧ ∃ rc' ec' : Nat, RS cy ad rc' ec' m0 mem') := by
  refine vx_ofW (cc := c_Rd_needReadable) (maxL := 3) (ret := none) (by decide) rfl ?_
  intro p e s m args below meth c s₁ B hml hno hv
  obtain ⟨rfl, E, hP, hD⟩ := hv
  have hx := B.exec
  have hb := B.bytes
  have hr := B.returns
  have hlocks := B.notSynchronized
  have Bx : MB p s m [.ref (ad 222), .int (g), .int (k)].toArray c c_Rd_needReadable "AbnfChart$Reader" D cy := ⟨hx, hb, tb_all (atoms_spec B.pre) E.2.1, findClass_of_methodNamed B.named, E.1⟩
  have hS : va_S (Az sz) s.heap s.heap [] := va_S.rf
  have hl := lv_entry ([.ref (ad 222), .int (g), .int (k)]) (n := 3) (Nat.le_of_ble_eq_true rfl)
  rw [lg_entry_eq]
  generalize (lg_sl ([.ref (ad 222), .int (g), .int (k)]) ++ List.replicate (3 - (lg_sl ([.ref (ad 222), .int (g), .int (k)])).length) Slot.unset).toArray = ls at hl ⊢
  have hl : lv_has ls 3 [(0, .ref (ad 222)), (1, .int (g)), (2, .int (k))] := hl
  obtain ⟨at1, ft2, h9_3⟩ := hRS.2.1
  have h1_4 : mem 1 = .inr (0, [.ref (ad 2), .int (nI Z)]) := (hRS.2.2 1 (by omega)).trans hT.1
  have h2_5 : mem 2 = .inl (cy 0, 240, .inl f) := (hRS.2.2 2 (by omega)).trans hT.2.2
  have h5_6 := hRS.1.2.1
  obtain ⟨S7, g8, hS_9, h220_10, h221_11⟩ := hRS.1.2.2.2.2.2.2
  refine lv_iload_n Bx.1 Bx.2.1 d_Rd_needReadable_0 rfl (lv_at hl 1 rfl) ?_
  refine lv_if_ne Bx.1 Bx.2.1 d_Rd_needReadable_1 rfl (fun h => ?_) (fun h => ?_)
  · exact x_vret hx hb hlocks hr (⟨hRS, rfl, h⟩) hP hS d_Rd_needReadable_17
  · refine lv_aload_n Bx.1 Bx.2.1 d_Rd_needReadable_4 rfl (lv_at hl 0 rfl) ?_
    refine lv_iload_n Bx.1 Bx.2.1 d_Rd_needReadable_5 rfl (lv_at hl 2 rfl) ?_
    refine f_put Bx hP hD hS (by omega) h9_3 rfl inRd tyRd okRd nmRd 3 (by decide) kw_147 rfl rfl rfl rfl (Nat.le_of_ble_eq_true rfl) d_Rd_needReadable_6 (fun H locs hP hS => ?_)
    obtain ⟨mem12, e_mem12⟩ : ∃ z, z = va_up mem (222) (.inr (4, [.ref (ad 1), .ref (ad 5), .int (at1), .int (k)])) := ⟨_, rfl⟩
    have hP : va_P D vcl (fw n ad mem12) H := by rw [e_mem12]; exact hP
    have hD : va_D (Az sz) (fw n ad mem12) := fw_D hD
    have h_mem12 : mem12 (222) = .inr (4, [.ref (ad 1), .ref (ad 5), .int (at1), .int (k)]) := by rw [e_mem12, va_up_self]
    have hh13 := (va_up_ne mem (.inr (4, [.ref (ad 1), .ref (ad 5), .int (at1), .int (k)])) (show (1 : Nat) ≠ 222 by first | decide | assumption | omega)).trans h1_4
    rw [← e_mem12] at hh13
    have hh14 := (va_up_ne mem (.inr (4, [.ref (ad 1), .ref (ad 5), .int (at1), .int (k)])) (show (5 : Nat) ≠ 222 by first | decide | assumption | omega)).trans h5_6
    rw [← e_mem12] at hh14
    have hh15 := (va_up_ne mem (.inr (4, [.ref (ad 1), .ref (ad 5), .int (at1), .int (k)])) (show (220 : Nat) ≠ 222 by first | decide | assumption | omega)).trans h220_10
    rw [← e_mem12] at hh15
    have hRS16 : RS cy ad rc ec m0 mem12 := by rw [e_mem12]; exact hRS.at222
    exact f_throw (rest := []) hlt Bx hml hlocks hno E hP hS (by decide +kernel) kw_364 kw_12 at_Rd_IA hl.1 d_Rd_needReadable_9 d_Rd_needReadable_12 d_Rd_needReadable_13 d_Rd_needReadable_16 ⟨Nat.le_of_ble_eq_true rfl, Nat.le_of_ble_eq_true rfl, Nat.le_of_ble_eq_true rfl, Nat.le_of_ble_eq_true rfl⟩ ⟨Nat.le_of_ble_eq_true rfl, Nat.le_of_ble_eq_true rfl⟩ ⟨Or.inl rfl, _, _, hRS16⟩
set_option maxHeartbeats 4000000 in
set_option maxRecDepth 100000 in
theorem m_Rd_needRoom (l : Launch) {D : va_G} {cy : Nat → ClassId} {sz n : Nat} {ad : Nat → Nat} {mem : Nat → va_E} {Z : Nat} {f : Nat → Int32} {rc ec : Nat} {m0 : Nat → va_E} {g k : Int32} (hlt : l.stackTraces = false) (hn : 224 ≤ n) (hT : TX cy ad Z f m0) (hRS : RS cy ad rc ec m0 mem) : NXv l D cy sz n ad y_Rd_needRoom c_Rd_needRoom 3 ({ frames := 6, cells := 1, slots := 6, locals := 90 } : Room) mem [.ref (ad 222), .int (g), .int (k)] (fun mem' => RS cy ad rc ec m0 mem' ∧ mem' = mem ∧ g ≠ 0) (fun X mem' => (X = cIA ∨ X = cIS) ∧ ∃ rc' ec' : Nat, RS cy ad rc' ec' m0 mem') := by
  refine vx_ofW (cc := c_Rd_needRoom) (maxL := 3) (ret := none) (by decide) rfl ?_
  intro p e s m args below meth c s₁ B hml hno hv
  obtain ⟨rfl, E, hP, hD⟩ := hv
  have hx := B.exec
  have hb := B.bytes
  have hr := B.returns
  have hlocks := B.notSynchronized
  have Bx : MB p s m [.ref (ad 222), .int (g), .int (k)].toArray c c_Rd_needRoom "AbnfChart$Reader" D cy := ⟨hx, hb, tb_all (atoms_spec B.pre) E.2.1, findClass_of_methodNamed B.named, E.1⟩
  have hS : va_S (Az sz) s.heap s.heap [] := va_S.rf
  have hl := lv_entry ([.ref (ad 222), .int (g), .int (k)]) (n := 3) (Nat.le_of_ble_eq_true rfl)
  rw [lg_entry_eq]
  generalize (lg_sl ([.ref (ad 222), .int (g), .int (k)]) ++ List.replicate (3 - (lg_sl ([.ref (ad 222), .int (g), .int (k)])).length) Slot.unset).toArray = ls at hl ⊢
  have hl : lv_has ls 3 [(0, .ref (ad 222)), (1, .int (g)), (2, .int (k))] := hl
  obtain ⟨at1, ft2, h9_3⟩ := hRS.2.1
  have h1_4 : mem 1 = .inr (0, [.ref (ad 2), .int (nI Z)]) := (hRS.2.2 1 (by omega)).trans hT.1
  have h2_5 : mem 2 = .inl (cy 0, 240, .inl f) := (hRS.2.2 2 (by omega)).trans hT.2.2
  have h5_6 := hRS.1.2.1
  obtain ⟨S7, g8, hS_9, h220_10, h221_11⟩ := hRS.1.2.2.2.2.2.2
  refine lv_iload_n Bx.1 Bx.2.1 d_Rd_needRoom_0 rfl (lv_at hl 1 rfl) ?_
  refine lv_if_ne Bx.1 Bx.2.1 d_Rd_needRoom_1 rfl (fun h => ?_) (fun h => ?_)
  · exact x_vret hx hb hlocks hr (⟨hRS, rfl, h⟩) hP hS d_Rd_needRoom_17
  · refine lv_aload_n Bx.1 Bx.2.1 d_Rd_needRoom_4 rfl (lv_at hl 0 rfl) ?_
    refine lv_iload_n Bx.1 Bx.2.1 d_Rd_needRoom_5 rfl (lv_at hl 2 rfl) ?_
    refine f_put Bx hP hD hS (by omega) h9_3 rfl inRd tyRd okRd nmRd 3 (by decide) kw_147 rfl rfl rfl rfl (Nat.le_of_ble_eq_true rfl) d_Rd_needRoom_6 (fun H locs hP hS => ?_)
    obtain ⟨mem12, e_mem12⟩ : ∃ z, z = va_up mem (222) (.inr (4, [.ref (ad 1), .ref (ad 5), .int (at1), .int (k)])) := ⟨_, rfl⟩
    have hP : va_P D vcl (fw n ad mem12) H := by rw [e_mem12]; exact hP
    have hD : va_D (Az sz) (fw n ad mem12) := fw_D hD
    have h_mem12 : mem12 (222) = .inr (4, [.ref (ad 1), .ref (ad 5), .int (at1), .int (k)]) := by rw [e_mem12, va_up_self]
    have hh13 := (va_up_ne mem (.inr (4, [.ref (ad 1), .ref (ad 5), .int (at1), .int (k)])) (show (1 : Nat) ≠ 222 by first | decide | assumption | omega)).trans h1_4
    rw [← e_mem12] at hh13
    have hh14 := (va_up_ne mem (.inr (4, [.ref (ad 1), .ref (ad 5), .int (at1), .int (k)])) (show (5 : Nat) ≠ 222 by first | decide | assumption | omega)).trans h5_6
    rw [← e_mem12] at hh14
    have hh15 := (va_up_ne mem (.inr (4, [.ref (ad 1), .ref (ad 5), .int (at1), .int (k)])) (show (220 : Nat) ≠ 222 by first | decide | assumption | omega)).trans h220_10
    rw [← e_mem12] at hh15
    have hRS16 : RS cy ad rc ec m0 mem12 := by rw [e_mem12]; exact hRS.at222
    exact f_throw (rest := []) hlt Bx hml hlocks hno E hP hS (by decide +kernel) kw_387 kw_13 at_Rd_IS hl.1 d_Rd_needRoom_9 d_Rd_needRoom_12 d_Rd_needRoom_13 d_Rd_needRoom_16 ⟨Nat.le_of_ble_eq_true rfl, Nat.le_of_ble_eq_true rfl, Nat.le_of_ble_eq_true rfl, Nat.le_of_ble_eq_true rfl⟩ ⟨Nat.le_of_ble_eq_true rfl, Nat.le_of_ble_eq_true rfl⟩ ⟨Or.inr rfl, _, _, hRS16⟩
set_option maxHeartbeats 4000000 in
set_option maxRecDepth 100000 in
theorem m_Rd_readDigit (l : Launch) {D : va_G} {cy : Nat → ClassId} {sz n : Nat} {ad : Nat → Nat} {mem : Nat → va_E} {Z : Nat} {f : Nat → Int32} {rc ec : Nat} {m0 : Nat → va_E} (hn : 224 ≤ n) (hT : TX cy ad Z f m0) (hRS : RS cy ad rc ec m0 mem) : MI l D cy sz n ad y_Rd_readDigit c_Rd_readDigit 2 (some .int) ({ frames := 2, cells := 0, slots := 0, locals := 60 } : Room) mem [.ref (ad 222)] (fun r mem' => RS cy ad rc ec m0 mem') := by
  refine Met.ofW (cc := c_Rd_readDigit) (maxL := 2) (ret := (some .int)) (by decide) rfl ?_
  intro p e s m args below meth c s₁ B hml hv
  obtain ⟨rfl, E, hP, hD⟩ := hv
  have hx := B.exec
  have hb := B.bytes
  have hr := B.returns
  have hlocks := B.notSynchronized
  have Bx : MB p s m [.ref (ad 222)].toArray c c_Rd_readDigit "AbnfChart$Reader" D cy := ⟨hx, hb, tb_all (atoms_spec B.pre) E.2.1, findClass_of_methodNamed B.named, E.1⟩
  have hS : va_S (Az sz) s.heap s.heap [] := va_S.rf
  have hl := lv_entry ([.ref (ad 222)]) (n := 2) (Nat.le_of_ble_eq_true rfl)
  rw [lg_entry_eq]
  generalize (lg_sl ([.ref (ad 222)]) ++ List.replicate (2 - (lg_sl ([.ref (ad 222)])).length) Slot.unset).toArray = ls at hl ⊢
  have hl : lv_has ls 2 [(0, .ref (ad 222))] := hl
  obtain ⟨at1, ft2, h9_3⟩ := hRS.2.1
  have h1_4 : mem 1 = .inr (0, [.ref (ad 2), .int (nI Z)]) := (hRS.2.2 1 (by omega)).trans hT.1
  have h2_5 : mem 2 = .inl (cy 0, 240, .inl f) := (hRS.2.2 2 (by omega)).trans hT.2.2
  have h5_6 := hRS.1.2.1
  obtain ⟨S7, g8, hS_9, h220_10, h221_11⟩ := hRS.1.2.2.2.2.2.2
  refine lv_aload_n Bx.1 Bx.2.1 d_Rd_readDigit_0 rfl (lv_at hl 0 rfl) ?_
  refine f_callVi (na := 0) (As := []) (rest := []) Bx hml E hP hD hS (by omega) h9_3 rfl (m_Rd_peek l hn hT hRS) kw_353 kw_355 sel_Rd_peek kw_6 kw_356 (by decide +kernel) ⟨rfl, rfl⟩ ⟨Nat.le_of_ble_eq_true rfl, Nat.le_of_ble_eq_true rfl⟩ rfl hl.1 (Nat.le_of_ble_eq_true rfl) d_Rd_readDigit_1 ⟨Nat.le_of_ble_eq_true rfl, Nat.le_of_ble_eq_true rfl⟩ (fun r12 mem13 H locs hq hP hS => ?_)
  have hD : va_D (Az sz) (fw n ad mem13) := fw_D hD
  rw [hq] at hP hD
  refine f_callSNi (na := 1) (As := [.int (r12)]) (rest := []) Bx hml E.2.1 (m_Ab_isDigit l (r12)) kw_369 kw_370 kw_1 kw_371 (by decide +kernel) ⟨rfl, rfl⟩ ⟨Nat.le_of_ble_eq_true rfl, Nat.le_of_ble_eq_true rfl⟩ rfl hl.1 (Nat.le_of_ble_eq_true rfl) d_Rd_readDigit_4 ⟨Nat.le_of_ble_eq_true rfl, Nat.le_of_ble_eq_true rfl⟩ (fun r15 hs14 => ?_)
  refine lv_if_ne Bx.1 Bx.2.1 d_Rd_readDigit_7 rfl (fun h => ?_) (fun h => ?_)
  · refine lv_aload_n Bx.1 Bx.2.1 d_Rd_readDigit_12 rfl (lv_at hl 0 rfl) ?_
    refine f_callVi (na := 0) (As := []) (rest := []) Bx hml E hP hD hS (by omega) h9_3 rfl (m_Rd_peek l hn hT hRS) kw_353 kw_355 sel_Rd_peek kw_6 kw_356 (by decide +kernel) ⟨rfl, rfl⟩ ⟨Nat.le_of_ble_eq_true rfl, Nat.le_of_ble_eq_true rfl⟩ rfl hl.1 (Nat.le_of_ble_eq_true rfl) d_Rd_readDigit_13 ⟨Nat.le_of_ble_eq_true rfl, Nat.le_of_ble_eq_true rfl⟩ (fun r16 mem17 H locs hq hP hS => ?_)
    have hD : va_D (Az sz) (fw n ad mem17) := fw_D hD
    rw [hq] at hP hD
    refine lv_bipush (v := 48) Bx.1 Bx.2.1 d_Rd_readDigit_16 (by decide) ?_
    refine lv_isub Bx.1 Bx.2.1 d_Rd_readDigit_18 ?_
    refine lv_istore_n (lv' := [(1, .int (r16 - 48)), (0, .ref (ad 222))]) Bx.1 Bx.2.1 d_Rd_readDigit_19 rfl hl (by decide) rfl (fun ls hl => ?_)
    refine lv_aload_n Bx.1 Bx.2.1 d_Rd_readDigit_20 rfl (lv_at hl 1 rfl) ?_
    refine lv_dup Bx.1 Bx.2.1 d_Rd_readDigit_21 rfl ?_
    refine f_get Bx hP (by omega) h9_3 rfl inRd 2 (by decide) kw_146 rfl rfl d_Rd_readDigit_22 ?_
    refine lv_iconst (v := 1) Bx.1 Bx.2.1 d_Rd_readDigit_25 (by decide) ?_
    refine lv_iadd Bx.1 Bx.2.1 d_Rd_readDigit_26 ?_
    refine f_put Bx hP hD hS (by omega) h9_3 rfl inRd tyRd okRd nmRd 2 (by decide) kw_146 rfl rfl rfl rfl (Nat.le_of_ble_eq_true rfl) d_Rd_readDigit_27 (fun H locs hP hS => ?_)
    obtain ⟨mem18, e_mem18⟩ : ∃ z, z = va_up mem (222) (.inr (4, [.ref (ad 1), .ref (ad 5), .int (at1 + 1), .int (ft2)])) := ⟨_, rfl⟩
    have hP : va_P D vcl (fw n ad mem18) H := by rw [e_mem18]; exact hP
    have hD : va_D (Az sz) (fw n ad mem18) := fw_D hD
    have h_mem18 : mem18 (222) = .inr (4, [.ref (ad 1), .ref (ad 5), .int (at1 + 1), .int (ft2)]) := by rw [e_mem18, va_up_self]
    have hh19 := (va_up_ne mem (.inr (4, [.ref (ad 1), .ref (ad 5), .int (at1 + 1), .int (ft2)])) (show (1 : Nat) ≠ 222 by first | decide | assumption | omega)).trans h1_4
    rw [← e_mem18] at hh19
    have hh20 := (va_up_ne mem (.inr (4, [.ref (ad 1), .ref (ad 5), .int (at1 + 1), .int (ft2)])) (show (5 : Nat) ≠ 222 by first | decide | assumption | omega)).trans h5_6
    rw [← e_mem18] at hh20
    have hh21 := (va_up_ne mem (.inr (4, [.ref (ad 1), .ref (ad 5), .int (at1 + 1), .int (ft2)])) (show (220 : Nat) ≠ 222 by first | decide | assumption | omega)).trans h220_10
    rw [← e_mem18] at hh21
    have hRS22 : RS cy ad rc ec m0 mem18 := by rw [e_mem18]; exact hRS.at222
    refine lv_iload_n Bx.1 Bx.2.1 d_Rd_readDigit_30 rfl (lv_at hl 0 rfl) ?_
    exact W.iret (v := r16 - 48) hx hb hr (fun t ht hW => ⟨⟨r16 - 48, mem18, rfl, hRS22, by show va_P _ _ _ t.heap; rw [ht]; exact hP⟩, hS.F ht⟩) hS.2.2 d_Rd_readDigit_31
  · refine lv_iconst (v := -1) Bx.1 Bx.2.1 d_Rd_readDigit_10 (by decide) ?_
    exact W.iret (v := (-1)) hx hb hr (fun t ht hW => ⟨⟨(-1), mem, rfl, hRS, by show va_P _ _ _ t.heap; rw [ht]; exact hP⟩, hS.F ht⟩) hS.2.2 d_Rd_readDigit_11
end
