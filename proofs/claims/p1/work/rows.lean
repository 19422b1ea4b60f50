section
-- ===== PART A: goes FIRST, ahead of the names: the tables' words, and 'selects' of the private methods out of them =====
/-- a private method of a class that the tables say can be made, by its rows of tables_1 -/
def lw_okq (q : MethodName × Nat) : Prop := (q.1.cls ≠ "java/lang/invoke/MethodHandle" ∧ q.1.cls ≠ "java/lang/invoke/VarHandle") ∧ Cond.instantiable q.1.cls q.2 ∈ tables_1 ∧ Cond.privateMethod q.1 ∈ tables_1 ∧ Cond.instanceMethod q.1 ∈ tables_1
theorem lw_p0 : lw_okq (⟨"SegmentForms$Reader", "firstWrongOfUna", "(LSegmentForms$SignRow;)I"⟩, 4) := ⟨⟨by decide +kernel, by decide +kernel⟩, List.mem_of_getElem? (i := 103) (by decide +kernel), List.mem_of_getElem? (i := 264) (by decide +kernel), List.mem_of_getElem? (i := 265) (by decide +kernel)⟩
theorem lw_p1 : lw_okq (⟨"SegmentForms$Reader", "take", "(I)Z"⟩, 4) := ⟨⟨by decide +kernel, by decide +kernel⟩, List.mem_of_getElem? (i := 103) (by decide +kernel), List.mem_of_getElem? (i := 291) (by decide +kernel), List.mem_of_getElem? (i := 292) (by decide +kernel)⟩
theorem lw_p2 : lw_okq (⟨"SegmentForms$Reader", "takeOfTag", "(II)Z"⟩, 4) := ⟨⟨by decide +kernel, by decide +kernel⟩, List.mem_of_getElem? (i := 103) (by decide +kernel), List.mem_of_getElem? (i := 304) (by decide +kernel), List.mem_of_getElem? (i := 305) (by decide +kernel)⟩
theorem lw_p3 : lw_okq (⟨"SegmentForms$Reader", "takeBehindTag", "(I)Z"⟩, 4) := ⟨⟨by decide +kernel, by decide +kernel⟩, List.mem_of_getElem? (i := 103) (by decide +kernel), List.mem_of_getElem? (i := 321) (by decide +kernel), List.mem_of_getElem? (i := 322) (by decide +kernel)⟩
theorem lw_p4 : lw_okq (⟨"SegmentForms$Reader", "takeInComponent", "(I)Z"⟩, 4) := ⟨⟨by decide +kernel, by decide +kernel⟩, List.mem_of_getElem? (i := 103) (by decide +kernel), List.mem_of_getElem? (i := 345) (by decide +kernel), List.mem_of_getElem? (i := 346) (by decide +kernel)⟩
theorem lw_p5 : lw_okq (⟨"SegmentForms", "grammarOf", "(I)LSegmentForms$Grammar;"⟩, 8) := ⟨⟨by decide +kernel, by decide +kernel⟩, List.mem_of_getElem? (i := 22) (by decide +kernel), List.mem_of_getElem? (i := 390) (by decide +kernel), List.mem_of_getElem? (i := 391) (by decide +kernel)⟩
theorem lw_p6 : lw_okq (⟨"java/lang/Throwable", "fillInStackTrace", "(I)Ljava/lang/Throwable;"⟩, 6) := ⟨⟨by decide +kernel, by decide +kernel⟩, List.mem_of_getElem? (i := 460) (by decide +kernel), List.mem_of_getElem? (i := 458) (by decide +kernel), List.mem_of_getElem? (i := 459) (by decide +kernel)⟩
theorem lw_p7 : lw_okq (⟨"SegmentForms", "needMessage", "()V"⟩, 8) := ⟨⟨by decide +kernel, by decide +kernel⟩, List.mem_of_getElem? (i := 22) (by decide +kernel), List.mem_of_getElem? (i := 533) (by decide +kernel), List.mem_of_getElem? (i := 534) (by decide +kernel)⟩
theorem lw_p8 : lw_okq (⟨"SegmentForms$Check", "faultOfFrame", "()I"⟩, 8) := ⟨⟨by decide +kernel, by decide +kernel⟩, List.mem_of_getElem? (i := 145) (by decide +kernel), List.mem_of_getElem? (i := 581) (by decide +kernel), List.mem_of_getElem? (i := 582) (by decide +kernel)⟩
theorem lw_p9 : lw_okq (⟨"SegmentForms$Check", "faultBetween", "(LSegmentForms$Grammar;)I"⟩, 8) := ⟨⟨by decide +kernel, by decide +kernel⟩, List.mem_of_getElem? (i := 145) (by decide +kernel), List.mem_of_getElem? (i := 602) (by decide +kernel), List.mem_of_getElem? (i := 603) (by decide +kernel)⟩
theorem lw_p10 : lw_okq (⟨"SegmentForms$Check", "walkRows", "(LSegmentForms$Grammar;IIII)Z"⟩, 8) := ⟨⟨by decide +kernel, by decide +kernel⟩, List.mem_of_getElem? (i := 145) (by decide +kernel), List.mem_of_getElem? (i := 614) (by decide +kernel), List.mem_of_getElem? (i := 615) (by decide +kernel)⟩
theorem lw_p11 : lw_okq (⟨"SegmentForms$Check", "walkRow", "(LSegmentForms$Grammar;III)Z"⟩, 8) := ⟨⟨by decide +kernel, by decide +kernel⟩, List.mem_of_getElem? (i := 145) (by decide +kernel), List.mem_of_getElem? (i := 619) (by decide +kernel), List.mem_of_getElem? (i := 620) (by decide +kernel)⟩
theorem lw_p12 : lw_okq (⟨"SegmentForms$Check", "walkOver", "(III)V"⟩, 8) := ⟨⟨by decide +kernel, by decide +kernel⟩, List.mem_of_getElem? (i := 145) (by decide +kernel), List.mem_of_getElem? (i := 632) (by decide +kernel), List.mem_of_getElem? (i := 633) (by decide +kernel)⟩
theorem lw_p13 : lw_okq (⟨"SegmentForms", "needSegment", "(I)V"⟩, 8) := ⟨⟨by decide +kernel, by decide +kernel⟩, List.mem_of_getElem? (i := 22) (by decide +kernel), List.mem_of_getElem? (i := 648) (by decide +kernel), List.mem_of_getElem? (i := 649) (by decide +kernel)⟩
theorem lw_p14 : lw_okq (⟨"SegmentForms$Writer", "writeTag", "(I)V"⟩, 3) := ⟨⟨by decide +kernel, by decide +kernel⟩, List.mem_of_getElem? (i := 183) (by decide +kernel), List.mem_of_getElem? (i := 737) (by decide +kernel), List.mem_of_getElem? (i := 738) (by decide +kernel)⟩
theorem lw_p15 : lw_okq (⟨"SegmentForms$Writer", "keptElements", "(I)I"⟩, 3) := ⟨⟨by decide +kernel, by decide +kernel⟩, List.mem_of_getElem? (i := 183) (by decide +kernel), List.mem_of_getElem? (i := 745) (by decide +kernel), List.mem_of_getElem? (i := 746) (by decide +kernel)⟩
def lw_privs_1 : List (MethodName × Nat) := [(⟨"SegmentForms$Reader", "firstWrongOfUna", "(LSegmentForms$SignRow;)I"⟩, 4), (⟨"SegmentForms$Reader", "take", "(I)Z"⟩, 4), (⟨"SegmentForms$Reader", "takeOfTag", "(II)Z"⟩, 4), (⟨"SegmentForms$Reader", "takeBehindTag", "(I)Z"⟩, 4), (⟨"SegmentForms$Reader", "takeInComponent", "(I)Z"⟩, 4), (⟨"SegmentForms", "grammarOf", "(I)LSegmentForms$Grammar;"⟩, 8), (⟨"java/lang/Throwable", "fillInStackTrace", "(I)Ljava/lang/Throwable;"⟩, 6), (⟨"SegmentForms", "needMessage", "()V"⟩, 8), (⟨"SegmentForms$Check", "faultOfFrame", "()I"⟩, 8), (⟨"SegmentForms$Check", "faultBetween", "(LSegmentForms$Grammar;)I"⟩, 8), (⟨"SegmentForms$Check", "walkRows", "(LSegmentForms$Grammar;IIII)Z"⟩, 8), (⟨"SegmentForms$Check", "walkRow", "(LSegmentForms$Grammar;III)Z"⟩, 8), (⟨"SegmentForms$Check", "walkOver", "(III)V"⟩, 8), (⟨"SegmentForms", "needSegment", "(I)V"⟩, 8), (⟨"SegmentForms$Writer", "writeTag", "(I)V"⟩, 3), (⟨"SegmentForms$Writer", "keptElements", "(I)I"⟩, 3)]
theorem lw_r1 : ∀ q ∈ lw_privs_1, lw_okq q := List.forall_mem_cons.mpr ⟨lw_p0, List.forall_mem_cons.mpr ⟨lw_p1, List.forall_mem_cons.mpr ⟨lw_p2, List.forall_mem_cons.mpr ⟨lw_p3, List.forall_mem_cons.mpr ⟨lw_p4, List.forall_mem_cons.mpr ⟨lw_p5, List.forall_mem_cons.mpr ⟨lw_p6, List.forall_mem_cons.mpr ⟨lw_p7, List.forall_mem_cons.mpr ⟨lw_p8, List.forall_mem_cons.mpr ⟨lw_p9, List.forall_mem_cons.mpr ⟨lw_p10, List.forall_mem_cons.mpr ⟨lw_p11, List.forall_mem_cons.mpr ⟨lw_p12, List.forall_mem_cons.mpr ⟨lw_p13, List.forall_mem_cons.mpr ⟨lw_p14, List.forall_mem_cons.mpr ⟨lw_p15, fun _ h => absurd h List.not_mem_nil⟩⟩⟩⟩⟩⟩⟩⟩⟩⟩⟩⟩⟩⟩⟩⟩
theorem lw_p16 : lw_okq (⟨"SegmentForms$Writer", "keptRepeats", "(I)I"⟩, 3) := ⟨⟨by decide +kernel, by decide +kernel⟩, List.mem_of_getElem? (i := 183) (by decide +kernel), List.mem_of_getElem? (i := 751) (by decide +kernel), List.mem_of_getElem? (i := 752) (by decide +kernel)⟩
theorem lw_p17 : lw_okq (⟨"SegmentForms$Writer", "keptComponents", "(I)I"⟩, 3) := ⟨⟨by decide +kernel, by decide +kernel⟩, List.mem_of_getElem? (i := 183) (by decide +kernel), List.mem_of_getElem? (i := 757) (by decide +kernel), List.mem_of_getElem? (i := 758) (by decide +kernel)⟩
theorem lw_p18 : lw_okq (⟨"SegmentForms$Writer", "writeService", "(I)V"⟩, 3) := ⟨⟨by decide +kernel, by decide +kernel⟩, List.mem_of_getElem? (i := 183) (by decide +kernel), List.mem_of_getElem? (i := 764) (by decide +kernel), List.mem_of_getElem? (i := 765) (by decide +kernel)⟩
theorem lw_p19 : lw_okq (⟨"SegmentForms$Writer", "writeRepeats", "(I)V"⟩, 3) := ⟨⟨by decide +kernel, by decide +kernel⟩, List.mem_of_getElem? (i := 183) (by decide +kernel), List.mem_of_getElem? (i := 769) (by decide +kernel), List.mem_of_getElem? (i := 770) (by decide +kernel)⟩
theorem lw_p20 : lw_okq (⟨"SegmentForms$Writer", "writeComponents", "(I)V"⟩, 3) := ⟨⟨by decide +kernel, by decide +kernel⟩, List.mem_of_getElem? (i := 183) (by decide +kernel), List.mem_of_getElem? (i := 773) (by decide +kernel), List.mem_of_getElem? (i := 774) (by decide +kernel)⟩
theorem lw_p21 : lw_okq (⟨"SegmentForms$Writer", "writeLetters", "(I)V"⟩, 3) := ⟨⟨by decide +kernel, by decide +kernel⟩, List.mem_of_getElem? (i := 183) (by decide +kernel), List.mem_of_getElem? (i := 777) (by decide +kernel), List.mem_of_getElem? (i := 778) (by decide +kernel)⟩
theorem lw_p22 : lw_okq (⟨"SegmentFormsModel", "usual", "()V"⟩, 33) := ⟨⟨by decide +kernel, by decide +kernel⟩, List.mem_of_getElem? (i := 810) (by decide +kernel), List.mem_of_getElem? (i := 816) (by decide +kernel), List.mem_of_getElem? (i := 817) (by decide +kernel)⟩
theorem lw_p23 : lw_okq (⟨"SegmentFormsModel", "begins", "()Z"⟩, 33) := ⟨⟨by decide +kernel, by decide +kernel⟩, List.mem_of_getElem? (i := 810) (by decide +kernel), List.mem_of_getElem? (i := 932) (by decide +kernel), List.mem_of_getElem? (i := 933) (by decide +kernel)⟩
theorem lw_p24 : lw_okq (⟨"SegmentFormsModel", "readService", "()V"⟩, 33) := ⟨⟨by decide +kernel, by decide +kernel⟩, List.mem_of_getElem? (i := 810) (by decide +kernel), List.mem_of_getElem? (i := 936) (by decide +kernel), List.mem_of_getElem? (i := 937) (by decide +kernel)⟩
theorem lw_p25 : lw_okq (⟨"SegmentFormsModel", "look", "()I"⟩, 33) := ⟨⟨by decide +kernel, by decide +kernel⟩, List.mem_of_getElem? (i := 810) (by decide +kernel), List.mem_of_getElem? (i := 940) (by decide +kernel), List.mem_of_getElem? (i := 941) (by decide +kernel)⟩
theorem lw_p26 : lw_okq (⟨"SegmentFormsModel", "fail", "()V"⟩, 33) := ⟨⟨by decide +kernel, by decide +kernel⟩, List.mem_of_getElem? (i := 810) (by decide +kernel), List.mem_of_getElem? (i := 950) (by decide +kernel), List.mem_of_getElem? (i := 951) (by decide +kernel)⟩
theorem lw_p27 : lw_okq (⟨"SegmentFormsModel", "readSegment", "()V"⟩, 33) := ⟨⟨by decide +kernel, by decide +kernel⟩, List.mem_of_getElem? (i := 810) (by decide +kernel), List.mem_of_getElem? (i := 954) (by decide +kernel), List.mem_of_getElem? (i := 955) (by decide +kernel)⟩
theorem lw_p28 : lw_okq (⟨"SegmentFormsModel", "readTag", "()V"⟩, 33) := ⟨⟨by decide +kernel, by decide +kernel⟩, List.mem_of_getElem? (i := 810) (by decide +kernel), List.mem_of_getElem? (i := 958) (by decide +kernel), List.mem_of_getElem? (i := 959) (by decide +kernel)⟩
theorem lw_p29 : lw_okq (⟨"SegmentFormsModel", "readElement", "()V"⟩, 33) := ⟨⟨by decide +kernel, by decide +kernel⟩, List.mem_of_getElem? (i := 810) (by decide +kernel), List.mem_of_getElem? (i := 962) (by decide +kernel), List.mem_of_getElem? (i := 963) (by decide +kernel)⟩
theorem lw_p30 : lw_okq (⟨"SegmentFormsModel", "openRepeat", "()V"⟩, 33) := ⟨⟨by decide +kernel, by decide +kernel⟩, List.mem_of_getElem? (i := 810) (by decide +kernel), List.mem_of_getElem? (i := 966) (by decide +kernel), List.mem_of_getElem? (i := 967) (by decide +kernel)⟩
theorem lw_p31 : lw_okq (⟨"SegmentFormsModel", "openComponent", "()V"⟩, 33) := ⟨⟨by decide +kernel, by decide +kernel⟩, List.mem_of_getElem? (i := 810) (by decide +kernel), List.mem_of_getElem? (i := 970) (by decide +kernel), List.mem_of_getElem? (i := 971) (by decide +kernel)⟩
def lw_privs_2 : List (MethodName × Nat) := [(⟨"SegmentForms$Writer", "keptRepeats", "(I)I"⟩, 3), (⟨"SegmentForms$Writer", "keptComponents", "(I)I"⟩, 3), (⟨"SegmentForms$Writer", "writeService", "(I)V"⟩, 3), (⟨"SegmentForms$Writer", "writeRepeats", "(I)V"⟩, 3), (⟨"SegmentForms$Writer", "writeComponents", "(I)V"⟩, 3), (⟨"SegmentForms$Writer", "writeLetters", "(I)V"⟩, 3), (⟨"SegmentFormsModel", "usual", "()V"⟩, 33), (⟨"SegmentFormsModel", "begins", "()Z"⟩, 33), (⟨"SegmentFormsModel", "readService", "()V"⟩, 33), (⟨"SegmentFormsModel", "look", "()I"⟩, 33), (⟨"SegmentFormsModel", "fail", "()V"⟩, 33), (⟨"SegmentFormsModel", "readSegment", "()V"⟩, 33), (⟨"SegmentFormsModel", "readTag", "()V"⟩, 33), (⟨"SegmentFormsModel", "readElement", "()V"⟩, 33), (⟨"SegmentFormsModel", "openRepeat", "()V"⟩, 33), (⟨"SegmentFormsModel", "openComponent", "()V"⟩, 33)]
theorem lw_r2 : ∀ q ∈ lw_privs_2, lw_okq q := List.forall_mem_cons.mpr ⟨lw_p16, List.forall_mem_cons.mpr ⟨lw_p17, List.forall_mem_cons.mpr ⟨lw_p18, List.forall_mem_cons.mpr ⟨lw_p19, List.forall_mem_cons.mpr ⟨lw_p20, List.forall_mem_cons.mpr ⟨lw_p21, List.forall_mem_cons.mpr ⟨lw_p22, List.forall_mem_cons.mpr ⟨lw_p23, List.forall_mem_cons.mpr ⟨lw_p24, List.forall_mem_cons.mpr ⟨lw_p25, List.forall_mem_cons.mpr ⟨lw_p26, List.forall_mem_cons.mpr ⟨lw_p27, List.forall_mem_cons.mpr ⟨lw_p28, List.forall_mem_cons.mpr ⟨lw_p29, List.forall_mem_cons.mpr ⟨lw_p30, List.forall_mem_cons.mpr ⟨lw_p31, fun _ h => absurd h List.not_mem_nil⟩⟩⟩⟩⟩⟩⟩⟩⟩⟩⟩⟩⟩⟩⟩⟩
theorem lw_p32 : lw_okq (⟨"SegmentFormsModel", "take", "(I)V"⟩, 33) := ⟨⟨by decide +kernel, by decide +kernel⟩, List.mem_of_getElem? (i := 810) (by decide +kernel), List.mem_of_getElem? (i := 974) (by decide +kernel), List.mem_of_getElem? (i := 975) (by decide +kernel)⟩
theorem lw_p33 : lw_okq (⟨"SegmentFormsModel", "forget", "(I)V"⟩, 33) := ⟨⟨by decide +kernel, by decide +kernel⟩, List.mem_of_getElem? (i := 810) (by decide +kernel), List.mem_of_getElem? (i := 978) (by decide +kernel), List.mem_of_getElem? (i := 979) (by decide +kernel)⟩
theorem lw_p34 : lw_okq (⟨"SegmentFormsModel", "isSegment", "(I)Z"⟩, 33) := ⟨⟨by decide +kernel, by decide +kernel⟩, List.mem_of_getElem? (i := 810) (by decide +kernel), List.mem_of_getElem? (i := 986) (by decide +kernel), List.mem_of_getElem? (i := 987) (by decide +kernel)⟩
theorem lw_p35 : lw_okq (⟨"SegmentFormsModel", "elementsOf", "(I)I"⟩, 33) := ⟨⟨by decide +kernel, by decide +kernel⟩, List.mem_of_getElem? (i := 810) (by decide +kernel), List.mem_of_getElem? (i := 990) (by decide +kernel), List.mem_of_getElem? (i := 991) (by decide +kernel)⟩
theorem lw_p36 : lw_okq (⟨"SegmentFormsModel", "repeatsOf", "(II)I"⟩, 33) := ⟨⟨by decide +kernel, by decide +kernel⟩, List.mem_of_getElem? (i := 810) (by decide +kernel), List.mem_of_getElem? (i := 998) (by decide +kernel), List.mem_of_getElem? (i := 999) (by decide +kernel)⟩
theorem lw_p37 : lw_okq (⟨"SegmentFormsModel", "componentsOf", "(III)I"⟩, 33) := ⟨⟨by decide +kernel, by decide +kernel⟩, List.mem_of_getElem? (i := 810) (by decide +kernel), List.mem_of_getElem? (i := 1006) (by decide +kernel), List.mem_of_getElem? (i := 1007) (by decide +kernel)⟩
theorem lw_p38 : lw_okq (⟨"SegmentFormsModel", "componentAt", "(IIII)I"⟩, 33) := ⟨⟨by decide +kernel, by decide +kernel⟩, List.mem_of_getElem? (i := 810) (by decide +kernel), List.mem_of_getElem? (i := 1014) (by decide +kernel), List.mem_of_getElem? (i := 1015) (by decide +kernel)⟩
theorem lw_p39 : lw_okq (⟨"SegmentFormsModel", "longOf", "(I)I"⟩, 33) := ⟨⟨by decide +kernel, by decide +kernel⟩, List.mem_of_getElem? (i := 810) (by decide +kernel), List.mem_of_getElem? (i := 1018) (by decide +kernel), List.mem_of_getElem? (i := 1019) (by decide +kernel)⟩
theorem lw_p40 : lw_okq (⟨"SegmentFormsModel", "checked", "()I"⟩, 33) := ⟨⟨by decide +kernel, by decide +kernel⟩, List.mem_of_getElem? (i := 810) (by decide +kernel), List.mem_of_getElem? (i := 1037) (by decide +kernel), List.mem_of_getElem? (i := 1038) (by decide +kernel)⟩
theorem lw_p41 : lw_okq (⟨"SegmentFormsModel", "isCount", "(I)Z"⟩, 33) := ⟨⟨by decide +kernel, by decide +kernel⟩, List.mem_of_getElem? (i := 810) (by decide +kernel), List.mem_of_getElem? (i := 1043) (by decide +kernel), List.mem_of_getElem? (i := 1044) (by decide +kernel)⟩
theorem lw_p42 : lw_okq (⟨"SegmentFormsModel", "alike", "(II)Z"⟩, 33) := ⟨⟨by decide +kernel, by decide +kernel⟩, List.mem_of_getElem? (i := 810) (by decide +kernel), List.mem_of_getElem? (i := 1047) (by decide +kernel), List.mem_of_getElem? (i := 1048) (by decide +kernel)⟩
theorem lw_p43 : lw_okq (⟨"SegmentFormsModel", "kindOf", "()I"⟩, 33) := ⟨⟨by decide +kernel, by decide +kernel⟩, List.mem_of_getElem? (i := 810) (by decide +kernel), List.mem_of_getElem? (i := 1051) (by decide +kernel), List.mem_of_getElem? (i := 1052) (by decide +kernel)⟩
theorem lw_p44 : lw_okq (⟨"SegmentFormsModel", "unknown", "(I)I"⟩, 33) := ⟨⟨by decide +kernel, by decide +kernel⟩, List.mem_of_getElem? (i := 810) (by decide +kernel), List.mem_of_getElem? (i := 1055) (by decide +kernel), List.mem_of_getElem? (i := 1056) (by decide +kernel)⟩
theorem lw_p45 : lw_okq (⟨"SegmentFormsModel", "wrong", "(III)I"⟩, 33) := ⟨⟨by decide +kernel, by decide +kernel⟩, List.mem_of_getElem? (i := 810) (by decide +kernel), List.mem_of_getElem? (i := 1059) (by decide +kernel), List.mem_of_getElem? (i := 1060) (by decide +kernel)⟩
theorem lw_p46 : lw_okq (⟨"SegmentFormsModel", "walk", "(I)I"⟩, 33) := ⟨⟨by decide +kernel, by decide +kernel⟩, List.mem_of_getElem? (i := 810) (by decide +kernel), List.mem_of_getElem? (i := 1063) (by decide +kernel), List.mem_of_getElem? (i := 1064) (by decide +kernel)⟩
theorem lw_p47 : lw_okq (⟨"SegmentFormsModel", "nextRow", "(III)I"⟩, 33) := ⟨⟨by decide +kernel, by decide +kernel⟩, List.mem_of_getElem? (i := 810) (by decide +kernel), List.mem_of_getElem? (i := 1067) (by decide +kernel), List.mem_of_getElem? (i := 1068) (by decide +kernel)⟩
def lw_privs_3 : List (MethodName × Nat) := [(⟨"SegmentFormsModel", "take", "(I)V"⟩, 33), (⟨"SegmentFormsModel", "forget", "(I)V"⟩, 33), (⟨"SegmentFormsModel", "isSegment", "(I)Z"⟩, 33), (⟨"SegmentFormsModel", "elementsOf", "(I)I"⟩, 33), (⟨"SegmentFormsModel", "repeatsOf", "(II)I"⟩, 33), (⟨"SegmentFormsModel", "componentsOf", "(III)I"⟩, 33), (⟨"SegmentFormsModel", "componentAt", "(IIII)I"⟩, 33), (⟨"SegmentFormsModel", "longOf", "(I)I"⟩, 33), (⟨"SegmentFormsModel", "checked", "()I"⟩, 33), (⟨"SegmentFormsModel", "isCount", "(I)Z"⟩, 33), (⟨"SegmentFormsModel", "alike", "(II)Z"⟩, 33), (⟨"SegmentFormsModel", "kindOf", "()I"⟩, 33), (⟨"SegmentFormsModel", "unknown", "(I)I"⟩, 33), (⟨"SegmentFormsModel", "wrong", "(III)I"⟩, 33), (⟨"SegmentFormsModel", "walk", "(I)I"⟩, 33), (⟨"SegmentFormsModel", "nextRow", "(III)I"⟩, 33)]
theorem lw_r3 : ∀ q ∈ lw_privs_3, lw_okq q := List.forall_mem_cons.mpr ⟨lw_p32, List.forall_mem_cons.mpr ⟨lw_p33, List.forall_mem_cons.mpr ⟨lw_p34, List.forall_mem_cons.mpr ⟨lw_p35, List.forall_mem_cons.mpr ⟨lw_p36, List.forall_mem_cons.mpr ⟨lw_p37, List.forall_mem_cons.mpr ⟨lw_p38, List.forall_mem_cons.mpr ⟨lw_p39, List.forall_mem_cons.mpr ⟨lw_p40, List.forall_mem_cons.mpr ⟨lw_p41, List.forall_mem_cons.mpr ⟨lw_p42, List.forall_mem_cons.mpr ⟨lw_p43, List.forall_mem_cons.mpr ⟨lw_p44, List.forall_mem_cons.mpr ⟨lw_p45, List.forall_mem_cons.mpr ⟨lw_p46, List.forall_mem_cons.mpr ⟨lw_p47, fun _ h => absurd h List.not_mem_nil⟩⟩⟩⟩⟩⟩⟩⟩⟩⟩⟩⟩⟩⟩⟩⟩
theorem lw_p48 : lw_okq (⟨"SegmentFormsModel", "put", "(I)V"⟩, 33) := ⟨⟨by decide +kernel, by decide +kernel⟩, List.mem_of_getElem? (i := 810) (by decide +kernel), List.mem_of_getElem? (i := 1079) (by decide +kernel), List.mem_of_getElem? (i := 1080) (by decide +kernel)⟩
theorem lw_p49 : lw_okq (⟨"SegmentFormsModel", "fullElements", "(I)I"⟩, 33) := ⟨⟨by decide +kernel, by decide +kernel⟩, List.mem_of_getElem? (i := 810) (by decide +kernel), List.mem_of_getElem? (i := 1083) (by decide +kernel), List.mem_of_getElem? (i := 1084) (by decide +kernel)⟩
theorem lw_p50 : lw_okq (⟨"SegmentFormsModel", "fullRepeats", "(II)I"⟩, 33) := ⟨⟨by decide +kernel, by decide +kernel⟩, List.mem_of_getElem? (i := 810) (by decide +kernel), List.mem_of_getElem? (i := 1087) (by decide +kernel), List.mem_of_getElem? (i := 1088) (by decide +kernel)⟩
theorem lw_p51 : lw_okq (⟨"SegmentFormsModel", "fullComponents", "(III)I"⟩, 33) := ⟨⟨by decide +kernel, by decide +kernel⟩, List.mem_of_getElem? (i := 810) (by decide +kernel), List.mem_of_getElem? (i := 1091) (by decide +kernel), List.mem_of_getElem? (i := 1092) (by decide +kernel)⟩
theorem lw_p52 : lw_okq (⟨"SegmentFormsModel", "putRepeat", "(III)V"⟩, 33) := ⟨⟨by decide +kernel, by decide +kernel⟩, List.mem_of_getElem? (i := 810) (by decide +kernel), List.mem_of_getElem? (i := 1095) (by decide +kernel), List.mem_of_getElem? (i := 1096) (by decide +kernel)⟩
theorem lw_p53 : lw_okq (⟨"SegmentFormsModel", "isService", "(I)Z"⟩, 33) := ⟨⟨by decide +kernel, by decide +kernel⟩, List.mem_of_getElem? (i := 810) (by decide +kernel), List.mem_of_getElem? (i := 1099) (by decide +kernel), List.mem_of_getElem? (i := 1100) (by decide +kernel)⟩
def lw_privs_4 : List (MethodName × Nat) := [(⟨"SegmentFormsModel", "put", "(I)V"⟩, 33), (⟨"SegmentFormsModel", "fullElements", "(I)I"⟩, 33), (⟨"SegmentFormsModel", "fullRepeats", "(II)I"⟩, 33), (⟨"SegmentFormsModel", "fullComponents", "(III)I"⟩, 33), (⟨"SegmentFormsModel", "putRepeat", "(III)V"⟩, 33), (⟨"SegmentFormsModel", "isService", "(I)Z"⟩, 33)]
theorem lw_r4 : ∀ q ∈ lw_privs_4, lw_okq q := List.forall_mem_cons.mpr ⟨lw_p48, List.forall_mem_cons.mpr ⟨lw_p49, List.forall_mem_cons.mpr ⟨lw_p50, List.forall_mem_cons.mpr ⟨lw_p51, List.forall_mem_cons.mpr ⟨lw_p52, List.forall_mem_cons.mpr ⟨lw_p53, fun _ h => absurd h List.not_mem_nil⟩⟩⟩⟩⟩⟩
def lw_privs : List (MethodName × Nat) := lw_privs_1 ++ (lw_privs_2 ++ (lw_privs_3 ++ (lw_privs_4)))
def lw_tbl : List Cond := k2_sels lw_privs ++ tables_1
theorem lw_privs_ok : ∀ q ∈ lw_privs, lw_okq q := by
  show ∀ q ∈ lw_privs_1 ++ (lw_privs_2 ++ (lw_privs_3 ++ (lw_privs_4))), lw_okq q
  exact List.forall_mem_append.mpr ⟨lw_r1, List.forall_mem_append.mpr ⟨lw_r2, List.forall_mem_append.mpr ⟨lw_r3, lw_r4⟩⟩⟩
end
section
/-! ===== BEGIN words of one list among another's, by their places ===== -/
theorem goodIn_r {big : List Cond} (ws : List Cond) (ps : List Nat) (hp : ws = ps.filterMap (fun i => big[i]?)) (h : ws.all goodWord = true) : GoodIn big ws := by
  intro w hw
  have h1 := List.all_eq_true.mp h w hw
  rw [hp] at hw
  obtain ⟨i, -, hi⟩ := List.mem_filterMap.mp hw
  have hm : w ∈ big := by first | exact List.mem_of_getElem? hi | exact List.getElem?_mem hi
  exact ⟨hm, good_of_word h1⟩
theorem goodIn_app {big a b : List Cond} (ha : GoodIn big a) (hb : GoodIn big b) : GoodIn big (a ++ b) := fun w h => (List.mem_append.mp h).elim (ha w) (hb w)
theorem goodIn_ca {big a b : List Cond} {c : Cond} (ha : GoodIn big (c :: a)) (hb : GoodIn big b) : GoodIn big (c :: (a ++ b)) := fun w h => (List.mem_cons.mp h).elim (fun e => ha w (List.mem_cons.mpr (Or.inl e))) (fun h => (List.mem_append.mp h).elim (fun h => ha w (List.mem_cons.mpr (Or.inr h))) (hb w))
theorem goodIn_sub {big ws : List Cond} (hm : ∀ w ∈ ws, w ∈ big) (h : ws.all goodWord = true) : GoodIn big ws := fun w hw => ⟨hm w hw, good_of_word (List.all_eq_true.mp h w hw)⟩
/-! ===== END ===== -/

/-! ===== BEGIN exceptions that leave a method, and their catching by the caller (launches without stack traces) ===== -/
section VXA
/-! The laws vx_back, vx_callV, vx_callS, vx_callSW, vx_throw0, vx_throwS follow proofs of the library, with one case more: JvmDerived/Free/Laws.lean (Back.of_free), Shelf42/LK1.lean (callV, callS), Shelf/KitTraced.lean (throwNew0V, throwNewS). -/
/-- where a method has thrown q: the class by its name, the cell, what was written, the world -/
def vx_T (XC : String → State → State → Prop) (st : State) (q : Addr) (t : State) (mc ms : Nat) (free : Addr → Prop) : Prop :=
  ∃ (E : String) (ce : Cell) (L : List Loc), XC E st t ∧ t.heap[q]? = some ce ∧ ce.vm = .none ∧ st.vm.findClass E = some ce.cls ∧ st.WarmedH t.vm ∧ st.sameButNew ({ t with vm := st.vm } : State) L mc ms ∧ ∀ z ∈ L, free z.base
def vx_Q (Qc : Array Value → State → Outcome → State → Prop) (XC : String → State → State → Prop) (mc ms : Nat) (free : Addr → Prop) : Array Value → State → Outcome → State → Prop := fun a st o t =>
  (Qc a st o t ∧ ∃ L, FrameEnd st o t L mc ms ∧ ∀ q ∈ L, free q.base) ∨ ∃ q, o = .threw q ∧ vx_T XC st q t mc ms free
/-- a callee that returns or throws -/
def vx_Met (l : Launch) (y : MethodName) (ws : List Cond) (rm : Room) (Pc : Array Value → State → Prop) (Qc : Array Value → State → Outcome → State → Prop) (XC : String → State → State → Prop) (mc ms : Nat) (free : Addr → Prop) : Prop :=
  MetFree l y (headSpec ws rm) Pc (fun _ _ _ _ _ => True) (vx_Q Qc XC mc ms free)
def vx_Post (XC : String → State → State → Prop) (mc ms : Nat) (free : Addr → Prop) : Pt → Array Value → Addr → Pt → Prop := fun A a q B =>
  ∃ (g : JFrame) (mk : MethodId) (t : State) (L : List Loc) (E : String) (ce : Cell), B.U.heap = t.heap ∧ B.U.vm = t.vm ∧ XC E (A.U.calling g mk a) t ∧ t.heap[q]? = some ce ∧ ce.vm = .none ∧ A.U.vm.findClass E = some ce.cls ∧ B.locs = A.locs ++ L ∧ (∀ z ∈ L, free z.base) ∧ B.cells = A.cells + mc ∧ B.slots = A.slots + ms
def vx_Back (l : Launch) (R : Room) (p : Program) (e : Env) (below : List Frame) (s : State) (sargs : Array Value) (y : MethodName) (len W9 : Nat)
    (Pre : Pt → Array Value → Prop) (Post : Pt → Array Value → Option Value → Pt → Prop) (PostX : Pt → Array Value → Addr → Pt → Prop) : Prop :=
  ∀ (m : MethodId) (meth : Method) (c : Code) (A : Pt) (g : JFrame) (ig : Instr) (mk : MethodId) (a : Array Value),
    Stand p l e R s m sargs below meth c A.U A.locs A.cells A.slots → g.method = m → g.locals.size = c.maxLocals → decode c.code g.pc = .ok (ig, len) →
    2 * g.monitorRoom + (g.stack.map fun v => v.category).sum ≤ W9 → A.U.methodNamed? y = some mk → Pre A a →
    (∃ (v : Option Value) (B : Pt), Stand p l e R s m sargs below meth c B.U B.locs B.cells B.slots ∧ Post A a v B ∧
      Steps p.tables e below (doInvoke e (A.U.setTop g) [] mk a).1 (B.U.setTop { g with pc := g.pc + len, stack := v.toList ++ g.stack })) ∨
    (∃ (q : Addr) (B : Pt), Stand p l e R s m sargs below meth c B.U B.locs B.cells B.slots ∧ PostX A a q B ∧
      Steps p.tables e below (doInvoke e (A.U.setTop g) [] mk a).1 ((B.U.setTop g).pushFrame (.throwing q)))
section Payer
variable {l : Launch} {R : Room} {p : Program} {e : Env} {below : List Frame} {s : State} {sargs : Array Value} {y : MethodName} {len W9 : Nat}
theorem vx_back {ws : List Cond} {rm : Room} {Pc : Array Value → State → Prop} {Qc : Array Value → State → Outcome → State → Prop} {XC : String → State → State → Prop} {mc ms : Nat} {free : Addr → Prop} {bytes : ByteArray} {maxL : Nat} {ret : Option FieldType}
    (hM : vx_Met l y ws rm Pc Qc XC mc ms free) (hblind : FrameBlind Pc) (hrc : rm.cells = mc) (hrs : rm.slots = ms)
    (hframes : rm.frames + 1 ≤ R.frames) (hlocals : W9 + (maxL + 11) + rm.locals ≤ R.locals)
    (hws : ∀ w ∈ ws, ∀ a' U, s.WarmedH U.vm → w.before a' U = true) (hcode : Cond.code y bytes maxL ret ∈ ws) (hinit : ∀ a' U, s.WarmedH U.vm → (Cond.initialized y.cls).before a' U = true) :
    vx_Back l R p e below s sargs y len W9 (PreOf R mc ms Pc) (PostOf Qc mc ms free) (vx_Post XC mc ms free) := by
  intro m meth c A g ig mk a X hg hsize hdg hW hn hp
  have h1 : (headSpec ws rm).pre.before a A.U = true := atoms_intro fun w hw => hws w hw _ _ X.warmed
  have h2 : (Cond.code y bytes maxL ret).before a A.U = true := hws _ hcode _ _ X.warmed
  have h3 : (Cond.initialized y.cls).before a A.U = true := hinit _ _ X.warmed
  have h4 : A.cells + (headSpec ws rm).room.cells ≤ R.cells := by rw [show (headSpec ws rm).room.cells = mc from hrc]; exact hp.1
  have h5 : A.slots + (headSpec ws rm).room.slots ≤ R.slots := by rw [show (headSpec ws rm).room.slots = ms from hrs]; exact hp.2.1
  have hPc : Pc a (A.U.calling g mk a) := hblind _ _ _ _ hp.2.2
  obtain ⟨U, Ls, c0, s0⟩ := A
  dsimp only [Pt.U, Pt.locs, Pt.cells, Pt.slots] at h1 h2 h3 h4 h5 X hn hPc ⊢
  obtain ⟨methY, cY, hmY, hcY, -, hlY, -, -, -, -⟩ := Cond.code_spec hn h2
  obtain ⟨kY, hkY, -⟩ := className_of_methodNamed hn
  have hinitY : kY.init = .initialized := Cond.initialized_spec (findClass_of_methodNamed hn) hkY h3
  have h : At U g.method c below := by rw [hg]; exact X.here
  have hlocals9 : W9 + (maxL + 11) + (headSpec ws rm).room.locals ≤ R.locals := hlocals
  have happ : (headSpec ws rm).appliesLoose y e.platform (U.calling g mk a) = true :=
    Spec.appliesLoose_calling (g := g) h hdg hn hkY hinitY
      (X.room_calling (g := g) (R' := (headSpec ws rm).room) hsize hmY hcY hframes (by rw [hlY]; omega) h4 h5) h1
  obtain ⟨mid, hmid⟩ := h.above
  have hfr : (U.setTop g).frames = (.java g :: mid) ++ below := by rw [State.frames_setTop' g h.top, hmid]; rfl
  obtain ⟨o, s₂, hsteps, -, hend, hq⟩ := Steps.callFree hM p X.admits X.cas X.clock (acts := []) hfr happ hPc trivial
  have hq' : vx_Q Qc XC mc ms free a (U.calling g mk a) o s₂ := hq
  rw [State.frames_setTop' g h.top] at hend
  obtain ⟨g₀, hg0⟩ := Option.isSome_iff_exists.mp h.top
  obtain ⟨r, hr⟩ := State.topJava?_eq_some.mp hg0
  have hr' : (({ U with heap := s₂.heap, slotsUsed := s₂.slotsUsed } : State).setVm s₂.vm).frames = .java g₀ :: r := hr
  rcases hq' with ⟨hqc, L, hfe, hL⟩ | ⟨q, rfl, E, ce, L, hx, hce, hcv, hcl, hW₂, hsm, hL⟩
  · obtain ⟨⟨v, rfl⟩, hW₂, e2, q2, q3, q4, q5, q6⟩ := id hfe
    have e3 : s₂ = ({ (U.calling g mk a).setFrames s₂.frames with heap := s₂.heap, slotsUsed := s₂.slotsUsed } : State).setVm s₂.vm := by
      have : s₂ = ({ s₂ with vm := (U.calling g mk a).vm } : State).setVm s₂.vm := rfl
      rw [e2] at this
      exact this
    obtain ⟨c₂, i₂, len₂, hc₂, hd₂, hf₂⟩ := hend
    have hW' : U.WarmedH s₂.vm := hW₂
    have hcc : c₂ = c := by
      have h1 : s₂.code? g.method = U.code? g.method := by
        rw [State.code?_eq, State.code?_eq, hW'.alike.method?]
      exact Option.some.inj (hc₂.symm.trans (h1.trans h.code))
    subst hcc
    have hlen : len₂ = len := by rw [hdg] at hd₂; cases hd₂; rfl
    subst hlen
    have hs₂ : s₂ = (({ U with heap := s₂.heap, slotsUsed := s₂.slotsUsed } : State).setVm s₂.vm).setTop { g with pc := g.pc + len₂, stack := v.toList ++ g.stack } := by
      refine e3.trans ?_
      rw [hf₂, State.calling_eq h.top, State.setFrames_setFrames, State.setTop_of_frames _ hr', hr]
      rfl
    have hsame : U.sameButNew ({ U with heap := s₂.heap, slotsUsed := s₂.slotsUsed } : State) L mc ms := by
      refine ⟨?_, q2, q3, q4, q5, q6⟩
      obtain ⟨t, ht, -⟩ := State.frames_cons hr
      show ({ U with heap := s₂.heap, slotsUsed := s₂.slotsUsed } : State) = { U.setFrames U.frames with heap := s₂.heap, slotsUsed := s₂.slotsUsed }
      rw [State.setFrames_self ht]
    subst hg
    refine Or.inl ⟨v, ⟨(({ U with heap := s₂.heap, slotsUsed := s₂.slotsUsed } : State).setVm s₂.vm), Ls ++ L, c0 + mc, s0 + ms⟩,
      ⟨X.admits, X.cas, X.clock, X.frames, X.room, X.hears, X.method, X.code, (X.here.setHeapUsed s₂.heap s₂.slotsUsed).setVm hW'.alike, X.tail, State.WarmedH.trans X.warmed hW', X.limits, X.bytes, X.same.trans (hsame.setVm s.vm)⟩,
      ⟨g, mk, s₂, L, rfl, rfl, hqc, rfl, hL, rfl, rfl⟩, ?_⟩
    show Steps p.tables e below _ ((({ U with heap := s₂.heap, slotsUsed := s₂.slotsUsed } : State).setVm s₂.vm).setTop { g with pc := g.pc + len₂, stack := v.toList ++ g.stack })
    rw [← hs₂]
    exact hsteps
  · obtain ⟨e2, q2, q3, q4, q5, q6⟩ := id hsm
    have e3 : s₂ = ({ (U.calling g mk a).setFrames s₂.frames with heap := s₂.heap, slotsUsed := s₂.slotsUsed } : State).setVm s₂.vm := by
      have : s₂ = ({ s₂ with vm := (U.calling g mk a).vm } : State).setVm s₂.vm := rfl
      rw [e2] at this
      exact this
    have hf₂ : s₂.frames = .throwing q :: .java g :: U.frames.tail := hend
    have hW' : U.WarmedH s₂.vm := hW₂
    have hs₂ : s₂ = ((({ U with heap := s₂.heap, slotsUsed := s₂.slotsUsed } : State).setVm s₂.vm).setTop g).pushFrame (.throwing q) := by
      refine e3.trans ?_
      rw [hf₂, State.calling_eq h.top, State.setFrames_setFrames, State.pushFrame, State.frames_setTop _ hr', State.setTop_of_frames _ hr', State.setFrames_setFrames, hr]
      rfl
    have hsame : U.sameButNew ({ U with heap := s₂.heap, slotsUsed := s₂.slotsUsed } : State) L mc ms := by
      refine ⟨?_, q2, q3, q4, q5, q6⟩
      obtain ⟨t, ht, -⟩ := State.frames_cons hr
      show ({ U with heap := s₂.heap, slotsUsed := s₂.slotsUsed } : State) = { U.setFrames U.frames with heap := s₂.heap, slotsUsed := s₂.slotsUsed }
      rw [State.setFrames_self ht]
    subst hg
    refine Or.inr ⟨q, ⟨(({ U with heap := s₂.heap, slotsUsed := s₂.slotsUsed } : State).setVm s₂.vm), Ls ++ L, c0 + mc, s0 + ms⟩,
      ⟨X.admits, X.cas, X.clock, X.frames, X.room, X.hears, X.method, X.code, (X.here.setHeapUsed s₂.heap s₂.slotsUsed).setVm hW'.alike, X.tail, State.WarmedH.trans X.warmed hW', X.limits, X.bytes, X.same.trans (hsame.setVm s.vm)⟩,
      ⟨g, mk, s₂, L, E, ce, rfl, rfl, hx, hce, hcv, hcl, rfl, hL, rfl, rfl⟩, ?_⟩
    show Steps p.tables e below _ (((({ U with heap := s₂.heap, slotsUsed := s₂.slotsUsed } : State).setVm s₂.vm).setTop g).pushFrame (.throwing q))
    rw [← hs₂]
    exact hsteps
end Payer
section Calls
variable {p : Program} {l : Launch} {e : Env} {R : Room} {s : State} {m : MethodId} {args : Array Value} {below : List Frame} {meth : Method} {c : Code} {T : State} {locs : List Loc} {cells slots : Nat}
theorem vx_callV (X : Stand p l e R s m args below meth c T locs cells slots) (hexec : p.tables.exec = Jvm.exec) {own C : String} {index : Nat} {y : MethodName} {bytes : ByteArray} {maxL : Nat} {ret : Option FieldType}
    (hown : s.vm.findClass own = some m.cls) (hlink : (Cond.methodLink own index y).before args s = true) (hinst : (Cond.instanceMethod y).before args s = true) (hsel : (Cond.selects C y y).before args s = true)
    (hcode : (Cond.code y bytes maxL ret).before args s = true) (hy : y.cls ≠ "java/lang/invoke/MethodHandle" ∧ y.cls ≠ "java/lang/invoke/VarHandle")
    {W9 : Nat} {Pre : Pt → Array Value → Prop} {Post : Pt → Array Value → Option Value → Pt → Prop} {PostX : Pt → Array Value → Addr → Pt → Prop} (hK : vx_Back l R p e below s args y 3 W9 Pre Post PostX)
    {b : Addr} {cellB : Cell} (hcell : T.heap[b]? = some cellB) (hobj : cellB.vm.isStatics = false) (hcls : s.vm.findClass C = some cellB.cls)
    {g : JFrame} (hg : g.method = m) (hsize : g.locals.size = c.maxLocals) {argsL rest : List Value} (hlen : ∀ sig, parseMethodDescriptor y.desc = some sig → argsL.length = sig.parameters.length)
    (hstack : g.stack = argsL.reverse ++ .ref b :: rest) (hW : 2 * g.monitorRoom + (rest.map fun v => v.category).sum ≤ W9) (hdg : decode c.code g.pc = .ok (.invokevirtual index, 3))
    (hpre : ∀ vm₁, s.WarmedH vm₁ → Pre ⟨T.setVm vm₁, locs, cells, slots⟩ (Value.ref b :: argsL).toArray) :
    (∃ (v : Option Value) (vm₁ : Vm) (B : Pt), s.WarmedH vm₁ ∧ Stand p l e R s m args below meth c B.U B.locs B.cells B.slots ∧ Post ⟨T.setVm vm₁, locs, cells, slots⟩ (Value.ref b :: argsL).toArray v B ∧
      ∀ target, Steps p.tables e below (B.U.setTop { g with pc := g.pc + 3, stack := v.toList ++ rest }) target → Steps p.tables e below (T.setTop g) target) ∨
    (∃ (q : Addr) (vm₁ : Vm) (B : Pt), s.WarmedH vm₁ ∧ Stand p l e R s m args below meth c B.U B.locs B.cells B.slots ∧ PostX ⟨T.setVm vm₁, locs, cells, slots⟩ (Value.ref b :: argsL).toArray q B ∧
      Steps p.tables e below (T.setTop g) ((B.U.setTop { g with stack := rest }).pushFrame (.throwing q))) := by
  obtain ⟨mk, methM, hnamed, hmethM, hstM, habM⟩ := Cond.instanceMethod_spec hinst
  obtain ⟨methM', cM, hmethM', -, -, -, -, -, -, hsigM⟩ := Cond.code_spec hnamed hcode
  cases hmethM.symm.trans hmethM'
  obtain ⟨c2, r2, m2, q1, q2, q3, q4, kP, hkP, hkPi⟩ := Cond.selects_spec hsel
  cases hcls.symm.trans q1
  cases (State.methodFound?_of_named hnamed hy).symm.trans q2
  cases hnamed.symm.trans q3
  have hselP : selectMethod e.platform s.vm cellB.cls mk = .method mk := by rw [Launch.admits_selectMethod X.admits]; exact q4
  obtain ⟨vm₁, X₁, hstep₁⟩ := X.invokevirtual hexec hown hlink hnamed hmethM hstM hkP hkPi hy (a := b) (cell := cellB) hcell
    (fun z h => by rw [h] at hobj; cases hobj) hselP hmethM habM hkP hkPi (g := g) hg (argsL := argsL) (rest := rest) (hlen _ hsigM) hstack hdg
  rcases hK m meth c ⟨T.setVm vm₁, locs, cells, slots⟩ { g with stack := rest } (.invokevirtual index) mk (Value.ref b :: argsL).toArray X₁ hg hsize hdg hW (X₁.named hnamed) (hpre vm₁ X₁.warmed) with ⟨v, B, X', hpost, hsteps⟩ | ⟨q, B, X', hpost, hsteps⟩
  · exact Or.inl ⟨v, vm₁, B, X₁.warmed, X', hpost, fun target h => hstep₁ _ fun acts => by rw [doInvoke_state]; exact hsteps.trans h⟩
  · exact Or.inr ⟨q, vm₁, B, X₁.warmed, X', hpost, hstep₁ _ fun acts => by rw [doInvoke_state]; exact hsteps⟩
theorem vx_callS (X : Stand p l e R s m args below meth c T locs cells slots) (hexec : p.tables.exec = Jvm.exec) {own : String} {index : Nat} {y : MethodName} {bytes : ByteArray} {maxL : Nat} {ret : Option FieldType}
    (hown : s.vm.findClass own = some m.cls) (hlink : (Cond.methodLink own index y).before args s = true) (hstat : (Cond.static y).before args s = true) (hinit : (Cond.initialized y.cls).before args s = true)
    (hcode : (Cond.code y bytes maxL ret).before args s = true) (hy : y.cls ≠ "java/lang/invoke/MethodHandle" ∧ y.cls ≠ "java/lang/invoke/VarHandle")
    {W9 : Nat} {Pre : Pt → Array Value → Prop} {Post : Pt → Array Value → Option Value → Pt → Prop} {PostX : Pt → Array Value → Addr → Pt → Prop} (hK : vx_Back l R p e below s args y 3 W9 Pre Post PostX)
    {g : JFrame} (hg : g.method = m) (hsize : g.locals.size = c.maxLocals) {argsL rest : List Value} (hlen : ∀ sig, parseMethodDescriptor y.desc = some sig → argsL.length = sig.parameters.length)
    (hstack : g.stack = argsL.reverse ++ rest) (hW : 2 * g.monitorRoom + (rest.map fun v => v.category).sum ≤ W9) (hdg : decode c.code g.pc = .ok (.invokestatic index, 3))
    (hpre : ∀ vm₁, s.WarmedH vm₁ → Pre ⟨T.setVm vm₁, locs, cells, slots⟩ argsL.toArray) :
    (∃ (v : Option Value) (vm₁ : Vm) (B : Pt), s.WarmedH vm₁ ∧ Stand p l e R s m args below meth c B.U B.locs B.cells B.slots ∧ Post ⟨T.setVm vm₁, locs, cells, slots⟩ argsL.toArray v B ∧
      ∀ target, Steps p.tables e below (B.U.setTop { g with pc := g.pc + 3, stack := v.toList ++ rest }) target → Steps p.tables e below (T.setTop g) target) ∨
    (∃ (q : Addr) (vm₁ : Vm) (B : Pt), s.WarmedH vm₁ ∧ Stand p l e R s m args below meth c B.U B.locs B.cells B.slots ∧ PostX ⟨T.setVm vm₁, locs, cells, slots⟩ argsL.toArray q B ∧
      Steps p.tables e below (T.setTop g) ((B.U.setTop { g with stack := rest }).pushFrame (.throwing q))) := by
  obtain ⟨mk, hnamed⟩ := Cond.code_named hcode
  obtain ⟨methM, cM, hmethM, -, -, -, -, -, -, hsigM⟩ := Cond.code_spec hnamed hcode
  have hstatic : methM.isStatic = true := Cond.static_spec hnamed hmethM hstat
  obtain ⟨kP, hkP, -⟩ := className_of_methodNamed hnamed
  have hinitP : kP.init = .initialized := Cond.initialized_spec (findClass_of_methodNamed hnamed) hkP hinit
  obtain ⟨vm₁, X₁, hstep₁⟩ := X.invokestatic hexec hown hlink hnamed hmethM hstatic hkP hinitP hy (g := g) hg (argsL := argsL) (rest := rest) (hlen _ hsigM) hstack hdg
  rcases hK m meth c ⟨T.setVm vm₁, locs, cells, slots⟩ { g with stack := rest } (.invokestatic index) mk argsL.toArray X₁ hg hsize hdg hW (X₁.named hnamed) (hpre vm₁ X₁.warmed) with ⟨v, B, X', hpost, hsteps⟩ | ⟨q, B, X', hpost, hsteps⟩
  · exact Or.inl ⟨v, vm₁, B, X₁.warmed, X', hpost, fun target h => hstep₁ _ fun acts => by rw [doInvoke_state]; exact hsteps.trans h⟩
  · exact Or.inr ⟨q, vm₁, B, X₁.warmed, X', hpost, hstep₁ _ fun acts => by rw [doInvoke_state]; exact hsteps⟩
end Calls
theorem vx_cls {s : State} {T : State} {vm₁ : Vm} {E : String} {k : ClassId} (hW : s.WarmedH vm₁) (h : (T.setVm vm₁).vm.findClass E = some k) : s.vm.findClass E = some k := by
  have h1 : vm₁.findClass E = some k := h
  rw [hW.alike.findClass] at h1
  exact h1
/-- the method's frame g, with q thrown over it -/
def vx_W (p : Program) (l : Launch) (e : Env) (R : Room) (s : State) (m : MethodId) (args : Array Value) (below : List Frame) (meth : Method) (c : Code) (H : Heap) (locs : List Loc) (cells slots : Nat) (Q : State → Prop) (g : JFrame) (q : Addr) : Prop :=
  ∀ T : State, T.heap = H → Stand p l e R s m args below meth c T locs cells slots → ∃ t, Steps p.tables e below ((T.setTop g).pushFrame (.throwing q)) t ∧ Q t
def vx_Run (p : Program) (l : Launch) (e : Env) (R : Room) (s : State) (m : MethodId) (args : Array Value) (below : List Frame) (meth : Method) (c : Code) (H : Heap) (locs : List Loc) (cells slots mc ms : Nat) (g : JFrame) (rest : List Value) (Qa : State → Outcome → State → Prop) (XC : String → State → State → Prop) (free : Addr → Prop) : Prop :=
  ∀ T : State, T.heap = H → Stand p l e R s m args below meth c T locs cells slots →
    (∃ (v : Option Value) (st₀ t T' : State) (L : List Loc), st₀.heap = H ∧ Stand p l e R s m args below meth c T' (locs ++ L) (cells + mc) (slots + ms) ∧ (∀ q ∈ L, free q.base) ∧ T'.heap = t.heap ∧ T'.vm = t.vm ∧ Qa st₀ (.returned v) t ∧
      Goes p e below T g T' { g with pc := g.pc + 3, stack := v.toList ++ rest }) ∨
    (∃ (q : Addr) (st₀ t T' : State) (L : List Loc) (E : String) (ce : Cell), st₀.heap = H ∧ Stand p l e R s m args below meth c T' (locs ++ L) (cells + mc) (slots + ms) ∧ (∀ z ∈ L, free z.base) ∧ T'.heap = t.heap ∧ T'.vm = t.vm ∧ XC E st₀ t ∧ t.heap[q]? = some ce ∧ ce.vm = .none ∧ s.vm.findClass E = some ce.cls ∧
      Steps p.tables e below (T.setTop g) ((T'.setTop { g with stack := rest }).pushFrame (.throwing q)))
def vx_X {S : Type} (px : S → Prop) (B : String → S → State → Prop) (A : Nat → Prop) : String → State → State → Prop := fun E st t => ∃ u : S, px u ∧ B E u t ∧ va_F A st t
section Runs
variable {p : Program} {l : Launch} {e : Env} {R : Room} {s : State} {m : MethodId} {args : Array Value} {below : List Frame} {meth : Method} {c : Code} {H : Heap} {locs : List Loc} {cells slots : Nat}
variable {y : MethodName} {bytes cc : ByteArray} {maxL nL mc ms n index : Nat} {ret : Option FieldType} {ws : List Cond} {rm : Room} {Pc : Array Value → State → Prop} {Qc : Array Value → State → Outcome → State → Prop} {XC : String → State → State → Prop} {free : Addr → Prop} {Ts : List Cond} {own C : String} {b : Addr} {As rest : List Value} {g : JFrame}
theorem vx_callBack (cb : CallB R s args own index y bytes maxL ret ws rm mc ms n) (hM : vx_Met l y ws rm Pc Qc XC mc ms free) (hbl : FrameBlind Pc) : vx_Back l R p e below s args y 3 8 (PreOf R mc ms Pc) (PostOf Qc mc ms free) (vx_Post XC mc ms free) := by
  obtain ⟨hrc, hrs, hfr, hlo, hws, hcw, -, hini, -⟩ := cb
  exact vx_back (bytes := bytes) (maxL := maxL) (ret := ret) hM hbl hrc hrs hfr hlo hws hcw (fun a' U hW => word_at hW (Or.inl (by first | rfl | simp [Cond.onTables, Cond.keeps, Cond.steady])) hini)
theorem vx_runV (S : CallFix p m c cc nL s args Ts own) (hM : vx_Met l y ws rm Pc Qc XC mc ms free) (cw : CallW R s args own C index y bytes maxL ret ws rm mc ms n) (hp : PreV s H C b Pc As)
    (hg : g.method = m) (hn : As.length = n) (hsize : g.locals.size = nL) (hstack : g.stack = As.reverse ++ .ref b :: rest) (hW : 2 * g.monitorRoom + (rest.map fun v => v.category).sum ≤ 8) (hdg : decode cc g.pc = .ok (.invokevirtual index, 3)) (hf : cells + mc ≤ R.cells ∧ slots + ms ≤ R.slots) :
    vx_Run p l e R s m args below meth c H locs cells slots mc ms g rest (Qc (Value.ref b :: As).toArray) XC free := by
  have hK : vx_Back l R p e below s args y 3 8 (PreOf R mc ms Pc) (PostOf Qc mc ms free) (vx_Post XC mc ms free) := vx_callBack cw.1 hM hp.1
  obtain ⟨⟨-, -, -, -, -, -, hcode, -, hy, hlen, hl⟩, hin, hse⟩ := cw
  obtain ⟨hx, hb, hml, ho, -⟩ := S
  obtain ⟨-, ⟨cellB, hcB, hoB, hclB⟩, hPc⟩ := hp
  intro T hT X
  rcases vx_callV X hx (C := C) (bytes := bytes) (maxL := maxL) (ret := ret) ho hl hin hse hcode hy hK (by rw [hT]; exact hcB) hoB hclB hg (hsize.trans hml.symm) (argsL := As) (rest := rest) (fun sig h => hn.trans (hlen sig h)) hstack hW (by rw [hb]; exact hdg)
    (fun vm₁ hW₁ => ⟨hf.1, hf.2, hPc (T.setVm vm₁) hT hW₁⟩) with ⟨v, vm₁, ⟨U', l2, c2, s2⟩, hW₁, X', ⟨g', mk, t, L, e1, e2, hq, h1, hL, h2, h3⟩, st⟩ | ⟨q, vm₁, ⟨U', l2, c2, s2⟩, hW₁, X', ⟨g', mk, t, L, E, ce, e1, e2, hq, hce, hcv, hcl, h1, hL, h2, h3⟩, st⟩
  · dsimp only [Pt.U, Pt.locs, Pt.cells, Pt.slots] at X' e1 e2 h1 h2 h3 st
    subst h1; subst h2; subst h3
    exact Or.inl ⟨v, (T.setVm vm₁).calling g' mk (Value.ref b :: As).toArray, t, U', L, hT, X', hL, e1, e2, hq, st⟩
  · dsimp only [Pt.U, Pt.locs, Pt.cells, Pt.slots] at X' e1 e2 h1 h2 h3 st hcl
    subst h1; subst h2; subst h3
    exact Or.inr ⟨q, (T.setVm vm₁).calling g' mk (Value.ref b :: As).toArray, t, U', L, E, ce, hT, X', hL, e1, e2, hq, hce, hcv, vx_cls hW₁ hcl, st⟩
theorem vx_runS (S : CallFix p m c cc nL s args Ts own) (hM : vx_Met l y ws rm Pc Qc XC mc ms free) (cw : CallB R s args own index y bytes maxL ret ws rm mc ms n ∧ (Cond.static y).before args s = true) (hp : PreS s H Pc As)
    (hg : g.method = m) (hn : As.length = n) (hsize : g.locals.size = nL) (hstack : g.stack = As.reverse ++ rest) (hW : 2 * g.monitorRoom + (rest.map fun v => v.category).sum ≤ 8) (hdg : decode cc g.pc = .ok (.invokestatic index, 3)) (hf : cells + mc ≤ R.cells ∧ slots + ms ≤ R.slots) :
    vx_Run p l e R s m args below meth c H locs cells slots mc ms g rest (Qc As.toArray) XC free := by
  have hK : vx_Back l R p e below s args y 3 8 (PreOf R mc ms Pc) (PostOf Qc mc ms free) (vx_Post XC mc ms free) := vx_callBack cw.1 hM hp.1
  obtain ⟨⟨-, -, -, -, -, -, hcode, hini, hy, hlen, hl⟩, hstt⟩ := cw
  obtain ⟨hx, hb, hml, ho, -⟩ := S
  intro T hT X
  rcases vx_callS X hx (bytes := bytes) (maxL := maxL) (ret := ret) ho hl hstt hini hcode hy hK hg (hsize.trans hml.symm) (argsL := As) (rest := rest) (fun sig h => hn.trans (hlen sig h)) hstack hW (by rw [hb]; exact hdg)
    (fun vm₁ hW₁ => ⟨hf.1, hf.2, hp.2 (T.setVm vm₁) hT hW₁⟩) with ⟨v, vm₁, ⟨U', l2, c2, s2⟩, hW₁, X', ⟨g', mk, t, L, e1, e2, hq, h1, hL, h2, h3⟩, st⟩ | ⟨q, vm₁, ⟨U', l2, c2, s2⟩, hW₁, X', ⟨g', mk, t, L, E, ce, e1, e2, hq, hce, hcv, hcl, h1, hL, h2, h3⟩, st⟩
  · dsimp only [Pt.U, Pt.locs, Pt.cells, Pt.slots] at X' e1 e2 h1 h2 h3 st
    subst h1; subst h2; subst h3
    exact Or.inl ⟨v, (T.setVm vm₁).calling g' mk As.toArray, t, U', L, hT, X', hL, e1, e2, hq, st⟩
  · dsimp only [Pt.U, Pt.locs, Pt.cells, Pt.slots] at X' e1 e2 h1 h2 h3 st hcl
    subst h1; subst h2; subst h3
    exact Or.inr ⟨q, (T.setVm vm₁).calling g' mk As.toArray, t, U', L, E, ce, hT, X', hL, e1, e2, hq, hce, hcv, vx_cls hW₁ hcl, st⟩
end Runs
section Rows
variable {p : Program} {l : Launch} {e : Env} {R : Room} {s : State} {m : MethodId} {args : Array Value} {below : List Frame} {meth : Method} {c : Code} {H : Heap} {locs : List Loc} {cells slots : Nat} {Q : State → Prop}
variable {mc ms : Nat} {free : Addr → Prop} {A0 A1 : Nat → Prop} {H0 : Heap} {a : Array Value} {pc : Nat} {ls : Array Slot} {st0 rest : List Value}
theorem vx_keep {st₀ t T' : State} {L : List Loc} (h0 : st₀.heap = H) (e1 : T'.heap = t.heap) (hS : va_S A0 H0 H locs) (hA : ∀ q, q < H.size → A1 q → A0 q) (hf : ∀ q, free q → A0 q) (hL : ∀ q ∈ L, free q.base) (hF : va_F A1 st₀ t) :
    H.size ≤ T'.heap.size ∧ (∀ q : Nat, q < H.size → ¬ A1 q → T'.heap[q]? = H[q]?) ∧ va_S A0 H0 T'.heap (locs ++ L) := by
  obtain ⟨hz, hk⟩ := hF
  rw [h0] at hz hk
  exact ⟨by rw [e1]; exact hz, fun q h1 h2 => by rw [e1]; exact hk q h1 h2,
    ⟨Nat.le_trans hS.1 (by rw [e1]; exact hz), fun q h1 h2 => by rw [e1, hk q (Nat.lt_of_lt_of_le h1 hS.1) (fun z => h2 (hA q (Nat.lt_of_lt_of_le h1 hS.1) z))]; exact hS.2.1 q h1 h2, fun q hq => by
      rcases List.mem_append.mp hq with h | h
      · exact hS.2.2 q h
      · exact hf _ (hL q h)⟩⟩
theorem vx_calli {S SX : Type} {post : Int32 → S → Prop} {px : SX → Prop} {B : S → State → Prop} {BX : String → SX → State → Prop} {AX : Nat → Prop} (hr : vx_Run p l e R s m args below meth c H locs cells slots mc ms (F0 m pc ls st0) rest (va_Qi post B A1 a) (vx_X px BX AX) free) (hS : va_S A0 H0 H locs) (hA : ∀ q, q < H.size → A1 q → A0 q) (hf : ∀ q, free q → A0 q) (hAX : ∀ q, q < H.size → AX q → A0 q)
    (kx : ∀ (E : String) (ce : Cell) (q9 : Addr) (u : SX) (t : State) (H1 : Heap) (locs1 : List Loc), t.heap = H1 → s.vm.Alike t.vm → px u → BX E u t → H.size ≤ H1.size → (∀ q : Nat, q < H.size → ¬ AX q → H1[q]? = H[q]?) → va_S A0 H0 H1 locs1 → H1[q9]? = some ce → ce.vm = .none → s.vm.findClass E = some ce.cls → vx_W p l e R s m args below meth c H1 locs1 (cells + mc) (slots + ms) Q (F0 m pc ls rest) q9)
    (kk : ∀ (r : Int32) (u : S) (t : State) (H1 : Heap) (locs1 : List Loc), t.heap = H1 → s.vm.Alike t.vm → post r u → B u t → H.size ≤ H1.size → (∀ q : Nat, q < H.size → ¬ A1 q → H1[q]? = H[q]?) → va_S A0 H0 H1 locs1 → W p l e R s m args below meth c H1 locs1 (cells + mc) (slots + ms) Q (F0 m (pc + 3) ls (.int r :: rest))) : W p l e R s m args below meth c H locs cells slots Q (F0 m pc ls st0) := by
  intro T hT X
  rcases hr T hT X with ⟨v, st₀, t, T', L, h0, X', hL, e1, e2, ⟨⟨r, u, hv, hp, hb⟩, hF⟩, st⟩ | ⟨q, st₀, t, T', L, E, ce, h0, X', hL, e1, e2, ⟨u, hp, hb, hF⟩, hce, hcv, hcl, st⟩
  · cases hv
    obtain ⟨k1, k2, k3⟩ := vx_keep h0 e1 hS hA hf hL hF
    obtain ⟨t2, a1, b1⟩ := kk r u t T'.heap (locs ++ L) e1.symm (by rw [← e2]; exact X'.warmed.alike) hp hb k1 k2 k3 T' rfl X'
    exact ⟨t2, st t2 a1, b1⟩
  · obtain ⟨k1, k2, k3⟩ := vx_keep h0 e1 hS hAX hf hL hF
    obtain ⟨t2, a1, b1⟩ := kx E ce q u t T'.heap (locs ++ L) e1.symm (by rw [← e2]; exact X'.warmed.alike) hp hb k1 k2 k3 (by rw [e1]; exact hce) hcv hcl T' rfl X'
    exact ⟨t2, st.trans a1, b1⟩
theorem vx_calll {S SX : Type} {post : Int64 → S → Prop} {px : SX → Prop} {B : S → State → Prop} {BX : String → SX → State → Prop} {AX : Nat → Prop} (hr : vx_Run p l e R s m args below meth c H locs cells slots mc ms (F0 m pc ls st0) rest (va_Ql post B A1 a) (vx_X px BX AX) free) (hS : va_S A0 H0 H locs) (hA : ∀ q, q < H.size → A1 q → A0 q) (hf : ∀ q, free q → A0 q) (hAX : ∀ q, q < H.size → AX q → A0 q)
    (kx : ∀ (E : String) (ce : Cell) (q9 : Addr) (u : SX) (t : State) (H1 : Heap) (locs1 : List Loc), t.heap = H1 → s.vm.Alike t.vm → px u → BX E u t → H.size ≤ H1.size → (∀ q : Nat, q < H.size → ¬ AX q → H1[q]? = H[q]?) → va_S A0 H0 H1 locs1 → H1[q9]? = some ce → ce.vm = .none → s.vm.findClass E = some ce.cls → vx_W p l e R s m args below meth c H1 locs1 (cells + mc) (slots + ms) Q (F0 m pc ls rest) q9)
    (kk : ∀ (r : Int64) (u : S) (t : State) (H1 : Heap) (locs1 : List Loc), t.heap = H1 → s.vm.Alike t.vm → post r u → B u t → H.size ≤ H1.size → (∀ q : Nat, q < H.size → ¬ A1 q → H1[q]? = H[q]?) → va_S A0 H0 H1 locs1 → W p l e R s m args below meth c H1 locs1 (cells + mc) (slots + ms) Q (F0 m (pc + 3) ls (.long r :: rest))) : W p l e R s m args below meth c H locs cells slots Q (F0 m pc ls st0) := by
  intro T hT X
  rcases hr T hT X with ⟨v, st₀, t, T', L, h0, X', hL, e1, e2, ⟨⟨r, u, hv, hp, hb⟩, hF⟩, st⟩ | ⟨q, st₀, t, T', L, E, ce, h0, X', hL, e1, e2, ⟨u, hp, hb, hF⟩, hce, hcv, hcl, st⟩
  · cases hv
    obtain ⟨k1, k2, k3⟩ := vx_keep h0 e1 hS hA hf hL hF
    obtain ⟨t2, a1, b1⟩ := kk r u t T'.heap (locs ++ L) e1.symm (by rw [← e2]; exact X'.warmed.alike) hp hb k1 k2 k3 T' rfl X'
    exact ⟨t2, st t2 a1, b1⟩
  · obtain ⟨k1, k2, k3⟩ := vx_keep h0 e1 hS hAX hf hL hF
    obtain ⟨t2, a1, b1⟩ := kx E ce q u t T'.heap (locs ++ L) e1.symm (by rw [← e2]; exact X'.warmed.alike) hp hb k1 k2 k3 (by rw [e1]; exact hce) hcv hcl T' rfl X'
    exact ⟨t2, st.trans a1, b1⟩
theorem vx_callf {S SX : Type} {post : UInt32 → S → Prop} {px : SX → Prop} {B : S → State → Prop} {BX : String → SX → State → Prop} {AX : Nat → Prop} (hr : vx_Run p l e R s m args below meth c H locs cells slots mc ms (F0 m pc ls st0) rest (va_Qf post B A1 a) (vx_X px BX AX) free) (hS : va_S A0 H0 H locs) (hA : ∀ q, q < H.size → A1 q → A0 q) (hf : ∀ q, free q → A0 q) (hAX : ∀ q, q < H.size → AX q → A0 q)
    (kx : ∀ (E : String) (ce : Cell) (q9 : Addr) (u : SX) (t : State) (H1 : Heap) (locs1 : List Loc), t.heap = H1 → s.vm.Alike t.vm → px u → BX E u t → H.size ≤ H1.size → (∀ q : Nat, q < H.size → ¬ AX q → H1[q]? = H[q]?) → va_S A0 H0 H1 locs1 → H1[q9]? = some ce → ce.vm = .none → s.vm.findClass E = some ce.cls → vx_W p l e R s m args below meth c H1 locs1 (cells + mc) (slots + ms) Q (F0 m pc ls rest) q9)
    (kk : ∀ (r : UInt32) (u : S) (t : State) (H1 : Heap) (locs1 : List Loc), t.heap = H1 → s.vm.Alike t.vm → post r u → B u t → H.size ≤ H1.size → (∀ q : Nat, q < H.size → ¬ A1 q → H1[q]? = H[q]?) → va_S A0 H0 H1 locs1 → W p l e R s m args below meth c H1 locs1 (cells + mc) (slots + ms) Q (F0 m (pc + 3) ls (.float r :: rest))) : W p l e R s m args below meth c H locs cells slots Q (F0 m pc ls st0) := by
  intro T hT X
  rcases hr T hT X with ⟨v, st₀, t, T', L, h0, X', hL, e1, e2, ⟨⟨r, u, hv, hp, hb⟩, hF⟩, st⟩ | ⟨q, st₀, t, T', L, E, ce, h0, X', hL, e1, e2, ⟨u, hp, hb, hF⟩, hce, hcv, hcl, st⟩
  · cases hv
    obtain ⟨k1, k2, k3⟩ := vx_keep h0 e1 hS hA hf hL hF
    obtain ⟨t2, a1, b1⟩ := kk r u t T'.heap (locs ++ L) e1.symm (by rw [← e2]; exact X'.warmed.alike) hp hb k1 k2 k3 T' rfl X'
    exact ⟨t2, st t2 a1, b1⟩
  · obtain ⟨k1, k2, k3⟩ := vx_keep h0 e1 hS hAX hf hL hF
    obtain ⟨t2, a1, b1⟩ := kx E ce q u t T'.heap (locs ++ L) e1.symm (by rw [← e2]; exact X'.warmed.alike) hp hb k1 k2 k3 (by rw [e1]; exact hce) hcv hcl T' rfl X'
    exact ⟨t2, st.trans a1, b1⟩
theorem vx_calld {S SX : Type} {post : UInt64 → S → Prop} {px : SX → Prop} {B : S → State → Prop} {BX : String → SX → State → Prop} {AX : Nat → Prop} (hr : vx_Run p l e R s m args below meth c H locs cells slots mc ms (F0 m pc ls st0) rest (va_Qd post B A1 a) (vx_X px BX AX) free) (hS : va_S A0 H0 H locs) (hA : ∀ q, q < H.size → A1 q → A0 q) (hf : ∀ q, free q → A0 q) (hAX : ∀ q, q < H.size → AX q → A0 q)
    (kx : ∀ (E : String) (ce : Cell) (q9 : Addr) (u : SX) (t : State) (H1 : Heap) (locs1 : List Loc), t.heap = H1 → s.vm.Alike t.vm → px u → BX E u t → H.size ≤ H1.size → (∀ q : Nat, q < H.size → ¬ AX q → H1[q]? = H[q]?) → va_S A0 H0 H1 locs1 → H1[q9]? = some ce → ce.vm = .none → s.vm.findClass E = some ce.cls → vx_W p l e R s m args below meth c H1 locs1 (cells + mc) (slots + ms) Q (F0 m pc ls rest) q9)
    (kk : ∀ (r : UInt64) (u : S) (t : State) (H1 : Heap) (locs1 : List Loc), t.heap = H1 → s.vm.Alike t.vm → post r u → B u t → H.size ≤ H1.size → (∀ q : Nat, q < H.size → ¬ A1 q → H1[q]? = H[q]?) → va_S A0 H0 H1 locs1 → W p l e R s m args below meth c H1 locs1 (cells + mc) (slots + ms) Q (F0 m (pc + 3) ls (.double r :: rest))) : W p l e R s m args below meth c H locs cells slots Q (F0 m pc ls st0) := by
  intro T hT X
  rcases hr T hT X with ⟨v, st₀, t, T', L, h0, X', hL, e1, e2, ⟨⟨r, u, hv, hp, hb⟩, hF⟩, st⟩ | ⟨q, st₀, t, T', L, E, ce, h0, X', hL, e1, e2, ⟨u, hp, hb, hF⟩, hce, hcv, hcl, st⟩
  · cases hv
    obtain ⟨k1, k2, k3⟩ := vx_keep h0 e1 hS hA hf hL hF
    obtain ⟨t2, a1, b1⟩ := kk r u t T'.heap (locs ++ L) e1.symm (by rw [← e2]; exact X'.warmed.alike) hp hb k1 k2 k3 T' rfl X'
    exact ⟨t2, st t2 a1, b1⟩
  · obtain ⟨k1, k2, k3⟩ := vx_keep h0 e1 hS hAX hf hL hF
    obtain ⟨t2, a1, b1⟩ := kx E ce q u t T'.heap (locs ++ L) e1.symm (by rw [← e2]; exact X'.warmed.alike) hp hb k1 k2 k3 (by rw [e1]; exact hce) hcv hcl T' rfl X'
    exact ⟨t2, st.trans a1, b1⟩
theorem vx_callv {S SX : Type} {post : S → Prop} {px : SX → Prop} {B : S → State → Prop} {BX : String → SX → State → Prop} {AX : Nat → Prop} (hr : vx_Run p l e R s m args below meth c H locs cells slots mc ms (F0 m pc ls st0) rest (va_Qv post B A1 a) (vx_X px BX AX) free) (hS : va_S A0 H0 H locs) (hA : ∀ q, q < H.size → A1 q → A0 q) (hf : ∀ q, free q → A0 q) (hAX : ∀ q, q < H.size → AX q → A0 q)
    (kx : ∀ (E : String) (ce : Cell) (q9 : Addr) (u : SX) (t : State) (H1 : Heap) (locs1 : List Loc), t.heap = H1 → s.vm.Alike t.vm → px u → BX E u t → H.size ≤ H1.size → (∀ q : Nat, q < H.size → ¬ AX q → H1[q]? = H[q]?) → va_S A0 H0 H1 locs1 → H1[q9]? = some ce → ce.vm = .none → s.vm.findClass E = some ce.cls → vx_W p l e R s m args below meth c H1 locs1 (cells + mc) (slots + ms) Q (F0 m pc ls rest) q9)
    (kk : ∀ (u : S) (t : State) (H1 : Heap) (locs1 : List Loc), t.heap = H1 → s.vm.Alike t.vm → post u → B u t → H.size ≤ H1.size → (∀ q : Nat, q < H.size → ¬ A1 q → H1[q]? = H[q]?) → va_S A0 H0 H1 locs1 → W p l e R s m args below meth c H1 locs1 (cells + mc) (slots + ms) Q (F0 m (pc + 3) ls (rest))) : W p l e R s m args below meth c H locs cells slots Q (F0 m pc ls st0) := by
  intro T hT X
  rcases hr T hT X with ⟨v, st₀, t, T', L, h0, X', hL, e1, e2, ⟨⟨u, hv, hp, hb⟩, hF⟩, st⟩ | ⟨q, st₀, t, T', L, E, ce, h0, X', hL, e1, e2, ⟨u, hp, hb, hF⟩, hce, hcv, hcl, st⟩
  · cases hv
    obtain ⟨k1, k2, k3⟩ := vx_keep h0 e1 hS hA hf hL hF
    obtain ⟨t2, a1, b1⟩ := kk u t T'.heap (locs ++ L) e1.symm (by rw [← e2]; exact X'.warmed.alike) hp hb k1 k2 k3 T' rfl X'
    exact ⟨t2, st t2 a1, b1⟩
  · obtain ⟨k1, k2, k3⟩ := vx_keep h0 e1 hS hAX hf hL hF
    obtain ⟨t2, a1, b1⟩ := kx E ce q u t T'.heap (locs ++ L) e1.symm (by rw [← e2]; exact X'.warmed.alike) hp hb k1 k2 k3 (by rw [e1]; exact hce) hcv hcl T' rfl X'
    exact ⟨t2, st.trans a1, b1⟩

end Rows
section Ends
variable {p : Program} {l : Launch} {e : Env} {R : Room} {s : State} {m : MethodId} {args : Array Value} {below : List Frame} {meth : Method} {c : Code} {H : Heap} {locs : List Loc} {cells slots : Nat} {Q : State → Prop}
variable {mc ms : Nat} {free : Addr → Prop} {A0 A1 : Nat → Prop} {H0 : Heap} {a : Array Value} {ls : Array Slot} {st0 rest : List Value}
variable {Qc : Array Value → State → Outcome → State → Prop} {XC : String → State → State → Prop}
/-- what a body that may throw owes at its end -/
def vx_MQ (below : List Frame) (Qc : Array Value → State → Outcome → State → Prop) (XC : String → State → State → Prop) (a : Array Value) (s : State) (mc ms : Nat) (free : Addr → Prop) : State → Prop := fun t =>
  ∃ o, t.status = .running ∧ Ended t below o ∧ vx_Q Qc XC mc ms free a s o t
theorem vx_ret {g : JFrame} {mc ms : Nat} (k : W p l e R s m args below meth c H locs cells slots (MQ below Qc args s mc ms free) g) : W p l e R s m args below meth c H locs cells slots (vx_MQ below Qc XC args s mc ms free) g := by
  intro T hT X
  obtain ⟨t, a1, o, b1, b2, b3, b4⟩ := k T hT X
  exact ⟨t, a1, o, b1, b2, Or.inl ⟨b3, b4⟩⟩
/-- not caught here: it goes on to the caller -/
theorem vx_widen {g : JFrame} {q : Addr} {k n : Nat} (h1 : cells ≤ k) (h2 : slots ≤ n) (kk : vx_W p l e R s m args below meth c H locs k n Q g q) : vx_W p l e R s m args below meth c H locs cells slots Q g q := fun T hT X => kk T hT (stand_widen X h1 h2)
theorem vx_out {pc : Nat} {E : String} {ce : Cell} {q : Addr} {mc ms : Nat} (hout : ∀ x ∈ c.exceptionTable.toList, covers x pc = false) (hlocks : meth.locks = false) (hcell : H[q]? = some ce) (hv : ce.vm = .none) (hcl : s.vm.findClass E = some ce.cls)
    (hx : ∀ t : State, t.heap = H → s.vm.Alike t.vm → XC E s t) (hf : ∀ z ∈ locs, free z.base) (hc : cells ≤ mc) (hs : slots ≤ ms) :
    vx_W p l e R s m args below meth c H locs cells slots (vx_MQ below Qc XC args s mc ms free) (F0 m pc ls rest) q := by
  intro T hT X
  obtain ⟨st1, hrun, hend, hW, hsm⟩ := X.leaveThrown q (g := F0 m pc ls rest) rfl rfl rfl hout hlocks
  have hcell9 : (T.setFrames (.throwing q :: below)).heap[q]? = some ce := by
    show T.heap[q]? = some ce
    rw [hT]; exact hcell
  exact ⟨_, st1, .threw q, hrun, hend, Or.inr ⟨q, rfl, E, ce, locs, hx _ hT hW.alike, hcell9, hv, hcl, hW, hsm.mono hc hs, hf⟩⟩
theorem vx_frame {U : State} {k n : Nat} (h : s.sameButNew ({ U with vm := s.vm } : State) locs k n) : s.heap.size ≤ U.heap.size ∧ ∀ q : Nat, q < s.heap.size → (∀ z ∈ locs, z.base ≠ q) → U.heap[q]? = s.heap[q]? := by
  obtain ⟨-, h2, -, -, -, h6⟩ := h
  refine ⟨h2, fun q hq hz => ?_⟩
  obtain ⟨c9, e1, e2, e3, e4⟩ := h6 q _ (Array.getElem?_eq_getElem hq)
  have hs : c9.slots = (s.heap[q]).slots := Array.ext_getElem? fun i => e4 i fun hm => hz _ hm rfl
  have h9 : c9 = s.heap[q] := by
    rw [hs] at e2
    exact e2
  have e5 : U.heap[q]? = some c9 := e1
  rw [e5, h9, Array.getElem?_eq_getElem hq]
/-- the words of a throw but the four that speak of the heap -/
def vx_no (w : Cond) : Bool := decide (w ≠ .isRef (.static Bundle.tN "UNASSIGNED_STACK" Bundle.steD)) && decide (w ≠ .isRef (.static Bundle.tN "SUPPRESSED_SENTINEL" Bundle.listD)) && decide (w ≠ .laysStatic Bundle.tN "UNASSIGNED_STACK" Bundle.steD) && decide (w ≠ .laysStatic Bundle.tN "SUPPRESSED_SENTINEL" Bundle.listD)
def vx_at0 (own : String) (ic : Nat) (X : String) (names : List String) : List Cond := (Bundle.ownAtoms0 own ic X names).filter vx_no
def vx_atS (own : String) (ic : Nat) (X : String) (names : List String) : List Cond := (Bundle.ownAtoms own ic X names).filter vx_no
/-- a word that the tables alone decide, or a good one -/
def vx_ot (w : Cond) : Bool := w.onTables || goodWord w
theorem vx_ot_at {args a' : Array Value} {s U : State} {w : Cond} (hW : s.WarmedH U.vm) (hvm : s.vm = U.vm) (hg : vx_ot w = true) (h : w.before args s = true) : w.before a' U = true := by
  simp only [vx_ot, Bool.or_eq_true] at hg
  rcases hg with hg | hg
  · exact va_tabs hg hvm h
  · exact word_at hW (good_of_word hg) h
/-- a list's words: the good ones out of the method's own list, the others by premises of their own -/
theorem vx_hat {args : Array Value} {s : State} {L B : List Cond} (h1 : ∀ w ∈ L.filter goodWord, w.before args s = true) (h2 : ∀ w ∈ L.filter (fun w => !goodWord w), w ∈ B) (h3 : ∀ w ∈ B, w.before args s = true) : ∀ w ∈ L, w.before args s = true := by
  intro w hw
  by_cases g : goodWord w = true
  · exact h1 w (List.mem_filter.mpr ⟨hw, g⟩)
  · refine h3 w (h2 w (List.mem_filter.mpr ⟨hw, ?_⟩))
    show (!goodWord w) = true
    cases hgw : goodWord w
    · rfl
    · exact absurd hgw g
theorem vx_c {args : Array Value} {s : State} {w : Cond} {B : List Cond} (h : w.before args s = true) (t : ∀ w ∈ B, w.before args s = true) : ∀ w' ∈ w :: B, w'.before args s = true := fun w' h' => (List.mem_cons.mp h').elim (fun e => by rw [e]; exact h) (t w')
theorem vx_n {args : Array Value} {s : State} : ∀ w ∈ ([] : List Cond), w.before args s = true := fun _ h => nomatch h
theorem vx_own {args : Array Value} {s : State} {L : List Cond} (h1 : ∀ w ∈ L.filter vx_no, w.before args s = true)
    (hU : (Cond.isRef (.static Bundle.tN "UNASSIGNED_STACK" Bundle.steD)).before args s = true) (hN : (Cond.isRef (.static Bundle.tN "SUPPRESSED_SENTINEL" Bundle.listD)).before args s = true)
    (lU : (Cond.laysStatic Bundle.tN "UNASSIGNED_STACK" Bundle.steD).before args s = true) (lN : (Cond.laysStatic Bundle.tN "SUPPRESSED_SENTINEL" Bundle.listD).before args s = true) : ∀ w ∈ L, w.before args s = true := by
  intro w hw
  by_cases e1 : w = .isRef (.static Bundle.tN "UNASSIGNED_STACK" Bundle.steD)
  · rw [e1]; exact hU
  · by_cases e2 : w = .isRef (.static Bundle.tN "SUPPRESSED_SENTINEL" Bundle.listD)
    · rw [e2]; exact hN
    · by_cases e3 : w = .laysStatic Bundle.tN "UNASSIGNED_STACK" Bundle.steD
      · rw [e3]; exact lU
      · by_cases e4 : w = .laysStatic Bundle.tN "SUPPRESSED_SENTINEL" Bundle.listD
        · rw [e4]; exact lN
        · exact h1 w (List.mem_filter.mpr ⟨hw, by unfold vx_no; rw [decide_eq_true e1, decide_eq_true e2, decide_eq_true e3, decide_eq_true e4]; rfl⟩)
/-- where a static field lies, its class's statics cell in H -/
def vx_L (C n d : String) (A : Nat → Prop) (U : State) (H : Heap) : Prop := ∃ (c : ClassId) (k : Class) (i : Nat) (f : Field) (a : Nat) (cell : Cell), U.vm.findClass C = some c ∧ U.fieldFound? C n d = some (c, k, i, f) ∧ f.isStatic = true ∧ k.statics = some a ∧ H[a]? = some cell ∧ cell.vm.isStatics = true ∧ cell.cls = c ∧ f.slot < cell.slots.size ∧ k.staticTypes[f.slot]? = some f.type ∧ ¬ A a
theorem vx_L.moved {C n d : String} {A : Nat → Prop} {u U : State} {H : Heap} (hvm : u.vm.Alike U.vm) (h : vx_L C n d A u H) : vx_L C n d A U H := by
  obtain ⟨c, k, i, f, a, cell, h1, h2, h3, h4, h5, h6, h7, h8, h9, h10⟩ := h
  obtain ⟨k', hi', he⟩ := State.fieldFound?_setVm hvm h2
  exact ⟨c, k', i, f, a, cell, by rw [hvm.findClass]; exact h1, hi', h3, by rw [he]; exact h4, h5, h6, h7, h8, by rw [he]; exact h9, h10⟩
theorem vx_L.kept {C n d : String} {A : Nat → Prop} {U : State} {H H1 : Heap} (h : vx_L C n d A U H) (hq : ∀ a : Nat, a < H.size → ¬ A a → H1[a]? = H[a]?) : vx_L C n d A U H1 := by
  obtain ⟨c, k, i, f, a, cell, h1, h2, h3, h4, h5, h6, h7, h8, h9, h10⟩ := h
  exact ⟨c, k, i, f, a, cell, h1, h2, h3, h4, by rw [hq a (Array.getElem?_eq_some_iff.mp h5).1 h10]; exact h5, h6, h7, h8, h9, h10⟩
theorem vx_L.narrow {C n d : String} {A B : Nat → Prop} {U : State} {H : Heap} (h : vx_L C n d A U H) (hAB : ∀ q, B q → A q) : vx_L C n d B U H := by
  obtain ⟨c, k, i, f, a, cell, h1, h2, h3, h4, h5, h6, h7, h8, h9, h10⟩ := h
  exact ⟨c, k, i, f, a, cell, h1, h2, h3, h4, h5, h6, h7, h8, h9, fun z => h10 (hAB _ z)⟩
theorem vx_L.word {C n d : String} {A : Nat → Prop} {s : State} {args : Array Value} (h : vx_L C n d A s s.heap) : (Cond.laysStatic C n d).before args s = true := by
  obtain ⟨c, k, i, f, a, cell, h1, h2, h3, h4, h5, h6, h7, h8, h9, -⟩ := h
  show (Cond.laysStatic C n d).holds args s none s [] = true
  exact Cond.laysStatic_of h1 h2 h3 h4 h5 h6 h7 h8 h9
/-- .. and what it holds: null or some reference -/
def vx_Zq (C n d : String) (A : Nat → Prop) (U : State) (H : Heap) : Prop := va_Zq C n d A U H ∧ vx_L C n d A U H
theorem vx_Zq.moved {C n d : String} {A : Nat → Prop} {u U : State} {H : Heap} (hvm : u.vm.Alike U.vm) (h : vx_Zq C n d A u H) : vx_Zq C n d A U H := ⟨va_Zq.moved hvm h.1, vx_L.moved hvm h.2⟩
theorem vx_Zq.kept {C n d : String} {A : Nat → Prop} {U : State} {H H1 : Heap} (h : vx_Zq C n d A U H) (hq : ∀ a : Nat, a < H.size → ¬ A a → H1[a]? = H[a]?) : vx_Zq C n d A U H1 := ⟨va_Zq.kept h.1 hq, vx_L.kept h.2 hq⟩
theorem vx_Zq.narrow {C n d : String} {A B : Nat → Prop} {U : State} {H : Heap} (h : vx_Zq C n d A U H) (hAB : ∀ q, B q → A q) : vx_Zq C n d B U H := ⟨va_Zq.narrow h.1 hAB, vx_L.narrow h.2 hAB⟩
theorem vx_Zqof {args : Array Value} {s : State} {C n d : String} {A : Nat → Prop} (hl : (Cond.laysStatic C n d).before args s = true) (hini : (Cond.initialized C).before args s = true) (h : (Cond.isRef (.static C n d)).before args s = true) (hA : ∀ a : Nat, a < s.heap.size → ¬ A a) : vx_Zq C n d A s s.heap := by
  refine ⟨va_Zqof hl hini h hA, ?_⟩
  obtain ⟨c, k, i, f, a, cell, h1, h2, h3, h4, h5, h6, h7, h8, h9⟩ := Cond.laysStatic_spec hl
  exact ⟨c, k, i, f, a, cell, h1, h2, h3, h4, h5, h6, h7, h8, h9, hA a (Array.getElem?_eq_some_iff.mp h5).1⟩
theorem vx_isRef {C n d : String} {v : Value} {A : Nat → Prop} {s : State} {args : Array Value} (h : va_Z C n d v A s s.heap) (hv : v.isRef = true) : (Cond.isRef (.static C n d)).before args s = true := by
  obtain ⟨cf, kf, fi, f, a, cell, h1, h2, h3, h4, h5, h6, h7, -⟩ := h
  have he : (Term.static C n d).eval args s none [] s = some v := by
    simp [Term.eval, State.fieldNamed?, h1, h2, h4, h5, h6, h7]
  simp only [Cond.before, Cond.holds, Cond.value, he]
  cases v <;> simp_all [Value.isRef]
theorem vx_isRefq {C n d : String} {A : Nat → Prop} {s : State} {args : Array Value} (h : va_Zq C n d A s s.heap) : (Cond.isRef (.static C n d)).before args s = true := by
  rcases h with h | ⟨t, h⟩
  · exact vx_isRef h rfl
  · exact vx_isRef h rfl
/-- the same frame, seen from here: as if the method were called anew in this heap -/
theorem vx_rebase {T : State} (X : Stand p l e R s m args below meth c T locs cells slots) {R' : Room} (hf : R'.frames ≤ R.frames) (hl : R'.locals ≤ R.locals) (hc : cells + R'.cells ≤ R.cells) (hs : slots + R'.slots ≤ R.slots) :
    Stand p l e R' ((T.setVm s.vm).setFrames (.invoking m args :: below)) m args below meth c T [] 0 0 := by
  have htop : (T.setVm s.vm).topJava?.isSome := X.here.top
  have hF : ((T.setVm s.vm).setFrames (.invoking m args :: below)).frames = .invoking m args :: below := State.frames_setFrames _ (State.cur_lt_of_top htop)
  obtain ⟨g₀, hg0⟩ := Option.isSome_iff_exists.mp htop
  obtain ⟨r, hr⟩ := State.topJava?_eq_some.mp hg0
  have hl9 : e.platform.stackLimits (T.setVm s.vm).me = e.platform.stackLimits s.me := X.limits
  have hb9 : (T.setVm s.vm).me.stackBytes = s.me.stackBytes := X.bytes
  refine ⟨X.admits, X.cas, X.clock, hF, ?_, X.hears, X.method, X.code, X.here, X.tail, X.warmed, ?_, ?_, ?_⟩
  · have h := X.room
    have hU : ((T.setVm s.vm).setFrames (.invoking m args :: below)).localsInUse = s.localsInUse := by
      rw [State.localsInUse_invoking hF (meth := meth) (c := c) X.method X.code, State.localsInUse_invoking X.frames X.method X.code]
    simp only [State.hasRoom, Bool.and_eq_true, decide_eq_true_eq] at h ⊢
    obtain ⟨⟨⟨⟨h1, h2, h3, h4, h5, h6⟩, h7⟩, h8⟩, h9⟩ := h
    rw [X.frames, List.length_cons] at h2 h3
    have q1 := X.heapSize
    have q2 := X.used
    simp only [hF, hU, List.length_cons, State.stackLimits_setFrames, State.stackBytes_setFrames, hl9, hb9]
    refine ⟨⟨⟨⟨by omega, by omega, by omega, by omega, by omega, h6⟩, ?_⟩, ?_⟩, X.book⟩
    · show T.heap.size + R'.cells ≤ e.platform.maxCells
      omega
    · show T.slotsUsed + R'.slots ≤ e.platform.maxSlots
      omega
  · rw [State.stackLimits_setFrames]; rfl
  · rw [State.stackBytes_setFrames]; rfl
  · refine ⟨?_, Nat.le_refl _, Nat.le_refl _, ?_, ?_, fun a c9 h9 => ⟨c9, h9, rfl, rfl, fun _ _ => rfl⟩⟩
    · obtain ⟨t, ht, -⟩ := State.frames_cons hr
      show T.setVm s.vm = { ((T.setVm s.vm).setFrames (.invoking m args :: below)).setFrames (T.setVm s.vm).frames with heap := T.heap, slotsUsed := T.slotsUsed }
      rw [State.setFrames_setFrames, State.setFrames_self ht]
      rfl
    · show T.slotsUsed = T.slotsUsed + ((T.heap.toList.drop T.heap.size).map (·.slots.size)).sum
      rw [List.drop_eq_nil_of_le (Nat.le_of_eq Array.length_toList)]
      rfl
    · show ((T.heap.toList.drop T.heap.size).map (·.slots.size)).sum ≤ 0
      rw [List.drop_eq_nil_of_le (Nat.le_of_eq Array.length_toList)]
      exact Nat.le_refl _
/-- 'throw new E()': new; dup; invokespecial; athrow -/
theorem vx_throw0 {cc : ByteArray} {pc : Nat} (hexec : p.tables.exec = Jvm.exec) (hb : c.code = cc) (hl : l.stackTraces = false) {own cls : String} {names : List String} {ik ic mc ms : Nat} {A : Nat → Prop}
    (hown : s.vm.findClass own = some m.cls) (hcls : Bundle.fit cls = true) (hnames : ∀ n ∈ names, Bundle.fit n = true)
    (hk : (Cond.classLink own ik cls).before args s = true) (hini : (Cond.initialized cls).before args s = true) (hat : ∀ w ∈ vx_at0 own ic cls names, w.before args s = true)
    (hgood : ∀ w ∈ Cond.classLink own ik cls :: Cond.initialized cls :: vx_at0 own ic cls names, vx_ot w = true)
    (hU : vx_Zq Bundle.tN "UNASSIGNED_STACK" Bundle.steD A s s.heap) (hN : vx_Zq Bundle.tN "SUPPRESSED_SENTINEL" Bundle.listD A s s.heap) (hS : va_S A s.heap H locs) (hsize : ls.size = c.maxLocals)
    (d0 : decode cc pc = .ok (.new ik, 3)) (d3 : decode cc (pc + 3) = .ok (.dup, 1)) (d4 : decode cc (pc + 4) = .ok (.invokespecial ic, 3)) (d7 : decode cc (pc + 7) = .ok (.athrow, 1))
    (hout : ∀ x ∈ c.exceptionTable.toList, covers x (pc + 7) = false)
    (hRframes : names.length + 3 < R.frames) (hRlocals : (rest.map fun v => v.category).sum + (13 * (names.length + 1) + 42) ≤ R.locals) (hRcells : cells + 1 ≤ R.cells) (hRslots : slots + 6 ≤ R.slots) (hlocks : meth.locks = false)
    (hx : ∀ t : State, s.vm.Alike t.vm → H.size ≤ t.heap.size → (∀ q : Nat, q < H.size → t.heap[q]? = H[q]?) → XC cls s t)
    (hf : ∀ z ∈ locs, free z.base) (hc : cells + 1 ≤ mc) (hs : slots + 6 ≤ ms) :
    W p l e R s m args below meth c H locs cells slots (vx_MQ below Qc XC args s mc ms free) (F0 m pc ls rest) := by
  intro T hT X
  have htr : e.platform.stackTraces = false := (show e.platform.stackTraces = l.stackTraces by rw [X.admits.platform]).trans hl
  have Y := vx_rebase X (R' := { frames := R.frames, locals := R.locals, cells := 1, slots := 6 }) (Nat.le_refl _) (Nat.le_refl _) hRcells hRslots
  obtain ⟨s', hA⟩ : ∃ z, z = (T.setVm s.vm).setFrames (.invoking m args :: below) := ⟨_, rfl⟩
  rw [← hA] at Y
  have hvm : s'.vm = s.vm := by rw [hA]; rfl
  have hhp : s'.heap = H := by rw [hA]; exact hT
  have hW0 : s.WarmedH s'.vm := by rw [hvm]; exact State.WarmedH.refl s
  have hat' : ∀ w ∈ vx_at0 own ic cls names, w.before args s' = true := fun w hw => vx_ot_at hW0 hvm.symm (hgood w (List.mem_cons_of_mem _ (List.mem_cons_of_mem _ hw))) (hat w hw)
  have hk' : (Cond.classLink own ik cls).before args s' = true := vx_ot_at hW0 hvm.symm (hgood _ List.mem_cons_self) hk
  have hini' : (Cond.initialized cls).before args s' = true := vx_ot_at hW0 hvm.symm (hgood _ (List.mem_cons_of_mem _ List.mem_cons_self)) hini
  have hU' : vx_Zq Bundle.tN "UNASSIGNED_STACK" Bundle.steD A s' s'.heap := by rw [hhp]; exact vx_Zq.moved hW0.alike (hU.kept hS.2.1)
  have hN' : vx_Zq Bundle.tN "SUPPRESSED_SENTINEL" Bundle.listD A s' s'.heap := by rw [hhp]; exact vx_Zq.moved hW0.alike (hN.kept hS.2.1)
  have h : ∀ w ∈ Bundle.ownAtoms0 own ic cls names, w.before args s' = true := vx_own hat' (vx_isRefq hU'.1) (vx_isRefq hN'.1) hU'.2.word hN'.2.word
  have hown' : s'.vm.findClass own = some m.cls := by rw [hvm]; exact hown
  have hins : (Cond.instantiable cls 6).before args s' = true := h _ (by simp [Bundle.ownAtoms0])
  obtain ⟨vm₁, cX, kX, hfX, hkX, -, -, X₁, st1⟩ := Y.newCold hexec (own := own) (C := cls) (index := ik) (n := 6) hown' hk' hins hini'
    (g := F0 m pc ls rest) rfl (by rw [hb]; exact d0) (Nat.le_refl _) (Nat.le_refl _)
  generalize hT1 : (T.setVm vm₁).pushCell { cls := cX, slots := kX.instanceTypes.map defaultValue, vm := .none } = T1 at X₁ st1
  have hcat : (Value.ref T.heap.size).category = 1 := rfl
  have hcellA : T1.heap[T.heap.size]? = some (freshCell cX kX) := by rw [← hT1]; exact State.heap_pushCell_size _ _
  have d3' : decode c.code (pc + 3) = .ok (.dup, 1) := by rw [hb]; exact d3
  obtain ⟨U, hsteps, hrun, hend, hW, hsame, ce, hce, hO⟩ := X₁.ctorThrow0 hexec htr (own := own) (cls := cls) (names := names) (ic := ic) hown' hcls hnames h (fun x hx => nomatch hx) hfX hkX hcellA (by rw [hhp, hT]; exact Nat.le_refl _)
    (g := { method := m, pc := pc + 4, locals := ls, stack := .ref T.heap.size :: .ref T.heap.size :: rest, locked := none }) rfl hsize rfl rfl (rest := rest) rfl
    (by rw [hb]; exact d4) (by rw [hb]; exact d7) hout hRframes (by simp only [List.map_cons, List.sum_cons, hcat]; omega) hlocks
  obtain ⟨f1, f2⟩ := vx_frame hsame
  rw [hhp] at f1 f2
  have hWs : s.WarmedH U.vm := State.WarmedH.trans hW0 hW
  have hcl : s.vm.findClass cls = some ce.cls := by
    have h9 := hO.cls
    rw [hvm] at h9
    exact h9
  have hall : s.sameButNew ({ U with vm := s.vm } : State) locs mc ms := by
    subst hA
    obtain ⟨e1, e2⟩ := hsame
    rw [State.setFrames_setFrames] at e1
    have h2 : (T.setVm s.vm).sameButNew ({ U with vm := s.vm } : State) [] (0 + 1) (0 + 6) := ⟨e1, e2⟩
    have h3 := X.same.trans h2
    rw [List.append_nil] at h3
    exact h3.mono hc hs
  refine ⟨U, ?_, .threw T.heap.size, hrun, hend, Or.inr ⟨T.heap.size, rfl, cls, ce, locs, hx U hWs.alike f1 (fun q hq => f2 q hq (fun z hz => nomatch hz)), hce, hO.vm, hcl, hWs, hall, hf⟩⟩
  refine st1 _ ?_
  show Steps p.tables e below (T1.setTop { method := m, pc := pc + 3, locals := ls, stack := .ref T.heap.size :: rest, locked := none }) _
  jvm_step X₁.here [X₁.here.top, hexec, d3', Value.category]
  exact hsteps
/-- 'throw new E("text")': new; dup; ldc; invokespecial; athrow -/
theorem vx_throwS {cc : ByteArray} {pc : Nat} (hexec : p.tables.exec = Jvm.exec) (hb : c.code = cc) (hl : l.stackTraces = false) {own cls text : String} {names : List String} {ik is ic mc ms sa : Nat} {A : Nat → Prop}
    (hown : s.vm.findClass own = some m.cls) (hcls : Bundle.fit cls = true) (hnames : ∀ n ∈ names, Bundle.fit n = true)
    (hk : (Cond.classLink own ik cls).before args s = true) (hini : (Cond.initialized cls).before args s = true) (hstr : vk_R own is text sa s) (hat : ∀ w ∈ vx_atS own ic cls names, w.before args s = true)
    (hgood : ∀ w ∈ Cond.classLink own ik cls :: Cond.initialized cls :: vx_atS own ic cls names, vx_ot w = true)
    (hU : vx_Zq Bundle.tN "UNASSIGNED_STACK" Bundle.steD A s s.heap) (hN : vx_Zq Bundle.tN "SUPPRESSED_SENTINEL" Bundle.listD A s s.heap) (hS : va_S A s.heap H locs) (hsize : ls.size = c.maxLocals)
    (d0 : decode cc pc = .ok (.new ik, 3)) (d3 : decode cc (pc + 3) = .ok (.dup, 1)) (d4 : decode cc (pc + 4) = .ok (.ldc is, 2)) (d6 : decode cc (pc + 6) = .ok (.invokespecial ic, 3)) (d9 : decode cc (pc + 9) = .ok (.athrow, 1))
    (hout : ∀ x ∈ c.exceptionTable.toList, covers x (pc + 9) = false)
    (hRframes : names.length + 3 < R.frames) (hRlocals : (rest.map fun v => v.category).sum + (13 * (names.length + 1) + 43) ≤ R.locals) (hRcells : cells + 1 ≤ R.cells) (hRslots : slots + 6 ≤ R.slots) (hlocks : meth.locks = false)
    (hx : ∀ t : State, s.vm.Alike t.vm → H.size ≤ t.heap.size → (∀ q : Nat, q < H.size → t.heap[q]? = H[q]?) → XC cls s t)
    (hf : ∀ z ∈ locs, free z.base) (hc : cells + 1 ≤ mc) (hs : slots + 6 ≤ ms) :
    W p l e R s m args below meth c H locs cells slots (vx_MQ below Qc XC args s mc ms free) (F0 m pc ls rest) := by
  intro T hT X
  have htr : e.platform.stackTraces = false := (show e.platform.stackTraces = l.stackTraces by rw [X.admits.platform]).trans hl
  have Y := vx_rebase X (R' := { frames := R.frames, locals := R.locals, cells := 1, slots := 6 }) (Nat.le_refl _) (Nat.le_refl _) hRcells hRslots
  obtain ⟨s', hA⟩ : ∃ z, z = (T.setVm s.vm).setFrames (.invoking m args :: below) := ⟨_, rfl⟩
  rw [← hA] at Y
  have hvm : s'.vm = s.vm := by rw [hA]; rfl
  have hhp : s'.heap = H := by rw [hA]; exact hT
  have hW0 : s.WarmedH s'.vm := by rw [hvm]; exact State.WarmedH.refl s
  have hat' : ∀ w ∈ vx_atS own ic cls names, w.before args s' = true := fun w hw => vx_ot_at hW0 hvm.symm (hgood w (List.mem_cons_of_mem _ (List.mem_cons_of_mem _ hw))) (hat w hw)
  have hk' : (Cond.classLink own ik cls).before args s' = true := vx_ot_at hW0 hvm.symm (hgood _ List.mem_cons_self) hk
  have hini' : (Cond.initialized cls).before args s' = true := vx_ot_at hW0 hvm.symm (hgood _ (List.mem_cons_of_mem _ List.mem_cons_self)) hini
  have hU' : vx_Zq Bundle.tN "UNASSIGNED_STACK" Bundle.steD A s' s'.heap := by rw [hhp]; exact vx_Zq.moved hW0.alike (hU.kept hS.2.1)
  have hN' : vx_Zq Bundle.tN "SUPPRESSED_SENTINEL" Bundle.listD A s' s'.heap := by rw [hhp]; exact vx_Zq.moved hW0.alike (hN.kept hS.2.1)
  have h : ∀ w ∈ Bundle.ownAtoms own ic cls names, w.before args s' = true := vx_own hat' (vx_isRefq hU'.1) (vx_isRefq hN'.1) hU'.2.word hN'.2.word
  have hown' : s'.vm.findClass own = some m.cls := by rw [hvm]; exact hown
  have hins : (Cond.instantiable cls 6).before args s' = true := h _ (by simp [Bundle.ownAtoms])
  obtain ⟨vm₁, cX, kX, hfX, hkX, -, -, X₁, st1⟩ := Y.newCold hexec (own := own) (C := cls) (index := ik) (n := 6) hown' hk' hins hini'
    (g := F0 m pc ls rest) rfl (by rw [hb]; exact d0) (Nat.le_refl _) (Nat.le_refl _)
  generalize hT1 : (T.setVm vm₁).pushCell { cls := cX, slots := kX.instanceTypes.map defaultValue, vm := .none } = T1 at X₁ st1
  have hcat : (Value.ref T.heap.size).category = 1 := rfl
  have hcellA : T1.heap[T.heap.size]? = some (freshCell cX kX) := by rw [← hT1]; exact State.heap_pushCell_size _ _
  have d3' : decode c.code (pc + 3) = .ok (.dup, 1) := by rw [hb]; exact d3
  have d4' : decode c.code (pc + 4) = .ok (.ldc is, 2) := by rw [hb]; exact d4
  have hstr' : vk_R own is text sa s' := vk_R.warm hW0 hstr
  obtain ⟨U, hsteps, hrun, hend, hW, hsame, ce, hce, hO⟩ := X₁.ctorThrowS hexec htr (own := own) (cls := cls) (names := names) (ic := ic) hown' hcls hnames h (fun x hx => nomatch hx) hfX hkX hcellA (by rw [hhp, hT]; exact Nat.le_refl _) (msg := .ref sa) rfl
    (g := { method := m, pc := pc + 6, locals := ls, stack := .ref sa :: .ref T.heap.size :: .ref T.heap.size :: rest, locked := none }) rfl hsize rfl rfl (rest := rest) rfl
    (by rw [hb]; exact d6) (by rw [hb]; exact d9) hout hRframes (by simp only [List.map_cons, List.sum_cons, hcat]; omega) hlocks
  obtain ⟨f1, f2⟩ := vx_frame hsame
  rw [hhp] at f1 f2
  have hWs : s.WarmedH U.vm := State.WarmedH.trans hW0 hW
  have hcl : s.vm.findClass cls = some ce.cls := by
    have h9 := hO.cls
    rw [hvm] at h9
    exact h9
  have hall : s.sameButNew ({ U with vm := s.vm } : State) locs mc ms := by
    subst hA
    obtain ⟨e1, e2⟩ := hsame
    rw [State.setFrames_setFrames] at e1
    have h2 : (T.setVm s.vm).sameButNew ({ U with vm := s.vm } : State) [] (0 + 1) (0 + 6) := ⟨e1, e2⟩
    have h3 := X.same.trans h2
    rw [List.append_nil] at h3
    exact h3.mono hc hs
  refine ⟨U, ?_, .threw T.heap.size, hrun, hend, Or.inr ⟨T.heap.size, rfl, cls, ce, locs, hx U hWs.alike f1 (fun q hq => f2 q hq (fun z hz => nomatch hz)), hce, hO.vm, hcl, hWs, hall, hf⟩⟩
  refine st1 _ ?_
  show Steps p.tables e below (T1.setTop { method := m, pc := pc + 3, locals := ls, stack := .ref T.heap.size :: rest, locked := none }) _
  jvm_step X₁.here [X₁.here.top, hexec, d3', Value.category]
  exact X₁.ldcString hexec (own := own) (text := text) (index := is) (a := sa) hown' hstr'.1 hstr'.2
    (g := { method := m, pc := pc + 4, locals := ls, stack := .ref T.heap.size :: .ref T.heap.size :: rest, locked := none }) rfl d4' _ hsteps
/-- 'throw new E("text")', the text by a wide index -/
theorem vx_throwSW {cc : ByteArray} {pc : Nat} (hexec : p.tables.exec = Jvm.exec) (hb : c.code = cc) (hl : l.stackTraces = false) {own cls text : String} {names : List String} {ik is ic mc ms sa : Nat} {A : Nat → Prop}
    (hown : s.vm.findClass own = some m.cls) (hcls : Bundle.fit cls = true) (hnames : ∀ n ∈ names, Bundle.fit n = true)
    (hk : (Cond.classLink own ik cls).before args s = true) (hini : (Cond.initialized cls).before args s = true) (hstr : vk_R own is text sa s) (hat : ∀ w ∈ vx_atS own ic cls names, w.before args s = true)
    (hgood : ∀ w ∈ Cond.classLink own ik cls :: Cond.initialized cls :: vx_atS own ic cls names, vx_ot w = true)
    (hU : vx_Zq Bundle.tN "UNASSIGNED_STACK" Bundle.steD A s s.heap) (hN : vx_Zq Bundle.tN "SUPPRESSED_SENTINEL" Bundle.listD A s s.heap) (hS : va_S A s.heap H locs) (hsize : ls.size = c.maxLocals)
    (d0 : decode cc pc = .ok (.new ik, 3)) (d3 : decode cc (pc + 3) = .ok (.dup, 1)) (d4 : decode cc (pc + 4) = .ok (.ldc_w is, 3)) (d7 : decode cc (pc + 7) = .ok (.invokespecial ic, 3)) (d10 : decode cc (pc + 10) = .ok (.athrow, 1))
    (hout : ∀ x ∈ c.exceptionTable.toList, covers x (pc + 10) = false)
    (hRframes : names.length + 3 < R.frames) (hRlocals : (rest.map fun v => v.category).sum + (13 * (names.length + 1) + 43) ≤ R.locals) (hRcells : cells + 1 ≤ R.cells) (hRslots : slots + 6 ≤ R.slots) (hlocks : meth.locks = false)
    (hx : ∀ t : State, s.vm.Alike t.vm → H.size ≤ t.heap.size → (∀ q : Nat, q < H.size → t.heap[q]? = H[q]?) → XC cls s t)
    (hf : ∀ z ∈ locs, free z.base) (hc : cells + 1 ≤ mc) (hs : slots + 6 ≤ ms) :
    W p l e R s m args below meth c H locs cells slots (vx_MQ below Qc XC args s mc ms free) (F0 m pc ls rest) := by
  intro T hT X
  have htr : e.platform.stackTraces = false := (show e.platform.stackTraces = l.stackTraces by rw [X.admits.platform]).trans hl
  have Y := vx_rebase X (R' := { frames := R.frames, locals := R.locals, cells := 1, slots := 6 }) (Nat.le_refl _) (Nat.le_refl _) hRcells hRslots
  obtain ⟨s', hA⟩ : ∃ z, z = (T.setVm s.vm).setFrames (.invoking m args :: below) := ⟨_, rfl⟩
  rw [← hA] at Y
  have hvm : s'.vm = s.vm := by rw [hA]; rfl
  have hhp : s'.heap = H := by rw [hA]; exact hT
  have hW0 : s.WarmedH s'.vm := by rw [hvm]; exact State.WarmedH.refl s
  have hat' : ∀ w ∈ vx_atS own ic cls names, w.before args s' = true := fun w hw => vx_ot_at hW0 hvm.symm (hgood w (List.mem_cons_of_mem _ (List.mem_cons_of_mem _ hw))) (hat w hw)
  have hk' : (Cond.classLink own ik cls).before args s' = true := vx_ot_at hW0 hvm.symm (hgood _ List.mem_cons_self) hk
  have hini' : (Cond.initialized cls).before args s' = true := vx_ot_at hW0 hvm.symm (hgood _ (List.mem_cons_of_mem _ List.mem_cons_self)) hini
  have hU' : vx_Zq Bundle.tN "UNASSIGNED_STACK" Bundle.steD A s' s'.heap := by rw [hhp]; exact vx_Zq.moved hW0.alike (hU.kept hS.2.1)
  have hN' : vx_Zq Bundle.tN "SUPPRESSED_SENTINEL" Bundle.listD A s' s'.heap := by rw [hhp]; exact vx_Zq.moved hW0.alike (hN.kept hS.2.1)
  have h : ∀ w ∈ Bundle.ownAtoms own ic cls names, w.before args s' = true := vx_own hat' (vx_isRefq hU'.1) (vx_isRefq hN'.1) hU'.2.word hN'.2.word
  have hown' : s'.vm.findClass own = some m.cls := by rw [hvm]; exact hown
  have hins : (Cond.instantiable cls 6).before args s' = true := h _ (by simp [Bundle.ownAtoms])
  obtain ⟨vm₁, cX, kX, hfX, hkX, -, -, X₁, st1⟩ := Y.newCold hexec (own := own) (C := cls) (index := ik) (n := 6) hown' hk' hins hini'
    (g := F0 m pc ls rest) rfl (by rw [hb]; exact d0) (Nat.le_refl _) (Nat.le_refl _)
  generalize hT1 : (T.setVm vm₁).pushCell { cls := cX, slots := kX.instanceTypes.map defaultValue, vm := .none } = T1 at X₁ st1
  have hcat : (Value.ref T.heap.size).category = 1 := rfl
  have hcellA : T1.heap[T.heap.size]? = some (freshCell cX kX) := by rw [← hT1]; exact State.heap_pushCell_size _ _
  have d3' : decode c.code (pc + 3) = .ok (.dup, 1) := by rw [hb]; exact d3
  have d4' : decode c.code (pc + 4) = .ok (.ldc_w is, 3) := by rw [hb]; exact d4
  have hstr' : vk_R own is text sa s' := vk_R.warm hW0 hstr
  obtain ⟨U, hsteps, hrun, hend, hW, hsame, ce, hce, hO⟩ := X₁.ctorThrowS hexec htr (own := own) (cls := cls) (names := names) (ic := ic) hown' hcls hnames h (fun x hx => nomatch hx) hfX hkX hcellA (by rw [hhp, hT]; exact Nat.le_refl _) (msg := .ref sa) rfl
    (g := { method := m, pc := pc + 7, locals := ls, stack := .ref sa :: .ref T.heap.size :: .ref T.heap.size :: rest, locked := none }) rfl hsize rfl rfl (rest := rest) rfl
    (by rw [hb]; exact d7) (by rw [hb]; exact d10) hout hRframes (by simp only [List.map_cons, List.sum_cons, hcat]; omega) hlocks
  obtain ⟨f1, f2⟩ := vx_frame hsame
  rw [hhp] at f1 f2
  have hWs : s.WarmedH U.vm := State.WarmedH.trans hW0 hW
  have hcl : s.vm.findClass cls = some ce.cls := by
    have h9 := hO.cls
    rw [hvm] at h9
    exact h9
  have hall : s.sameButNew ({ U with vm := s.vm } : State) locs mc ms := by
    subst hA
    obtain ⟨e1, e2⟩ := hsame
    rw [State.setFrames_setFrames] at e1
    have h2 : (T.setVm s.vm).sameButNew ({ U with vm := s.vm } : State) [] (0 + 1) (0 + 6) := ⟨e1, e2⟩
    have h3 := X.same.trans h2
    rw [List.append_nil] at h3
    exact h3.mono hc hs
  refine ⟨U, ?_, .threw T.heap.size, hrun, hend, Or.inr ⟨T.heap.size, rfl, cls, ce, locs, hx U hWs.alike f1 (fun q hq => f2 q hq (fun z hz => nomatch hz)), hce, hO.vm, hcl, hWs, hall, hf⟩⟩
  refine st1 _ ?_
  show Steps p.tables e below (T1.setTop { method := m, pc := pc + 3, locals := ls, stack := .ref T.heap.size :: rest, locked := none }) _
  jvm_step X₁.here [X₁.here.top, hexec, d3', Value.category]
  exact X₁.ldcStringW hexec (own := own) (text := text) (index := is) (a := sa) hown' hstr'.1 hstr'.2
    (g := { method := m, pc := pc + 4, locals := ls, stack := .ref T.heap.size :: .ref T.heap.size :: rest, locked := none }) rfl d4' _ hsteps
end Ends
section Bodies
variable {l : Launch}
theorem vx_ofW {y : MethodName} {ws ws' : List Cond} {rm : Room} {Pc : Array Value → State → Prop} {Qc : Array Value → State → Outcome → State → Prop} {XC : String → State → State → Prop} {mc ms : Nat} {free : Addr → Prop} {cc : ByteArray} {maxL : Nat} {ret : Option FieldType}
    (hy : plainName y.cls = true) (hw : ws = Cond.code y cc maxL ret :: ws')
    (body : ∀ p e s m args below meth c s₁, BodyLoose p l y (headSpec ws rm) cc maxL ret e s m args below meth c s₁ → c.maxLocals = maxL → (∀ x ∈ c.exceptionTable.toList, False) → Pc args s →
      W p l e (headSpec ws rm).room s m args below meth c s.heap [] 0 0 (vx_MQ below Qc XC args s mc ms free) (entryFrame m args maxL)) : vx_Met l y ws rm Pc Qc XC mc ms free := by
  refine MetFree.of_bodyS (code := cc) (maxLocals := maxL) (ret := ret) hy ?_ ?_
  · intro args s m h hn
    obtain ⟨meth, c, h1, h2, h3, h4, h5, h6, -, -⟩ := Cond.code_spec hn (atoms_spec (ws := ws) h _ (by rw [hw]; exact List.mem_cons_self))
    exact ⟨meth, c, h1, h2, h3, h4, h5, h6⟩
  · intro p e s m args below meth c s₁ B hml hP _
    have hh0 : s₁.heap = s.heap := by rw [B.state]; rfl
    have ht : ∀ x ∈ c.exceptionTable.toList, False := by
      obtain ⟨meth9, c9, h1, h2, -, -, -, -, h7, -⟩ := Cond.code_spec B.named (atoms_spec (ws := ws) B.pre _ (by rw [hw]; exact List.mem_cons_self))
      cases Option.some.inj (h1.symm.trans B.method)
      cases Option.some.inj (h2.symm.trans (Stand.of_body B).code)
      intro x hx
      rw [Array.isEmpty_iff.mp h7] at hx
      cases hx
    obtain ⟨t, a1, o, b1, b2, b3⟩ := body p e s m args below meth c s₁ B hml ht hP s₁ hh0 (Stand.of_body B)
    exact ⟨t, o, a1, b1, b2, b3⟩
/-- the table of a body with handlers -/
theorem vx_table {p : Program} {x y : MethodName} {S : Spec} {cc bytes : ByteArray} {maxL maxL' : Nat} {ret ret' : Option FieldType} {e : Env} {s s₁ : State} {m : MethodId} {args : Array Value} {below : List Frame} {meth : Method} {c : Code} {hh : List (Nat × Nat × Nat × Nat)}
    (B : BodyLoose p l y S cc maxL ret e s m args below meth c s₁) (h : (Cond.codeWith y bytes maxL' ret' hh).before args s = true) : c.exceptionTable.toList = tableOf hh := by
  obtain ⟨m9, meth9, c9, hn9, h1, h2, -, -, h6, -⟩ := Cond.codeWith_spec h
  cases Option.some.inj (hn9.symm.trans B.named)
  cases Option.some.inj (h1.symm.trans B.method)
  cases Option.some.inj (h2.symm.trans (Stand.of_body B).code)
  rw [← h6, table_eq]
end Bodies
end VXA
/-! ===== END ===== -/
/-! ===== BEGIN a static call of a method with an exception table ===== -/
section VXS
variable {p : Program} {l : Launch} {e : Env} {R : Room} {s : State} {m : MethodId} {args : Array Value} {below : List Frame} {meth : Method} {c : Code} {T : State} {H : Heap} {locs : List Loc} {cells slots : Nat}
abbrev vx_CSW (R : Room) (s : State) (args : Array Value) (own : String) (index : Nat) (y : MethodName) (bytes : ByteArray) (maxL : Nat) (ret : Option FieldType) (hh : List (Nat × Nat × Nat × Nat)) (ws : List Cond) (rm : Room) (mc ms n : Nat) : Prop :=
  (rm.cells = mc ∧ rm.slots = ms ∧ rm.frames + 1 ≤ R.frames ∧ 8 + (maxL + 11) + rm.locals ≤ R.locals ∧ (∀ w ∈ ws, ∀ (a' : Array Value) (U : State), s.WarmedH U.vm → w.before a' U = true) ∧ Cond.codeWith y bytes maxL ret hh ∈ ws) ∧
  (Cond.codeWith y bytes maxL ret hh).before args s = true ∧ (Cond.initialized y.cls).before args s = true ∧ (y.cls ≠ "java/lang/invoke/MethodHandle" ∧ y.cls ≠ "java/lang/invoke/VarHandle") ∧
  (∀ sig, parseMethodDescriptor y.desc = some sig → n = sig.parameters.length) ∧ (Cond.methodLink own index y).before args s = true ∧ (Cond.static y).before args s = true
theorem vx_cwSW {own : String} {index maxL mc ms : Nat} {y : MethodName} {bytes : ByteArray} {ret : Option FieldType} {hh : List (Nat × Nat × Nat × Nat)} {Ts ws ws' : List Cond} {rm : Room} (n : Nat) (ht : ∀ w ∈ Ts, w.before args s = true) (hT : GoodIn Ts (va_wsS own index y ws)) (hw : ws = Cond.codeWith y bytes maxL ret hh :: ws') (hrc : rm.cells = mc) (hrs : rm.slots = ms)
    (hd : y.cls ≠ "java/lang/invoke/MethodHandle" ∧ y.cls ≠ "java/lang/invoke/VarHandle" ∧ (parseMethodDescriptor y.desc).map (fun d => d.parameters.length) = some n) (hR : rm.frames + 1 ≤ R.frames ∧ 8 + (maxL + 11) + rm.locals ≤ R.locals) :
    vx_CSW R s args own index y bytes maxL ret hh ws rm mc ms n := by
  have ok : ∀ w ∈ va_wsS own index y ws, w.before args s = true := fun w h => ht w (hT w h).1
  have hG : GoodIn Ts ws := fun w h => hT w (by unfold va_wsS; exact List.mem_append_right _ h)
  have hc : Cond.codeWith y bytes maxL ret hh ∈ ws := by rw [hw]; exact List.mem_cons_self
  refine ⟨⟨hrc, hrs, hR.1, hR.2, pay_in ht hG, hc⟩, ht _ (hG _ hc).1, ok _ (by simp [va_wsS]), ⟨hd.1, hd.2.1⟩, fun sig h => ?_, ok _ (by simp [va_wsS]), ok _ (by simp [va_wsS])⟩
  have h2 := hd.2.2
  rw [h] at h2
  exact (Option.some.inj h2).symm
theorem vx_callSW (X : Stand p l e R s m args below meth c T locs cells slots) (hexec : p.tables.exec = Jvm.exec) {own : String} {index : Nat} {y : MethodName} {bytes : ByteArray} {maxL : Nat} {ret : Option FieldType} {hh : List (Nat × Nat × Nat × Nat)}
    (hown : s.vm.findClass own = some m.cls) (hlink : (Cond.methodLink own index y).before args s = true) (hstat : (Cond.static y).before args s = true) (hinit : (Cond.initialized y.cls).before args s = true)
    (hcode : (Cond.codeWith y bytes maxL ret hh).before args s = true) (hy : y.cls ≠ "java/lang/invoke/MethodHandle" ∧ y.cls ≠ "java/lang/invoke/VarHandle")
    {W9 : Nat} {Pre : Pt → Array Value → Prop} {Post : Pt → Array Value → Option Value → Pt → Prop} (hK : Back l R p e below s args y 3 W9 Pre Post)
    {g : JFrame} (hg : g.method = m) (hsize : g.locals.size = c.maxLocals) {argsL rest : List Value} (hlen : ∀ sig, parseMethodDescriptor y.desc = some sig → argsL.length = sig.parameters.length)
    (hstack : g.stack = argsL.reverse ++ rest) (hW : 2 * g.monitorRoom + (rest.map fun v => v.category).sum ≤ W9) (hdg : decode c.code g.pc = .ok (.invokestatic index, 3))
    (hpre : ∀ vm₁, s.WarmedH vm₁ → Pre ⟨T.setVm vm₁, locs, cells, slots⟩ argsL.toArray) :
    ∃ (v : Option Value) (vm₁ : Vm) (B : Pt), s.WarmedH vm₁ ∧ Stand p l e R s m args below meth c B.U B.locs B.cells B.slots ∧ Post ⟨T.setVm vm₁, locs, cells, slots⟩ argsL.toArray v B ∧
      ∀ target, Steps p.tables e below (B.U.setTop { g with pc := g.pc + 3, stack := v.toList ++ rest }) target → Steps p.tables e below (T.setTop g) target := by
  obtain ⟨mk, methM, cM, hnamed, hmethM, -, -, -, -, -, -, hsigM⟩ := Cond.codeWith_spec hcode
  have hstatic : methM.isStatic = true := Cond.static_spec hnamed hmethM hstat
  obtain ⟨kP, hkP, -⟩ := className_of_methodNamed hnamed
  have hinitP : kP.init = .initialized := Cond.initialized_spec (findClass_of_methodNamed hnamed) hkP hinit
  obtain ⟨vm₁, X₁, hstep₁⟩ := X.invokestatic hexec hown hlink hnamed hmethM hstatic hkP hinitP hy (g := g) hg (argsL := argsL) (rest := rest) (hlen _ hsigM) hstack hdg
  obtain ⟨v, B, X', hpost, hsteps⟩ := hK m meth c ⟨T.setVm vm₁, locs, cells, slots⟩ { g with stack := rest } (.invokestatic index) mk argsL.toArray X₁ hg hsize hdg hW (X₁.named hnamed) (hpre vm₁ X₁.warmed)
  exact ⟨v, vm₁, B, X₁.warmed, X', hpost, fun target h => hstep₁ _ fun acts => by rw [doInvoke_state]; exact hsteps.trans h⟩
theorem vx_runSW {y : MethodName} {bytes cc : ByteArray} {maxL nL mc ms n index : Nat} {ret : Option FieldType} {hh : List (Nat × Nat × Nat × Nat)} {ws : List Cond} {rm : Room} {Pc : Array Value → State → Prop} {Qc : Array Value → State → Outcome → State → Prop} {free : Addr → Prop} {Ts : List Cond} {own : String} {As rest : List Value} {g : JFrame}
    (S : CallFix p m c cc nL s args Ts own) (hM : Met l y ws rm Pc Qc mc ms free) (cw : vx_CSW R s args own index y bytes maxL ret hh ws rm mc ms n) (hp : PreS s H Pc As)
    (hg : g.method = m) (hn : As.length = n) (hsize : g.locals.size = nL) (hstack : g.stack = As.reverse ++ rest) (hW : 2 * g.monitorRoom + (rest.map fun v => v.category).sum ≤ 8) (hdg : decode cc g.pc = .ok (.invokestatic index, 3)) (hf : cells + mc ≤ R.cells ∧ slots + ms ≤ R.slots) :
    va_Run p l e R s m args below meth c H locs cells slots mc ms g rest (Qc As.toArray) (free) := by
  obtain ⟨⟨hrc, hrs, hfr, hlo, hws, hcw⟩, hcode, hini, hy, hlen, hl, hstt⟩ := cw
  have hK : Back l R p e below s args y 3 8 (PreOf R mc ms Pc) (PostOf Qc mc ms free) := va_backW (hh := hh) (bytes := bytes) (maxL := maxL) (ret := ret) hM hp.1 hrc hrs hfr hlo hws hcw (fun a' U hW => word_at hW (Or.inl (by first | rfl | simp [Cond.onTables, Cond.keeps, Cond.steady])) hini)
  obtain ⟨hx, hb, hml, ho, -⟩ := S
  intro T hT X
  obtain ⟨v, vm₁, ⟨U', l2, c2, s2⟩, hW₁, X', ⟨g', mk, t, L, e1, e2, hq, h1, hL, h2, h3⟩, st⟩ := vx_callSW X hx (hh := hh) (bytes := bytes) (maxL := maxL) (ret := ret) ho hl hstt hini hcode hy hK hg (hsize.trans hml.symm) (argsL := As) (rest := rest) (fun sig h => hn.trans (hlen sig h)) hstack hW (by rw [hb]; exact hdg)
    (fun vm₁ hW₁ => ⟨hf.1, hf.2, hp.2 (T.setVm vm₁) hT hW₁⟩)
  dsimp only [Pt.U, Pt.locs, Pt.cells, Pt.slots] at X' e1 e2 h1 h2 h3 st
  subst h1; subst h2; subst h3
  exact ⟨v, (T.setVm vm₁).calling g' mk As.toArray, t, U', L, hT, X', hL, e1, e2, hq, st⟩
/-- a thing of a world lies in the heap -/
theorem vx_lt {D : va_G} {cl : List vw_C} {ws : va_W} {H1 : Heap} (h : va_P D cl ws H1) {k : Nat} {q : Nat × va_E} (hk : ws[k]? = some q) : q.1 < H1.size := (h k q hk).lt
end VXS
/-! ===== END ===== -/
/-! ===== BEGIN methods with a table of their own: called by a name, returning or throwing ===== -/
section VXH
/-! vx_backW, vx_callVX, vx_callSX, vx_callVW, vx_runVW, vx_runVX, vx_runSX, vx_ofWH follow the same proofs as their sisters above (Free/Laws.lean, Shelf42/LK1.lean); vx_outP calls Shelf42/NT130.lean (outThrough). -/
section
variable {l : Launch} {R : Room} {p : Program} {e : Env} {below : List Frame} {s : State} {sargs : Array Value} {y : MethodName} {len W9 : Nat}
theorem vx_backW {ws : List Cond} {rm : Room} {Pc : Array Value → State → Prop} {Qc : Array Value → State → Outcome → State → Prop} {XC : String → State → State → Prop} {mc ms : Nat} {free : Addr → Prop} {bytes : ByteArray} {maxL : Nat} {ret : Option FieldType} {hh : List (Nat × Nat × Nat × Nat)}
    (hM : vx_Met l y ws rm Pc Qc XC mc ms free) (hblind : FrameBlind Pc) (hrc : rm.cells = mc) (hrs : rm.slots = ms)
    (hframes : rm.frames + 1 ≤ R.frames) (hlocals : W9 + (maxL + 11) + rm.locals ≤ R.locals)
    (hws : ∀ w ∈ ws, ∀ a' U, s.WarmedH U.vm → w.before a' U = true) (hcode : Cond.codeWith y bytes maxL ret hh ∈ ws) (hinit : ∀ a' U, s.WarmedH U.vm → (Cond.initialized y.cls).before a' U = true) :
    vx_Back l R p e below s sargs y len W9 (PreOf R mc ms Pc) (PostOf Qc mc ms free) (vx_Post XC mc ms free) := by
  intro m meth c A g ig mk a X hg hsize hdg hW hn hp
  have h1 : (headSpec ws rm).pre.before a A.U = true := atoms_intro fun w hw => hws w hw _ _ X.warmed
  have h2 : (Cond.codeWith y bytes maxL ret hh).before a A.U = true := hws _ hcode _ _ X.warmed
  have h3 : (Cond.initialized y.cls).before a A.U = true := hinit _ _ X.warmed
  have h4 : A.cells + (headSpec ws rm).room.cells ≤ R.cells := by rw [show (headSpec ws rm).room.cells = mc from hrc]; exact hp.1
  have h5 : A.slots + (headSpec ws rm).room.slots ≤ R.slots := by rw [show (headSpec ws rm).room.slots = ms from hrs]; exact hp.2.1
  have hPc : Pc a (A.U.calling g mk a) := hblind _ _ _ _ hp.2.2
  obtain ⟨U, Ls, c0, s0⟩ := A
  dsimp only [Pt.U, Pt.locs, Pt.cells, Pt.slots] at h1 h2 h3 h4 h5 X hn hPc ⊢
  obtain ⟨m9, methY, cY, hn9, hmY, hcY, -, hlY, -⟩ := Cond.codeWith_spec h2
  cases Option.some.inj (hn9.symm.trans hn)
  obtain ⟨kY, hkY, -⟩ := className_of_methodNamed hn
  have hinitY : kY.init = .initialized := Cond.initialized_spec (findClass_of_methodNamed hn) hkY h3
  have h : At U g.method c below := by rw [hg]; exact X.here
  have hlocals9 : W9 + (maxL + 11) + (headSpec ws rm).room.locals ≤ R.locals := hlocals
  have happ : (headSpec ws rm).appliesLoose y e.platform (U.calling g mk a) = true :=
    Spec.appliesLoose_calling (g := g) h hdg hn hkY hinitY
      (X.room_calling (g := g) (R' := (headSpec ws rm).room) hsize hmY hcY hframes (by rw [hlY]; omega) h4 h5) h1
  obtain ⟨mid, hmid⟩ := h.above
  have hfr : (U.setTop g).frames = (.java g :: mid) ++ below := by rw [State.frames_setTop' g h.top, hmid]; rfl
  obtain ⟨o, s₂, hsteps, -, hend, hq⟩ := Steps.callFree hM p X.admits X.cas X.clock (acts := []) hfr happ hPc trivial
  have hq' : vx_Q Qc XC mc ms free a (U.calling g mk a) o s₂ := hq
  rw [State.frames_setTop' g h.top] at hend
  obtain ⟨g₀, hg0⟩ := Option.isSome_iff_exists.mp h.top
  obtain ⟨r, hr⟩ := State.topJava?_eq_some.mp hg0
  have hr' : (({ U with heap := s₂.heap, slotsUsed := s₂.slotsUsed } : State).setVm s₂.vm).frames = .java g₀ :: r := hr
  rcases hq' with ⟨hqc, L, hfe, hL⟩ | ⟨q, rfl, E, ce, L, hx, hce, hcv, hcl, hW₂, hsm, hL⟩
  · obtain ⟨⟨v, rfl⟩, hW₂, e2, q2, q3, q4, q5, q6⟩ := id hfe
    have e3 : s₂ = ({ (U.calling g mk a).setFrames s₂.frames with heap := s₂.heap, slotsUsed := s₂.slotsUsed } : State).setVm s₂.vm := by
      have : s₂ = ({ s₂ with vm := (U.calling g mk a).vm } : State).setVm s₂.vm := rfl
      rw [e2] at this
      exact this
    obtain ⟨c₂, i₂, len₂, hc₂, hd₂, hf₂⟩ := hend
    have hW' : U.WarmedH s₂.vm := hW₂
    have hcc : c₂ = c := by
      have h1 : s₂.code? g.method = U.code? g.method := by
        rw [State.code?_eq, State.code?_eq, hW'.alike.method?]
      exact Option.some.inj (hc₂.symm.trans (h1.trans h.code))
    subst hcc
    have hlen : len₂ = len := by rw [hdg] at hd₂; cases hd₂; rfl
    subst hlen
    have hs₂ : s₂ = (({ U with heap := s₂.heap, slotsUsed := s₂.slotsUsed } : State).setVm s₂.vm).setTop { g with pc := g.pc + len₂, stack := v.toList ++ g.stack } := by
      refine e3.trans ?_
      rw [hf₂, State.calling_eq h.top, State.setFrames_setFrames, State.setTop_of_frames _ hr', hr]
      rfl
    have hsame : U.sameButNew ({ U with heap := s₂.heap, slotsUsed := s₂.slotsUsed } : State) L mc ms := by
      refine ⟨?_, q2, q3, q4, q5, q6⟩
      obtain ⟨t, ht, -⟩ := State.frames_cons hr
      show ({ U with heap := s₂.heap, slotsUsed := s₂.slotsUsed } : State) = { U.setFrames U.frames with heap := s₂.heap, slotsUsed := s₂.slotsUsed }
      rw [State.setFrames_self ht]
    subst hg
    refine Or.inl ⟨v, ⟨(({ U with heap := s₂.heap, slotsUsed := s₂.slotsUsed } : State).setVm s₂.vm), Ls ++ L, c0 + mc, s0 + ms⟩,
      ⟨X.admits, X.cas, X.clock, X.frames, X.room, X.hears, X.method, X.code, (X.here.setHeapUsed s₂.heap s₂.slotsUsed).setVm hW'.alike, X.tail, State.WarmedH.trans X.warmed hW', X.limits, X.bytes, X.same.trans (hsame.setVm s.vm)⟩,
      ⟨g, mk, s₂, L, rfl, rfl, hqc, rfl, hL, rfl, rfl⟩, ?_⟩
    show Steps p.tables e below _ ((({ U with heap := s₂.heap, slotsUsed := s₂.slotsUsed } : State).setVm s₂.vm).setTop { g with pc := g.pc + len₂, stack := v.toList ++ g.stack })
    rw [← hs₂]
    exact hsteps
  · obtain ⟨e2, q2, q3, q4, q5, q6⟩ := id hsm
    have e3 : s₂ = ({ (U.calling g mk a).setFrames s₂.frames with heap := s₂.heap, slotsUsed := s₂.slotsUsed } : State).setVm s₂.vm := by
      have : s₂ = ({ s₂ with vm := (U.calling g mk a).vm } : State).setVm s₂.vm := rfl
      rw [e2] at this
      exact this
    have hf₂ : s₂.frames = .throwing q :: .java g :: U.frames.tail := hend
    have hW' : U.WarmedH s₂.vm := hW₂
    have hs₂ : s₂ = ((({ U with heap := s₂.heap, slotsUsed := s₂.slotsUsed } : State).setVm s₂.vm).setTop g).pushFrame (.throwing q) := by
      refine e3.trans ?_
      rw [hf₂, State.calling_eq h.top, State.setFrames_setFrames, State.pushFrame, State.frames_setTop _ hr', State.setTop_of_frames _ hr', State.setFrames_setFrames, hr]
      rfl
    have hsame : U.sameButNew ({ U with heap := s₂.heap, slotsUsed := s₂.slotsUsed } : State) L mc ms := by
      refine ⟨?_, q2, q3, q4, q5, q6⟩
      obtain ⟨t, ht, -⟩ := State.frames_cons hr
      show ({ U with heap := s₂.heap, slotsUsed := s₂.slotsUsed } : State) = { U.setFrames U.frames with heap := s₂.heap, slotsUsed := s₂.slotsUsed }
      rw [State.setFrames_self ht]
    subst hg
    refine Or.inr ⟨q, ⟨(({ U with heap := s₂.heap, slotsUsed := s₂.slotsUsed } : State).setVm s₂.vm), Ls ++ L, c0 + mc, s0 + ms⟩,
      ⟨X.admits, X.cas, X.clock, X.frames, X.room, X.hears, X.method, X.code, (X.here.setHeapUsed s₂.heap s₂.slotsUsed).setVm hW'.alike, X.tail, State.WarmedH.trans X.warmed hW', X.limits, X.bytes, X.same.trans (hsame.setVm s.vm)⟩,
      ⟨g, mk, s₂, L, E, ce, rfl, rfl, hx, hce, hcv, hcl, rfl, hL, rfl, rfl⟩, ?_⟩
    show Steps p.tables e below _ (((({ U with heap := s₂.heap, slotsUsed := s₂.slotsUsed } : State).setVm s₂.vm).setTop g).pushFrame (.throwing q))
    rw [← hs₂]
    exact hsteps
end
variable {p : Program} {l : Launch} {e : Env} {R : Room} {s : State} {m : MethodId} {args : Array Value} {below : List Frame} {meth : Method} {c : Code} {T : State} {H : Heap} {locs : List Loc} {cells slots : Nat}
theorem vx_callVX (X : Stand p l e R s m args below meth c T locs cells slots) (hexec : p.tables.exec = Jvm.exec) {own C : String} {index : Nat} {y : MethodName} {bytes : ByteArray} {maxL : Nat} {ret : Option FieldType} {hh : List (Nat × Nat × Nat × Nat)}
    (hown : s.vm.findClass own = some m.cls) (hlink : (Cond.methodLink own index y).before args s = true) (hinst : (Cond.instanceMethod y).before args s = true) (hsel : (Cond.selects C y y).before args s = true)
    (hcode : (Cond.codeWith y bytes maxL ret hh).before args s = true) (hy : y.cls ≠ "java/lang/invoke/MethodHandle" ∧ y.cls ≠ "java/lang/invoke/VarHandle")
    {W9 : Nat} {Pre : Pt → Array Value → Prop} {Post : Pt → Array Value → Option Value → Pt → Prop} {PostX : Pt → Array Value → Addr → Pt → Prop} (hK : vx_Back l R p e below s args y 3 W9 Pre Post PostX)
    {b : Addr} {cellB : Cell} (hcell : T.heap[b]? = some cellB) (hobj : cellB.vm.isStatics = false) (hcls : s.vm.findClass C = some cellB.cls)
    {g : JFrame} (hg : g.method = m) (hsize : g.locals.size = c.maxLocals) {argsL rest : List Value} (hlen : ∀ sig, parseMethodDescriptor y.desc = some sig → argsL.length = sig.parameters.length)
    (hstack : g.stack = argsL.reverse ++ .ref b :: rest) (hW : 2 * g.monitorRoom + (rest.map fun v => v.category).sum ≤ W9) (hdg : decode c.code g.pc = .ok (.invokevirtual index, 3))
    (hpre : ∀ vm₁, s.WarmedH vm₁ → Pre ⟨T.setVm vm₁, locs, cells, slots⟩ (Value.ref b :: argsL).toArray) :
    (∃ (v : Option Value) (vm₁ : Vm) (B : Pt), s.WarmedH vm₁ ∧ Stand p l e R s m args below meth c B.U B.locs B.cells B.slots ∧ Post ⟨T.setVm vm₁, locs, cells, slots⟩ (Value.ref b :: argsL).toArray v B ∧
      ∀ target, Steps p.tables e below (B.U.setTop { g with pc := g.pc + 3, stack := v.toList ++ rest }) target → Steps p.tables e below (T.setTop g) target) ∨
    (∃ (q : Addr) (vm₁ : Vm) (B : Pt), s.WarmedH vm₁ ∧ Stand p l e R s m args below meth c B.U B.locs B.cells B.slots ∧ PostX ⟨T.setVm vm₁, locs, cells, slots⟩ (Value.ref b :: argsL).toArray q B ∧
      Steps p.tables e below (T.setTop g) ((B.U.setTop { g with stack := rest }).pushFrame (.throwing q))) := by
  obtain ⟨mk, methM, hnamed, hmethM, hstM, habM⟩ := Cond.instanceMethod_spec hinst
  obtain ⟨m8, methM', cM, hn8, hmethM', -, -, -, -, -, -, hsigM⟩ := Cond.codeWith_spec hcode
  cases Option.some.inj (hn8.symm.trans hnamed)
  cases hmethM.symm.trans hmethM'
  obtain ⟨c2, r2, m2, q1, q2, q3, q4, kP, hkP, hkPi⟩ := Cond.selects_spec hsel
  cases hcls.symm.trans q1
  cases (State.methodFound?_of_named hnamed hy).symm.trans q2
  cases hnamed.symm.trans q3
  have hselP : selectMethod e.platform s.vm cellB.cls mk = .method mk := by rw [Launch.admits_selectMethod X.admits]; exact q4
  obtain ⟨vm₁, X₁, hstep₁⟩ := X.invokevirtual hexec hown hlink hnamed hmethM hstM hkP hkPi hy (a := b) (cell := cellB) hcell
    (fun z h => by rw [h] at hobj; cases hobj) hselP hmethM habM hkP hkPi (g := g) hg (argsL := argsL) (rest := rest) (hlen _ hsigM) hstack hdg
  rcases hK m meth c ⟨T.setVm vm₁, locs, cells, slots⟩ { g with stack := rest } (.invokevirtual index) mk (Value.ref b :: argsL).toArray X₁ hg hsize hdg hW (X₁.named hnamed) (hpre vm₁ X₁.warmed) with ⟨v, B, X', hpost, hsteps⟩ | ⟨q, B, X', hpost, hsteps⟩
  · exact Or.inl ⟨v, vm₁, B, X₁.warmed, X', hpost, fun target h => hstep₁ _ fun acts => by rw [doInvoke_state]; exact hsteps.trans h⟩
  · exact Or.inr ⟨q, vm₁, B, X₁.warmed, X', hpost, hstep₁ _ fun acts => by rw [doInvoke_state]; exact hsteps⟩
theorem vx_callSX (X : Stand p l e R s m args below meth c T locs cells slots) (hexec : p.tables.exec = Jvm.exec) {own : String} {index : Nat} {y : MethodName} {bytes : ByteArray} {maxL : Nat} {ret : Option FieldType} {hh : List (Nat × Nat × Nat × Nat)}
    (hown : s.vm.findClass own = some m.cls) (hlink : (Cond.methodLink own index y).before args s = true) (hstat : (Cond.static y).before args s = true) (hinit : (Cond.initialized y.cls).before args s = true)
    (hcode : (Cond.codeWith y bytes maxL ret hh).before args s = true) (hy : y.cls ≠ "java/lang/invoke/MethodHandle" ∧ y.cls ≠ "java/lang/invoke/VarHandle")
    {W9 : Nat} {Pre : Pt → Array Value → Prop} {Post : Pt → Array Value → Option Value → Pt → Prop} {PostX : Pt → Array Value → Addr → Pt → Prop} (hK : vx_Back l R p e below s args y 3 W9 Pre Post PostX)
    {g : JFrame} (hg : g.method = m) (hsize : g.locals.size = c.maxLocals) {argsL rest : List Value} (hlen : ∀ sig, parseMethodDescriptor y.desc = some sig → argsL.length = sig.parameters.length)
    (hstack : g.stack = argsL.reverse ++ rest) (hW : 2 * g.monitorRoom + (rest.map fun v => v.category).sum ≤ W9) (hdg : decode c.code g.pc = .ok (.invokestatic index, 3))
    (hpre : ∀ vm₁, s.WarmedH vm₁ → Pre ⟨T.setVm vm₁, locs, cells, slots⟩ argsL.toArray) :
    (∃ (v : Option Value) (vm₁ : Vm) (B : Pt), s.WarmedH vm₁ ∧ Stand p l e R s m args below meth c B.U B.locs B.cells B.slots ∧ Post ⟨T.setVm vm₁, locs, cells, slots⟩ argsL.toArray v B ∧
      ∀ target, Steps p.tables e below (B.U.setTop { g with pc := g.pc + 3, stack := v.toList ++ rest }) target → Steps p.tables e below (T.setTop g) target) ∨
    (∃ (q : Addr) (vm₁ : Vm) (B : Pt), s.WarmedH vm₁ ∧ Stand p l e R s m args below meth c B.U B.locs B.cells B.slots ∧ PostX ⟨T.setVm vm₁, locs, cells, slots⟩ argsL.toArray q B ∧
      Steps p.tables e below (T.setTop g) ((B.U.setTop { g with stack := rest }).pushFrame (.throwing q))) := by
  obtain ⟨mk, methM, cM, hnamed, hmethM, -, -, -, -, -, -, hsigM⟩ := Cond.codeWith_spec hcode
  have hstatic : methM.isStatic = true := Cond.static_spec hnamed hmethM hstat
  obtain ⟨kP, hkP, -⟩ := className_of_methodNamed hnamed
  have hinitP : kP.init = .initialized := Cond.initialized_spec (findClass_of_methodNamed hnamed) hkP hinit
  obtain ⟨vm₁, X₁, hstep₁⟩ := X.invokestatic hexec hown hlink hnamed hmethM hstatic hkP hinitP hy (g := g) hg (argsL := argsL) (rest := rest) (hlen _ hsigM) hstack hdg
  rcases hK m meth c ⟨T.setVm vm₁, locs, cells, slots⟩ { g with stack := rest } (.invokestatic index) mk argsL.toArray X₁ hg hsize hdg hW (X₁.named hnamed) (hpre vm₁ X₁.warmed) with ⟨v, B, X', hpost, hsteps⟩ | ⟨q, B, X', hpost, hsteps⟩
  · exact Or.inl ⟨v, vm₁, B, X₁.warmed, X', hpost, fun target h => hstep₁ _ fun acts => by rw [doInvoke_state]; exact hsteps.trans h⟩
  · exact Or.inr ⟨q, vm₁, B, X₁.warmed, X', hpost, hstep₁ _ fun acts => by rw [doInvoke_state]; exact hsteps⟩
theorem vx_callVW (X : Stand p l e R s m args below meth c T locs cells slots) (hexec : p.tables.exec = Jvm.exec) {own C : String} {index : Nat} {y : MethodName} {bytes : ByteArray} {maxL : Nat} {ret : Option FieldType} {hh : List (Nat × Nat × Nat × Nat)}
    (hown : s.vm.findClass own = some m.cls) (hlink : (Cond.methodLink own index y).before args s = true) (hinst : (Cond.instanceMethod y).before args s = true) (hsel : (Cond.selects C y y).before args s = true)
    (hcode : (Cond.codeWith y bytes maxL ret hh).before args s = true) (hy : y.cls ≠ "java/lang/invoke/MethodHandle" ∧ y.cls ≠ "java/lang/invoke/VarHandle")
    {W9 : Nat} {Pre : Pt → Array Value → Prop} {Post : Pt → Array Value → Option Value → Pt → Prop} (hK : Back l R p e below s args y 3 W9 Pre Post)
    {b : Addr} {cellB : Cell} (hcell : T.heap[b]? = some cellB) (hobj : cellB.vm.isStatics = false) (hcls : s.vm.findClass C = some cellB.cls)
    {g : JFrame} (hg : g.method = m) (hsize : g.locals.size = c.maxLocals) {argsL rest : List Value} (hlen : ∀ sig, parseMethodDescriptor y.desc = some sig → argsL.length = sig.parameters.length)
    (hstack : g.stack = argsL.reverse ++ .ref b :: rest) (hW : 2 * g.monitorRoom + (rest.map fun v => v.category).sum ≤ W9) (hdg : decode c.code g.pc = .ok (.invokevirtual index, 3))
    (hpre : ∀ vm₁, s.WarmedH vm₁ → Pre ⟨T.setVm vm₁, locs, cells, slots⟩ (Value.ref b :: argsL).toArray) :
    ∃ (v : Option Value) (vm₁ : Vm) (B : Pt), s.WarmedH vm₁ ∧ Stand p l e R s m args below meth c B.U B.locs B.cells B.slots ∧ Post ⟨T.setVm vm₁, locs, cells, slots⟩ (Value.ref b :: argsL).toArray v B ∧
      ∀ target, Steps p.tables e below (B.U.setTop { g with pc := g.pc + 3, stack := v.toList ++ rest }) target → Steps p.tables e below (T.setTop g) target := by
  obtain ⟨mk, methM, hnamed, hmethM, hstM, habM⟩ := Cond.instanceMethod_spec hinst
  obtain ⟨m8, methM', cM, hn8, hmethM', -, -, -, -, -, -, hsigM⟩ := Cond.codeWith_spec hcode
  cases Option.some.inj (hn8.symm.trans hnamed)
  cases hmethM.symm.trans hmethM'
  obtain ⟨c2, r2, m2, q1, q2, q3, q4, kP, hkP, hkPi⟩ := Cond.selects_spec hsel
  cases hcls.symm.trans q1
  cases (State.methodFound?_of_named hnamed hy).symm.trans q2
  cases hnamed.symm.trans q3
  have hselP : selectMethod e.platform s.vm cellB.cls mk = .method mk := by rw [Launch.admits_selectMethod X.admits]; exact q4
  obtain ⟨vm₁, X₁, hstep₁⟩ := X.invokevirtual hexec hown hlink hnamed hmethM hstM hkP hkPi hy (a := b) (cell := cellB) hcell
    (fun z h => by rw [h] at hobj; cases hobj) hselP hmethM habM hkP hkPi (g := g) hg (argsL := argsL) (rest := rest) (hlen _ hsigM) hstack hdg
  obtain ⟨v, B, X', hpost, hsteps⟩ := hK m meth c ⟨T.setVm vm₁, locs, cells, slots⟩ { g with stack := rest } (.invokevirtual index) mk (Value.ref b :: argsL).toArray X₁ hg hsize hdg hW (X₁.named hnamed) (hpre vm₁ X₁.warmed)
  exact ⟨v, vm₁, B, X₁.warmed, X', hpost, fun target h => hstep₁ _ fun acts => by rw [doInvoke_state]; exact hsteps.trans h⟩
abbrev vx_CVW (R : Room) (s : State) (args : Array Value) (own C : String) (index : Nat) (y : MethodName) (bytes : ByteArray) (maxL : Nat) (ret : Option FieldType) (hh : List (Nat × Nat × Nat × Nat)) (ws : List Cond) (rm : Room) (mc ms n : Nat) : Prop :=
  (rm.cells = mc ∧ rm.slots = ms ∧ rm.frames + 1 ≤ R.frames ∧ 8 + (maxL + 11) + rm.locals ≤ R.locals ∧ (∀ w ∈ ws, ∀ (a' : Array Value) (U : State), s.WarmedH U.vm → w.before a' U = true) ∧ Cond.codeWith y bytes maxL ret hh ∈ ws) ∧
  (Cond.codeWith y bytes maxL ret hh).before args s = true ∧ (Cond.initialized y.cls).before args s = true ∧ (y.cls ≠ "java/lang/invoke/MethodHandle" ∧ y.cls ≠ "java/lang/invoke/VarHandle") ∧
  (∀ sig, parseMethodDescriptor y.desc = some sig → n = sig.parameters.length) ∧ (Cond.methodLink own index y).before args s = true ∧ (Cond.instanceMethod y).before args s = true ∧ (Cond.selects C y y).before args s = true
theorem vx_cwVW {own C : String} {index maxL mc ms : Nat} {y : MethodName} {bytes : ByteArray} {ret : Option FieldType} {hh : List (Nat × Nat × Nat × Nat)} {Ts ws ws' : List Cond} {rm : Room} (n : Nat) (ht : ∀ w ∈ Ts, w.before args s = true) (hT : GoodIn Ts (wsV own index C y ws)) (hw : ws = Cond.codeWith y bytes maxL ret hh :: ws') (hrc : rm.cells = mc) (hrs : rm.slots = ms)
    (hd : y.cls = C ∧ y.cls ≠ "java/lang/invoke/MethodHandle" ∧ y.cls ≠ "java/lang/invoke/VarHandle" ∧ (parseMethodDescriptor y.desc).map (fun d => d.parameters.length) = some n) (hR : rm.frames + 1 ≤ R.frames ∧ 8 + (maxL + 11) + rm.locals ≤ R.locals) :
    vx_CVW R s args own C index y bytes maxL ret hh ws rm mc ms n := by
  obtain ⟨hC, hd⟩ := hd
  subst hC
  have ok : ∀ w ∈ wsV own index y.cls y ws, w.before args s = true := fun w h => ht w (hT w h).1
  have hG : GoodIn Ts ws := fun w h => hT w (by unfold wsV; exact List.mem_append_right _ h)
  have hc : Cond.codeWith y bytes maxL ret hh ∈ ws := by rw [hw]; exact List.mem_cons_self
  refine ⟨⟨hrc, hrs, hR.1, hR.2, pay_in ht hG, hc⟩, ht _ (hG _ hc).1, ok _ (by simp [wsV]), ⟨hd.1, hd.2.1⟩, fun sig h => ?_, ok _ (by simp [wsV]), ok _ (by simp [wsV]), ok _ (by simp [wsV])⟩
  have h2 := hd.2.2
  rw [h] at h2
  exact (Option.some.inj h2).symm
theorem vx_runVW {y : MethodName} {bytes cc : ByteArray} {maxL nL mc ms n index : Nat} {ret : Option FieldType} {hh : List (Nat × Nat × Nat × Nat)} {ws : List Cond} {rm : Room} {Pc : Array Value → State → Prop} {Qc : Array Value → State → Outcome → State → Prop} {free : Addr → Prop} {Ts : List Cond} {own C : String} {b : Addr} {As rest : List Value} {g : JFrame}
    (S : CallFix p m c cc nL s args Ts own) (hM : Met l y ws rm Pc Qc mc ms free) (cw : vx_CVW R s args own C index y bytes maxL ret hh ws rm mc ms n) (hp : PreV s H C b Pc As)
    (hg : g.method = m) (hn : As.length = n) (hsize : g.locals.size = nL) (hstack : g.stack = As.reverse ++ .ref b :: rest) (hW : 2 * g.monitorRoom + (rest.map fun v => v.category).sum ≤ 8) (hdg : decode cc g.pc = .ok (.invokevirtual index, 3)) (hf : cells + mc ≤ R.cells ∧ slots + ms ≤ R.slots) :
    va_Run p l e R s m args below meth c H locs cells slots mc ms g rest (Qc (Value.ref b :: As).toArray) free := by
  obtain ⟨⟨hrc, hrs, hfr, hlo, hws, hcw⟩, hcode, hini, hy, hlen, hl, hin, hse⟩ := cw
  have hK : Back l R p e below s args y 3 8 (PreOf R mc ms Pc) (PostOf Qc mc ms free) := va_backW (hh := hh) (bytes := bytes) (maxL := maxL) (ret := ret) hM hp.1 hrc hrs hfr hlo hws hcw (fun a' U hW => word_at hW (Or.inl (by first | rfl | simp [Cond.onTables, Cond.keeps, Cond.steady])) hini)
  obtain ⟨hx, hb, hml, ho, -⟩ := S
  obtain ⟨-, ⟨cellB, hcB, hoB, hclB⟩, hPc⟩ := hp
  intro T hT X
  obtain ⟨v, vm₁, ⟨U', l2, c2, s2⟩, hW₁, X', ⟨g', mk, t, L, e1, e2, hq, h1, hL, h2, h3⟩, st⟩ := vx_callVW X hx (C := C) (hh := hh) (bytes := bytes) (maxL := maxL) (ret := ret) ho hl hin hse hcode hy hK (by rw [hT]; exact hcB) hoB hclB hg (hsize.trans hml.symm) (argsL := As) (rest := rest) (fun sig h => hn.trans (hlen sig h)) hstack hW (by rw [hb]; exact hdg)
    (fun vm₁ hW₁ => ⟨hf.1, hf.2, hPc (T.setVm vm₁) hT hW₁⟩)
  dsimp only [Pt.U, Pt.locs, Pt.cells, Pt.slots] at X' e1 e2 h1 h2 h3 st
  subst h1; subst h2; subst h3
  exact ⟨v, (T.setVm vm₁).calling g' mk (Value.ref b :: As).toArray, t, U', L, hT, X', hL, e1, e2, hq, st⟩
section
variable {y : MethodName} {bytes cc : ByteArray} {maxL nL mc ms n index : Nat} {ret : Option FieldType} {ws : List Cond} {rm : Room} {Pc : Array Value → State → Prop} {Qc : Array Value → State → Outcome → State → Prop} {XC : String → State → State → Prop} {free : Addr → Prop} {Ts : List Cond} {own C : String} {b : Addr} {As rest : List Value} {g : JFrame}
theorem vx_runVX {hh : List (Nat × Nat × Nat × Nat)} (S : CallFix p m c cc nL s args Ts own) (hM : vx_Met l y ws rm Pc Qc XC mc ms free) (cw : vx_CVW R s args own C index y bytes maxL ret hh ws rm mc ms n) (hp : PreV s H C b Pc As)
    (hg : g.method = m) (hn : As.length = n) (hsize : g.locals.size = nL) (hstack : g.stack = As.reverse ++ .ref b :: rest) (hW : 2 * g.monitorRoom + (rest.map fun v => v.category).sum ≤ 8) (hdg : decode cc g.pc = .ok (.invokevirtual index, 3)) (hf : cells + mc ≤ R.cells ∧ slots + ms ≤ R.slots) :
    vx_Run p l e R s m args below meth c H locs cells slots mc ms g rest (Qc (Value.ref b :: As).toArray) XC free := by
  obtain ⟨⟨hrc, hrs, hfr, hlo, hws, hcw⟩, hcode, hini, hy, hlen, hl, hin, hse⟩ := cw
  have hK : vx_Back l R p e below s args y 3 8 (PreOf R mc ms Pc) (PostOf Qc mc ms free) (vx_Post XC mc ms free) := vx_backW (hh := hh) (bytes := bytes) (maxL := maxL) (ret := ret) hM hp.1 hrc hrs hfr hlo hws hcw (fun a' U hW => word_at hW (Or.inl (by first | rfl | simp [Cond.onTables, Cond.keeps, Cond.steady])) hini)
  obtain ⟨hx, hb, hml, ho, -⟩ := S
  obtain ⟨-, ⟨cellB, hcB, hoB, hclB⟩, hPc⟩ := hp
  intro T hT X
  rcases vx_callVX X hx (C := C) (hh := hh) (bytes := bytes) (maxL := maxL) (ret := ret) ho hl hin hse hcode hy hK (by rw [hT]; exact hcB) hoB hclB hg (hsize.trans hml.symm) (argsL := As) (rest := rest) (fun sig h => hn.trans (hlen sig h)) hstack hW (by rw [hb]; exact hdg)
    (fun vm₁ hW₁ => ⟨hf.1, hf.2, hPc (T.setVm vm₁) hT hW₁⟩) with ⟨v, vm₁, ⟨U', l2, c2, s2⟩, hW₁, X', ⟨g', mk, t, L, e1, e2, hq, h1, hL, h2, h3⟩, st⟩ | ⟨q, vm₁, ⟨U', l2, c2, s2⟩, hW₁, X', ⟨g', mk, t, L, E, ce, e1, e2, hq, hce, hcv, hcl, h1, hL, h2, h3⟩, st⟩
  · dsimp only [Pt.U, Pt.locs, Pt.cells, Pt.slots] at X' e1 e2 h1 h2 h3 st
    subst h1; subst h2; subst h3
    exact Or.inl ⟨v, (T.setVm vm₁).calling g' mk (Value.ref b :: As).toArray, t, U', L, hT, X', hL, e1, e2, hq, st⟩
  · dsimp only [Pt.U, Pt.locs, Pt.cells, Pt.slots] at X' e1 e2 h1 h2 h3 st hcl
    subst h1; subst h2; subst h3
    exact Or.inr ⟨q, (T.setVm vm₁).calling g' mk (Value.ref b :: As).toArray, t, U', L, E, ce, hT, X', hL, e1, e2, hq, hce, hcv, vx_cls hW₁ hcl, st⟩
theorem vx_runSX {hh : List (Nat × Nat × Nat × Nat)} (S : CallFix p m c cc nL s args Ts own) (hM : vx_Met l y ws rm Pc Qc XC mc ms free) (cw : vx_CSW R s args own index y bytes maxL ret hh ws rm mc ms n) (hp : PreS s H Pc As)
    (hg : g.method = m) (hn : As.length = n) (hsize : g.locals.size = nL) (hstack : g.stack = As.reverse ++ rest) (hW : 2 * g.monitorRoom + (rest.map fun v => v.category).sum ≤ 8) (hdg : decode cc g.pc = .ok (.invokestatic index, 3)) (hf : cells + mc ≤ R.cells ∧ slots + ms ≤ R.slots) :
    vx_Run p l e R s m args below meth c H locs cells slots mc ms g rest (Qc As.toArray) XC free := by
  obtain ⟨⟨hrc, hrs, hfr, hlo, hws, hcw⟩, hcode, hini, hy, hlen, hl, hstt⟩ := cw
  have hK : vx_Back l R p e below s args y 3 8 (PreOf R mc ms Pc) (PostOf Qc mc ms free) (vx_Post XC mc ms free) := vx_backW (hh := hh) (bytes := bytes) (maxL := maxL) (ret := ret) hM hp.1 hrc hrs hfr hlo hws hcw (fun a' U hW => word_at hW (Or.inl (by first | rfl | simp [Cond.onTables, Cond.keeps, Cond.steady])) hini)
  obtain ⟨hx, hb, hml, ho, -⟩ := S
  intro T hT X
  rcases vx_callSX X hx (hh := hh) (bytes := bytes) (maxL := maxL) (ret := ret) ho hl hstt hini hcode hy hK hg (hsize.trans hml.symm) (argsL := As) (rest := rest) (fun sig h => hn.trans (hlen sig h)) hstack hW (by rw [hb]; exact hdg)
    (fun vm₁ hW₁ => ⟨hf.1, hf.2, hp.2 (T.setVm vm₁) hT hW₁⟩) with ⟨v, vm₁, ⟨U', l2, c2, s2⟩, hW₁, X', ⟨g', mk, t, L, e1, e2, hq, h1, hL, h2, h3⟩, st⟩ | ⟨q, vm₁, ⟨U', l2, c2, s2⟩, hW₁, X', ⟨g', mk, t, L, E, ce, e1, e2, hq, hce, hcv, hcl, h1, hL, h2, h3⟩, st⟩
  · dsimp only [Pt.U, Pt.locs, Pt.cells, Pt.slots] at X' e1 e2 h1 h2 h3 st
    subst h1; subst h2; subst h3
    exact Or.inl ⟨v, (T.setVm vm₁).calling g' mk As.toArray, t, U', L, hT, X', hL, e1, e2, hq, st⟩
  · dsimp only [Pt.U, Pt.locs, Pt.cells, Pt.slots] at X' e1 e2 h1 h2 h3 st hcl
    subst h1; subst h2; subst h3
    exact Or.inr ⟨q, (T.setVm vm₁).calling g' mk As.toArray, t, U', L, E, ce, hT, X', hL, e1, e2, hq, hce, hcv, vx_cls hW₁ hcl, st⟩
end
end VXH
theorem vx_ofWH {l : Launch} {y : MethodName} {ws ws' : List Cond} {rm : Room} {Pc : Array Value → State → Prop} {Qc : Array Value → State → Outcome → State → Prop} {XC : String → State → State → Prop} {mc ms : Nat} {free : Addr → Prop} {cc : ByteArray} {maxL : Nat} {ret : Option FieldType} {hh : List (Nat × Nat × Nat × Nat)}
    (hy : plainName y.cls = true) (hw : ws = Cond.codeWith y cc maxL ret hh :: ws')
    (body : ∀ p e s m args below meth c s₁, BodyLoose p l y (headSpec ws rm) cc maxL ret e s m args below meth c s₁ → c.maxLocals = maxL → Pc args s →
      W p l e (headSpec ws rm).room s m args below meth c s.heap [] 0 0 (vx_MQ below Qc XC args s mc ms free) (entryFrame m args maxL)) : vx_Met l y ws rm Pc Qc XC mc ms free := by
  refine MetFree.of_bodyS (code := cc) (maxLocals := maxL) (ret := ret) hy ?_ ?_
  · intro args s m h hn
    obtain ⟨m9, meth, c, hn9, h1, h2, h3, h4, -, h5, h6, -⟩ := Cond.codeWith_spec (atoms_spec (ws := ws) h _ (by rw [hw]; exact List.mem_cons_self))
    cases hn.symm.trans hn9
    exact ⟨meth, c, h1, h2, h3, h4, h5, h6⟩
  · intro p e s m args below meth c s₁ B hml hP _
    have hh0 : s₁.heap = s.heap := by rw [B.state]; rfl
    obtain ⟨t, a1, o, b1, b2, b3⟩ := body p e s m args below meth c s₁ B hml hP s₁ hh0 (Stand.of_body B)
    exact ⟨t, o, a1, b1, b2, b3⟩
/-! ===== END ===== -/
end
section
def R_Check : String := "SegmentForms$Check"
def T_Check : u_T := fun k => match k with
  | 0 => ("SegmentForms$Check", "message", "LSegmentForms$Message;", true)
  | 1 => ("SegmentForms$Check", "rows", "[I", true)
  | 2 => ("SegmentForms$Check", "aboves", "[I", true)
  | 3 => ("SegmentForms$Check", "answer", "I", false)
  | 4 => ("SegmentForms$Check", "faultSegment", "I", false)
  | 5 => ("SegmentForms$Check", "faultRow", "I", false)
  | 6 => ("SegmentForms$Check", "next", "I", false)
  | _ => ("SegmentForms$Check", "last", "I", false)
def ty_Check : Nat → FieldType := fun k => match k with
  | 0 => .object "SegmentForms$Message"
  | 1 => .array .int
  | 2 => .array .int
  | 3 => .int
  | 4 => .int
  | 5 => .int
  | 6 => .int
  | _ => .int
theorem nm_Check : ∀ a, a < 8 → ∀ b, b < 8 → a ≠ b → (T_Check a).2.1 ≠ (T_Check b).2.1 := by decide +kernel
theorem ty_Check_ok : ∀ k, k < 8 → parseFieldDescriptor (T_Check k).2.2.1 = some (ty_Check k) := by decide +kernel
abbrev c_Check_init : ByteArray := prog_2_method_1_code
def y_Check_init : MethodName := ⟨R_Check, "<init>", "(LSegmentForms$Message;)V"⟩
abbrev c_Check_forget : ByteArray := prog_2_method_2_code
def y_Check_forget : MethodName := ⟨R_Check, "forget", "()V"⟩
abbrev c_Check_answer : ByteArray := prog_2_method_3_code
def y_Check_answer : MethodName := ⟨R_Check, "answer", "()I"⟩
abbrev c_Check_faultSegment : ByteArray := prog_2_method_4_code
def y_Check_faultSegment : MethodName := ⟨R_Check, "faultSegment", "()I"⟩
abbrev c_Check_faultRow : ByteArray := prog_2_method_5_code
def y_Check_faultRow : MethodName := ⟨R_Check, "faultRow", "()I"⟩
abbrev c_Check_rowOf : ByteArray := prog_2_method_6_code
def y_Check_rowOf : MethodName := ⟨R_Check, "rowOf", "(I)I"⟩
abbrev c_Check_aboveOf : ByteArray := prog_2_method_7_code
def y_Check_aboveOf : MethodName := ⟨R_Check, "aboveOf", "(I)I"⟩
abbrev c_Check_toldKind : ByteArray := prog_2_method_8_code
def y_Check_toldKind : MethodName := ⟨R_Check, "toldKind", "()I"⟩
abbrev c_Check_run : ByteArray := prog_2_method_9_code
def y_Check_run : MethodName := ⟨R_Check, "run", "(LSegmentForms$Grammar;)I"⟩
abbrev c_Check_faultOfFrame : ByteArray := prog_2_method_10_code
def y_Check_faultOfFrame : MethodName := ⟨R_Check, "faultOfFrame", "()I"⟩
abbrev c_Check_faultBetween : ByteArray := prog_2_method_11_code
def y_Check_faultBetween : MethodName := ⟨R_Check, "faultBetween", "(LSegmentForms$Grammar;)I"⟩
abbrev c_Check_walkRows : ByteArray := prog_2_method_12_code
def y_Check_walkRows : MethodName := ⟨R_Check, "walkRows", "(LSegmentForms$Grammar;IIII)Z"⟩
abbrev c_Check_walkRow : ByteArray := prog_2_method_13_code
def y_Check_walkRow : MethodName := ⟨R_Check, "walkRow", "(LSegmentForms$Grammar;III)Z"⟩
abbrev c_Check_walkOver : ByteArray := prog_2_method_14_code
def y_Check_walkOver : MethodName := ⟨R_Check, "walkOver", "(III)V"⟩
def R_Grammar : String := "SegmentForms$Grammar"
def T_Grammar : u_T := fun k => match k with
  | 0 => ("SegmentForms$Grammar", "tags", "[I", true)
  | 1 => ("SegmentForms$Grammar", "leasts", "[I", true)
  | 2 => ("SegmentForms$Grammar", "mosts", "[I", true)
  | 3 => ("SegmentForms$Grammar", "levels", "[I", true)
  | _ => ("SegmentForms$Grammar", "size", "I", false)
def ty_Grammar : Nat → FieldType := fun k => match k with
  | 0 => .array .int
  | 1 => .array .int
  | 2 => .array .int
  | 3 => .array .int
  | _ => .int
theorem nm_Grammar : ∀ a, a < 5 → ∀ b, b < 5 → a ≠ b → (T_Grammar a).2.1 ≠ (T_Grammar b).2.1 := by decide +kernel
theorem ty_Grammar_ok : ∀ k, k < 5 → parseFieldDescriptor (T_Grammar k).2.2.1 = some (ty_Grammar k) := by decide +kernel
abbrev c_Grammar_init : ByteArray := prog_3_method_1_code
def y_Grammar_init : MethodName := ⟨R_Grammar, "<init>", "()V"⟩
abbrev c_Grammar_size : ByteArray := prog_3_method_2_code
def y_Grammar_size : MethodName := ⟨R_Grammar, "size", "()I"⟩
abbrev c_Grammar_isFull : ByteArray := prog_3_method_3_code
def y_Grammar_isFull : MethodName := ⟨R_Grammar, "isFull", "()Z"⟩
abbrev c_Grammar_canTakeLevel : ByteArray := prog_3_method_4_code
def y_Grammar_canTakeLevel : MethodName := ⟨R_Grammar, "canTakeLevel", "(I)Z"⟩
abbrev c_Grammar_append : ByteArray := prog_3_method_5_code
def y_Grammar_append : MethodName := ⟨R_Grammar, "append", "(IIII)V"⟩
abbrev c_Grammar_tagOf : ByteArray := prog_3_method_6_code
def y_Grammar_tagOf : MethodName := ⟨R_Grammar, "tagOf", "(I)I"⟩
abbrev c_Grammar_leastOf : ByteArray := prog_3_method_7_code
def y_Grammar_leastOf : MethodName := ⟨R_Grammar, "leastOf", "(I)I"⟩
abbrev c_Grammar_mostOf : ByteArray := prog_3_method_8_code
def y_Grammar_mostOf : MethodName := ⟨R_Grammar, "mostOf", "(I)I"⟩
abbrev c_Grammar_levelOf : ByteArray := prog_3_method_9_code
def y_Grammar_levelOf : MethodName := ⟨R_Grammar, "levelOf", "(I)I"⟩
abbrev c_Grammar_knows : ByteArray := prog_3_method_10_code
def y_Grammar_knows : MethodName := ⟨R_Grammar, "knows", "(I)Z"⟩
abbrev c_Grammar_endOfGroup : ByteArray := prog_3_method_11_code
def y_Grammar_endOfGroup : MethodName := ⟨R_Grammar, "endOfGroup", "(I)I"⟩
def R_Layer : String := "SegmentForms$Layer"
def T_Layer : u_T := fun k => match k with
  | 0 => ("SegmentForms$Layer", "first", "[I", true)
  | _ => ("SegmentForms$Layer", "size", "I", false)
def ty_Layer : Nat → FieldType := fun k => match k with
  | 0 => .array .int
  | _ => .int
theorem nm_Layer : ∀ a, a < 2 → ∀ b, b < 2 → a ≠ b → (T_Layer a).2.1 ≠ (T_Layer b).2.1 := by decide +kernel
theorem ty_Layer_ok : ∀ k, k < 2 → parseFieldDescriptor (T_Layer k).2.2.1 = some (ty_Layer k) := by decide +kernel
abbrev c_Layer_init : ByteArray := prog_4_method_1_code
def y_Layer_init : MethodName := ⟨R_Layer, "<init>", "(I)V"⟩
abbrev c_Layer_clear : ByteArray := prog_4_method_2_code
def y_Layer_clear : MethodName := ⟨R_Layer, "clear", "()V"⟩
abbrev c_Layer_size : ByteArray := prog_4_method_3_code
def y_Layer_size : MethodName := ⟨R_Layer, "size", "()I"⟩
abbrev c_Layer_open : ByteArray := prog_4_method_4_code
def y_Layer_open : MethodName := ⟨R_Layer, "open", "()Z"⟩
abbrev c_Layer_grow : ByteArray := prog_4_method_5_code
def y_Layer_grow : MethodName := ⟨R_Layer, "grow", "()V"⟩
abbrev c_Layer_childrenOf : ByteArray := prog_4_method_6_code
def y_Layer_childrenOf : MethodName := ⟨R_Layer, "childrenOf", "(I)I"⟩
abbrev c_Layer_childrenOfLast : ByteArray := prog_4_method_7_code
def y_Layer_childrenOfLast : MethodName := ⟨R_Layer, "childrenOfLast", "()I"⟩
abbrev c_Layer_childAt : ByteArray := prog_4_method_8_code
def y_Layer_childAt : MethodName := ⟨R_Layer, "childAt", "(II)I"⟩
def R_Message : String := "SegmentForms$Message"
def T_Message : u_T := fun k => match k with
  | 0 => ("SegmentForms$Message", "tags", "[I", true)
  | 1 => ("SegmentForms$Message", "segments", "LSegmentForms$Layer;", true)
  | 2 => ("SegmentForms$Message", "elements", "LSegmentForms$Layer;", true)
  | 3 => ("SegmentForms$Message", "repeats", "LSegmentForms$Layer;", true)
  | 4 => ("SegmentForms$Message", "components", "LSegmentForms$Layer;", true)
  | _ => ("SegmentForms$Message", "letters", "LSegmentForms$SignRow;", true)
def ty_Message : Nat → FieldType := fun k => match k with
  | 0 => .array .int
  | 1 => .object "SegmentForms$Layer"
  | 2 => .object "SegmentForms$Layer"
  | 3 => .object "SegmentForms$Layer"
  | 4 => .object "SegmentForms$Layer"
  | _ => .object "SegmentForms$SignRow"
theorem nm_Message : ∀ a, a < 6 → ∀ b, b < 6 → a ≠ b → (T_Message a).2.1 ≠ (T_Message b).2.1 := by decide +kernel
theorem ty_Message_ok : ∀ k, k < 6 → parseFieldDescriptor (T_Message k).2.2.1 = some (ty_Message k) := by decide +kernel
abbrev c_Message_init : ByteArray := prog_5_method_1_code
def y_Message_init : MethodName := ⟨R_Message, "<init>", "()V"⟩
abbrev c_Message_clear : ByteArray := prog_5_method_2_code
def y_Message_clear : MethodName := ⟨R_Message, "clear", "()V"⟩
abbrev c_Message_isThere : ByteArray := prog_5_method_3_code
def y_Message_isThere : MethodName := ⟨R_Message, "isThere", "()Z"⟩
abbrev c_Message_isFull : ByteArray := prog_5_method_4_code
def y_Message_isFull : MethodName := ⟨R_Message, "isFull", "()Z"⟩
abbrev c_Message_size : ByteArray := prog_5_method_5_code
def y_Message_size : MethodName := ⟨R_Message, "size", "()I"⟩
abbrev c_Message_openSegment : ByteArray := prog_5_method_6_code
def y_Message_openSegment : MethodName := ⟨R_Message, "openSegment", "(I)Z"⟩
abbrev c_Message_openElement : ByteArray := prog_5_method_7_code
def y_Message_openElement : MethodName := ⟨R_Message, "openElement", "()Z"⟩
abbrev c_Message_openRepeat : ByteArray := prog_5_method_8_code
def y_Message_openRepeat : MethodName := ⟨R_Message, "openRepeat", "()Z"⟩
abbrev c_Message_openComponent : ByteArray := prog_5_method_9_code
def y_Message_openComponent : MethodName := ⟨R_Message, "openComponent", "()Z"⟩
abbrev c_Message_openBelow : ByteArray := prog_5_method_10_code
def y_Message_openBelow : MethodName := ⟨R_Message, "openBelow", "(LSegmentForms$Layer;ILSegmentForms$Layer;)Z"⟩
abbrev c_Message_appendLetter : ByteArray := prog_5_method_11_code
def y_Message_appendLetter : MethodName := ⟨R_Message, "appendLetter", "(I)Z"⟩
abbrev c_Message_tagOf : ByteArray := prog_5_method_12_code
def y_Message_tagOf : MethodName := ⟨R_Message, "tagOf", "(I)I"⟩
abbrev c_Message_elementsOf : ByteArray := prog_5_method_13_code
def y_Message_elementsOf : MethodName := ⟨R_Message, "elementsOf", "(I)I"⟩
abbrev c_Message_elementAt : ByteArray := prog_5_method_14_code
def y_Message_elementAt : MethodName := ⟨R_Message, "elementAt", "(II)I"⟩
abbrev c_Message_repeatsOf : ByteArray := prog_5_method_15_code
def y_Message_repeatsOf : MethodName := ⟨R_Message, "repeatsOf", "(I)I"⟩
abbrev c_Message_repeatAt : ByteArray := prog_5_method_16_code
def y_Message_repeatAt : MethodName := ⟨R_Message, "repeatAt", "(II)I"⟩
abbrev c_Message_componentsOf : ByteArray := prog_5_method_17_code
def y_Message_componentsOf : MethodName := ⟨R_Message, "componentsOf", "(I)I"⟩
abbrev c_Message_componentAt : ByteArray := prog_5_method_18_code
def y_Message_componentAt : MethodName := ⟨R_Message, "componentAt", "(II)I"⟩
abbrev c_Message_lettersOf : ByteArray := prog_5_method_19_code
def y_Message_lettersOf : MethodName := ⟨R_Message, "lettersOf", "(I)I"⟩
abbrev c_Message_letterAt : ByteArray := prog_5_method_20_code
def y_Message_letterAt : MethodName := ⟨R_Message, "letterAt", "(II)I"⟩
abbrev c_Message_findComponent : ByteArray := prog_5_method_21_code
def y_Message_findComponent : MethodName := ⟨R_Message, "findComponent", "(IIII)I"⟩
abbrev c_Message_areSame : ByteArray := prog_5_method_22_code
def y_Message_areSame : MethodName := ⟨R_Message, "areSame", "(II)Z"⟩
abbrev c_Message_spells : ByteArray := prog_5_method_23_code
def y_Message_spells : MethodName := ⟨R_Message, "spells", "(II)Z"⟩
def R_Reader : String := "SegmentForms$Reader"
def T_Reader : u_T := fun k => match k with
  | 0 => ("SegmentForms$Reader", "message", "LSegmentForms$Message;", true)
  | 1 => ("SegmentForms$Reader", "signs", "LSegmentForms$ServiceSigns;", true)
  | 2 => ("SegmentForms$Reader", "state", "I", false)
  | _ => ("SegmentForms$Reader", "tag", "I", false)
def ty_Reader : Nat → FieldType := fun k => match k with
  | 0 => .object "SegmentForms$Message"
  | 1 => .object "SegmentForms$ServiceSigns"
  | 2 => .int
  | _ => .int
theorem nm_Reader : ∀ a, a < 4 → ∀ b, b < 4 → a ≠ b → (T_Reader a).2.1 ≠ (T_Reader b).2.1 := by decide +kernel
theorem ty_Reader_ok : ∀ k, k < 4 → parseFieldDescriptor (T_Reader k).2.2.1 = some (ty_Reader k) := by decide +kernel
abbrev c_Reader_init : ByteArray := prog_6_method_1_code
def y_Reader_init : MethodName := ⟨R_Reader, "<init>", "(LSegmentForms$Message;LSegmentForms$ServiceSigns;)V"⟩
abbrev c_Reader_firstWrongPlace : ByteArray := prog_6_method_2_code
def y_Reader_firstWrongPlace : MethodName := ⟨R_Reader, "firstWrongPlace", "(LSegmentForms$SignRow;)I"⟩
abbrev c_Reader_beginsWithUna : ByteArray := prog_6_method_3_code
def y_Reader_beginsWithUna : MethodName := ⟨R_Reader, "beginsWithUna", "(LSegmentForms$SignRow;)Z"⟩
abbrev c_Reader_firstWrongOfUna : ByteArray := prog_6_method_4_code
def y_Reader_firstWrongOfUna : MethodName := ⟨R_Reader, "firstWrongOfUna", "(LSegmentForms$SignRow;)I"⟩
abbrev c_Reader_take : ByteArray := prog_6_method_5_code
def y_Reader_take : MethodName := ⟨R_Reader, "take", "(I)Z"⟩
abbrev c_Reader_takeOfTag : ByteArray := prog_6_method_6_code
def y_Reader_takeOfTag : MethodName := ⟨R_Reader, "takeOfTag", "(II)Z"⟩
abbrev c_Reader_takeBehindTag : ByteArray := prog_6_method_7_code
def y_Reader_takeBehindTag : MethodName := ⟨R_Reader, "takeBehindTag", "(I)Z"⟩
abbrev c_Reader_takeInComponent : ByteArray := prog_6_method_8_code
def y_Reader_takeInComponent : MethodName := ⟨R_Reader, "takeInComponent", "(I)Z"⟩
def R_ServiceSigns : String := "SegmentForms$ServiceSigns"
def T_ServiceSigns : u_T := fun k => match k with
  | _ => ("SegmentForms$ServiceSigns", "signs", "[I", true)
def ty_ServiceSigns : Nat → FieldType := fun k => match k with
  | _ => .array .int
theorem nm_ServiceSigns : ∀ a, a < 1 → ∀ b, b < 1 → a ≠ b → (T_ServiceSigns a).2.1 ≠ (T_ServiceSigns b).2.1 := by decide +kernel
theorem ty_ServiceSigns_ok : ∀ k, k < 1 → parseFieldDescriptor (T_ServiceSigns k).2.2.1 = some (ty_ServiceSigns k) := by decide +kernel
abbrev c_ServiceSigns_init : ByteArray := prog_7_method_1_code
def y_ServiceSigns_init : MethodName := ⟨R_ServiceSigns, "<init>", "()V"⟩
abbrev c_ServiceSigns_setUntold : ByteArray := prog_7_method_2_code
def y_ServiceSigns_setUntold : MethodName := ⟨R_ServiceSigns, "setUntold", "()V"⟩
abbrev c_ServiceSigns_tell : ByteArray := prog_7_method_3_code
def y_ServiceSigns_tell : MethodName := ⟨R_ServiceSigns, "tell", "(II)Z"⟩
abbrev c_ServiceSigns_signOf : ByteArray := prog_7_method_4_code
def y_ServiceSigns_signOf : MethodName := ⟨R_ServiceSigns, "signOf", "(I)I"⟩
abbrev c_ServiceSigns_numberOf : ByteArray := prog_7_method_5_code
def y_ServiceSigns_numberOf : MethodName := ⟨R_ServiceSigns, "numberOf", "(I)I"⟩
abbrev c_ServiceSigns_canServe : ByteArray := prog_7_method_6_code
def y_ServiceSigns_canServe : MethodName := ⟨R_ServiceSigns, "canServe", "(I)Z"⟩
def R_SignRow : String := "SegmentForms$SignRow"
def T_SignRow : u_T := fun k => match k with
  | 0 => ("SegmentForms$SignRow", "signs", "[I", true)
  | _ => ("SegmentForms$SignRow", "length", "I", false)
def ty_SignRow : Nat → FieldType := fun k => match k with
  | 0 => .array .int
  | _ => .int
theorem nm_SignRow : ∀ a, a < 2 → ∀ b, b < 2 → a ≠ b → (T_SignRow a).2.1 ≠ (T_SignRow b).2.1 := by decide +kernel
theorem ty_SignRow_ok : ∀ k, k < 2 → parseFieldDescriptor (T_SignRow k).2.2.1 = some (ty_SignRow k) := by decide +kernel
abbrev c_SignRow_init : ByteArray := prog_8_method_1_code
def y_SignRow_init : MethodName := ⟨R_SignRow, "<init>", "()V"⟩
abbrev c_SignRow_clear : ByteArray := prog_8_method_2_code
def y_SignRow_clear : MethodName := ⟨R_SignRow, "clear", "()V"⟩
abbrev c_SignRow_length : ByteArray := prog_8_method_3_code
def y_SignRow_length : MethodName := ⟨R_SignRow, "length", "()I"⟩
abbrev c_SignRow_append : ByteArray := prog_8_method_4_code
def y_SignRow_append : MethodName := ⟨R_SignRow, "append", "(I)Z"⟩
abbrev c_SignRow_signAt : ByteArray := prog_8_method_5_code
def y_SignRow_signAt : MethodName := ⟨R_SignRow, "signAt", "(I)I"⟩
def R_Tag : String := "SegmentForms$Tag"
def T_Tag : u_T := fun k => match k with
  | _ => ("", "", "", false)
def ty_Tag : Nat → FieldType := fun k => match k with
  | _ => .int
theorem nm_Tag : ∀ a, a < 0 → ∀ b, b < 0 → a ≠ b → (T_Tag a).2.1 ≠ (T_Tag b).2.1 := by decide +kernel
theorem ty_Tag_ok : ∀ k, k < 0 → parseFieldDescriptor (T_Tag k).2.2.1 = some (ty_Tag k) := by decide +kernel
abbrev c_Tag_isCapital : ByteArray := prog_9_method_2_code
def y_Tag_isCapital : MethodName := ⟨R_Tag, "isCapital", "(I)Z"⟩
abbrev c_Tag_isSmall : ByteArray := prog_9_method_3_code
def y_Tag_isSmall : MethodName := ⟨R_Tag, "isSmall", "(I)Z"⟩
abbrev c_Tag_isDigit : ByteArray := prog_9_method_4_code
def y_Tag_isDigit : MethodName := ⟨R_Tag, "isDigit", "(I)Z"⟩
abbrev c_Tag_isLaterSign : ByteArray := prog_9_method_5_code
def y_Tag_isLaterSign : MethodName := ⟨R_Tag, "isLaterSign", "(I)Z"⟩
abbrev c_Tag_isTag : ByteArray := prog_9_method_6_code
def y_Tag_isTag : MethodName := ⟨R_Tag, "isTag", "(I)Z"⟩
abbrev c_Tag_first : ByteArray := prog_9_method_7_code
def y_Tag_first : MethodName := ⟨R_Tag, "first", "(I)I"⟩
abbrev c_Tag_second : ByteArray := prog_9_method_8_code
def y_Tag_second : MethodName := ⟨R_Tag, "second", "(I)I"⟩
abbrev c_Tag_third : ByteArray := prog_9_method_9_code
def y_Tag_third : MethodName := ⟨R_Tag, "third", "(I)I"⟩
def R_Writer : String := "SegmentForms$Writer"
def T_Writer : u_T := fun k => match k with
  | 0 => ("SegmentForms$Writer", "message", "LSegmentForms$Message;", true)
  | 1 => ("SegmentForms$Writer", "signs", "LSegmentForms$ServiceSigns;", true)
  | _ => ("SegmentForms$Writer", "built", "LSegmentForms$SignRow;", true)
def ty_Writer : Nat → FieldType := fun k => match k with
  | 0 => .object "SegmentForms$Message"
  | 1 => .object "SegmentForms$ServiceSigns"
  | _ => .object "SegmentForms$SignRow"
theorem nm_Writer : ∀ a, a < 3 → ∀ b, b < 3 → a ≠ b → (T_Writer a).2.1 ≠ (T_Writer b).2.1 := by decide +kernel
theorem ty_Writer_ok : ∀ k, k < 3 → parseFieldDescriptor (T_Writer k).2.2.1 = some (ty_Writer k) := by decide +kernel
abbrev c_Writer_init : ByteArray := prog_10_method_1_code
def y_Writer_init : MethodName := ⟨R_Writer, "<init>", "(LSegmentForms$Message;LSegmentForms$ServiceSigns;LSegmentForms$SignRow;)V"⟩
abbrev c_Writer_write : ByteArray := prog_10_method_2_code
def y_Writer_write : MethodName := ⟨R_Writer, "write", "()V"⟩
abbrev c_Writer_writeTag : ByteArray := prog_10_method_3_code
def y_Writer_writeTag : MethodName := ⟨R_Writer, "writeTag", "(I)V"⟩
abbrev c_Writer_writeRepeats : ByteArray := prog_10_method_4_code
def y_Writer_writeRepeats : MethodName := ⟨R_Writer, "writeRepeats", "(I)V"⟩
abbrev c_Writer_writeComponents : ByteArray := prog_10_method_5_code
def y_Writer_writeComponents : MethodName := ⟨R_Writer, "writeComponents", "(I)V"⟩
abbrev c_Writer_writeLetters : ByteArray := prog_10_method_6_code
def y_Writer_writeLetters : MethodName := ⟨R_Writer, "writeLetters", "(I)V"⟩
abbrev c_Writer_writeService : ByteArray := prog_10_method_7_code
def y_Writer_writeService : MethodName := ⟨R_Writer, "writeService", "(I)V"⟩
abbrev c_Writer_keptElements : ByteArray := prog_10_method_8_code
def y_Writer_keptElements : MethodName := ⟨R_Writer, "keptElements", "(I)I"⟩
abbrev c_Writer_keptRepeats : ByteArray := prog_10_method_9_code
def y_Writer_keptRepeats : MethodName := ⟨R_Writer, "keptRepeats", "(I)I"⟩
abbrev c_Writer_keptComponents : ByteArray := prog_10_method_10_code
def y_Writer_keptComponents : MethodName := ⟨R_Writer, "keptComponents", "(I)I"⟩
def R_Forms : String := "SegmentForms"
def T_Forms : u_T := fun k => match k with
  | 0 => ("SegmentForms", "text", "LSegmentForms$SignRow;", true)
  | 1 => ("SegmentForms", "built", "LSegmentForms$SignRow;", true)
  | 2 => ("SegmentForms", "signs", "LSegmentForms$ServiceSigns;", true)
  | 3 => ("SegmentForms", "message", "LSegmentForms$Message;", true)
  | 4 => ("SegmentForms", "reader", "LSegmentForms$Reader;", true)
  | 5 => ("SegmentForms", "grammars", "[LSegmentForms$Grammar;", true)
  | 6 => ("SegmentForms", "lastCheck", "LSegmentForms$Check;", true)
  | _ => ("SegmentForms", "writer", "LSegmentForms$Writer;", true)
def ty_Forms : Nat → FieldType := fun k => match k with
  | 0 => .object "SegmentForms$SignRow"
  | 1 => .object "SegmentForms$SignRow"
  | 2 => .object "SegmentForms$ServiceSigns"
  | 3 => .object "SegmentForms$Message"
  | 4 => .object "SegmentForms$Reader"
  | 5 => .array (.object "SegmentForms$Grammar")
  | 6 => .object "SegmentForms$Check"
  | _ => .object "SegmentForms$Writer"
theorem nm_Forms : ∀ a, a < 8 → ∀ b, b < 8 → a ≠ b → (T_Forms a).2.1 ≠ (T_Forms b).2.1 := by decide +kernel
theorem ty_Forms_ok : ∀ k, k < 8 → parseFieldDescriptor (T_Forms k).2.2.1 = some (ty_Forms k) := by decide +kernel
abbrev c_Forms_init : ByteArray := prog_1_method_1_code
def y_Forms_init : MethodName := ⟨R_Forms, "<init>", "()V"⟩
abbrev c_Forms_add : ByteArray := prog_1_method_2_code
def y_Forms_add : MethodName := ⟨R_Forms, "add", "(I)Z"⟩
abbrev c_Forms_read : ByteArray := prog_1_method_3_code
def y_Forms_read : MethodName := ⟨R_Forms, "read", "()I"⟩
abbrev c_Forms_row : ByteArray := prog_1_method_4_code
def y_Forms_row : MethodName := ⟨R_Forms, "row", "(IIIII)I"⟩
abbrev c_Forms_check : ByteArray := prog_1_method_5_code
def y_Forms_check : MethodName := ⟨R_Forms, "check", "()I"⟩
abbrev c_Forms_fault : ByteArray := prog_1_method_6_code
def y_Forms_fault : MethodName := ⟨R_Forms, "fault", "(I)I"⟩
abbrev c_Forms_segment : ByteArray := prog_1_method_7_code
def y_Forms_segment : MethodName := ⟨R_Forms, "segment", "(II)I"⟩
abbrev c_Forms_repeats : ByteArray := prog_1_method_8_code
def y_Forms_repeats : MethodName := ⟨R_Forms, "repeats", "(II)I"⟩
abbrev c_Forms_components : ByteArray := prog_1_method_9_code
def y_Forms_components : MethodName := ⟨R_Forms, "components", "(III)I"⟩
abbrev c_Forms_field : ByteArray := prog_1_method_10_code
def y_Forms_field : MethodName := ⟨R_Forms, "field", "(IIII)I"⟩
abbrev c_Forms_letter : ByteArray := prog_1_method_11_code
def y_Forms_letter : MethodName := ⟨R_Forms, "letter", "(IIIII)I"⟩
abbrev c_Forms_build : ByteArray := prog_1_method_12_code
def y_Forms_build : MethodName := ⟨R_Forms, "build", "()I"⟩
abbrev c_Forms_at : ByteArray := prog_1_method_13_code
def y_Forms_at : MethodName := ⟨R_Forms, "at", "(I)I"⟩
abbrev c_Forms_count : ByteArray := prog_1_method_14_code
def y_Forms_count : MethodName := ⟨R_Forms, "count", "(I)I"⟩
abbrev c_Forms_grammarOf : ByteArray := prog_1_method_15_code
def y_Forms_grammarOf : MethodName := ⟨R_Forms, "grammarOf", "(I)LSegmentForms$Grammar;"⟩
abbrev c_Forms_needMessage : ByteArray := prog_1_method_16_code
def y_Forms_needMessage : MethodName := ⟨R_Forms, "needMessage", "()V"⟩
abbrev c_Forms_needSegment : ByteArray := prog_1_method_17_code
def y_Forms_needSegment : MethodName := ⟨R_Forms, "needSegment", "(I)V"⟩
def R_Model : String := "SegmentFormsModel"
def T_Model : u_T := fun k => match k with
  | 0 => ("SegmentFormsModel", "text", "[I", true)
  | 1 => ("SegmentFormsModel", "length", "I", false)
  | 2 => ("SegmentFormsModel", "p", "I", false)
  | 3 => ("SegmentFormsModel", "bad", "I", false)
  | 4 => ("SegmentFormsModel", "thrown", "I", false)
  | 5 => ("SegmentFormsModel", "service", "[I", true)
  | 6 => ("SegmentFormsModel", "message", "Z", false)
  | 7 => ("SegmentFormsModel", "segments", "I", false)
  | 8 => ("SegmentFormsModel", "elements", "I", false)
  | 9 => ("SegmentFormsModel", "repeats", "I", false)
  | 10 => ("SegmentFormsModel", "components", "I", false)
  | 11 => ("SegmentFormsModel", "signs", "I", false)
  | 12 => ("SegmentFormsModel", "tag", "[I", true)
  | 13 => ("SegmentFormsModel", "elementFrom", "[I", true)
  | 14 => ("SegmentFormsModel", "repeatFrom", "[I", true)
  | 15 => ("SegmentFormsModel", "componentFrom", "[I", true)
  | 16 => ("SegmentFormsModel", "signFrom", "[I", true)
  | 17 => ("SegmentFormsModel", "sign", "[I", true)
  | 18 => ("SegmentFormsModel", "rows", "[I", true)
  | 19 => ("SegmentFormsModel", "rowTag", "[I", true)
  | 20 => ("SegmentFormsModel", "least", "[I", true)
  | 21 => ("SegmentFormsModel", "most", "[I", true)
  | 22 => ("SegmentFormsModel", "level", "[I", true)
  | 23 => ("SegmentFormsModel", "answer", "I", false)
  | 24 => ("SegmentFormsModel", "wrongSegment", "I", false)
  | 25 => ("SegmentFormsModel", "wrongRow", "I", false)
  | 26 => ("SegmentFormsModel", "rowOf", "[I", true)
  | 27 => ("SegmentFormsModel", "above", "[I", true)
  | 28 => ("SegmentFormsModel", "atRow", "[I", true)
  | 29 => ("SegmentFormsModel", "often", "[I", true)
  | 30 => ("SegmentFormsModel", "parent", "[I", true)
  | 31 => ("SegmentFormsModel", "built", "[I", true)
  | _ => ("SegmentFormsModel", "builtLong", "I", false)
def ty_Model : Nat → FieldType := fun k => match k with
  | 0 => .array .int
  | 1 => .int
  | 2 => .int
  | 3 => .int
  | 4 => .int
  | 5 => .array .int
  | 6 => .boolean
  | 7 => .int
  | 8 => .int
  | 9 => .int
  | 10 => .int
  | 11 => .int
  | 12 => .array .int
  | 13 => .array .int
  | 14 => .array .int
  | 15 => .array .int
  | 16 => .array .int
  | 17 => .array .int
  | 18 => .array .int
  | 19 => .array .int
  | 20 => .array .int
  | 21 => .array .int
  | 22 => .array .int
  | 23 => .int
  | 24 => .int
  | 25 => .int
  | 26 => .array .int
  | 27 => .array .int
  | 28 => .array .int
  | 29 => .array .int
  | 30 => .array .int
  | 31 => .array .int
  | _ => .int
theorem nm_Model : ∀ a, a < 33 → ∀ b, b < 33 → a ≠ b → (T_Model a).2.1 ≠ (T_Model b).2.1 := by decide +kernel
theorem ty_Model_ok : ∀ k, k < 33 → parseFieldDescriptor (T_Model k).2.2.1 = some (ty_Model k) := by decide +kernel
abbrev c_Model_init : ByteArray := prog_12_method_1_code
def y_Model_init : MethodName := ⟨R_Model, "<init>", "()V"⟩
abbrev c_Model_thrown : ByteArray := prog_12_method_2_code
def y_Model_thrown : MethodName := ⟨R_Model, "thrown", "()I"⟩
abbrev c_Model_usual : ByteArray := prog_12_method_3_code
def y_Model_usual : MethodName := ⟨R_Model, "usual", "()V"⟩
abbrev c_Model_add : ByteArray := prog_12_method_4_code
def y_Model_add : MethodName := ⟨R_Model, "add", "(I)Z"⟩
abbrev c_Model_look : ByteArray := prog_12_method_5_code
def y_Model_look : MethodName := ⟨R_Model, "look", "()I"⟩
abbrev c_Model_fail : ByteArray := prog_12_method_6_code
def y_Model_fail : MethodName := ⟨R_Model, "fail", "()V"⟩
abbrev c_Model_isLetter : ByteArray := prog_12_method_7_code
def y_Model_isLetter : MethodName := ⟨R_Model, "isLetter", "(I)Z"⟩
abbrev c_Model_isDigit : ByteArray := prog_12_method_8_code
def y_Model_isDigit : MethodName := ⟨R_Model, "isDigit", "(I)Z"⟩
abbrev c_Model_readService : ByteArray := prog_12_method_9_code
def y_Model_readService : MethodName := ⟨R_Model, "readService", "()V"⟩
abbrev c_Model_begins : ByteArray := prog_12_method_10_code
def y_Model_begins : MethodName := ⟨R_Model, "begins", "()Z"⟩
abbrev c_Model_readTag : ByteArray := prog_12_method_11_code
def y_Model_readTag : MethodName := ⟨R_Model, "readTag", "()V"⟩
abbrev c_Model_openComponent : ByteArray := prog_12_method_12_code
def y_Model_openComponent : MethodName := ⟨R_Model, "openComponent", "()V"⟩
abbrev c_Model_openRepeat : ByteArray := prog_12_method_13_code
def y_Model_openRepeat : MethodName := ⟨R_Model, "openRepeat", "()V"⟩
abbrev c_Model_take : ByteArray := prog_12_method_14_code
def y_Model_take : MethodName := ⟨R_Model, "take", "(I)V"⟩
abbrev c_Model_readElement : ByteArray := prog_12_method_15_code
def y_Model_readElement : MethodName := ⟨R_Model, "readElement", "()V"⟩
abbrev c_Model_readSegment : ByteArray := prog_12_method_16_code
def y_Model_readSegment : MethodName := ⟨R_Model, "readSegment", "()V"⟩
abbrev c_Model_read : ByteArray := prog_12_method_17_code
def y_Model_read : MethodName := ⟨R_Model, "read", "()I"⟩
abbrev c_Model_forget : ByteArray := prog_12_method_18_code
def y_Model_forget : MethodName := ⟨R_Model, "forget", "(I)V"⟩
abbrev c_Model_isSegment : ByteArray := prog_12_method_19_code
def y_Model_isSegment : MethodName := ⟨R_Model, "isSegment", "(I)Z"⟩
abbrev c_Model_elementsOf : ByteArray := prog_12_method_20_code
def y_Model_elementsOf : MethodName := ⟨R_Model, "elementsOf", "(I)I"⟩
abbrev c_Model_repeatsOf : ByteArray := prog_12_method_21_code
def y_Model_repeatsOf : MethodName := ⟨R_Model, "repeatsOf", "(II)I"⟩
abbrev c_Model_componentsOf : ByteArray := prog_12_method_22_code
def y_Model_componentsOf : MethodName := ⟨R_Model, "componentsOf", "(III)I"⟩
abbrev c_Model_componentAt : ByteArray := prog_12_method_23_code
def y_Model_componentAt : MethodName := ⟨R_Model, "componentAt", "(IIII)I"⟩
abbrev c_Model_longOf : ByteArray := prog_12_method_24_code
def y_Model_longOf : MethodName := ⟨R_Model, "longOf", "(I)I"⟩
abbrev c_Model_segment : ByteArray := prog_12_method_25_code
def y_Model_segment : MethodName := ⟨R_Model, "segment", "(II)I"⟩
abbrev c_Model_repeats : ByteArray := prog_12_method_26_code
def y_Model_repeats : MethodName := ⟨R_Model, "repeats", "(II)I"⟩
abbrev c_Model_components : ByteArray := prog_12_method_27_code
def y_Model_components : MethodName := ⟨R_Model, "components", "(III)I"⟩
abbrev c_Model_field : ByteArray := prog_12_method_28_code
def y_Model_field : MethodName := ⟨R_Model, "field", "(IIII)I"⟩
abbrev c_Model_letter : ByteArray := prog_12_method_29_code
def y_Model_letter : MethodName := ⟨R_Model, "letter", "(IIIII)I"⟩
abbrev c_Model_isTag : ByteArray := prog_12_method_30_code
def y_Model_isTag : MethodName := ⟨R_Model, "isTag", "(I)Z"⟩
abbrev c_Model_row : ByteArray := prog_12_method_31_code
def y_Model_row : MethodName := ⟨R_Model, "row", "(IIIII)I"⟩
abbrev c_Model_isCount : ByteArray := prog_12_method_32_code
def y_Model_isCount : MethodName := ⟨R_Model, "isCount", "(I)Z"⟩
abbrev c_Model_alike : ByteArray := prog_12_method_33_code
def y_Model_alike : MethodName := ⟨R_Model, "alike", "(II)Z"⟩
abbrev c_Model_kindOf : ByteArray := prog_12_method_34_code
def y_Model_kindOf : MethodName := ⟨R_Model, "kindOf", "()I"⟩
abbrev c_Model_wrong : ByteArray := prog_12_method_35_code
def y_Model_wrong : MethodName := ⟨R_Model, "wrong", "(III)I"⟩
abbrev c_Model_unknown : ByteArray := prog_12_method_36_code
def y_Model_unknown : MethodName := ⟨R_Model, "unknown", "(I)I"⟩
abbrev c_Model_nextRow : ByteArray := prog_12_method_37_code
def y_Model_nextRow : MethodName := ⟨R_Model, "nextRow", "(III)I"⟩
abbrev c_Model_walk : ByteArray := prog_12_method_38_code
def y_Model_walk : MethodName := ⟨R_Model, "walk", "(I)I"⟩
abbrev c_Model_checked : ByteArray := prog_12_method_39_code
def y_Model_checked : MethodName := ⟨R_Model, "checked", "()I"⟩
abbrev c_Model_check : ByteArray := prog_12_method_40_code
def y_Model_check : MethodName := ⟨R_Model, "check", "()I"⟩
abbrev c_Model_fault : ByteArray := prog_12_method_41_code
def y_Model_fault : MethodName := ⟨R_Model, "fault", "(I)I"⟩
abbrev c_Model_put : ByteArray := prog_12_method_42_code
def y_Model_put : MethodName := ⟨R_Model, "put", "(I)V"⟩
abbrev c_Model_isService : ByteArray := prog_12_method_43_code
def y_Model_isService : MethodName := ⟨R_Model, "isService", "(I)Z"⟩
abbrev c_Model_fullComponents : ByteArray := prog_12_method_44_code
def y_Model_fullComponents : MethodName := ⟨R_Model, "fullComponents", "(III)I"⟩
abbrev c_Model_fullRepeats : ByteArray := prog_12_method_45_code
def y_Model_fullRepeats : MethodName := ⟨R_Model, "fullRepeats", "(II)I"⟩
abbrev c_Model_fullElements : ByteArray := prog_12_method_46_code
def y_Model_fullElements : MethodName := ⟨R_Model, "fullElements", "(I)I"⟩
abbrev c_Model_putRepeat : ByteArray := prog_12_method_47_code
def y_Model_putRepeat : MethodName := ⟨R_Model, "putRepeat", "(III)V"⟩
abbrev c_Model_build : ByteArray := prog_12_method_48_code
def y_Model_build : MethodName := ⟨R_Model, "build", "()I"⟩
abbrev c_Model_at : ByteArray := prog_12_method_49_code
def y_Model_at : MethodName := ⟨R_Model, "at", "(I)I"⟩
abbrev c_Model_count : ByteArray := prog_12_method_50_code
def y_Model_count : MethodName := ⟨R_Model, "count", "(I)I"⟩
def R_Law : String := "SegmentFormsLaw"
abbrev c_Law_row : ByteArray := method_3_code
def y_Law_row : MethodName := ⟨R_Law, "row", "(LSegmentForms;IIIII[J)I"⟩
abbrev c_Law_check : ByteArray := method_4_code
def y_Law_check : MethodName := ⟨R_Law, "check", "(LSegmentForms;[J)I"⟩
abbrev c_Law_segment : ByteArray := method_5_code
def y_Law_segment : MethodName := ⟨R_Law, "segment", "(LSegmentForms;II[J)I"⟩
abbrev c_Law_repeats : ByteArray := method_6_code
def y_Law_repeats : MethodName := ⟨R_Law, "repeats", "(LSegmentForms;II[J)I"⟩
abbrev c_Law_components : ByteArray := method_7_code
def y_Law_components : MethodName := ⟨R_Law, "components", "(LSegmentForms;III[J)I"⟩
abbrev c_Law_field : ByteArray := method_8_code
def y_Law_field : MethodName := ⟨R_Law, "field", "(LSegmentForms;IIII[J)I"⟩
abbrev c_Law_letter : ByteArray := method_9_code
def y_Law_letter : MethodName := ⟨R_Law, "letter", "(LSegmentForms;IIIII[J)I"⟩
abbrev c_Law_build : ByteArray := method_10_code
def y_Law_build : MethodName := ⟨R_Law, "build", "(LSegmentForms;[J)I"⟩
abbrev c_Law_at : ByteArray := method_11_code
def y_Law_at : MethodName := ⟨R_Law, "at", "(LSegmentForms;I[J)I"⟩
abbrev c_Law_law : ByteArray := code
def y_Law_law : MethodName := ⟨R_Law, "law", "([I)Z"⟩
end
section
theorem d_ServiceSigns_init_0 : decode c_ServiceSigns_init 0 = .ok (.aload_n 0, 1) := by decide +kernel
theorem d_ServiceSigns_init_1 : decode c_ServiceSigns_init 1 = .ok (.invokespecial 3, 3) := by decide +kernel
theorem d_ServiceSigns_init_4 : decode c_ServiceSigns_init 4 = .ok (.aload_n 0, 1) := by decide +kernel
theorem d_ServiceSigns_init_5 : decode c_ServiceSigns_init 5 = .ok (.getstatic 9, 3) := by decide +kernel
theorem d_ServiceSigns_init_8 : decode c_ServiceSigns_init 8 = .ok (.invokevirtual 15, 3) := by decide +kernel
theorem d_SignRow_init_0 : decode c_SignRow_init 0 = .ok (.aload_n 0, 1) := by decide +kernel
theorem d_SignRow_init_1 : decode c_SignRow_init 1 = .ok (.invokespecial 3, 3) := by decide +kernel
theorem d_SignRow_init_4 : decode c_SignRow_init 4 = .ok (.aload_n 0, 1) := by decide +kernel
theorem d_SignRow_init_5 : decode c_SignRow_init 5 = .ok (.sipush 1500, 3) := by decide +kernel
theorem d_SignRow_init_8 : decode c_SignRow_init 8 = .ok (.newarray .int, 2) := by decide +kernel
theorem d_SignRow_init_10 : decode c_SignRow_init 10 = .ok (.putfield 9, 3) := by decide +kernel
theorem d_SignRow_init_13 : decode c_SignRow_init 13 = .ok (.aload_n 0, 1) := by decide +kernel
theorem d_SignRow_init_14 : decode c_SignRow_init 14 = .ok (.iconst 0, 1) := by decide +kernel
theorem d_SignRow_init_15 : decode c_SignRow_init 15 = .ok (.putfield 15, 3) := by decide +kernel
theorem d_SignRow_init_18 : decode c_SignRow_init 18 = .ok (.return_, 1) := by decide +kernel
theorem d_Forms_init_0 : decode c_Forms_init 0 = .ok (.aload_n 0, 1) := by decide +kernel
theorem d_Forms_init_1 : decode c_Forms_init 1 = .ok (.invokespecial 1, 3) := by decide +kernel
theorem d_Forms_init_4 : decode c_Forms_init 4 = .ok (.aload_n 0, 1) := by decide +kernel
theorem d_Forms_init_5 : decode c_Forms_init 5 = .ok (.new 7, 3) := by decide +kernel
theorem d_Forms_init_8 : decode c_Forms_init 8 = .ok (.dup, 1) := by decide +kernel
theorem d_Forms_init_9 : decode c_Forms_init 9 = .ok (.invokespecial 9, 3) := by decide +kernel
theorem d_Forms_init_12 : decode c_Forms_init 12 = .ok (.putfield 10, 3) := by decide +kernel
theorem d_Forms_init_15 : decode c_Forms_init 15 = .ok (.aload_n 0, 1) := by decide +kernel
theorem d_Forms_init_16 : decode c_Forms_init 16 = .ok (.new 7, 3) := by decide +kernel
theorem d_Forms_init_19 : decode c_Forms_init 19 = .ok (.dup, 1) := by decide +kernel
theorem d_Forms_init_20 : decode c_Forms_init 20 = .ok (.invokespecial 9, 3) := by decide +kernel
theorem d_Forms_init_23 : decode c_Forms_init 23 = .ok (.putfield 16, 3) := by decide +kernel
theorem d_Forms_init_26 : decode c_Forms_init 26 = .ok (.aload_n 0, 1) := by decide +kernel
theorem d_Forms_init_27 : decode c_Forms_init 27 = .ok (.new 19, 3) := by decide +kernel
theorem d_Forms_init_30 : decode c_Forms_init 30 = .ok (.dup, 1) := by decide +kernel
theorem d_Forms_init_31 : decode c_Forms_init 31 = .ok (.invokespecial 21, 3) := by decide +kernel
theorem d_Law_law_0 : decode c_Law_law 0 = .ok (.new 8, 3) := by decide +kernel
theorem d_Law_law_3 : decode c_Law_law 3 = .ok (.dup, 1) := by decide +kernel
theorem d_Law_law_4 : decode c_Law_law 4 = .ok (.invokespecial 50, 3) := by decide +kernel
end
section
/-! THE PICTURE OF THE MACHINE: every method of the class, of the reference and of the law is walked over ONE world (the list of all cells that the law's run has made), with all locals and the operand stack as lists. The words that every method may use are those of am_tbl. -/
def am_gw : Cond → Bool
  | .arrayClass _ => true
  | w => w.onTables && w.keepsFace
def am_tbl : List Cond := lw_tbl.filter am_gw
theorem am_word {args a' : Array Value} {s U : State} (hW : s.WarmedH U.vm) {w : Cond} (hg : am_gw w = true) (h : w.before args s = true) : w.before a' U = true := by
  have key : ∀ w : Cond, (w.onTables && w.keepsFace) = true → w.before args s = true → w.before a' U = true := by
    intro w hg h
    simp only [Bool.and_eq_true] at hg
    have h1 := Cond.before_shiftedFace (State.Shifted.of_warmed hW) w hg.2 h
    rw [Cond.onTables_vm (A := args) (A' := a') (U := s) (U' := U) U.vm w hg.1, State.setVm_self] at h1
    exact h1
  cases w with
  | arrayClass ty => exact word_at hW (Or.inr ⟨ty, rfl⟩) h
  | _ => exact key _ hg h
/-- the launch, the numbers of classes and slots, the array classes of int, Grammar, long; the address of UNTOLD; the script; and whether it is given that UNTOLD's array is of the class "[I" (1) or not (0) -/
abbrev am_X : Type := Launch × va_G × ClassId × ClassId × ClassId × Nat × Nat × Nat × (Nat → Int32) × Nat
abbrev am_l (X : am_X) : Launch := X.1
abbrev am_D (X : am_X) : va_G := X.2.1
abbrev am_I (X : am_X) : ClassId := X.2.2.1
abbrev am_Gr (X : am_X) : ClassId := X.2.2.2.1
abbrev am_J (X : am_X) : ClassId := X.2.2.2.2.1
abbrev am_U (X : am_X) : Nat := X.2.2.2.2.2.1
abbrev am_b (X : am_X) : Nat := X.2.2.2.2.2.2.1
abbrev am_n (X : am_X) : Nat := X.2.2.2.2.2.2.2.1
abbrev am_xs (X : am_X) : Nat → Int32 := X.2.2.2.2.2.2.2.2.1
abbrev am_ok (X : am_X) : Nat := X.2.2.2.2.2.2.2.2.2
abbrev am_tys (X : am_X) : List (ClassId × FieldType) := [(am_I X, .int), (am_Gr X, .object "SegmentForms$Grammar"), (am_J X, .long)]
/-- a method: its name, its bytes, its locals, what it returns, its table -/
abbrev am_M : Type := MethodName × ByteArray × Nat × Option FieldType × List (Nat × Nat × Nat × Nat)
abbrev am_y (M : am_M) : MethodName := M.1
abbrev am_c (M : am_M) : ByteArray := M.2.1
abbrev am_nL (M : am_M) : Nat := M.2.2.1
abbrev am_ret (M : am_M) : Option FieldType := M.2.2.2.1
abbrev am_hh (M : am_M) : List (Nat × Nat × Nat × Nat) := M.2.2.2.2
/-- how a method ends: with a value (or none), or by throwing an object of a class -/
abbrev am_O : Type := Option Value ⊕ String
abbrev am_cl : List vw_C := [(R_Check, T_Check, 8), (R_Grammar, T_Grammar, 5), (R_Layer, T_Layer, 2), (R_Message, T_Message, 6), (R_Reader, T_Reader, 4), (R_ServiceSigns, T_ServiceSigns, 1), (R_SignRow, T_SignRow, 2), (R_Writer, T_Writer, 3), (R_Forms, T_Forms, 8), (R_Model, T_Model, 33)]
/-- the signs that UNTOLD holds -/
def am_untold : Nat → Int32 := fun k => match k with
  | 0 => 58
  | 1 => 43
  | 2 => 63
  | 3 => 42
  | _ => 39
/-- UNTOLD's cell, as old as the run -/
def am_UT (X : am_X) (A : Nat → Prop) (U : State) (H : Heap) : Prop := ∃ cell : Cell, H[am_U X]? = some cell ∧ (U.isArrayOf cell .int ∧ (am_ok X = 1 → cell.cls = am_I X)) ∧ cell.vm ≠ .unknown ∧ cell.vm.isStatics = false ∧ cell.slots = (Array.ofFn (n := 5) fun j => Value.int (am_untold j.val)) ∧ ¬ A (am_U X)
theorem am_UT.kept {X : am_X} {A : Nat → Prop} {U : State} {H H1 : Heap} (h : am_UT X A U H) (hq : ∀ a : Nat, a < H.size → ¬ A a → H1[a]? = H[a]?) : am_UT X A U H1 := by
  obtain ⟨cell, h1, h2, h3, h4, h5, h6⟩ := h
  exact ⟨cell, by rw [hq _ (Array.getElem?_eq_some_iff.mp h1).1 h6]; exact h1, h2, h3, h4, h5, h6⟩
theorem am_UT.moved {X : am_X} {A : Nat → Prop} {u U : State} {H : Heap} (hvm : u.vm.Alike U.vm) (h : am_UT X A u H) : am_UT X A U H := by
  obtain ⟨cell, h1, ⟨h2, h2'⟩, h3⟩ := h
  exact ⟨cell, h1, ⟨State.isArrayOf_alike hvm h2, h2'⟩, h3⟩
theorem am_UT.narrow {X : am_X} {A B : Nat → Prop} {U : State} {H : Heap} (h : am_UT X A U H) (hAB : ∀ q, B q → A q) : am_UT X B U H := by
  obtain ⟨cell, h1, h2, h3, h4, h5, h6⟩ := h
  exact ⟨cell, h1, h2, h3, h4, h5, fun z => h6 (hAB _ z)⟩
/-- texts of exceptions: class, entry, text -/
def am_strs : List (String × Nat × String) := [("SegmentForms", 100, "no such kind or tag"), ("SegmentForms", 105, "no such least or most"), ("SegmentForms", 116, "too many rows, or no such level here"), ("SegmentForms", 161, "no such what"), ("SegmentForms", 195, "no such place"), ("SegmentForms", 207, "no message"), ("SegmentForms", 209, "no such segment")]
/-- pairs of exceptions of which the first isn't the second -/
def am_ncs : List (String × String) := [("java/lang/IllegalStateException", "java/lang/IllegalArgumentException")]
/-- FLAG 2 of am_X: the start of part 95, where UNTOLD's array is of a class 'GapInts' (number 31) whose own 'clone' never ends -/
def gx_y : MethodName := ⟨"GapInts", "clone", "()Ljava/lang/Object;"⟩
def gx_w : List Cond := [.selects "GapInts" ⟨"java/lang/Object", "clone", "()Ljava/lang/Object;"⟩ gx_y, .code gx_y ⟨#[0xa7, 0, 0]⟩ 1 (some (.object "java/lang/Object")), .initialized "GapInts", .instanceMethod gx_y]
def gx_E (X : am_X) (A : Nat → Prop) (U : State) (H : Heap) : Prop := U.vm.findClass "GapInts" = some 31 ∧ (∀ w ∈ gx_w, w.before #[] U = true) ∧ ∃ cell : Cell, H[am_U X]? = some cell ∧ cell.cls = 31 ∧ cell.vm = .none ∧ ¬ A (am_U X)
theorem gx_E.to {X : am_X} {A B : Nat → Prop} {s U : State} {H H1 : Heap} (h : gx_E X A s H) (hW : s.WarmedH U.vm) (hq : ∀ a : Nat, a < H.size → ¬ A a → H1[a]? = H[a]?) (hAB : ∀ q, B q → A q) : gx_E X B U H1 := by
  obtain ⟨h1, h2, cell, h3, h4, h5, h6⟩ := h
  have hg : ∀ w ∈ gx_w, am_gw w = true := by decide +kernel
  exact ⟨by rw [hW.alike.findClass]; exact h1, fun w hw => am_word hW (hg w hw) (h2 w hw), cell, by rw [hq _ (Array.getElem?_eq_some_iff.mp h3).1 h6]; exact h3, h4, h5, fun z => h6 (hAB _ z)⟩
/-- what holds of the tables and of old cells, wherever the law's run stands -/
def am_Gt (X : am_X) (A : Nat → Prop) (U : State) (H : Heap) : Prop :=
  va_K (am_D X) am_cl (am_tys X) U ∧ va_Z "SegmentForms$ServiceSigns" "UNTOLD" "[I" (.ref (am_U X)) A U H ∧ am_UT X A U H ∧
  vx_Zq Bundle.tN "UNASSIGNED_STACK" Bundle.steD A U H ∧ vx_Zq Bundle.tN "SUPPRESSED_SENTINEL" Bundle.listD A U H ∧
  va_X (am_b X) (am_n X) (am_xs X) U H ∧ am_b X < H.size ∧ ¬ A (am_b X) ∧
  (∀ q ∈ am_strs, ∃ sa, vk_R q.1 q.2.1 q.2.2 sa U) ∧ (∀ q ∈ am_ncs, va_Nc q.1 q.2 U) ∧ va_AO "SegmentForms$Grammar" U ∧ (am_l X).stackTraces = false ∧ (am_ok X = 2 → gx_E X A U H)
theorem am_Gt.to {X : am_X} {A B : Nat → Prop} {s U : State} {H H1 : Heap} (h : am_Gt X A s H) (hW : s.WarmedH U.vm) (hz : H.size ≤ H1.size) (hq : ∀ a : Nat, a < H.size → ¬ A a → H1[a]? = H[a]?) (hAB : ∀ q, q < H1.size → B q → A q) (hAB' : ∀ q, B q → A q) : am_Gt X B U H1 := by
  obtain ⟨h1, h2, h3, h4, h5, h6, h7, h8, h9, h10, h11, h12, h13⟩ := h
  refine ⟨va_K.moved hW.alike h1, ((va_Z.moved hW.alike h2).kept hq).narrow hAB', ((am_UT.moved hW.alike h3).kept hq).narrow hAB', ((vx_Zq.moved hW.alike h4).kept hq).narrow hAB', ((vx_Zq.moved hW.alike h5).kept hq).narrow hAB', ?_, Nat.lt_of_lt_of_le h7 hz, fun z => h8 (hAB' _ z), ?_, fun q hq' => va_Nc.moved hW.alike (h10 q hq'), va_AO.moved hW.alike h11, h12, fun hk => (h13 hk).to hW hq hAB'⟩
  · exact (va_X.moved hW.alike h6).kept (hq _ h7 h8)
  · intro q hq'
    obtain ⟨sa, hsa⟩ := h9 q hq'
    exact ⟨sa, vk_R.warm hW hsa⟩
end
section
/-! THE JUDGEMENT AW: 'the method M, at pc with locals ls, operand stack st and world ws, with frames for d calls more, and mc cells of ms slots to make, comes to an end that Post allows'. -/
/-- locals: the value .retAddr 0 stands for one of which nothing is known -/
def am_L (L : Array Slot) (n : Nat) (ls : List Value) : Prop := L.size = n ∧ lv_wf L ∧ ls.length = n ∧ (∀ v ∈ ls, v.category = 1) ∧ ∀ (i : Nat) (v : Value), ls[i]? = some v → v ≠ .retAddr 0 → L[i]? = some (.val v)
def am_lv (ls : List Value) : List (Nat × Value) := (ls.zipIdx.filter (fun q => decide (q.1 ≠ Value.retAddr 0))).map (fun q => (q.2, q.1))
theorem am_L.has {L : Array Slot} {n : Nat} {ls : List Value} (h : am_L L n ls) : lv_has L n (am_lv ls) := by
  refine ⟨h.1, h.2.1, fun q hq => ?_⟩
  obtain ⟨x, hx, rfl⟩ := List.mem_map.mp hq
  obtain ⟨hx1, hx2⟩ := List.mem_filter.mp hx
  exact h.2.2.2.2 x.2 x.1 (List.mk_mem_zipIdx_iff_getElem?.mp hx1) (by simpa using hx2)
theorem am_L.set {L L' : Array Slot} {n i : Nat} {ls : List Value} {x : Value} (h : am_L L n ls) (hc : x.category = 1) (h' : lv_has L' n ((i, x) :: (am_lv ls).filter (fun q => !(q.1 == i) && !(q.1 + 1 == i && q.2.category == 2)))) : am_L L' n (ls.set i x) := by
  refine ⟨h'.1, h'.2.1, by rw [List.length_set]; exact h.2.2.1, fun v hv => ?_, fun j v hj hne => ?_⟩
  · rcases List.mem_or_eq_of_mem_set hv with h1 | h1
    · exact h.2.2.2.1 v h1
    · rw [h1]; exact hc
  · refine h'.2.2 (j, v) ?_
    by_cases e : i = j
    · subst e
      have hlt : i < (ls.set i x).length := (List.getElem?_eq_some_iff.mp hj).1
      rw [List.length_set] at hlt
      rw [List.getElem?_set_self hlt] at hj
      cases hj
      exact List.mem_cons_self
    · rw [List.getElem?_set_ne e] at hj
      refine List.mem_cons_of_mem _ (List.mem_filter.mpr ⟨?_, ?_⟩)
      · exact List.mem_map.mpr ⟨(v, j), List.mem_filter.mpr ⟨List.mk_mem_zipIdx_iff_getElem?.mpr hj, by simpa using hne⟩, rfl⟩
      · have hv1 := h.2.2.2.1 v (List.mem_of_getElem? hj)
        have e2 : ¬ j = i := fun z => e z.symm
        simp [e2, hv1]
theorem am_L.at {L : Array Slot} {n i : Nat} {ls : List Value} {v : Value} (h : am_L L n ls) (hi : ls[i]? = some v) (hv : v ≠ .retAddr 0) : L[i]? = some (.val v) := h.2.2.2.2 i v hi hv
def am_cw (M : am_M) : Cond := match am_hh M with
  | [] => .code (am_y M) (am_c M) (am_nL M) (am_ret M)
  | hh => .codeWith (am_y M) (am_c M) (am_nL M) (am_ret M) hh
abbrev am_ws (M : am_M) : List Cond := am_cw M :: am_tbl
abbrev am_rm (d mc ms : Nat) : Room := { frames := d, cells := mc, slots := ms, locals := 64 * d }
/-- what the walk knows of its own frame -/
def am_F (M : am_M) (p : Program) (s : State) (m : MethodId) (args : Array Value) (meth : Method) (c : Code) : Prop :=
  p.tables.exec = Jvm.exec ∧ c.code = am_c M ∧ meth.sig.returnType = am_ret M ∧ c.maxLocals = am_nL M ∧ s.vm.findClass (am_y M).cls = some m.cls ∧ (∀ w ∈ am_tbl, w.before args s = true) ∧ meth.locks = false ∧ c.exceptionTable.toList = tableOf (am_hh M) ∧ meth.name = (am_y M).name
def am_Qc (X : am_X) (A : Nat → Prop) (Post : am_O → va_W → Prop) : Array Value → State → Outcome → State → Prop := fun _ st o t =>
  (∃ (v : Option Value) (ws' : va_W), o = .returned v ∧ Post (.inl v) ws' ∧ va_P (am_D X) am_cl ws' t.heap ∧ va_D A ws') ∧ va_F A st t
def am_XC (X : am_X) (A : Nat → Prop) (Post : am_O → va_W → Prop) : String → State → State → Prop := fun E st t =>
  (∃ ws' : va_W, Post (.inr E) ws' ∧ va_P (am_D X) am_cl ws' t.heap ∧ va_D A ws') ∧ va_F A st t
/-- what a walk is to come to: a state of the machine, said of the frame's own start -/
abbrev am_QT : Type := Program → Env → State → Array Value → List Frame → (Nat → Prop) → Nat → Nat → State → Prop
/-- .. an end of the method that P allows -/
def am_E (X : am_X) (P : am_O → va_W → Prop) : am_QT := fun _ _ s args below A kc ks => vx_MQ below (am_Qc X A P) (am_XC X A P) args s kc ks A
def AW (X : am_X) (M : am_M) (d mc ms pc : Nat) (ls st : List Value) (ws : va_W) (Post : am_QT) : Prop :=
  ∀ (p : Program) (e : Env) (R : Room) (s : State) (m : MethodId) (args : Array Value) (below : List Frame) (meth : Method) (c : Code) (H : Heap) (locs : List Loc) (cells slots : Nat) (L : Array Slot) (A : Nat → Prop) (kc ks : Nat),
    am_F M p s m args meth c → am_Gt X A s s.heap → (∀ q, s.heap.size ≤ q → A q) → d ≤ R.frames → 64 * d ≤ R.locals → cells + mc ≤ kc → slots + ms ≤ ks → kc ≤ R.cells → ks ≤ R.slots →
    va_P (am_D X) am_cl ws H → va_D A ws → va_S A s.heap H locs → am_L L (am_nL M) ls →
    W p (am_l X) e R s m args below meth c H locs cells slots (Post p e s args below A kc ks) (F0 m pc L st)
def AMet (X : am_X) (M : am_M) (d mc ms : Nat) (As : List Value) (ws : va_W) (Post : am_O → va_W → Prop) : Prop :=
  ∀ sz : Nat, vx_Met (am_l X) (am_y M) (am_ws M) (am_rm d mc ms) (va_Pc As (fun U => U.heap.size = sz ∧ va_P (am_D X) am_cl ws U.heap ∧ va_D (fun _ => True) ws ∧ am_Gt X (va_A ws sz) U U.heap)) (am_Qc X (va_A ws sz) Post) (am_XC X (va_A ws sz) Post) mc ms (va_A ws sz)
/-- less is asked of the end -/
theorem AW.imp {X : am_X} {M : am_M} {d mc ms pc : Nat} {ls st : List Value} {ws : va_W} {P P' : am_O → va_W → Prop} (h : AW X M d mc ms pc ls st ws (am_E X P)) (hp : ∀ o w, P o w → P' o w) : AW X M d mc ms pc ls st ws (am_E X P') := by
  intro p e R s m args below meth c H locs cells slots L A kc ks a1 a2 a3 a4 a5 a6 a7 a8 a9 a10 a11 a12 a13 T hT XX
  obtain ⟨t, b1, o, b2, b3, b4⟩ := h p e R s m args below meth c H locs cells slots L A kc ks a1 a2 a3 a4 a5 a6 a7 a8 a9 a10 a11 a12 a13 T hT XX
  refine ⟨t, b1, o, b2, b3, ?_⟩
  rcases b4 with ⟨⟨⟨v, w, c1, c2, c3⟩, c4⟩, c5⟩ | ⟨q, c1, E, ce, LL, ⟨⟨w, c2, c3⟩, c4⟩, c5⟩
  · exact Or.inl ⟨⟨⟨v, w, c1, hp _ _ c2, c3⟩, c4⟩, c5⟩
  · exact Or.inr ⟨q, c1, E, ce, LL, ⟨⟨w, hp _ _ c2, c3⟩, c4⟩, c5⟩
/-- more room is no harm -/
theorem AW.room {X : am_X} {M : am_M} {d d' mc mc' ms ms' pc : Nat} {ls st : List Value} {ws : va_W} {P : am_QT} (h : AW X M d mc ms pc ls st ws P) (h1 : d ≤ d') (h2 : mc ≤ mc') (h3 : ms ≤ ms') : AW X M d' mc' ms' pc ls st ws P := by
  intro p e R s m args below meth c H locs cells slots L A kc ks a1 a2 a3 a4 a5 a6 a7 a8 a9 a10 a11 a12 a13
  exact h p e R s m args below meth c H locs cells slots L A kc ks a1 a2 a3 (by omega) (by omega) (by omega) (by omega) a8 a9 a10 a11 a12 a13
/-- a method out of its walk -/
theorem AMet.of {X : am_X} {M : am_M} {d mc ms : Nat} {As : List Value} {ws : va_W} {Post : am_O → va_W → Prop} (hy : plainName (am_y M).cls = true) (hl : As.length ≤ am_nL M) (hc : ∀ v ∈ As, v.category = 1)
    (h : AW X M d mc ms 0 (As ++ List.replicate (am_nL M - As.length) (.retAddr 0)) [] ws (am_E X Post)) : AMet X M d mc ms As ws Post := by
  intro sz
  have hsl : ∀ As : List Value, (∀ v ∈ As, v.category = 1) → lg_sl As = As.map Slot.val := by
    intro As
    induction As with
    | nil => intro _; rfl
    | cons a t ih =>
      intro hc
      have h1 := ih (fun v hv => hc v (List.mem_cons_of_mem _ hv))
      have h2 : ¬ a.category = 2 := by rw [hc a List.mem_cons_self]; decide
      simp only [lg_sl, List.flatMap_cons, if_neg h2, List.map_cons] at h1 ⊢
      rw [h1]; rfl
  have hlen : (lg_sl As).length = As.length := by rw [hsl As hc, List.length_map]
  have body : ∀ p e s m args below meth c s₁, BodyLoose p (am_l X) (am_y M) (headSpec (am_ws M) (am_rm d mc ms)) (am_c M) (am_nL M) (am_ret M) e s m args below meth c s₁ → c.maxLocals = am_nL M → c.exceptionTable.toList = tableOf (am_hh M) →
      (va_Pc As (fun U => U.heap.size = sz ∧ va_P (am_D X) am_cl ws U.heap ∧ va_D (fun _ => True) ws ∧ am_Gt X (va_A ws sz) U U.heap)) args s →
      W p (am_l X) e (headSpec (am_ws M) (am_rm d mc ms)).room s m args below meth c s.heap [] 0 0 (vx_MQ below (am_Qc X (va_A ws sz) Post) (am_XC X (va_A ws sz) Post) args s mc ms (va_A ws sz)) (entryFrame m args (am_nL M)) := by
    intro p e s m args below meth c s₁ B hml ht hv
    obtain ⟨rfl, hsz, hP, hD0, hG⟩ := hv
    subst hsz
    have hts : ∀ w ∈ am_ws M, w.before As.toArray s = true := atoms_spec (ws := am_ws M) B.pre
    rw [lg_entry_eq]
    have hL := lv_entry As (n := am_nL M) (by rw [hlen]; exact hl)
    refine h p e _ s m As.toArray below meth c s.heap [] 0 0 _ (va_A ws s.heap.size) mc ms ⟨B.exec, B.bytes, B.returns, hml, findClass_of_methodNamed B.named, fun w hw => hts w (List.mem_cons_of_mem _ hw), B.notSynchronized, ht, (name_of_methodNamed B.named B.method).1⟩ hG (fun q hq => Or.inr hq) (Nat.le_refl _) (Nat.le_refl _) (by omega) (by omega) (Nat.le_refl _) (Nat.le_refl _) hP (hD0.self (sz := s.heap.size)) va_S.rf ?_
    refine ⟨hL.1, hL.2.1, by rw [List.length_append, List.length_replicate]; omega, fun v hv => ?_, fun i v hi hne => ?_⟩
    · rcases List.mem_append.mp hv with h1 | h1
      · exact hc v h1
      · rw [(List.mem_replicate.mp h1).2]; rfl
    · by_cases hi2 : i < As.length
      · rw [List.getElem?_append_left hi2] at hi
        rw [hsl As hc, List.getElem?_toArray, List.getElem?_append_left (by rw [List.length_map]; exact hi2), List.getElem?_map, hi]; rfl
      · rw [List.getElem?_append_right (by omega)] at hi
        have := List.mem_replicate.mp (List.mem_of_getElem? hi)
        exact absurd this.2 hne
  cases hh : am_hh M with
  | nil =>
    have hcw : am_cw M = Cond.code (am_y M) (am_c M) (am_nL M) (am_ret M) := by unfold am_cw; rw [hh]
    refine vx_ofW (cc := am_c M) (maxL := am_nL M) (ret := am_ret M) hy (by show am_cw M :: am_tbl = _; rw [hcw]) ?_
    intro p e s m args below meth c s₁ B hml ht hv
    refine body p e s m args below meth c s₁ B hml ?_ hv
    rw [hh]
    cases hz : c.exceptionTable.toList with
    | nil => rfl
    | cons a t => exact (ht a (by rw [hz]; exact List.mem_cons_self)).elim
  | cons a t =>
    have hcw : am_cw M = Cond.codeWith (am_y M) (am_c M) (am_nL M) (am_ret M) (am_hh M) := by unfold am_cw; rw [hh]
    refine vx_ofWH (cc := am_c M) (maxL := am_nL M) (ret := am_ret M) (hh := am_hh M) hy (by show am_cw M :: am_tbl = _; rw [hcw]) ?_
    intro p e s m args below meth c s₁ B hml hv
    refine body p e s m args below meth c s₁ B hml ?_ hv
    have hts : ∀ w ∈ am_ws M, w.before args s = true := atoms_spec (ws := am_ws M) B.pre
    have h9 := hts (am_cw M) List.mem_cons_self
    rw [hcw] at h9
    exact vx_table (x := am_y M) B h9
end
section
section AwRows
variable {X : am_X} {M : am_M} {d mc ms pc : Nat} {ls st : List Value} {ws : va_W} {Post : am_QT} {P : am_O → va_W → Prop}
theorem aw_iconst {n : Int} {v : Int32} (hd : decode (am_c M) pc = .ok (.iconst n, 1)) (hv : Int32.ofInt n = v) (k : AW X M d mc ms (pc + 1) ls (.int v :: st) ws Post) : AW X M d mc ms pc ls st ws Post := by
  intro p e R s m args below meth c H locs cells slots L A kc ks a1 a2 a3 a4 a5 a6 a7 a8 a9 a10 a11 a12 a13
  exact lv_iconst a1.1 a1.2.1 hd hv (k p e R s m args below meth c H locs cells slots L A kc ks a1 a2 a3 a4 a5 a6 a7 a8 a9 a10 a11 a12 a13)
theorem aw_bipush {n : Int} {v : Int32} (hd : decode (am_c M) pc = .ok (.bipush n, 2)) (hv : (Int8.ofInt n).toInt32 = v) (k : AW X M d mc ms (pc + 2) ls (.int v :: st) ws Post) : AW X M d mc ms pc ls st ws Post := by
  intro p e R s m args below meth c H locs cells slots L A kc ks a1 a2 a3 a4 a5 a6 a7 a8 a9 a10 a11 a12 a13
  exact lv_bipush a1.1 a1.2.1 hd hv (k p e R s m args below meth c H locs cells slots L A kc ks a1 a2 a3 a4 a5 a6 a7 a8 a9 a10 a11 a12 a13)
theorem aw_sipush {n : Int} {v : Int32} (hd : decode (am_c M) pc = .ok (.sipush n, 3)) (hv : (Int16.ofInt n).toInt32 = v) (k : AW X M d mc ms (pc + 3) ls (.int v :: st) ws Post) : AW X M d mc ms pc ls st ws Post := by
  intro p e R s m args below meth c H locs cells slots L A kc ks a1 a2 a3 a4 a5 a6 a7 a8 a9 a10 a11 a12 a13
  exact lv_sipush a1.1 a1.2.1 hd hv (k p e R s m args below meth c H locs cells slots L A kc ks a1 a2 a3 a4 a5 a6 a7 a8 a9 a10 a11 a12 a13)
theorem aw_null  (hd : decode (am_c M) pc = .ok (.aconst_null, 1)) (k : AW X M d mc ms (pc + 1) ls (.null :: st) ws Post) : AW X M d mc ms pc ls st ws Post := by
  intro p e R s m args below meth c H locs cells slots L A kc ks a1 a2 a3 a4 a5 a6 a7 a8 a9 a10 a11 a12 a13
  exact lv_null a1.1 a1.2.1 hd (k p e R s m args below meth c H locs cells slots L A kc ks a1 a2 a3 a4 a5 a6 a7 a8 a9 a10 a11 a12 a13)
theorem aw_ldc {i : Nat} {v : Int32} (hd : decode (am_c M) pc = .ok (.ldc i, 2)) (hc : Cond.constant (am_y M).cls i v ∈ am_tbl) (k : AW X M d mc ms (pc + 2) ls (.int v :: st) ws Post) : AW X M d mc ms pc ls st ws Post := by
  intro p e R s m args below meth c H locs cells slots L A kc ks a1 a2 a3 a4 a5 a6 a7 a8 a9 a10 a11 a12 a13
  exact lv_ldc a1.1 a1.2.1 a1.2.2.2.2.1 (a1.2.2.2.2.2.1 _ hc) hd (k p e R s m args below meth c H locs cells slots L A kc ks a1 a2 a3 a4 a5 a6 a7 a8 a9 a10 a11 a12 a13)
theorem aw_iload_n {i : Fin 4} {x : Int32} (hd : decode (am_c M) pc = .ok (.iload_n i, 1)) (hl : ls[(i : Nat)]? = some (.int x)) (k : AW X M d mc ms (pc + 1) ls (.int x :: st) ws Post) : AW X M d mc ms pc ls st ws Post := by
  intro p e R s m args below meth c H locs cells slots L A kc ks a1 a2 a3 a4 a5 a6 a7 a8 a9 a10 a11 a12 a13
  exact lv_iload_n a1.1 a1.2.1 hd rfl (a13.at hl (by simp)) (k p e R s m args below meth c H locs cells slots L A kc ks a1 a2 a3 a4 a5 a6 a7 a8 a9 a10 a11 a12 a13)
theorem aw_iload {i : Nat} {x : Int32} (hd : decode (am_c M) pc = .ok (.iload i, 2)) (hl : ls[i]? = some (.int x)) (k : AW X M d mc ms (pc + 2) ls (.int x :: st) ws Post) : AW X M d mc ms pc ls st ws Post := by
  intro p e R s m args below meth c H locs cells slots L A kc ks a1 a2 a3 a4 a5 a6 a7 a8 a9 a10 a11 a12 a13
  exact lv_iload a1.1 a1.2.1 hd (a13.at hl (by simp)) (k p e R s m args below meth c H locs cells slots L A kc ks a1 a2 a3 a4 a5 a6 a7 a8 a9 a10 a11 a12 a13)
theorem aw_aload_n {i : Fin 4} {x : Nat} (hd : decode (am_c M) pc = .ok (.aload_n i, 1)) (hl : ls[(i : Nat)]? = some (.ref x)) (k : AW X M d mc ms (pc + 1) ls (.ref x :: st) ws Post) : AW X M d mc ms pc ls st ws Post := by
  intro p e R s m args below meth c H locs cells slots L A kc ks a1 a2 a3 a4 a5 a6 a7 a8 a9 a10 a11 a12 a13
  exact lv_aload_n a1.1 a1.2.1 hd rfl (a13.at hl (by simp)) (k p e R s m args below meth c H locs cells slots L A kc ks a1 a2 a3 a4 a5 a6 a7 a8 a9 a10 a11 a12 a13)
theorem aw_aload {i : Nat} {x : Nat} (hd : decode (am_c M) pc = .ok (.aload i, 2)) (hl : ls[i]? = some (.ref x)) (k : AW X M d mc ms (pc + 2) ls (.ref x :: st) ws Post) : AW X M d mc ms pc ls st ws Post := by
  intro p e R s m args below meth c H locs cells slots L A kc ks a1 a2 a3 a4 a5 a6 a7 a8 a9 a10 a11 a12 a13
  exact lv_aload a1.1 a1.2.1 hd (a13.at hl (by simp)) (k p e R s m args below meth c H locs cells slots L A kc ks a1 a2 a3 a4 a5 a6 a7 a8 a9 a10 a11 a12 a13)
theorem aw_aload_nN {i : Fin 4} (hd : decode (am_c M) pc = .ok (.aload_n i, 1)) (hl : ls[(i : Nat)]? = some (.null)) (k : AW X M d mc ms (pc + 1) ls (.null :: st) ws Post) : AW X M d mc ms pc ls st ws Post := by
  intro p e R s m args below meth c H locs cells slots L A kc ks a1 a2 a3 a4 a5 a6 a7 a8 a9 a10 a11 a12 a13
  exact lv_aload_nN a1.1 a1.2.1 hd rfl (a13.at hl (by simp)) (k p e R s m args below meth c H locs cells slots L A kc ks a1 a2 a3 a4 a5 a6 a7 a8 a9 a10 a11 a12 a13)
theorem aw_aloadN {i : Nat} (hd : decode (am_c M) pc = .ok (.aload i, 2)) (hl : ls[i]? = some (.null)) (k : AW X M d mc ms (pc + 2) ls (.null :: st) ws Post) : AW X M d mc ms pc ls st ws Post := by
  intro p e R s m args below meth c H locs cells slots L A kc ks a1 a2 a3 a4 a5 a6 a7 a8 a9 a10 a11 a12 a13
  exact lv_aloadN a1.1 a1.2.1 hd (a13.at hl (by simp)) (k p e R s m args below meth c H locs cells slots L A kc ks a1 a2 a3 a4 a5 a6 a7 a8 a9 a10 a11 a12 a13)
theorem aw_istore_n {i : Fin 4} {x : Int32} (hd : decode (am_c M) pc = .ok (.istore_n i, 1)) (hi : (i : Nat) < am_nL M) (k : AW X M d mc ms (pc + 1) (ls.set (i : Nat) (.int x)) st ws Post) : AW X M d mc ms pc ls (.int x :: st) ws Post := by
  intro p e R s m args below meth c H locs cells slots L A kc ks a1 a2 a3 a4 a5 a6 a7 a8 a9 a10 a11 a12 a13
  exact lv_istore_n a1.1 a1.2.1 hd rfl a13.has hi rfl (fun L2 h2 => k p e R s m args below meth c H locs cells slots L2 A kc ks a1 a2 a3 a4 a5 a6 a7 a8 a9 a10 a11 a12 (a13.set rfl h2))
theorem aw_istore {i : Nat} {x : Int32} (hd : decode (am_c M) pc = .ok (.istore i, 2)) (hi : i < am_nL M) (k : AW X M d mc ms (pc + 2) (ls.set i (.int x)) st ws Post) : AW X M d mc ms pc ls (.int x :: st) ws Post := by
  intro p e R s m args below meth c H locs cells slots L A kc ks a1 a2 a3 a4 a5 a6 a7 a8 a9 a10 a11 a12 a13
  exact lv_istore a1.1 a1.2.1 hd a13.has hi rfl (fun L2 h2 => k p e R s m args below meth c H locs cells slots L2 A kc ks a1 a2 a3 a4 a5 a6 a7 a8 a9 a10 a11 a12 (a13.set rfl h2))
theorem aw_astore_n {i : Fin 4} {x : Nat} (hd : decode (am_c M) pc = .ok (.astore_n i, 1)) (hi : (i : Nat) < am_nL M) (k : AW X M d mc ms (pc + 1) (ls.set (i : Nat) (.ref x)) st ws Post) : AW X M d mc ms pc ls (.ref x :: st) ws Post := by
  intro p e R s m args below meth c H locs cells slots L A kc ks a1 a2 a3 a4 a5 a6 a7 a8 a9 a10 a11 a12 a13
  exact lv_astore_n a1.1 a1.2.1 hd rfl a13.has hi rfl (fun L2 h2 => k p e R s m args below meth c H locs cells slots L2 A kc ks a1 a2 a3 a4 a5 a6 a7 a8 a9 a10 a11 a12 (a13.set rfl h2))
theorem aw_astore {i : Nat} {x : Nat} (hd : decode (am_c M) pc = .ok (.astore i, 2)) (hi : i < am_nL M) (k : AW X M d mc ms (pc + 2) (ls.set i (.ref x)) st ws Post) : AW X M d mc ms pc ls (.ref x :: st) ws Post := by
  intro p e R s m args below meth c H locs cells slots L A kc ks a1 a2 a3 a4 a5 a6 a7 a8 a9 a10 a11 a12 a13
  exact lv_astore a1.1 a1.2.1 hd a13.has hi rfl (fun L2 h2 => k p e R s m args below meth c H locs cells slots L2 A kc ks a1 a2 a3 a4 a5 a6 a7 a8 a9 a10 a11 a12 (a13.set rfl h2))
theorem aw_astore_nN {i : Fin 4} (hd : decode (am_c M) pc = .ok (.astore_n i, 1)) (hi : (i : Nat) < am_nL M) (k : AW X M d mc ms (pc + 1) (ls.set (i : Nat) (.null)) st ws Post) : AW X M d mc ms pc ls (.null :: st) ws Post := by
  intro p e R s m args below meth c H locs cells slots L A kc ks a1 a2 a3 a4 a5 a6 a7 a8 a9 a10 a11 a12 a13
  exact lv_astore_nN a1.1 a1.2.1 hd rfl a13.has hi rfl (fun L2 h2 => k p e R s m args below meth c H locs cells slots L2 A kc ks a1 a2 a3 a4 a5 a6 a7 a8 a9 a10 a11 a12 (a13.set rfl h2))
theorem aw_astoreN {i : Nat} (hd : decode (am_c M) pc = .ok (.astore i, 2)) (hi : i < am_nL M) (k : AW X M d mc ms (pc + 2) (ls.set i (.null)) st ws Post) : AW X M d mc ms pc ls (.null :: st) ws Post := by
  intro p e R s m args below meth c H locs cells slots L A kc ks a1 a2 a3 a4 a5 a6 a7 a8 a9 a10 a11 a12 a13
  exact lv_astoreN a1.1 a1.2.1 hd a13.has hi rfl (fun L2 h2 => k p e R s m args below meth c H locs cells slots L2 A kc ks a1 a2 a3 a4 a5 a6 a7 a8 a9 a10 a11 a12 (a13.set rfl h2))
theorem aw_iinc {i : Nat} {n : Int} {x v : Int32} (hd : decode (am_c M) pc = .ok (.iinc i n, 3)) (hl : ls[i]? = some (.int x)) (hv : x + Int32.ofInt n = v) (k : AW X M d mc ms (pc + 3) (ls.set i (.int v)) st ws Post) : AW X M d mc ms pc ls st ws Post := by
  intro p e R s m args below meth c H locs cells slots L A kc ks a1 a2 a3 a4 a5 a6 a7 a8 a9 a10 a11 a12 a13
  have hi : i < am_nL M := by rw [← a13.2.2.1]; exact (List.getElem?_eq_some_iff.mp hl).1
  have hm : (i, Value.int x) ∈ am_lv ls := List.mem_map.mpr ⟨(.int x, i), List.mem_filter.mpr ⟨List.mk_mem_zipIdx_iff_getElem?.mpr hl, by simp⟩, rfl⟩
  obtain ⟨q, hq⟩ := List.getElem?_of_mem hm
  exact lv_iinc a1.1 a1.2.1 hd a13.has (k := q) hq hv hi rfl (fun L2 h2 => k p e R s m args below meth c H locs cells slots L2 A kc ks a1 a2 a3 a4 a5 a6 a7 a8 a9 a10 a11 a12 (a13.set rfl h2))
theorem aw_iadd {x y : Int32} (hd : decode (am_c M) pc = .ok (.iadd, 1)) (k : AW X M d mc ms (pc + 1) ls (.int (x + y) :: st) ws Post) : AW X M d mc ms pc ls (.int y :: .int x :: st) ws Post := by
  intro p e R s m args below meth c H locs cells slots L A kc ks a1 a2 a3 a4 a5 a6 a7 a8 a9 a10 a11 a12 a13
  exact lv_iadd a1.1 a1.2.1 hd (k p e R s m args below meth c H locs cells slots L A kc ks a1 a2 a3 a4 a5 a6 a7 a8 a9 a10 a11 a12 a13)
theorem aw_isub {x y : Int32} (hd : decode (am_c M) pc = .ok (.isub, 1)) (k : AW X M d mc ms (pc + 1) ls (.int (x - y) :: st) ws Post) : AW X M d mc ms pc ls (.int y :: .int x :: st) ws Post := by
  intro p e R s m args below meth c H locs cells slots L A kc ks a1 a2 a3 a4 a5 a6 a7 a8 a9 a10 a11 a12 a13
  exact lv_isub a1.1 a1.2.1 hd (k p e R s m args below meth c H locs cells slots L A kc ks a1 a2 a3 a4 a5 a6 a7 a8 a9 a10 a11 a12 a13)
theorem aw_imul {x y : Int32} (hd : decode (am_c M) pc = .ok (.imul, 1)) (k : AW X M d mc ms (pc + 1) ls (.int (x * y) :: st) ws Post) : AW X M d mc ms pc ls (.int y :: .int x :: st) ws Post := by
  intro p e R s m args below meth c H locs cells slots L A kc ks a1 a2 a3 a4 a5 a6 a7 a8 a9 a10 a11 a12 a13
  exact lv_imul a1.1 a1.2.1 hd (k p e R s m args below meth c H locs cells slots L A kc ks a1 a2 a3 a4 a5 a6 a7 a8 a9 a10 a11 a12 a13)
theorem aw_iand {x y : Int32} (hd : decode (am_c M) pc = .ok (.iand, 1)) (k : AW X M d mc ms (pc + 1) ls (.int (x &&& y) :: st) ws Post) : AW X M d mc ms pc ls (.int y :: .int x :: st) ws Post := by
  intro p e R s m args below meth c H locs cells slots L A kc ks a1 a2 a3 a4 a5 a6 a7 a8 a9 a10 a11 a12 a13
  exact lv_iand a1.1 a1.2.1 hd (k p e R s m args below meth c H locs cells slots L A kc ks a1 a2 a3 a4 a5 a6 a7 a8 a9 a10 a11 a12 a13)
theorem aw_ishr {x y : Int32} (hd : decode (am_c M) pc = .ok (.ishr, 1)) (k : AW X M d mc ms (pc + 1) ls (.int (x >>> (y &&& 31)) :: st) ws Post) : AW X M d mc ms pc ls (.int y :: .int x :: st) ws Post := by
  intro p e R s m args below meth c H locs cells slots L A kc ks a1 a2 a3 a4 a5 a6 a7 a8 a9 a10 a11 a12 a13
  exact lv_ishr a1.1 a1.2.1 hd (k p e R s m args below meth c H locs cells slots L A kc ks a1 a2 a3 a4 a5 a6 a7 a8 a9 a10 a11 a12 a13)
theorem aw_idiv {x y : Int32} (hd : decode (am_c M) pc = .ok (.idiv, 1)) (hne : ¬ y = 0) (k : AW X M d mc ms (pc + 1) ls (.int (x / y) :: st) ws Post) : AW X M d mc ms pc ls (.int y :: .int x :: st) ws Post := by
  intro p e R s m args below meth c H locs cells slots L A kc ks a1 a2 a3 a4 a5 a6 a7 a8 a9 a10 a11 a12 a13
  exact lv_idiv a1.1 a1.2.1 hd hne (k p e R s m args below meth c H locs cells slots L A kc ks a1 a2 a3 a4 a5 a6 a7 a8 a9 a10 a11 a12 a13)
theorem aw_irem {x y : Int32} (hd : decode (am_c M) pc = .ok (.irem, 1)) (hne : ¬ y = 0) (k : AW X M d mc ms (pc + 1) ls (.int (x - x / y * y) :: st) ws Post) : AW X M d mc ms pc ls (.int y :: .int x :: st) ws Post := by
  intro p e R s m args below meth c H locs cells slots L A kc ks a1 a2 a3 a4 a5 a6 a7 a8 a9 a10 a11 a12 a13
  exact lv_irem a1.1 a1.2.1 hd hne (k p e R s m args below meth c H locs cells slots L A kc ks a1 a2 a3 a4 a5 a6 a7 a8 a9 a10 a11 a12 a13)
theorem aw_i2l {x : Int32} (hd : decode (am_c M) pc = .ok (.i2l, 1)) (k : AW X M d mc ms (pc + 1) ls (.long x.toInt64 :: st) ws Post) : AW X M d mc ms pc ls (.int x :: st) ws Post := by
  intro p e R s m args below meth c H locs cells slots L A kc ks a1 a2 a3 a4 a5 a6 a7 a8 a9 a10 a11 a12 a13
  exact lv_i2l a1.1 a1.2.1 hd rfl (k p e R s m args below meth c H locs cells slots L A kc ks a1 a2 a3 a4 a5 a6 a7 a8 a9 a10 a11 a12 a13)
theorem aw_lcmp {x y : Int64} (hd : decode (am_c M) pc = .ok (.lcmp, 1)) (k : AW X M d mc ms (pc + 1) ls (.int (lg_cmp x y) :: st) ws Post) : AW X M d mc ms pc ls (.long y :: .long x :: st) ws Post := by
  intro p e R s m args below meth c H locs cells slots L A kc ks a1 a2 a3 a4 a5 a6 a7 a8 a9 a10 a11 a12 a13
  exact W.lcmp a1.1 a1.2.1 hd (k p e R s m args below meth c H locs cells slots L A kc ks a1 a2 a3 a4 a5 a6 a7 a8 a9 a10 a11 a12 a13)
theorem aw_dup {v : Value} (hd : decode (am_c M) pc = .ok (.dup, 1)) (hv : v.category = 1) (k : AW X M d mc ms (pc + 1) ls (v :: v :: st) ws Post) : AW X M d mc ms pc ls (v :: st) ws Post := by
  intro p e R s m args below meth c H locs cells slots L A kc ks a1 a2 a3 a4 a5 a6 a7 a8 a9 a10 a11 a12 a13
  exact lv_dup a1.1 a1.2.1 hd hv (k p e R s m args below meth c H locs cells slots L A kc ks a1 a2 a3 a4 a5 a6 a7 a8 a9 a10 a11 a12 a13)
theorem aw_dup2 {v u : Value} (hd : decode (am_c M) pc = .ok (.dup2, 1)) (hv : v.category = 1) (hu : u.category = 1) (k : AW X M d mc ms (pc + 1) ls (v :: u :: v :: u :: st) ws Post) : AW X M d mc ms pc ls (v :: u :: st) ws Post := by
  intro p e R s m args below meth c H locs cells slots L A kc ks a1 a2 a3 a4 a5 a6 a7 a8 a9 a10 a11 a12 a13
  exact lv_dup2_11 a1.1 a1.2.1 hd hv hu (k p e R s m args below meth c H locs cells slots L A kc ks a1 a2 a3 a4 a5 a6 a7 a8 a9 a10 a11 a12 a13)
theorem aw_pop {v : Value} (hd : decode (am_c M) pc = .ok (.pop, 1)) (hv : v.category = 1) (k : AW X M d mc ms (pc + 1) ls st ws Post) : AW X M d mc ms pc ls (v :: st) ws Post := by
  intro p e R s m args below meth c H locs cells slots L A kc ks a1 a2 a3 a4 a5 a6 a7 a8 a9 a10 a11 a12 a13
  exact lv_pop a1.1 a1.2.1 hd hv (k p e R s m args below meth c H locs cells slots L A kc ks a1 a2 a3 a4 a5 a6 a7 a8 a9 a10 a11 a12 a13)
theorem aw_if_eq {x : Int32} {off : Int} (hd : decode (am_c M) pc = .ok (.ifCond .eq off, 3)) (tgt : Nat) (ht : (pc : Int) + off = (tgt : Int)) (kt : x = 0 → AW X M d mc ms tgt ls st ws Post) (kf : ¬ x = 0 → AW X M d mc ms (pc + 3) ls st ws Post) : AW X M d mc ms pc ls (.int x :: st) ws Post := by
  intro p e R s m args below meth c H locs cells slots L A kc ks a1 a2 a3 a4 a5 a6 a7 a8 a9 a10 a11 a12 a13
  exact lv_if_eq a1.1 a1.2.1 hd ht (fun h => kt h p e R s m args below meth c H locs cells slots L A kc ks a1 a2 a3 a4 a5 a6 a7 a8 a9 a10 a11 a12 a13) (fun h => kf h p e R s m args below meth c H locs cells slots L A kc ks a1 a2 a3 a4 a5 a6 a7 a8 a9 a10 a11 a12 a13)
theorem aw_icmp_eq {x y : Int32} {off : Int} (hd : decode (am_c M) pc = .ok (.if_icmp .eq off, 3)) (tgt : Nat) (ht : (pc : Int) + off = (tgt : Int)) (kt : x = y → AW X M d mc ms tgt ls st ws Post) (kf : ¬ x = y → AW X M d mc ms (pc + 3) ls st ws Post) : AW X M d mc ms pc ls (.int y :: .int x :: st) ws Post := by
  intro p e R s m args below meth c H locs cells slots L A kc ks a1 a2 a3 a4 a5 a6 a7 a8 a9 a10 a11 a12 a13
  exact lv_icmp_eq a1.1 a1.2.1 hd ht (fun h => kt h p e R s m args below meth c H locs cells slots L A kc ks a1 a2 a3 a4 a5 a6 a7 a8 a9 a10 a11 a12 a13) (fun h => kf h p e R s m args below meth c H locs cells slots L A kc ks a1 a2 a3 a4 a5 a6 a7 a8 a9 a10 a11 a12 a13)
theorem aw_if_ne {x : Int32} {off : Int} (hd : decode (am_c M) pc = .ok (.ifCond .ne off, 3)) (tgt : Nat) (ht : (pc : Int) + off = (tgt : Int)) (kt : ¬ x = 0 → AW X M d mc ms tgt ls st ws Post) (kf : x = 0 → AW X M d mc ms (pc + 3) ls st ws Post) : AW X M d mc ms pc ls (.int x :: st) ws Post := by
  intro p e R s m args below meth c H locs cells slots L A kc ks a1 a2 a3 a4 a5 a6 a7 a8 a9 a10 a11 a12 a13
  exact lv_if_ne a1.1 a1.2.1 hd ht (fun h => kt h p e R s m args below meth c H locs cells slots L A kc ks a1 a2 a3 a4 a5 a6 a7 a8 a9 a10 a11 a12 a13) (fun h => kf h p e R s m args below meth c H locs cells slots L A kc ks a1 a2 a3 a4 a5 a6 a7 a8 a9 a10 a11 a12 a13)
theorem aw_icmp_ne {x y : Int32} {off : Int} (hd : decode (am_c M) pc = .ok (.if_icmp .ne off, 3)) (tgt : Nat) (ht : (pc : Int) + off = (tgt : Int)) (kt : ¬ x = y → AW X M d mc ms tgt ls st ws Post) (kf : x = y → AW X M d mc ms (pc + 3) ls st ws Post) : AW X M d mc ms pc ls (.int y :: .int x :: st) ws Post := by
  intro p e R s m args below meth c H locs cells slots L A kc ks a1 a2 a3 a4 a5 a6 a7 a8 a9 a10 a11 a12 a13
  exact lv_icmp_ne a1.1 a1.2.1 hd ht (fun h => kt h p e R s m args below meth c H locs cells slots L A kc ks a1 a2 a3 a4 a5 a6 a7 a8 a9 a10 a11 a12 a13) (fun h => kf h p e R s m args below meth c H locs cells slots L A kc ks a1 a2 a3 a4 a5 a6 a7 a8 a9 a10 a11 a12 a13)
theorem aw_if_lt {x : Int32} {off : Int} (hd : decode (am_c M) pc = .ok (.ifCond .lt off, 3)) (tgt : Nat) (ht : (pc : Int) + off = (tgt : Int)) (kt : x < 0 → AW X M d mc ms tgt ls st ws Post) (kf : ¬ x < 0 → AW X M d mc ms (pc + 3) ls st ws Post) : AW X M d mc ms pc ls (.int x :: st) ws Post := by
  intro p e R s m args below meth c H locs cells slots L A kc ks a1 a2 a3 a4 a5 a6 a7 a8 a9 a10 a11 a12 a13
  exact lv_if_lt a1.1 a1.2.1 hd ht (fun h => kt h p e R s m args below meth c H locs cells slots L A kc ks a1 a2 a3 a4 a5 a6 a7 a8 a9 a10 a11 a12 a13) (fun h => kf h p e R s m args below meth c H locs cells slots L A kc ks a1 a2 a3 a4 a5 a6 a7 a8 a9 a10 a11 a12 a13)
theorem aw_icmp_lt {x y : Int32} {off : Int} (hd : decode (am_c M) pc = .ok (.if_icmp .lt off, 3)) (tgt : Nat) (ht : (pc : Int) + off = (tgt : Int)) (kt : x < y → AW X M d mc ms tgt ls st ws Post) (kf : ¬ x < y → AW X M d mc ms (pc + 3) ls st ws Post) : AW X M d mc ms pc ls (.int y :: .int x :: st) ws Post := by
  intro p e R s m args below meth c H locs cells slots L A kc ks a1 a2 a3 a4 a5 a6 a7 a8 a9 a10 a11 a12 a13
  exact lv_icmp_lt a1.1 a1.2.1 hd ht (fun h => kt h p e R s m args below meth c H locs cells slots L A kc ks a1 a2 a3 a4 a5 a6 a7 a8 a9 a10 a11 a12 a13) (fun h => kf h p e R s m args below meth c H locs cells slots L A kc ks a1 a2 a3 a4 a5 a6 a7 a8 a9 a10 a11 a12 a13)
theorem aw_if_ge {x : Int32} {off : Int} (hd : decode (am_c M) pc = .ok (.ifCond .ge off, 3)) (tgt : Nat) (ht : (pc : Int) + off = (tgt : Int)) (kt : 0 ≤ x → AW X M d mc ms tgt ls st ws Post) (kf : ¬ 0 ≤ x → AW X M d mc ms (pc + 3) ls st ws Post) : AW X M d mc ms pc ls (.int x :: st) ws Post := by
  intro p e R s m args below meth c H locs cells slots L A kc ks a1 a2 a3 a4 a5 a6 a7 a8 a9 a10 a11 a12 a13
  exact lv_if_ge a1.1 a1.2.1 hd ht (fun h => kt h p e R s m args below meth c H locs cells slots L A kc ks a1 a2 a3 a4 a5 a6 a7 a8 a9 a10 a11 a12 a13) (fun h => kf h p e R s m args below meth c H locs cells slots L A kc ks a1 a2 a3 a4 a5 a6 a7 a8 a9 a10 a11 a12 a13)
theorem aw_icmp_ge {x y : Int32} {off : Int} (hd : decode (am_c M) pc = .ok (.if_icmp .ge off, 3)) (tgt : Nat) (ht : (pc : Int) + off = (tgt : Int)) (kt : y ≤ x → AW X M d mc ms tgt ls st ws Post) (kf : ¬ y ≤ x → AW X M d mc ms (pc + 3) ls st ws Post) : AW X M d mc ms pc ls (.int y :: .int x :: st) ws Post := by
  intro p e R s m args below meth c H locs cells slots L A kc ks a1 a2 a3 a4 a5 a6 a7 a8 a9 a10 a11 a12 a13
  exact lv_icmp_ge a1.1 a1.2.1 hd ht (fun h => kt h p e R s m args below meth c H locs cells slots L A kc ks a1 a2 a3 a4 a5 a6 a7 a8 a9 a10 a11 a12 a13) (fun h => kf h p e R s m args below meth c H locs cells slots L A kc ks a1 a2 a3 a4 a5 a6 a7 a8 a9 a10 a11 a12 a13)
theorem aw_if_gt {x : Int32} {off : Int} (hd : decode (am_c M) pc = .ok (.ifCond .gt off, 3)) (tgt : Nat) (ht : (pc : Int) + off = (tgt : Int)) (kt : 0 < x → AW X M d mc ms tgt ls st ws Post) (kf : ¬ 0 < x → AW X M d mc ms (pc + 3) ls st ws Post) : AW X M d mc ms pc ls (.int x :: st) ws Post := by
  intro p e R s m args below meth c H locs cells slots L A kc ks a1 a2 a3 a4 a5 a6 a7 a8 a9 a10 a11 a12 a13
  exact lv_if_gt a1.1 a1.2.1 hd ht (fun h => kt h p e R s m args below meth c H locs cells slots L A kc ks a1 a2 a3 a4 a5 a6 a7 a8 a9 a10 a11 a12 a13) (fun h => kf h p e R s m args below meth c H locs cells slots L A kc ks a1 a2 a3 a4 a5 a6 a7 a8 a9 a10 a11 a12 a13)
theorem aw_icmp_gt {x y : Int32} {off : Int} (hd : decode (am_c M) pc = .ok (.if_icmp .gt off, 3)) (tgt : Nat) (ht : (pc : Int) + off = (tgt : Int)) (kt : y < x → AW X M d mc ms tgt ls st ws Post) (kf : ¬ y < x → AW X M d mc ms (pc + 3) ls st ws Post) : AW X M d mc ms pc ls (.int y :: .int x :: st) ws Post := by
  intro p e R s m args below meth c H locs cells slots L A kc ks a1 a2 a3 a4 a5 a6 a7 a8 a9 a10 a11 a12 a13
  exact lv_icmp_gt a1.1 a1.2.1 hd ht (fun h => kt h p e R s m args below meth c H locs cells slots L A kc ks a1 a2 a3 a4 a5 a6 a7 a8 a9 a10 a11 a12 a13) (fun h => kf h p e R s m args below meth c H locs cells slots L A kc ks a1 a2 a3 a4 a5 a6 a7 a8 a9 a10 a11 a12 a13)
theorem aw_if_le {x : Int32} {off : Int} (hd : decode (am_c M) pc = .ok (.ifCond .le off, 3)) (tgt : Nat) (ht : (pc : Int) + off = (tgt : Int)) (kt : x ≤ 0 → AW X M d mc ms tgt ls st ws Post) (kf : ¬ x ≤ 0 → AW X M d mc ms (pc + 3) ls st ws Post) : AW X M d mc ms pc ls (.int x :: st) ws Post := by
  intro p e R s m args below meth c H locs cells slots L A kc ks a1 a2 a3 a4 a5 a6 a7 a8 a9 a10 a11 a12 a13
  exact lv_if_le a1.1 a1.2.1 hd ht (fun h => kt h p e R s m args below meth c H locs cells slots L A kc ks a1 a2 a3 a4 a5 a6 a7 a8 a9 a10 a11 a12 a13) (fun h => kf h p e R s m args below meth c H locs cells slots L A kc ks a1 a2 a3 a4 a5 a6 a7 a8 a9 a10 a11 a12 a13)
theorem aw_icmp_le {x y : Int32} {off : Int} (hd : decode (am_c M) pc = .ok (.if_icmp .le off, 3)) (tgt : Nat) (ht : (pc : Int) + off = (tgt : Int)) (kt : x ≤ y → AW X M d mc ms tgt ls st ws Post) (kf : ¬ x ≤ y → AW X M d mc ms (pc + 3) ls st ws Post) : AW X M d mc ms pc ls (.int y :: .int x :: st) ws Post := by
  intro p e R s m args below meth c H locs cells slots L A kc ks a1 a2 a3 a4 a5 a6 a7 a8 a9 a10 a11 a12 a13
  exact lv_icmp_le a1.1 a1.2.1 hd ht (fun h => kt h p e R s m args below meth c H locs cells slots L A kc ks a1 a2 a3 a4 a5 a6 a7 a8 a9 a10 a11 a12 a13) (fun h => kf h p e R s m args below meth c H locs cells slots L A kc ks a1 a2 a3 a4 a5 a6 a7 a8 a9 a10 a11 a12 a13)
theorem aw_goto {off : Int} (hd : decode (am_c M) pc = .ok (.goto off, 3)) (tgt : Nat) (ht : (pc : Int) + off = (tgt : Int)) (k : AW X M d mc ms tgt ls st ws Post) : AW X M d mc ms pc ls st ws Post := by
  intro p e R s m args below meth c H locs cells slots L A kc ks a1 a2 a3 a4 a5 a6 a7 a8 a9 a10 a11 a12 a13
  exact lv_goto a1.1 a1.2.1 hd ht (k p e R s m args below meth c H locs cells slots L A kc ks a1 a2 a3 a4 a5 a6 a7 a8 a9 a10 a11 a12 a13)
theorem aw_ifnull {x : Nat} {off : Int} (hd : decode (am_c M) pc = .ok (.ifnull off, 3)) (k : AW X M d mc ms (pc + 3) ls st ws Post) : AW X M d mc ms pc ls (.ref x :: st) ws Post := by
  intro p e R s m args below meth c H locs cells slots L A kc ks a1 a2 a3 a4 a5 a6 a7 a8 a9 a10 a11 a12 a13
  exact lv_ifnull a1.1 a1.2.1 hd (k p e R s m args below meth c H locs cells slots L A kc ks a1 a2 a3 a4 a5 a6 a7 a8 a9 a10 a11 a12 a13)
theorem aw_ifnullN {off : Int} (hd : decode (am_c M) pc = .ok (.ifnull off, 3)) (tgt : Nat) (ht : (pc : Int) + off = (tgt : Int)) (k : AW X M d mc ms tgt ls st ws Post) : AW X M d mc ms pc ls (.null :: st) ws Post := by
  intro p e R s m args below meth c H locs cells slots L A kc ks a1 a2 a3 a4 a5 a6 a7 a8 a9 a10 a11 a12 a13
  exact lv_ifnullN a1.1 a1.2.1 hd ht (k p e R s m args below meth c H locs cells slots L A kc ks a1 a2 a3 a4 a5 a6 a7 a8 a9 a10 a11 a12 a13)
theorem aw_ifnonnull {x : Nat} {off : Int} (hd : decode (am_c M) pc = .ok (.ifnonnull off, 3)) (tgt : Nat) (ht : (pc : Int) + off = (tgt : Int)) (k : AW X M d mc ms tgt ls st ws Post) : AW X M d mc ms pc ls (.ref x :: st) ws Post := by
  intro p e R s m args below meth c H locs cells slots L A kc ks a1 a2 a3 a4 a5 a6 a7 a8 a9 a10 a11 a12 a13
  exact lv_ifnonnull a1.1 a1.2.1 hd ht (k p e R s m args below meth c H locs cells slots L A kc ks a1 a2 a3 a4 a5 a6 a7 a8 a9 a10 a11 a12 a13)
theorem aw_ifnonnullN {off : Int} (hd : decode (am_c M) pc = .ok (.ifnonnull off, 3)) (k : AW X M d mc ms (pc + 3) ls st ws Post) : AW X M d mc ms pc ls (.null :: st) ws Post := by
  intro p e R s m args below meth c H locs cells slots L A kc ks a1 a2 a3 a4 a5 a6 a7 a8 a9 a10 a11 a12 a13
  exact lv_ifnonnullN a1.1 a1.2.1 hd (k p e R s m args below meth c H locs cells slots L A kc ks a1 a2 a3 a4 a5 a6 a7 a8 a9 a10 a11 a12 a13)
theorem aw_tableIn {dflt lo hi : Int} {offs : Array Int} {len : Nat} {x : Int32} {off : Int} (hd : decode (am_c M) pc = .ok (.tableswitch dflt lo hi offs, len)) (tgt : Nat) (h1 : ¬ x.toInt < lo) (h2 : ¬ hi < x.toInt) (ho : offs[(x.toInt - lo).toNat]? = some off) (ht : (pc : Int) + off = (tgt : Int)) (k : AW X M d mc ms tgt ls st ws Post) : AW X M d mc ms pc ls (.int x :: st) ws Post := by
  intro p e R s m args below meth c H locs cells slots L A kc ks a1 a2 a3 a4 a5 a6 a7 a8 a9 a10 a11 a12 a13
  exact lv_tableIn a1.1 a1.2.1 hd h1 h2 ho ht (k p e R s m args below meth c H locs cells slots L A kc ks a1 a2 a3 a4 a5 a6 a7 a8 a9 a10 a11 a12 a13)
theorem aw_tableOut {dflt lo hi : Int} {offs : Array Int} {len : Nat} {x : Int32} (hd : decode (am_c M) pc = .ok (.tableswitch dflt lo hi offs, len)) (tgt : Nat) (h : x.toInt < lo ∨ hi < x.toInt) (ht : (pc : Int) + dflt = (tgt : Int)) (k : AW X M d mc ms tgt ls st ws Post) : AW X M d mc ms pc ls (.int x :: st) ws Post := by
  intro p e R s m args below meth c H locs cells slots L A kc ks a1 a2 a3 a4 a5 a6 a7 a8 a9 a10 a11 a12 a13
  exact lv_tableOut a1.1 a1.2.1 hd h ht (k p e R s m args below meth c H locs cells slots L A kc ks a1 a2 a3 a4 a5 a6 a7 a8 a9 a10 a11 a12 a13)
/-- the entry 'idx' of the class 'own' is the field k of the class ci: its name's words are among am_tbl -/
def am_fl (own : String) (idx ci k : Nat) (fin : Bool) (ty : FieldType) : Prop := ∃ (C : String) (T : u_T) (N : Nat) (ty0 : Nat → FieldType), am_cl[ci]? = some (C, T, N) ∧ k < N ∧ Cond.fieldLink own idx (T k).1 (T k).2.1 (T k).2.2.1 ∈ am_tbl ∧ (∀ w ∈ u_ws C T N, w ∈ am_tbl) ∧ (∀ j, j < N → parseFieldDescriptor (T j).2.2.1 = some (ty0 j)) ∧ ty0 k = ty ∧ (∀ a, a < N → ∀ b, b < N → a ≠ b → (T a).2.1 ≠ (T b).2.1) ∧ (T k).2.2.2 = fin
theorem aw_getf {idx ci j : Nat} {fin : Bool} {ty : FieldType} {a : Nat} {fs : List Value} {v : Value} (hd : decode (am_c M) pc = .ok (.getfield idx, 3)) (hf : am_fl (am_y M).cls idx ci j fin ty) (q0 : Nat) (hc : ws[q0]? = some (a, .inr (ci, fs))) (hv : fs[j]? = some v) (k : AW X M d mc ms (pc + 3) ls (v :: st) ws Post) : AW X M d mc ms pc ls (.ref a :: st) ws Post := by
  intro p e R s m args below meth c H locs cells slots L A kc ks a1 a2 a3 a4 a5 a6 a7 a8 a9 a10 a11 a12 a13
  obtain ⟨C, T, N, ty0, h1, h2, h3, h4, -⟩ := hf
  exact va_get a1.1 a1.2.1 a1.2.2.2.2.2.1 h4 a1.2.2.2.2.1 a2.1 a10 q0 hc h1 j h2 (a1.2.2.2.2.2.1 _ h3) (fun _ h9 => h9) hv hd (k p e R s m args below meth c H locs cells slots L A kc ks a1 a2 a3 a4 a5 a6 a7 a8 a9 a10 a11 a12 a13)
theorem aw_putf {idx ci j : Nat} {ty : FieldType} {a : Nat} {fs : List Value} {v : Value} (hd : decode (am_c M) pc = .ok (.putfield idx, 3)) (hf : am_fl (am_y M).cls idx ci j false ty) (q0 : Nat) (hc : ws[q0]? = some (a, .inr (ci, fs))) (hn : narrow ty v = v) (hfit : fits ty v = true) (hj : j < fs.length) (k : AW X M d mc ms (pc + 3) ls st (ws.set q0 (a, .inr (ci, fs.set j v))) Post) : AW X M d mc ms pc ls (v :: .ref a :: st) ws Post := by
  intro p e R s m args below meth c H locs cells slots L A kc ks a1 a2 a3 a4 a5 a6 a7 a8 a9 a10 a11 a12 a13
  obtain ⟨C, T, N, ty0, h1, h2, h3, h4, h5, h6, h7, h8⟩ := hf
  exact va_put a1.1 a1.2.1 a1.2.2.2.2.2.1 h4 ty0 h5 h7 a1.2.2.2.2.1 a2.1 a10 a11 a12 q0 hc h1 j h2 (a1.2.2.2.2.2.1 _ h3) (fun _ h9 => h9) h8 (h5 j h2) (by rw [h6]; exact hn) (by rw [h6]; exact hfit) hj hd (fun H1 locs1 b1 b2 b3 => k p e R s m args below meth c H1 locs1 cells slots L A kc ks a1 a2 a3 a4 a5 a6 a7 a8 a9 b1 b2 b3 a13)
/-- a final field in its own class' constructor -/
theorem aw_putF {idx ci j : Nat} {ty : FieldType} {a : Nat} {fs : List Value} {v : Value} (hd : decode (am_c M) pc = .ok (.putfield idx, 3)) (hf : am_fl (am_y M).cls idx ci j true ty) (hO : ∃ (T : u_T) (N : Nat), am_cl[ci]? = some ((am_y M).cls, T, N) ∧ (T j).1 = (am_y M).cls) (hi : (am_y M).name = "<init>") (q0 : Nat) (hc : ws[q0]? = some (a, .inr (ci, fs))) (hn : narrow ty v = v) (hfit : fits ty v = true) (hj : j < fs.length) (k : AW X M d mc ms (pc + 3) ls st (ws.set q0 (a, .inr (ci, fs.set j v))) Post) : AW X M d mc ms pc ls (v :: .ref a :: st) ws Post := by
  intro p e R s m args below meth c H locs cells slots L A kc ks a1 a2 a3 a4 a5 a6 a7 a8 a9 a10 a11 a12 a13
  obtain ⟨C, T, N, ty0, h1, h2, h3, h4, h5, h6, h7, h8⟩ := hf
  obtain ⟨T', N', g1, g2⟩ := hO
  cases h1.symm.trans g1
  exact va_putF a1.1 a1.2.1 a1.2.2.2.2.2.1 h4 ty0 h5 h7 a1.2.2.2.2.1 a2.1 a10 a11 a12 q0 hc h1 j h2 (a1.2.2.2.2.2.1 _ h3) (fun _ h9 => h9) h8 (a1.2.2.2.2.2.2.2.2.trans hi) g2 (h5 j h2) (by rw [h6]; exact hn) (by rw [h6]; exact hfit) hj hd (fun H1 locs1 b1 b2 b3 => k p e R s m args below meth c H1 locs1 cells slots L A kc ks a1 a2 a3 a4 a5 a6 a7 a8 a9 b1 b2 b3 a13)
theorem aw_iald {a n : Nat} {f : Nat → Int32} {i : Int32} (hd : decode (am_c M) pc = .ok (.iaload, 1)) (q0 : Nat) (hc : ws[q0]? = some (a, .inl (am_I X, n, .inl f))) (j : Nat) (hi : i = nI j) (hj : j < n) (hn : n < 2 ^ 31) (k : AW X M d mc ms (pc + 1) ls (.int (f j) :: st) ws Post) : AW X M d mc ms pc ls (.int i :: .ref a :: st) ws Post := by
  intro p e R s m args below meth c H locs cells slots L A kc ks a1 a2 a3 a4 a5 a6 a7 a8 a9 a10 a11 a12 a13
  subst hi
  refine va_iald a1.1 a1.2.1 a2.1 a10 q0 0 hc rfl (vp_in_nI hj hn) hd ?_
  rw [nI_clamp (Nat.lt_trans hj hn)]
  exact k p e R s m args below meth c H locs cells slots L A kc ks a1 a2 a3 a4 a5 a6 a7 a8 a9 a10 a11 a12 a13
theorem aw_iast {a n : Nat} {f : Nat → Int32} {i x : Int32} (hd : decode (am_c M) pc = .ok (.iastore, 1)) (q0 : Nat) (hc : ws[q0]? = some (a, .inl (am_I X, n, .inl f))) (j : Nat) (hi : i = nI j) (hj : j < n) (hn : n < 2 ^ 31) (k : AW X M d mc ms (pc + 1) ls st (ws.set q0 (a, .inl (am_I X, n, .inl (upd f j x)))) Post) : AW X M d mc ms pc ls (.int x :: .int i :: .ref a :: st) ws Post := by
  intro p e R s m args below meth c H locs cells slots L A kc ks a1 a2 a3 a4 a5 a6 a7 a8 a9 a10 a11 a12 a13
  subst hi
  refine va_iast a1.1 a1.2.1 a2.1 a10 a11 a12 q0 0 hc rfl (vp_in_nI hj hn) hd (fun H1 locs1 b1 b2 b3 => ?_)
  rw [nI_clamp (Nat.lt_trans hj hn)] at b1 b2
  exact k p e R s m args below meth c H1 locs1 cells slots L A kc ks a1 a2 a3 a4 a5 a6 a7 a8 a9 b1 b2 b3 a13
theorem aw_lald {a n : Nat} {f : Nat → Int64} {i : Int32} (hd : decode (am_c M) pc = .ok (.laload, 1)) (q0 : Nat) (hc : ws[q0]? = some (a, .inl (am_J X, n, .inr (.inl f)))) (j : Nat) (hi : i = nI j) (hj : j < n) (hn : n < 2 ^ 31) (k : AW X M d mc ms (pc + 1) ls (.long (f j) :: st) ws Post) : AW X M d mc ms pc ls (.int i :: .ref a :: st) ws Post := by
  intro p e R s m args below meth c H locs cells slots L A kc ks a1 a2 a3 a4 a5 a6 a7 a8 a9 a10 a11 a12 a13
  subst hi
  refine va_lald a1.1 a1.2.1 a2.1 a10 q0 2 hc rfl (vp_in_nI hj hn) hd ?_
  rw [nI_clamp (Nat.lt_trans hj hn)]
  exact k p e R s m args below meth c H locs cells slots L A kc ks a1 a2 a3 a4 a5 a6 a7 a8 a9 a10 a11 a12 a13
theorem aw_last {a n : Nat} {f : Nat → Int64} {i : Int32} {x : Int64} (hd : decode (am_c M) pc = .ok (.lastore, 1)) (q0 : Nat) (hc : ws[q0]? = some (a, .inl (am_J X, n, .inr (.inl f)))) (j : Nat) (hi : i = nI j) (hj : j < n) (hn : n < 2 ^ 31) (k : AW X M d mc ms (pc + 1) ls st (ws.set q0 (a, .inl (am_J X, n, .inr (.inl (vp_updL f j x))))) Post) : AW X M d mc ms pc ls (.long x :: .int i :: .ref a :: st) ws Post := by
  intro p e R s m args below meth c H locs cells slots L A kc ks a1 a2 a3 a4 a5 a6 a7 a8 a9 a10 a11 a12 a13
  subst hi
  refine va_last a1.1 a1.2.1 a2.1 a10 a11 a12 q0 2 hc rfl (vp_in_nI hj hn) hd (fun H1 locs1 b1 b2 b3 => ?_)
  rw [nI_clamp (Nat.lt_trans hj hn)] at b1 b2
  exact k p e R s m args below meth c H1 locs1 cells slots L A kc ks a1 a2 a3 a4 a5 a6 a7 a8 a9 b1 b2 b3 a13
theorem aw_alen {a n : Nat} {f : Nat → Int32} (hd : decode (am_c M) pc = .ok (.arraylength, 1)) (q0 : Nat) (hc : ws[q0]? = some (a, .inl (am_I X, n, .inl f))) (k : AW X M d mc ms (pc + 1) ls (.int (nI n) :: st) ws Post) : AW X M d mc ms pc ls (.ref a :: st) ws Post := by
  intro p e R s m args below meth c H locs cells slots L A kc ks a1 a2 a3 a4 a5 a6 a7 a8 a9 a10 a11 a12 a13
  exact va_alen a1.1 a1.2.1 a2.1 a10 q0 0 hc (ty := .int) rfl rfl hd (k p e R s m args below meth c H locs cells slots L A kc ks a1 a2 a3 a4 a5 a6 a7 a8 a9 a10 a11 a12 a13)
theorem aw_alenG {a n : Nat} {f : Nat → Option Nat} (hd : decode (am_c M) pc = .ok (.arraylength, 1)) (q0 : Nat) (hc : ws[q0]? = some (a, .inl (am_Gr X, n, .inr (.inr (.inr (.inr f)))))) (k : AW X M d mc ms (pc + 1) ls (.int (nI n) :: st) ws Post) : AW X M d mc ms pc ls (.ref a :: st) ws Post := by
  intro p e R s m args below meth c H locs cells slots L A kc ks a1 a2 a3 a4 a5 a6 a7 a8 a9 a10 a11 a12 a13
  exact va_alen a1.1 a1.2.1 a2.1 a10 q0 1 hc (ty := .object "SegmentForms$Grammar") rfl rfl hd (k p e R s m args below meth c H locs cells slots L A kc ks a1 a2 a3 a4 a5 a6 a7 a8 a9 a10 a11 a12 a13)
theorem aw_aald {a n : Nat} {f : Nat → Option Nat} {i : Int32} (hd : decode (am_c M) pc = .ok (.aaload, 1)) (q0 : Nat) (hc : ws[q0]? = some (a, .inl (am_Gr X, n, .inr (.inr (.inr (.inr f)))))) (j : Nat) (hi : i = nI j) (hj : j < n) (hn : n < 2 ^ 31) (k : AW X M d mc ms (pc + 1) ls (va_rf (f j) :: st) ws Post) : AW X M d mc ms pc ls (.int i :: .ref a :: st) ws Post := by
  intro p e R s m args below meth c H locs cells slots L A kc ks a1 a2 a3 a4 a5 a6 a7 a8 a9 a10 a11 a12 a13
  subst hi
  refine va_aldq a1.1 a1.2.1 a2.1 a10 q0 1 hc rfl (vp_in_nI hj hn) hd ?_
  rw [nI_clamp (Nat.lt_trans hj hn)]
  exact k p e R s m args below meth c H locs cells slots L A kc ks a1 a2 a3 a4 a5 a6 a7 a8 a9 a10 a11 a12 a13
theorem aw_aast {a n v ci : Nat} {f : Nat → Option Nat} {i : Int32} {fs : List Value} (hd : decode (am_c M) pc = .ok (.aastore, 1)) (q0 : Nat) (hc : ws[q0]? = some (a, .inl (am_Gr X, n, .inr (.inr (.inr (.inr f)))))) (qk : Nat) (hv : ws[qk]? = some (v, .inr (1, fs))) (j : Nat) (hi : i = nI j) (hj : j < n) (hn : n < 2 ^ 31) (k : AW X M d mc ms (pc + 1) ls st (ws.set q0 (a, .inl (am_Gr X, n, .inr (.inr (.inr (.inr (va_up f j (some v)))))))) Post) : AW X M d mc ms pc ls (.ref v :: .int i :: .ref a :: st) ws Post := by
  intro p e R s m args below meth c H locs cells slots L A kc ks a1 a2 a3 a4 a5 a6 a7 a8 a9 a10 a11 a12 a13
  subst hi
  refine va_astq a1.1 a1.2.1 a2.1 a10 a11 a12 q0 1 qk 1 (r := (R_Grammar, T_Grammar, 5)) hc rfl hv rfl (vp_in_nI hj hn) hd (fun H1 locs1 b1 b2 b3 => ?_)
  rw [nI_clamp (Nat.lt_trans hj hn)] at b1 b2
  exact k p e R s m args below meth c H1 locs1 cells slots L A kc ks a1 a2 a3 a4 a5 a6 a7 a8 a9 b1 b2 b3 a13
theorem aw_sld {i : Int32} (hd : decode (am_c M) pc = .ok (.iaload, 1)) (j : Nat) (hi : i = nI j) (hj : j < am_n X) (hn : am_n X < 2 ^ 31) (k : AW X M d mc ms (pc + 1) ls (.int (am_xs X j) :: st) ws Post) : AW X M d mc ms pc ls (.int i :: .ref (am_b X) :: st) ws Post := by
  intro p e R s m args below meth c H locs cells slots L A kc ks a1 a2 a3 a4 a5 a6 a7 a8 a9 a10 a11 a12 a13
  subst hi
  refine va_sld a1.1 a1.2.1 a2.2.2.2.2.2.1 a2.2.2.2.2.2.2.1 a2.2.2.2.2.2.2.2.1 a12 (vp_in_nI hj hn) hd ?_
  rw [nI_clamp (Nat.lt_trans hj hn)]
  exact k p e R s m args below meth c H locs cells slots L A kc ks a1 a2 a3 a4 a5 a6 a7 a8 a9 a10 a11 a12 a13
theorem aw_slen (hd : decode (am_c M) pc = .ok (.arraylength, 1)) (k : AW X M d mc ms (pc + 1) ls (.int (nI (am_n X)) :: st) ws Post) : AW X M d mc ms pc ls (.ref (am_b X) :: st) ws Post := by
  intro p e R s m args below meth c H locs cells slots L A kc ks a1 a2 a3 a4 a5 a6 a7 a8 a9 a10 a11 a12 a13
  exact va_slen a1.1 a1.2.1 a2.2.2.2.2.2.1 a2.2.2.2.2.2.2.1 a2.2.2.2.2.2.2.2.1 a12 hd (k p e R s m args below meth c H locs cells slots L A kc ks a1 a2 a3 a4 a5 a6 a7 a8 a9 a10 a11 a12 a13)
theorem am_UT.T {A : Nat → Prop} {U : State} {H : Heap} (h : am_UT X A U H) : va_T .int (am_U X) 5 (fun j => .int (am_untold j)) A U H := by
  obtain ⟨cell, h1, ⟨h2, -⟩, h3, h4, h5, h6⟩ := h
  exact ⟨cell, h1, h2, h3, by rw [h5]; simp, by rw [h5]; simp; rfl, fun j hj => by rw [h5]; simp [Array.getElem?_ofFn, hj], h6⟩
theorem aw_uld {i : Int32} (hd : decode (am_c M) pc = .ok (.iaload, 1)) (j : Nat) (hi : i = nI j) (hj : j < 5) (k : AW X M d mc ms (pc + 1) ls (.int (am_untold j) :: st) ws Post) : AW X M d mc ms pc ls (.int i :: .ref (am_U X) :: st) ws Post := by
  intro p e R s m args below meth c H locs cells slots L A kc ks a1 a2 a3 a4 a5 a6 a7 a8 a9 a10 a11 a12 a13
  subst hi
  exact va_ti a1.1 a1.2.1 (am_UT.T a2.2.2.1) a12 (vp_in_nI hj (by decide)) (by rw [nI_clamp (Nat.lt_trans hj (by decide))]) hd (k p e R s m args below meth c H locs cells slots L A kc ks a1 a2 a3 a4 a5 a6 a7 a8 a9 a10 a11 a12 a13)
theorem aw_ulen (hd : decode (am_c M) pc = .ok (.arraylength, 1)) (k : AW X M d mc ms (pc + 1) ls (.int (nI 5) :: st) ws Post) : AW X M d mc ms pc ls (.ref (am_U X) :: st) ws Post := by
  intro p e R s m args below meth c H locs cells slots L A kc ks a1 a2 a3 a4 a5 a6 a7 a8 a9 a10 a11 a12 a13
  exact va_tlen a1.1 a1.2.1 (am_UT.T a2.2.2.1) a12 rfl hd (k p e R s m args below meth c H locs cells slots L A kc ks a1 a2 a3 a4 a5 a6 a7 a8 a9 a10 a11 a12 a13)
theorem aw_gets {idx : Nat} (hd : decode (am_c M) pc = .ok (.getstatic idx, 3)) (hf : Cond.fieldLink (am_y M).cls idx "SegmentForms$ServiceSigns" "UNTOLD" "[I" ∈ am_tbl) (k : AW X M d mc ms (pc + 3) ls (.ref (am_U X) :: st) ws Post) : AW X M d mc ms pc ls st ws Post := by
  intro p e R s m args below meth c H locs cells slots L A kc ks a1 a2 a3 a4 a5 a6 a7 a8 a9 a10 a11 a12 a13
  exact va_gets a1.1 a1.2.1 a2.2.1 a12 a1.2.2.2.2.1 (a1.2.2.2.2.2.1 _ hf) (fun _ h9 => h9) hd (k p e R s m args below meth c H locs cells slots L A kc ks a1 a2 a3 a4 a5 a6 a7 a8 a9 a10 a11 a12 a13)
theorem aw_iret {v : Int32} (hd : decode (am_c M) pc = .ok (.ireturn, 1)) (hr : am_ret M = some .int) (hp : P (.inl (some (.int v))) ws) : AW X M d mc ms pc ls [.int v] ws (am_E X P) := by
  intro p e R s m args below meth c H locs cells slots L A kc ks a1 a2 a3 a4 a5 a6 a7 a8 a9 a10 a11 a12 a13
  exact vx_ret (W.widen (k := kc) (n := ks) (by omega) (by omega) (W.iret (free := A) a1.1 a1.2.1 (a1.2.2.1.trans hr) (fun t ht _ => ⟨⟨_, ws, rfl, hp, by rw [ht]; exact a10, a11⟩, a12.F ht⟩) a12.2.2 hd a1.2.2.2.2.2.2.1))
theorem aw_zret {v : Int32} (hd : decode (am_c M) pc = .ok (.ireturn, 1)) (hr : am_ret M = some .boolean) (hv : v = 0 ∨ v = 1) (hp : P (.inl (some (.int v))) ws) : AW X M d mc ms pc ls [.int v] ws (am_E X P) := by
  intro p e R s m args below meth c H locs cells slots L A kc ks a1 a2 a3 a4 a5 a6 a7 a8 a9 a10 a11 a12 a13
  exact vx_ret (W.widen (k := kc) (n := ks) (by omega) (by omega) (W.zret (free := A) a1.1 a1.2.1 (a1.2.2.1.trans hr) (by rcases hv with rfl | rfl <;> decide) (fun t ht _ => ⟨⟨_, ws, rfl, hp, by rw [ht]; exact a10, a11⟩, a12.F ht⟩) a12.2.2 hd a1.2.2.2.2.2.2.1))
theorem aw_vret (hd : decode (am_c M) pc = .ok (.return_, 1)) (hr : am_ret M = none) (hp : P (.inl none) ws) : AW X M d mc ms pc ls [] ws (am_E X P) := by
  intro p e R s m args below meth c H locs cells slots L A kc ks a1 a2 a3 a4 a5 a6 a7 a8 a9 a10 a11 a12 a13
  exact vx_ret (W.widen (k := kc) (n := ks) (by omega) (by omega) (W.vret (free := A) a1.1 a1.2.1 (a1.2.2.1.trans hr) (fun t ht _ => ⟨⟨_, ws, rfl, hp, by rw [ht]; exact a10, a11⟩, a12.F ht⟩) a12.2.2 hd a1.2.2.2.2.2.2.1))
theorem aw_aret {v : Value} {nm : String} (hd : decode (am_c M) pc = .ok (.areturn, 1)) (hr : am_ret M = some (.object nm)) (hv : v = .null ∨ ∃ a, v = .ref a) (hp : P (.inl (some v)) ws) : AW X M d mc ms pc ls [v] ws (am_E X P) := by
  intro p e R s m args below meth c H locs cells slots L A kc ks a1 a2 a3 a4 a5 a6 a7 a8 a9 a10 a11 a12 a13
  exact vx_ret (W.widen (k := kc) (n := ks) (by omega) (by omega) (W.aret (free := A) a1.1 a1.2.1 (a1.2.2.1.trans hr) (Or.inl ⟨nm, rfl⟩) hv (fun t ht _ => ⟨⟨_, ws, rfl, hp, by rw [ht]; exact a10, a11⟩, a12.F ht⟩) a12.2.2 hd a1.2.2.2.2.2.2.1))
end AwRows
end
section
/-! CALLS in the picture -/
theorem am_free {A : Nat → Prop} {ws : va_W} {H0 H : Heap} {locs : List Loc} (hD : va_D A ws) (hS : va_S A H0 H locs) (hA : ∀ q, H0.size ≤ q → A q) : ∀ q, va_A ws H.size q → A q := by
  intro q h
  rcases h with ⟨k, e, h⟩ | h
  · exact hD.2 k _ h
  · exact hA q (Nat.le_trans hS.1 h)
/-- the words of a call -/
def am_cb (own : String) (idx : Nat) (M' : am_M) (n : Nat) : Prop := Cond.methodLink own idx (am_y M') ∈ am_tbl ∧ Cond.initialized (am_y M').cls ∈ am_tbl ∧ Cond.code (am_y M') (am_c M') (am_nL M') (am_ret M') ∈ am_tbl ∧ am_hh M' = [] ∧ ((am_y M').cls ≠ "java/lang/invoke/MethodHandle" ∧ (am_y M').cls ≠ "java/lang/invoke/VarHandle") ∧ (parseMethodDescriptor (am_y M').desc).map (fun z => z.parameters.length) = some n ∧ am_nL M' ≤ 45
def am_cv (own : String) (idx : Nat) (M' : am_M) (n : Nat) : Prop := am_cb own idx M' n ∧ Cond.instanceMethod (am_y M') ∈ am_tbl ∧ Cond.selects (am_y M').cls (am_y M') (am_y M') ∈ am_tbl
def am_cs (own : String) (idx : Nat) (M' : am_M) (n : Nat) : Prop := am_cb own idx M' n ∧ Cond.static (am_y M') ∈ am_tbl
def am_ci (own : String) (idx : Nat) (M' : am_M) (n : Nat) : Prop := am_cb own idx M' n ∧ Cond.instanceMethod (am_y M') ∈ am_tbl ∧ (am_y M').name = "<init>" ∧ am_ret M' = none
theorem am_hws {M : am_M} {args : Array Value} {s : State} (hts : ∀ w ∈ am_tbl, w.before args s = true) (hc : am_cw M ∈ am_tbl) : ∀ w ∈ am_ws M, ∀ (a' : Array Value) (U : State), s.WarmedH U.vm → w.before a' U = true := by
  intro w hw a' U hW
  have key : ∀ w ∈ am_tbl, w.before a' U = true := fun w h => am_word hW (List.mem_filter.mp h).2 (hts w h)
  rcases List.mem_cons.mp hw with rfl | h
  · exact key _ hc
  · exact key _ h
theorem am_CallB {M M' : am_M} {R : Room} {s : State} {args : Array Value} {idx n d d' mc ms : Nat} (hts : ∀ w ∈ am_tbl, w.before args s = true) (h : am_cb (am_y M).cls idx M' n) (hd : d' + 1 ≤ d) (h1 : d ≤ R.frames) (h2 : 64 * d ≤ R.locals) :
    CallB R s args (am_y M).cls idx (am_y M') (am_c M') (am_nL M') (am_ret M') (am_ws M') (am_rm d' mc ms) mc ms n := by
  obtain ⟨w1, w2, w3, w4, w5, w6, w7⟩ := h
  have hcw : am_cw M' = Cond.code (am_y M') (am_c M') (am_nL M') (am_ret M') := by unfold am_cw; rw [w4]
  refine ⟨rfl, rfl, by show d' + 1 ≤ _; omega, by show 8 + (am_nL M' + 11) + 64 * d' ≤ _; omega, am_hws hts (by rw [hcw]; exact w3), by rw [← hcw]; exact List.mem_cons_self, hts _ w3, hts _ w2, w5, fun sig hs => ?_, hts _ w1⟩
  rw [hs] at w6
  exact (Option.some.inj w6).symm
/-- what a callee asks at its entry holds here -/
theorem am_pre {X : am_X} {A : Nat → Prop} {s : State} {H : Heap} {locs : List Loc} {ws : va_W} {As : List Value} (a2 : am_Gt X A s s.heap) (a3 : ∀ q, s.heap.size ≤ q → A q) (a10 : va_P (am_D X) am_cl ws H) (a11 : va_D A ws) (a12 : va_S A s.heap H locs) :
    FrameBlind (va_Pc As (fun U => U.heap.size = H.size ∧ va_P (am_D X) am_cl ws U.heap ∧ va_D (fun _ => True) ws ∧ am_Gt X (va_A ws H.size) U U.heap)) ∧ ∀ U : State, U.heap = H → s.WarmedH U.vm → va_Pc As (fun U => U.heap.size = H.size ∧ va_P (am_D X) am_cl ws U.heap ∧ va_D (fun _ => True) ws ∧ am_Gt X (va_A ws H.size) U U.heap) As.toArray U := by
  refine ⟨fun a U g mk q => ?_, fun U hU hW => ⟨rfl, by rw [hU], by rw [hU]; exact a10, a11.weaken (fun _ _ _ _ => trivial), ?_⟩⟩
  · obtain ⟨q0, q1, qP, qD, qG⟩ := q
    exact ⟨q0, q1, qP, qD, qG.to (U := U.calling g mk a) (State.WarmedH.refl U) (Nat.le_refl _) (fun _ _ _ => rfl) (fun _ _ h => h) (fun _ h => h)⟩
  · rw [hU]
    exact a2.to hW a12.1 a12.2.1 (fun q _ h => am_free a11 a12 a3 q h) (fun q h => am_free a11 a12 a3 q h)
section AmCalls
variable {X : am_X} {M M' : am_M} {d d' mc ms mc' ms' pc : Nat} {ls st : List Value} {ws : va_W} {QQ : am_QT} {Post Post' : am_O → va_W → Prop}
/-- behind a call that may throw, where this method catches nothing -/
theorem am_go {p : Program} {e : Env} {R : Room} {s : State} {m : MethodId} {args : Array Value} {below : List Frame} {meth : Method} {c : Code} {H : Heap} {locs : List Loc} {cells slots : Nat} {L : Array Slot} {A : Nat → Prop} {kc ks : Nat} {rest : List Value} {av : Array Value}
    (a1 : am_F M p s m args meth c) (a2 : am_Gt X A s s.heap) (a3 : ∀ q, s.heap.size ≤ q → A q) (a4 : d ≤ R.frames) (a5 : 64 * d ≤ R.locals) (a6 : cells + (mc' + mc) ≤ kc) (a7 : slots + (ms' + ms) ≤ ks) (a8 : kc ≤ R.cells) (a9 : ks ≤ R.slots) (a10 : va_P (am_D X) am_cl ws H) (a11 : va_D A ws) (a12 : va_S A s.heap H locs) (a13 : am_L L (am_nL M) ls)
    (hr : vx_Run p (am_l X) e R s m args below meth c H locs cells slots mc' ms' (F0 m pc L st) rest (am_Qc X (va_A ws H.size) Post' av) (am_XC X (va_A ws H.size) Post') (va_A ws H.size))
    (hh : am_hh M = []) (kk : ∀ v ws', Post' (.inl v) ws' → AW X M d mc ms (pc + 3) ls (v.toList ++ rest) ws' (am_E X Post)) (kx : ∀ E ws', Post' (.inr E) ws' → Post (.inr E) ws') :
    W p (am_l X) e R s m args below meth c H locs cells slots (am_E X Post p e s args below A kc ks) (F0 m pc L st) := by
  intro T hT XX
  have hfr := am_free a11 a12 a3
  rcases hr T hT XX with ⟨v, st₀, t, T', LL, h0, X', hL, e1, e2, ⟨⟨v', ws', hv, hp, hP', hD'⟩, hF⟩, st1⟩ | ⟨q, st₀, t, T', LL, E, ce, h0, X', hL, e1, e2, ⟨⟨ws', hp, hP', hD'⟩, hF⟩, hce, hcv, hcl, st1⟩
  · cases hv
    obtain ⟨k1, k2, k3⟩ := vx_keep h0 e1 a12 (fun q _ h => hfr q h) hfr hL hF
    obtain ⟨t2, b1, b2⟩ := kk v ws' hp p e R s m args below meth c T'.heap (locs ++ LL) (cells + mc') (slots + ms') L A kc ks a1 a2 a3 a4 a5 (by omega) (by omega) a8 a9 (by rw [e1]; exact hP') (hD'.weaken (fun k q h1 h2 => hfr _ (hD'.2 k q h1))) k3 a13 T' rfl X'
    exact ⟨t2, st1 t2 b1, b2⟩
  · obtain ⟨k1, k2, k3⟩ := vx_keep h0 e1 a12 (fun q _ h => hfr q h) hfr hL hF
    obtain ⟨t2, b1, b2⟩ := vx_out (Qc := am_Qc X A Post) (XC := am_XC X A Post) (free := A) (mc := kc) (ms := ks) (H := T'.heap) (pc := pc) (ls := L) (rest := rest) (by rw [a1.2.2.2.2.2.2.2.1, hh]; exact fun x hx => by cases hx) a1.2.2.2.2.2.2.1 (by rw [e1]; exact hce) hcv hcl (fun t9 ht9 _ => ⟨⟨ws', kx E ws' hp, by rw [ht9, e1]; exact hP', hD'.weaken (fun k q h1 h2 => hfr _ (hD'.2 k q h1))⟩, k3.F ht9⟩) k3.2.2 (by omega) (by omega) T' rfl X'
    exact ⟨t2, st1.trans b1, b2⟩
theorem aw_callV {idx n a ci : Nat} {As rest : List Value} {fs : List Value} {C : vw_C} (hd : decode (am_c M) pc = .ok (.invokevirtual idx, 3)) (hl : am_cv (am_y M).cls idx M' n) (hC : AMet X M' d' mc' ms' (.ref a :: As) ws Post') (hn : As.length = n) (hdd : d' + 1 ≤ d) (q0 : Nat) (hr : ws[q0]? = some (a, .inr (ci, fs))) (hcl : am_cl[ci]? = some C) (hCn : C.1 = (am_y M').cls) (hrest : (rest.map fun v => v.category).sum ≤ 8) (hh : am_hh M = [])
    (kk : ∀ v ws', Post' (.inl v) ws' → AW X M d mc ms (pc + 3) ls (v.toList ++ rest) ws' (am_E X Post)) (kx : ∀ E ws', Post' (.inr E) ws' → Post (.inr E) ws') : AW X M d (mc' + mc) (ms' + ms) pc ls (As.reverse ++ .ref a :: rest) ws (am_E X Post) := by
  intro p e R s m args below meth c H locs cells slots L A kc ks a1 a2 a3 a4 a5 a6 a7 a8 a9 a10 a11 a12 a13
  obtain ⟨hb, hi, hs⟩ := hl
  have hrec := va_recv a2.1 a10 (ci := ci) (q0 := q0) hcl hr
  rw [hCn] at hrec
  have hpre := am_pre (As := .ref a :: As) a2 a3 a10 a11 a12
  exact am_go a1 a2 a3 a4 a5 a6 a7 a8 a9 a10 a11 a12 a13 (vx_runV (C := (am_y M').cls) (As := As) (rest := rest) ⟨a1.1, a1.2.1, a1.2.2.2.1, a1.2.2.2.2.1, a1.2.2.2.2.2.1⟩ (hC H.size) ⟨am_CallB a1.2.2.2.2.2.1 hb hdd a4 a5, a1.2.2.2.2.2.1 _ hi, a1.2.2.2.2.2.1 _ hs⟩ ⟨hpre.1, hrec, hpre.2⟩ rfl hn a13.1 rfl (lv_room hrest) hd ⟨by omega, by omega⟩) hh kk kx
theorem aw_callS {idx n : Nat} {As rest : List Value} (hd : decode (am_c M) pc = .ok (.invokestatic idx, 3)) (hl : am_cs (am_y M).cls idx M' n) (hC : AMet X M' d' mc' ms' As ws Post') (hn : As.length = n) (hdd : d' + 1 ≤ d) (hrest : (rest.map fun v => v.category).sum ≤ 8) (hh : am_hh M = [])
    (kk : ∀ v ws', Post' (.inl v) ws' → AW X M d mc ms (pc + 3) ls (v.toList ++ rest) ws' (am_E X Post)) (kx : ∀ E ws', Post' (.inr E) ws' → Post (.inr E) ws') : AW X M d (mc' + mc) (ms' + ms) pc ls (As.reverse ++ rest) ws (am_E X Post) := by
  intro p e R s m args below meth c H locs cells slots L A kc ks a1 a2 a3 a4 a5 a6 a7 a8 a9 a10 a11 a12 a13
  obtain ⟨hb, hi⟩ := hl
  have hpre := am_pre (As := As) a2 a3 a10 a11 a12
  exact am_go a1 a2 a3 a4 a5 a6 a7 a8 a9 a10 a11 a12 a13 (vx_runS (As := As) (rest := rest) ⟨a1.1, a1.2.1, a1.2.2.2.1, a1.2.2.2.2.1, a1.2.2.2.2.2.1⟩ (hC H.size) ⟨am_CallB a1.2.2.2.2.2.1 hb hdd a4 a5, a1.2.2.2.2.2.1 _ hi⟩ hpre rfl hn a13.1 rfl (lv_room hrest) hd ⟨by omega, by omega⟩) hh kk kx
/-- a callee that never throws -/
theorem am_toMet {l : Launch} {y : MethodName} {wsy : List Cond} {rm : Room} {Pc : Array Value → State → Prop} {Qc : Array Value → State → Outcome → State → Prop} {XC : String → State → State → Prop} {free : Addr → Prop} (h : vx_Met l y wsy rm Pc Qc XC mc ms free) (hx : ∀ E s t, ¬ XC E s t) : Met l y wsy rm Pc Qc mc ms free := by
  intro p e h1 h2 h3 s m args below h4 h5 h6 h7
  obtain ⟨n, o, b1, b2, b3, b4⟩ := h p e h1 h2 h3 s m args below h4 h5 h6 h7
  refine ⟨n, o, b1, b2, b3, ?_⟩
  rcases b4 with b4 | ⟨q, -, E, ce, L, hE, -⟩
  · exact b4
  · exact (hx _ _ _ hE).elim
theorem aw_callI {idx n a : Nat} {As rest : List Value} (hd : decode (am_c M) pc = .ok (.invokespecial idx, 3)) (hl : am_ci (am_y M).cls idx M' n) (hC : AMet X M' d' mc' ms' (.ref a :: As) ws Post') (hn : As.length = n) (hdd : d' + 1 ≤ d) (hrest : (rest.map fun v => v.category).sum ≤ 8)
    (kk : ∀ v ws', Post' (.inl v) ws' → AW X M d mc ms (pc + 3) ls (v.toList ++ rest) ws' QQ) (kx : ∀ E ws', ¬ Post' (.inr E) ws') : AW X M d (mc' + mc) (ms' + ms) pc ls (As.reverse ++ .ref a :: rest) ws QQ := by
  intro p e R s m args below meth c H locs cells slots L A kc ks a1 a2 a3 a4 a5 a6 a7 a8 a9 a10 a11 a12 a13
  obtain ⟨hb, hi, hnm, hret⟩ := hl
  have hpre := am_pre (As := .ref a :: As) a2 a3 a10 a11 a12
  have hcb := am_CallB (M := M) (mc := mc') (ms := ms') a1.2.2.2.2.2.1 hb hdd a4 a5
  rw [hret] at hcb
  have hr := va_runI (As := As) (rest := rest) (locs := locs) (cells := cells) (slots := slots) (below := below) (meth := meth) (e := e) (g := F0 m pc L (As.reverse ++ .ref a :: rest)) ⟨a1.1, a1.2.1, a1.2.2.2.1, a1.2.2.2.2.1, a1.2.2.2.2.2.1⟩ (am_toMet (hC H.size) (fun E s t h => by obtain ⟨⟨w, h1, -⟩, -⟩ := h; exact kx E w h1)) ⟨hcb, hnm, a1.2.2.2.2.2.1 _ hi⟩ hpre rfl hn a13.1 rfl (lv_room hrest) hd ⟨by omega, by omega⟩
  intro T hT XX
  have hfr := am_free a11 a12 a3
  obtain ⟨v, st₀, t, T', LL, h0, X', hL, e1, e2, ⟨⟨v', ws', hv, hp, hP', hD'⟩, hF⟩, st1⟩ := hr T hT XX
  cases hv
  obtain ⟨k1, k2, k3⟩ := vx_keep h0 e1 a12 (fun q _ h => hfr q h) hfr hL hF
  obtain ⟨t2, b1, b2⟩ := kk v ws' hp p e R s m args below meth c T'.heap (locs ++ LL) (cells + mc') (slots + ms') L A kc ks a1 a2 a3 a4 a5 (by omega) (by omega) a8 a9 (by rw [e1]; exact hP') (hD'.weaken (fun k q h1 h2 => hfr _ (hD'.2 k q h1))) k3 a13 T' rfl X'
  exact ⟨t2, st1 t2 b1, b2⟩
/-- Object's own constructor -/
theorem aw_objInit {idx a : Nat} {rest : List Value} (hd : decode (am_c M) pc = .ok (.invokespecial idx, 3)) (h1 : Cond.methodLink (am_y M).cls idx Lib.objectInit ∈ am_tbl) (h2 : Cond.instanceMethod Lib.objectInit ∈ am_tbl) (h3 : Cond.code Lib.objectInit ⟨#[0xb1]⟩ 1 none ∈ am_tbl) (hdd : 1 ≤ d) (hrest : (rest.map fun v => v.category).sum ≤ 8)
    (k : AW X M d mc ms (pc + 3) ls rest ws QQ) : AW X M d mc ms pc ls (.ref a :: rest) ws QQ := by
  intro p e R s m args below meth c H locs cells slots L A kc ks a1 a2 a3 a4 a5 a6 a7 a8 a9 a10 a11 a12 a13
  refine W.objInit a1.1 a1.2.1 a1.2.2.2.2.1 (a1.2.2.2.2.2.1 _ h1) (a1.2.2.2.2.2.1 _ h2) (a1.2.2.2.2.2.1 _ h3) rfl (by rw [a1.2.2.2.1]; exact a13.1) rfl hd (by omega) (by have := lv_room (m := m) (pc := pc) (ls := L) (rest := .ref a :: rest) hrest; omega) ?_
  exact k p e R s m args below meth c H locs cells slots L A kc ks a1 a2 a3 a4 a5 a6 a7 a8 a9 a10 a11 a12 a13
/-- a new object of the class ci -/
theorem aw_new {idx ci : Nat} {C : String} {T : u_T} {N : Nat} {ty : Nat → FieldType} {fs : List Value} (hd : decode (am_c M) pc = .ok (.new idx, 3)) (hc : am_cl[ci]? = some (C, T, N)) (hin : ∀ w ∈ u_ws C T N, w ∈ am_tbl) (hty : ∀ k, k < N → parseFieldDescriptor (T k).2.2.1 = some (ty k)) (h1 : Cond.classLink (am_y M).cls idx C ∈ am_tbl) (h2 : Cond.instantiable C N ∈ am_tbl) (h3 : Cond.initialized C ∈ am_tbl) (hfs : ∀ j, j < N → defaultValue (ty j) = vp_V fs j)
    (k : ∀ q : Nat, AW X M d mc ms (pc + 3) ls (.ref q :: st) (ws ++ [(q, .inr (ci, fs))]) QQ) : AW X M d (1 + mc) (N + ms) pc ls st ws QQ := by
  intro p e R s m args below meth c H locs cells slots L A kc ks a1 a2 a3 a4 a5 a6 a7 a8 a9 a10 a11 a12 a13
  refine va_new a1.1 a1.2.1 a1.2.2.2.2.2.1 hin ty hty a1.2.2.2.2.1 (a1.2.2.2.2.2.1 _ h1) (a1.2.2.2.2.2.1 _ h2) (a1.2.2.2.2.2.1 _ h3) a2.1 a10 a11 a12 a3 hc hfs (by omega) (by omega) hd (fun q H1 b1 b2 b3 => ?_)
  exact k q p e R s m args below meth c H1 locs (cells + 1) (slots + N) L A kc ks a1 a2 a3 a4 a5 (by omega) (by omega) a8 a9 b1 b2 b3 a13
/-- a new int array -/
theorem aw_newi {n : Int32} {N : Nat} (hd : decode (am_c M) pc = .ok (.newarray .int, 2)) (hn : n = nI N) (hN : N ≤ 100000) (h1 : Cond.arrayClass .int ∈ am_tbl)
    (k : ∀ q : Nat, AW X M d mc ms (pc + 2) ls (.ref q :: st) (ws ++ [(q, .inl (am_I X, N, .inl (fun _ => 0)))]) QQ) : AW X M d (1 + mc) (N + ms) pc ls (.int n :: st) ws QQ := by
  intro p e R s m args below meth c H locs cells slots L A kc ks a1 a2 a3 a4 a5 a6 a7 a8 a9 a10 a11 a12 a13
  subst hn
  refine va_newa a1.1 a1.2.1 (atype := .int) (a1.2.2.2.2.2.1 _ h1) (ty := .int) rfl a2.1 a10 a11 a12 a3 (N' := N) (a0 := (N, .inl (fun _ => 0))) (fun cA => rfl) (nI_pos (by omega)) (nI_clamp (by omega)) (by show N * 4 ≤ _; omega) (by omega) (by omega) hd (fun q cA H1 hK b1 b2 b3 => ?_)
  have e1 := va_nm_int (hK.2 3 _ rfl).2
  have e2 := va_nm_int (a2.1.2 0 _ rfl).2
  have e3 : cA = am_I X := Option.some.inj (e1.symm.trans e2)
  subst e3
  exact k q p e R s m args below meth c H1 locs (cells + 1) (slots + N) L A kc ks a1 a2 a3 a4 a5 (by omega) (by omega) a8 a9 b1 b2 b3 a13
/-- a new array of longs -/
theorem aw_newl {n : Int32} {N : Nat} (hd : decode (am_c M) pc = .ok (.newarray .long, 2)) (hn : n = nI N) (hN : N ≤ 100000) (h1 : Cond.arrayClass .long ∈ am_tbl)
    (k : ∀ q : Nat, AW X M d mc ms (pc + 2) ls (.ref q :: st) (ws ++ [(q, .inl (am_J X, N, .inr (.inl (fun _ => 0))))]) QQ) : AW X M d (1 + mc) (N + ms) pc ls (.int n :: st) ws QQ := by
  intro p e R s m args below meth c H locs cells slots L A kc ks a1 a2 a3 a4 a5 a6 a7 a8 a9 a10 a11 a12 a13
  subst hn
  refine va_newa a1.1 a1.2.1 (atype := .long) (a1.2.2.2.2.2.1 _ h1) (ty := .long) rfl a2.1 a10 a11 a12 a3 (N' := N) (a0 := (N, .inr (.inl (fun _ => 0)))) (fun cA => rfl) (nI_pos (by omega)) (nI_clamp (by omega)) (by show N * 8 ≤ _; omega) (by omega) (by omega) hd (fun q cA H1 hK b1 b2 b3 => ?_)
  have e1 := va_nm_long (hK.2 3 _ rfl).2
  have e2 := va_nm_long (a2.1.2 2 _ rfl).2
  have e3 : cA = am_J X := Option.some.inj (e1.symm.trans e2)
  subst e3
  exact k q p e R s m args below meth c H1 locs (cells + 1) (slots + N) L A kc ks a1 a2 a3 a4 a5 (by omega) (by omega) a8 a9 b1 b2 b3 a13
/-- a new array of Grammars -/
theorem aw_newg {idx : Nat} {n : Int32} {N : Nat} (hd : decode (am_c M) pc = .ok (.anewarray idx, 3)) (hn : n = nI N) (hN : N ≤ 100000) (h1 : Cond.classLink (am_y M).cls idx "SegmentForms$Grammar" ∈ am_tbl)
    (k : ∀ q : Nat, AW X M d mc ms (pc + 3) ls (.ref q :: st) (ws ++ [(q, .inl (am_Gr X, N, .inr (.inr (.inr (.inr (fun _ => none))))))]) QQ) : AW X M d (1 + mc) (N + ms) pc ls (.int n :: st) ws QQ := by
  intro p e R s m args below meth c H locs cells slots L A kc ks a1 a2 a3 a4 a5 a6 a7 a8 a9 a10 a11 a12 a13
  subst hn
  refine va_newq a1.1 a1.2.1 a1.2.2.2.2.1 (a1.2.2.2.2.2.1 _ h1) a2.2.2.2.2.2.2.2.2.2.2.1 a2.1 a10 a11 a12 a3 (N' := N) (nI_pos (by omega)) (nI_clamp (by omega)) (by omega) (by omega) (by omega) hd (fun q cA H1 hK b1 b2 b3 => ?_)
  obtain ⟨kA, comp, -, -, -, e1⟩ := (hK.2 3 _ rfl).2
  obtain ⟨kA2, comp2, -, -, -, e2⟩ := (a2.1.2 1 _ rfl).2
  have e3 : cA = am_Gr X := Option.some.inj (e1.symm.trans e2)
  subst e3
  exact k q p e R s m args below meth c H1 locs (cells + 1) (slots + N) L A kc ks a1 a2 a3 a4 a5 (by omega) (by omega) a8 a9 b1 b2 b3 a13
end AmCalls
end
section
/-! THROWING AND CATCHING in the picture. The search through a method's table, an entry that is linked at its first use: it takes the object, or the search goes on over the warmer tables. -/
section CkGo
variable {Q : Handler → Pre} {E : CtlPost} {e : Env} {d : Bool} {acts : List Action} {s : State} {f : JFrame} {a : Addr}
theorem ck_yes {x : ExceptionTableEntry} {t : List ExceptionTableEntry} {c : ClassId} {cell : Cell} (hx : covers x f.pc = true) (h0 : x.catchType ≠ 0)
    (hl : s.vm.ClassLinks e.platform f.method.cls x.catchType c) (hcell : s.heap[a]? = some cell) (hobj : ∀ k, cell.vm ≠ .statics k)
    (hk : ∃ k, s.vm.classes[cell.cls]? = some k) (hc : ∃ k, s.vm.classes[c]? = some k) (hfit : s.vm.assignable cell.cls c = true) :
    wp (findHandler.go f a (x :: t)) Q E e d acts s ↔ Q (.found x.handlerPc) d acts (s.setVm (s.vm.noted f.method.cls x.catchType (.cls c))) := by
  simp only [covers] at hx
  obtain ⟨ha, ht⟩ := (resolveClass_links e.toSetting hl).op (op := VmOp.resolveClass f.method.cls x.catchType) rfl
  have hal : s.vm.Alike (s.vm.noted f.method.cls x.catchType (.cls c)) := (Vm.Alike.refl s.vm).noted _ _ _
  obtain ⟨k1, hk1⟩ := hk
  obtain ⟨k2, hk2⟩ := hc
  obtain ⟨k1', hk1', -⟩ := hal.2.2 _ _ hk1
  obtain ⟨k2', hk2', -⟩ := hal.2.2 _ _ hk2
  have hf' : (s.vm.noted f.method.cls x.catchType (.cls c)).assignable cell.cls c = true := by rw [hal.assignable]; exact hfit
  simp [findHandler.go, hx, h0, ha, ht, hcell, hobj, hk1', hk2', hf', VmOp.dirties, VmOp.acts]
theorem ck_no {x : ExceptionTableEntry} {t : List ExceptionTableEntry} {c : ClassId} {cell : Cell} (hx : covers x f.pc = true) (h0 : x.catchType ≠ 0)
    (hl : s.vm.ClassLinks e.platform f.method.cls x.catchType c) (hcell : s.heap[a]? = some cell) (hobj : ∀ k, cell.vm ≠ .statics k)
    (hk : ∃ k, s.vm.classes[cell.cls]? = some k) (hc : ∃ k, s.vm.classes[c]? = some k) (hno : s.vm.assignable cell.cls c = false) :
    wp (findHandler.go f a (x :: t)) Q E e d acts s ↔ wp (findHandler.go f a t) Q E e d acts (s.setVm (s.vm.noted f.method.cls x.catchType (.cls c))) := by
  simp only [covers] at hx
  obtain ⟨ha, ht⟩ := (resolveClass_links e.toSetting hl).op (op := VmOp.resolveClass f.method.cls x.catchType) rfl
  have hal : s.vm.Alike (s.vm.noted f.method.cls x.catchType (.cls c)) := (Vm.Alike.refl s.vm).noted _ _ _
  obtain ⟨k1, hk1⟩ := hk
  obtain ⟨k2, hk2⟩ := hc
  obtain ⟨k1', hk1', -⟩ := hal.2.2 _ _ hk1
  obtain ⟨k2', hk2', -⟩ := hal.2.2 _ _ hk2
  have hf' : (s.vm.noted f.method.cls x.catchType (.cls c)).assignable cell.cls c = false := by rw [hal.assignable]; exact hno
  simp [findHandler.go, hx, h0, ha, ht, hcell, hobj, hk1', hk2', hf', VmOp.dirties, VmOp.acts]
end CkGo
def ck_P (pl : Platform) (s0 : State) (d : ClassId) (pc : Nat) (thrown : ClassId) (y : ExceptionTableEntry) : Prop :=
  covers y pc = false ∨ (y.catchType ≠ 0 ∧ ∃ c, s0.vm.ClassLinks pl d y.catchType c ∧ s0.vm.assignable thrown c = false)
theorem ck_walk {e : Env} {s0 : State} {f : JFrame} {a : Addr} {cell : Cell} (hobj : ∀ k, cell.vm ≠ .statics k) (hk0 : ∃ k, s0.vm.classes[cell.cls]? = some k)
    (x : ExceptionTableEntry) (rest : List ExceptionTableEntry) (hx : covers x f.pc = true) (h0 : x.catchType ≠ 0) {cx : ClassId} (hl : s0.vm.ClassLinks e.platform f.method.cls x.catchType cx) (hfit : s0.vm.assignable cell.cls cx = true) :
    ∀ (pre : List ExceptionTableEntry) (S : State), s0.WarmedH S.vm → S.heap[a]? = some cell → (∀ y ∈ pre, ck_P e.platform s0 f.method.cls f.pc cell.cls y) →
      ∃ vm', s0.WarmedH vm' ∧ ∀ (Q : Handler → Pre) (E : CtlPost) (d : Bool) (acts : List Action), wp (findHandler.go f a (pre ++ x :: rest)) Q E e d acts S ↔ Q (.found x.handlerPc) d acts (S.setVm vm') := by
  obtain ⟨k0, hk0⟩ := hk0
  intro pre
  induction pre with
  | nil =>
    intro S hW hcell _
    obtain ⟨k0', hk0', -⟩ := hW.alike.2.2 _ _ hk0
    obtain ⟨dk, _, _, kt, hd, _, _, _, _, hkt, _, hopen⟩ := hl.here
    obtain ⟨kt', hkt', -⟩ := hW.alike.2.2 _ _ hkt
    exact ⟨_, hW.noted hd hopen (State.rightAt_cls hl), fun Q E d acts => ck_yes hx h0 (hW.classLinks hl) hcell hobj ⟨k0', hk0'⟩ ⟨kt', hkt'⟩ (by rw [hW.alike.assignable]; exact hfit)⟩
  | cons y ys ih =>
    intro S hW hcell hpass
    obtain ⟨k0', hk0', -⟩ := hW.alike.2.2 _ _ hk0
    have hrest : ∀ z ∈ ys, ck_P e.platform s0 f.method.cls f.pc cell.cls z := fun z hz => hpass z (List.mem_cons_of_mem _ hz)
    by_cases hcov : covers y f.pc = true
    · rcases hpass y List.mem_cons_self with h | ⟨g0, c, gl, hno⟩
      · rw [h] at hcov; cases hcov
      · obtain ⟨dk, _, _, kt, hd, _, _, _, _, hkt, _, hopen⟩ := gl.here
        obtain ⟨kt', hkt', -⟩ := hW.alike.2.2 _ _ hkt
        obtain ⟨vm', hW', hq⟩ := ih (S.setVm (S.vm.noted f.method.cls y.catchType (.cls c))) (hW.noted hd hopen (State.rightAt_cls gl)) hcell hrest
        exact ⟨vm', hW', fun Q E d acts => (ck_no hcov g0 (hW.classLinks gl) hcell hobj ⟨k0', hk0'⟩ ⟨kt', hkt'⟩ (by rw [hW.alike.assignable]; exact hno)).trans (hq Q E d acts)⟩
    · obtain ⟨vm', hW', hq⟩ := ih S hW hcell hrest
      exact ⟨vm', hW', fun Q E d acts => (Jvm.W.findHandler_go_skip (by simpa using hcov)).trans (hq Q E d acts)⟩
/-- what is thrown over the frame g is caught by the row x of its method's table -/
theorem ck_caught {p : Program} {l : Launch} {e : Env} {R : Room} {s : State} {m : MethodId} {args : Array Value} {below : List Frame} {meth : Method} {c : Code} {T : State} {locs : List Loc} {cells slots : Nat} (X : Stand p l e R s m args below meth c T locs cells slots) (a : Addr) {g : JFrame} (hg : g.method = m) {cell : Cell} (hcell : T.heap[a]? = some cell) (hobj : cell.vm.isStatics = false)
    (hk0 : ∃ k, s.vm.classes[cell.cls]? = some k) (pre : List ExceptionTableEntry) (x : ExceptionTableEntry) (rest : List ExceptionTableEntry) (hsplit : c.exceptionTable.toList = pre ++ x :: rest)
    (hpass : ∀ y ∈ pre, ck_P e.platform s m.cls g.pc cell.cls y) (hx : covers x g.pc = true) (h0 : x.catchType ≠ 0) {cx : ClassId} (hl : s.vm.ClassLinks e.platform m.cls x.catchType cx) (hfit : s.vm.assignable cell.cls cx = true) :
    ∃ vm', Stand p l e R s m args below meth c (T.setVm vm') locs cells slots ∧
      ∀ target, Steps p.tables e below ((T.setVm vm').setTop { g with pc := x.handlerPc, stack := [.ref a] }) target → Steps p.tables e below ((T.setTop g).pushFrame (.throwing a)) target := by
  subst hg
  obtain ⟨vm', hW', hq⟩ := ck_walk (e := e) (s0 := s) (f := g) (a := a) (VmData.ne_statics_of hobj) hk0 x rest hx h0 hl hfit pre ((T.setTop g).pushFrame (.throwing a)) X.warmed hcell hpass
  have hfind : ∀ (Q : Handler → Pre) (E : CtlPost) (d : Bool) (acts : List Action), wp (findHandler g a) Q E e d acts ((T.setTop g).pushFrame (.throwing a)) ↔ Q (.found x.handlerPc) d acts (((T.setTop g).pushFrame (.throwing a)).setVm vm') := by
    intro Q E d acts
    rw [Jvm.W.findHandler_eq (s := (T.setTop g).pushFrame (.throwing a)) (meth := meth) (code := c) X.method' X.code, hsplit]
    exact hq Q E d acts
  refine ⟨vm', X.noted hW', fun target hrest => ?_⟩
  obtain ⟨hgo, hw⟩ := X.here.throwing a (g := g)
  refine Steps.head hgo hw ?_
  have hstep : ∀ r : List Frame, (stepThrowing e ((T.setTop g).pushFrame (.throwing a)) a (.java g :: r)).Is ((((T.setTop g).pushFrame (.throwing a)).setVm vm').setFrames (.java { g with pc := x.handlerPc, stack := [.ref a] } :: r)) [] := by
    intro r
    simp only [stepThrowing, searchFrame, vmDo]
    generalize hr : Sem.go _ e false [] ((T.setTop g).pushFrame (.throwing a)) = res
    obtain ⟨as, rfl, ha⟩ := Sem.eq_ok_of hr (a := Handler.found x.handlerPc) (s' := ((T.setTop g).pushFrame (.throwing a)).setVm vm') (acts' := []) (by simp [hfind _ _ _ _])
    exact ⟨rfl, ha⟩
  have hsv : ∀ (u : State) (F G : List Frame), ((u.setFrames F).setVm vm').setFrames G = (u.setVm vm').setFrames G := by
    intro u F G
    have h1 : (u.setFrames F).setVm vm' = (u.setVm vm').setFrames F := rfl
    rw [h1, State.setFrames_setFrames]
  rw [stepThread_throwing (frames_entered X.here.top _), (hstep _).1]
  obtain ⟨g₀, hg0⟩ := Option.isSome_iff_exists.mp X.here.top
  obtain ⟨r, hr⟩ := State.topJava?_eq_some.mp hg0
  have hr' : (T.setVm vm').frames = .java g₀ :: r := hr
  rw [State.setTop_of_frames _ hr'] at hrest
  rw [hr, List.tail_cons, State.pushFrame, hsv, State.setTop_of_frames _ hr, hsv]
  exact hrest

section AmThrows
variable {X : am_X} {M M' : am_M} {d d' mc ms mc' ms' pc : Nat} {ls st : List Value} {ws : va_W} {QQ : am_QT} {Post Post' : am_O → va_W → Prop}
/-- 'throw new E("text")' in a method that catches nothing -/
theorem aw_throw {ik is ic : Nat} {E text : String} {names : List String} {rest : List Value} (d0 : decode (am_c M) pc = .ok (.new ik, 3)) (d3 : decode (am_c M) (pc + 3) = .ok (.dup, 1)) (d4 : decode (am_c M) (pc + 4) = .ok (.ldc is, 2)) (d6 : decode (am_c M) (pc + 6) = .ok (.invokespecial ic, 3)) (d9 : decode (am_c M) (pc + 9) = .ok (.athrow, 1))
    (hE : Bundle.fit E = true) (hnames : ∀ n ∈ names, Bundle.fit n = true) (w1 : Cond.classLink (am_y M).cls ik E ∈ am_tbl) (w2 : Cond.initialized E ∈ am_tbl) (w3 : ∀ w ∈ vx_atS (am_y M).cls ic E names, w ∈ am_tbl) (hgood : ∀ w ∈ Cond.classLink (am_y M).cls ik E :: Cond.initialized E :: vx_atS (am_y M).cls ic E names, vx_ot w = true)
    (hs : ((am_y M).cls, is, text) ∈ am_strs) (hd : 8 ≤ d) (hn : names.length ≤ 3) (hrest : (rest.map fun v => v.category).sum ≤ 8) (hh : am_hh M = []) (hp : Post (.inr E) ws) : AW X M d (1 + mc) (6 + ms) pc ls rest ws (am_E X Post) := by
  intro p e R s m args below meth c H locs cells slots L A kc ks a1 a2 a3 a4 a5 a6 a7 a8 a9 a10 a11 a12 a13
  obtain ⟨h1, h2, h3, h4, h5, h6, h7, h8, h9, h10, h11, h12, -⟩ := a2
  obtain ⟨sa, hsa⟩ := h9 _ hs
  refine vx_throwS a1.1 a1.2.1 h12 (A := A) a1.2.2.2.2.1 hE hnames (a1.2.2.2.2.2.1 _ w1) (a1.2.2.2.2.2.1 _ w2) hsa (fun w hw => a1.2.2.2.2.2.1 _ (w3 w hw)) hgood h4 h5 a12 (by rw [a1.2.2.2.1]; exact a13.1) d0 d3 d4 d6 d9 (by rw [a1.2.2.2.2.2.2.2.1, hh]; exact fun x hx => by cases hx) (by omega) (by omega) (by omega) (by omega) a1.2.2.2.2.2.2.1 (fun t ht hz hq => ?_) a12.2.2 (by omega) (by omega)
  refine ⟨⟨ws, hp, a10.kept (fun k x hx => hq x.1 ((a10 k x hx).lt)), a11⟩, Nat.le_trans a12.1 hz, fun q hq1 hq2 => ?_⟩
  rw [hq q (Nat.lt_of_lt_of_le hq1 a12.1)]
  exact a12.2.1 q hq1 hq2
/-- the table of M catches E at pc, and goes on at a place of which K holds -/
def am_catch (M : am_M) (pc : Nat) (E : String) (K : Nat → Prop) : Prop := ∃ (pre : List ExceptionTableEntry) (x : ExceptionTableEntry) (suf : List ExceptionTableEntry) (nm : String), tableOf (am_hh M) = pre ++ x :: suf ∧
  (∀ z ∈ pre, covers z pc = false ∨ (z.catchType ≠ 0 ∧ ∃ n9 : String, Cond.classLink (am_y M).cls z.catchType n9 ∈ am_tbl ∧ (E, n9) ∈ am_ncs)) ∧ covers x pc = true ∧ x.catchType ≠ 0 ∧ Cond.classLink (am_y M).cls x.catchType nm ∈ am_tbl ∧ Cond.castable E nm ∈ am_tbl ∧ K x.handlerPc
theorem aw_callVC {idx n a ci : Nat} {As rest : List Value} {fs : List Value} {C : vw_C} (hd : decode (am_c M) pc = .ok (.invokevirtual idx, 3)) (hl : am_cv (am_y M).cls idx M' n) (hC : AMet X M' d' mc' ms' (.ref a :: As) ws Post') (hn : As.length = n) (hdd : d' + 1 ≤ d) (q0 : Nat) (hr : ws[q0]? = some (a, .inr (ci, fs))) (hcl : am_cl[ci]? = some C) (hCn : C.1 = (am_y M').cls) (hrest : (rest.map fun v => v.category).sum ≤ 8)
    (kk : ∀ v ws', Post' (.inl v) ws' → AW X M d mc ms (pc + 3) ls (v.toList ++ rest) ws' (am_E X Post)) (kx : ∀ E ws', Post' (.inr E) ws' → am_catch M pc E (fun hpc => ∀ q, AW X M d mc ms hpc ls [.ref q] ws' (am_E X Post))) : AW X M d (mc' + mc) (ms' + ms) pc ls (As.reverse ++ .ref a :: rest) ws (am_E X Post) := by
  intro p e R s m args below meth c H locs cells slots L A kc ks a1 a2 a3 a4 a5 a6 a7 a8 a9 a10 a11 a12 a13
  obtain ⟨hb, hi, hs⟩ := hl
  have hrec := va_recv a2.1 a10 (ci := ci) (q0 := q0) hcl hr
  rw [hCn] at hrec
  have hpre := am_pre (As := .ref a :: As) a2 a3 a10 a11 a12
  have hrun := vx_runV (C := (am_y M').cls) (As := As) (rest := rest) (locs := locs) (cells := cells) (slots := slots) (below := below) (meth := meth) (e := e) (g := F0 m pc L (As.reverse ++ .ref a :: rest)) ⟨a1.1, a1.2.1, a1.2.2.2.1, a1.2.2.2.2.1, a1.2.2.2.2.2.1⟩ (hC H.size) ⟨am_CallB a1.2.2.2.2.2.1 hb hdd a4 a5, a1.2.2.2.2.2.1 _ hi, a1.2.2.2.2.2.1 _ hs⟩ ⟨hpre.1, hrec, hpre.2⟩ rfl hn a13.1 rfl (lv_room hrest) hd ⟨by omega, by omega⟩
  intro T hT XX
  have hfr := am_free a11 a12 a3
  rcases hrun T hT XX with ⟨v, st₀, t, T', LL, h0, X', hL, e1, e2, ⟨⟨v', ws', hv, hp, hP', hD'⟩, hF⟩, st1⟩ | ⟨q, st₀, t, T', LL, E, ce, h0, X', hL, e1, e2, ⟨⟨ws', hp, hP', hD'⟩, hF⟩, hce, hcv, hcl9, st1⟩
  · cases hv
    obtain ⟨k1, k2, k3⟩ := vx_keep h0 e1 a12 (fun q _ h => hfr q h) hfr hL hF
    obtain ⟨t2, b1, b2⟩ := kk v ws' hp p e R s m args below meth c T'.heap (locs ++ LL) (cells + mc') (slots + ms') L A kc ks a1 a2 a3 a4 a5 (by omega) (by omega) a8 a9 (by rw [e1]; exact hP') (hD'.weaken (fun k q h1 h2 => hfr _ (hD'.2 k q h1))) k3 a13 T' rfl X'
    exact ⟨t2, st1 t2 b1, b2⟩
  · obtain ⟨k1, k2, k3⟩ := vx_keep h0 e1 a12 (fun q _ h => hfr q h) hfr hL hF
    obtain ⟨pre, x, suf, nm, hsp, hpass, hx, hx0, hlk, hcs, hK⟩ := kx E ws' hp
    have hpl : e.platform.magicAccessors = ({} : Platform).magicAccessors := by rw [X'.admits.platform]
    obtain ⟨c3, c4, hc3, hc4, hasg⟩ := Cond.castable_spec (a1.2.2.2.2.2.1 _ hcs)
    cases Option.some.inj (hc3.symm.trans hcl9)
    obtain ⟨c5, hc5, hcl5⟩ := Cond.classLink_spec a1.2.2.2.2.1 (a1.2.2.2.2.2.1 _ hlk) e.platform hpl
    cases Option.some.inj (hc4.symm.trans hc5)
    obtain ⟨vm', X2, st2⟩ := ck_caught X' q (g := F0 m pc L rest) rfl (cell := ce) (by rw [e1]; exact hce) (by rw [hcv]; rfl) (by obtain ⟨k9, h9, -⟩ := Vm.findClass_spec hcl9; exact ⟨k9, h9⟩) pre x suf (by rw [a1.2.2.2.2.2.2.2.1]; exact hsp)
      (fun z hz => by
        rcases hpass z hz with h | ⟨hz0, n9, hl1, hn1⟩
        · exact Or.inl h
        · obtain ⟨c6, hc6, hcl6⟩ := Cond.classLink_spec a1.2.2.2.2.1 (a1.2.2.2.2.2.1 _ hl1) e.platform hpl
          obtain ⟨a8, b8, g1, g2, g3⟩ := a2.2.2.2.2.2.2.2.2.2.1 _ hn1
          cases Option.some.inj (g1.symm.trans hcl9)
          cases Option.some.inj (g2.symm.trans hc6)
          exact Or.inr ⟨hz0, _, hcl6, g3⟩) hx hx0 hcl5 hasg
    obtain ⟨t2, b1, b2⟩ := hK q p e R s m args below meth c T'.heap (locs ++ LL) (cells + mc') (slots + ms') L A kc ks a1 a2 a3 a4 a5 (by omega) (by omega) a8 a9 (by rw [e1]; exact hP') (hD'.weaken (fun k q h1 h2 => hfr _ (hD'.2 k q h1))) k3 a13 (T'.setVm vm') rfl X2
    exact ⟨t2, st1.trans (st2 t2 b1), b2⟩
/-- a static call of a method with a table of its own, which never throws -/
theorem aw_callSC {idx n : Nat} {As rest : List Value} (hd : decode (am_c M) pc = .ok (.invokestatic idx, 3)) (hl : Cond.methodLink (am_y M).cls idx (am_y M') ∈ am_tbl ∧ Cond.initialized (am_y M').cls ∈ am_tbl ∧ Cond.codeWith (am_y M') (am_c M') (am_nL M') (am_ret M') (am_hh M') ∈ am_tbl ∧ am_hh M' ≠ [] ∧ ((am_y M').cls ≠ "java/lang/invoke/MethodHandle" ∧ (am_y M').cls ≠ "java/lang/invoke/VarHandle") ∧ (parseMethodDescriptor (am_y M').desc).map (fun z => z.parameters.length) = some n ∧ am_nL M' ≤ 45 ∧ Cond.static (am_y M') ∈ am_tbl) (hC : AMet X M' d' mc' ms' As ws Post') (hn : As.length = n) (hdd : d' + 1 ≤ d) (hrest : (rest.map fun v => v.category).sum ≤ 8)
    (kk : ∀ v ws', Post' (.inl v) ws' → AW X M d mc ms (pc + 3) ls (v.toList ++ rest) ws' QQ) (kx : ∀ E ws', ¬ Post' (.inr E) ws') : AW X M d (mc' + mc) (ms' + ms) pc ls (As.reverse ++ rest) ws QQ := by
  intro p e R s m args below meth c H locs cells slots L A kc ks a1 a2 a3 a4 a5 a6 a7 a8 a9 a10 a11 a12 a13
  obtain ⟨w1, w2, w3, w4, w5, w6, w7, w8⟩ := hl
  have hcw : am_cw M' = Cond.codeWith (am_y M') (am_c M') (am_nL M') (am_ret M') (am_hh M') := by
    unfold am_cw
    cases hz : am_hh M' with
    | nil => exact absurd hz w4
    | cons a t => rfl
  have hts := a1.2.2.2.2.2.1
  have hpre := am_pre (As := As) a2 a3 a10 a11 a12
  have hcs : vx_CSW R s args (am_y M).cls idx (am_y M') (am_c M') (am_nL M') (am_ret M') (am_hh M') (am_ws M') (am_rm d' mc' ms') mc' ms' n := by
    refine ⟨⟨rfl, rfl, by show d' + 1 ≤ _; omega, by show 8 + (am_nL M' + 11) + 64 * d' ≤ _; omega, am_hws hts (by rw [hcw]; exact w3), by rw [← hcw]; exact List.mem_cons_self⟩, hts _ w3, hts _ w2, w5, fun sig hs => ?_, hts _ w1, hts _ w8⟩
    rw [hs] at w6
    exact (Option.some.inj w6).symm
  have hr := vx_runSW (As := As) (rest := rest) (locs := locs) (cells := cells) (slots := slots) (below := below) (meth := meth) (e := e) (g := F0 m pc L (As.reverse ++ rest)) ⟨a1.1, a1.2.1, a1.2.2.2.1, a1.2.2.2.2.1, a1.2.2.2.2.2.1⟩ (am_toMet (hC H.size) (fun E s t h => by obtain ⟨⟨w, h1, -⟩, -⟩ := h; exact kx E w h1)) hcs hpre rfl hn a13.1 rfl (lv_room hrest) hd ⟨by omega, by omega⟩
  intro T hT XX
  have hfr := am_free a11 a12 a3
  obtain ⟨v, st₀, t, T', LL, h0, X', hL, e1, e2, ⟨⟨v', ws', hv, hp, hP', hD'⟩, hF⟩, st1⟩ := hr T hT XX
  cases hv
  obtain ⟨k1, k2, k3⟩ := vx_keep h0 e1 a12 (fun q _ h => hfr q h) hfr hL hF
  obtain ⟨t2, b1, b2⟩ := kk v ws' hp p e R s m args below meth c T'.heap (locs ++ LL) (cells + mc') (slots + ms') L A kc ks a1 a2 a3 a4 a5 (by omega) (by omega) a8 a9 (by rw [e1]; exact hP') (hD'.weaken (fun k q h1 h2 => hfr _ (hD'.2 k q h1))) k3 a13 T' rfl X'
  exact ⟨t2, st1 t2 b1, b2⟩
/-- UNTOLD.clone() and its cast to int[] -/
theorem aw_uclone {idx i2 : Nat} {rest : List Value} (hd : decode (am_c M) pc = .ok (.invokevirtual idx, 3)) (hd2 : decode (am_c M) (pc + 3) = .ok (.checkcast i2, 3)) (w1 : Cond.methodLink (am_y M).cls idx ⟨"[I", "clone", "()Ljava/lang/Object;"⟩ ∈ am_tbl) (w2 : Cond.sameMethod "[I" "java/lang/Object" "clone" "()Ljava/lang/Object;" ∈ am_tbl)
    (w3 : Cond.native ⟨"java/lang/Object", "clone", "()Ljava/lang/Object;"⟩ ∈ am_tbl) (w4 : Cond.instanceMethod ⟨"java/lang/Object", "clone", "()Ljava/lang/Object;"⟩ ∈ am_tbl) (w5 : Cond.selects "[I" ⟨"[I", "clone", "()Ljava/lang/Object;"⟩ ⟨"java/lang/Object", "clone", "()Ljava/lang/Object;"⟩ ∈ am_tbl) (w6 : Cond.castable "[I" "java/lang/Cloneable" ∈ am_tbl) (w7 : Cond.classLink (am_y M).cls i2 "[I" ∈ am_tbl)
    (hok : am_ok X = 1) (hdd : 1 ≤ d) (hrest : (rest.map fun v => v.category).sum ≤ 8) (k : ∀ q : Nat, AW X M d mc ms (pc + 6) ls (.ref q :: rest) (ws ++ [(q, .inl (am_I X, 5, .inl am_untold))]) QQ) : AW X M d (1 + mc) (5 + ms) pc ls (.ref (am_U X) :: rest) ws QQ := by
  intro p e R s m args below meth c H locs cells slots L A kc ks a1 a2 a3 a4 a5 a6 a7 a8 a9 a10 a11 a12 a13
  obtain ⟨cell, u1, ⟨-, u2⟩, u3, u4, u5, u6⟩ := am_UT.kept (U := s) a2.2.2.1 a12.2.1
  have u2 := u2 hok
  have hts := a1.2.2.2.2.2.1
  have hnm := va_nm_int (a2.1.2 0 _ rfl).2
  obtain ⟨c0, t0', f1, f2, f3⟩ := Cond.castable_spec (hts _ w6)
  cases hnm.symm.trans f1
  intro T hT XX
  obtain ⟨-, kA, hkA, comp, hkind⟩ := State.isArrayOf_alike XX.warmed.alike ((a2.1.2 0 _ rfl).1 0 (fun _ => .null))
  obtain ⟨-, kS, hkS, compS, hkindS⟩ := (a2.1.2 0 _ rfl).1 0 (fun _ => .null)
  have hsz : cell.slots.size = 5 := by rw [u5]; simp
  obtain ⟨vm', X', st1⟩ := XX.cloneArray a1.1 a1.2.2.2.2.1 (hts _ w1) (hts _ w2) (hts _ w3) (hts _ w4) (hts _ w5) (a := am_U X) (cell := cell) (by rw [hT]; exact u1) (fun k h => by rw [h] at u4; cases u4) u3 (by rw [u2]; exact hnm) f2 (by rw [u2]; exact f3)
    (fun i v hv => by
      rw [u2]
      have hk' : T.vm.classes[am_I X]? = some kA := hkA
      rw [u5] at hv
      simp only [Array.getElem?_ofFn] at hv
      split at hv
      · cases hv
        simp [State.fitsSlot, State.slotType?, hk', hkind, fits]
      · cases hv)
    (g := F0 m pc L (.ref (am_U X) :: rest)) rfl (by rw [a1.2.2.2.1]; exact a13.1) rfl (by rw [a1.2.1]; exact hd) (by omega) (by have := lv_room (m := m) (pc := pc) (ls := L) (rest := rest) hrest; show 2 * 0 + _ + 14 ≤ _; omega) (by omega) (by omega) (hloader := by rw [u2]; exact Vm.clonesLoader_of_array hkS hkindS)
  have hce : ({ cls := cell.cls, slots := cell.slots } : Cell) = vp_cell (am_I X) (5, .inl am_untold) := by rw [u2, u5]; rfl
  rw [hce, hsz] at X'
  rw [hce] at st1
  generalize hH1 : H.push (vp_cell (am_I X) (5, .inl am_untold)) = H1
  have z1 : H1.size = H.size + 1 := by rw [← hH1, Array.size_push]
  have e1 : H1[H.size]? = some (vp_cell (am_I X) (5, .inl am_untold)) := by rw [← hH1, Array.getElem?_push_size]
  have o1 : ∀ q : Nat, q < H.size → H1[q]? = H[q]? := fun q hq => by rw [← hH1, Array.getElem?_push, if_neg (Nat.ne_of_lt hq)]
  have hP1 : va_P (am_D X) am_cl (ws ++ [(H.size, .inl (am_I X, 5, .inl am_untold))]) H1 := (a10.kept (fun k x hx => o1 x.1 ((a10 k x hx).lt))).app (fun k x hx => by
    have hz : k < 1 := (List.getElem?_eq_some_iff.mp hx).1
    rw [show k = 0 by omega] at hx
    cases hx
    exact e1)
  have hD1 : va_D A (ws ++ [(H.size, .inl (am_I X, 5, .inl am_untold))]) := a11.push a10 rfl (a3 _ a12.1)
  have hS1 : va_S A s.heap H1 locs := ⟨Nat.le_trans a12.1 (by omega), fun x h1 h2 => (o1 x (Nat.lt_of_lt_of_le h1 a12.1)).trans (a12.2.1 x h1 h2), a12.2.2⟩
  have KK : W p (am_l X) e R s m args below meth c H1 locs (cells + 1) (slots + 5) (QQ p e s args below A kc ks) (F0 m (pc + 3) L (.ref H.size :: rest)) :=
    va_castA a1.1 a1.2.1 a1.2.2.2.2.1 (hts _ w7) hP1 ws.length (x := (5, .inl am_untold)) (cA := am_I X) (by simp) hnm hd2 (k H.size p e R s m args below meth c H1 locs (cells + 1) (slots + 5) L A kc ks a1 a2 a3 a4 a5 (by omega) (by omega) a8 a9 hP1 hD1 hS1 a13)
  obtain ⟨t2, b1, b2⟩ := KK _ (by rw [← hH1, ← hT]; rfl) X'
  refine ⟨t2, st1 t2 ?_, b2⟩
  rw [hT]
  exact b1
end AmThrows
end
section
/-! WHAT THE STATEMENT GIVES AT THE LAW'S ENTRY, in the picture's words -/
theorem am_len {args : Array Value} {s : State} {t : Term} {z : Int32} {N : Nat} (hz : z = nI N) (hN : N < 2 ^ 31) (h : (Term.length t).eval args s none [] s = some (.int z)) : ∃ a cell, t.eval args s none [] s = some (.ref a) ∧ s.arrayAt? a = some cell ∧ cell.slots.size = N := by
  simp only [Term.eval, Option.bind_eq_bind] at h
  cases ht : t.eval args s none [] s with
  | none => simp [ht] at h
  | some x =>
    cases x <;> simp [ht] at h
    case ref a =>
      obtain ⟨cell, hcell, h⟩ := Option.bind_eq_some_iff.mp h
      by_cases hn : cell.slots.size < 2147483648
      · rw [if_pos hn] at h
        cases h
        refine ⟨a, cell, rfl, hcell, ?_⟩
        have e1 : nI cell.slots.size = nI N := hz
        have e2 := congrArg Int32.toNatClampNeg e1
        rwa [nI_clamp hn, nI_clamp hN] at e2
      · rw [if_neg hn] at h; cases h
theorem am_untold_at {args : Array Value} {s : State} (h : (Jvm.Cond.and given_1 narrow_1).before args s = true) : ∃ tU cell, (Term.static "SegmentForms$ServiceSigns" "UNTOLD" "[I").eval args s none [] s = some (.ref tU) ∧ s.heap[tU]? = some cell ∧ s.isArrayOf cell .int ∧ cell.vm ≠ .unknown ∧ cell.vm.isStatics = false ∧ cell.slots = (Array.ofFn (n := 5) fun j => Value.int (am_untold j.val)) := by
  have hs := flat_of_before _ h
  have harr : (Cond.arrayOf (.static "SegmentForms$ServiceSigns" "UNTOLD" "[I") .int).before args s = true := hs _ (by decide +kernel)
  have hlen : (Cond.eq (.length (.static "SegmentForms$ServiceSigns" "UNTOLD" "[I")) (.int 5)).before args s = true := hs _ (by decide +kernel)
  have h0 : (Cond.eq (.elem (.static "SegmentForms$ServiceSigns" "UNTOLD" "[I") (.int 0)) (.int 58)).before args s = true := hs _ (by decide +kernel)
  have h1 : (Cond.eq (.elem (.static "SegmentForms$ServiceSigns" "UNTOLD" "[I") (.int 1)) (.int 43)).before args s = true := hs _ (by decide +kernel)
  have h2 : (Cond.eq (.elem (.static "SegmentForms$ServiceSigns" "UNTOLD" "[I") (.int 2)) (.int 63)).before args s = true := hs _ (by decide +kernel)
  have h3 : (Cond.eq (.elem (.static "SegmentForms$ServiceSigns" "UNTOLD" "[I") (.int 3)) (.int 42)).before args s = true := hs _ (by decide +kernel)
  have h4 : (Cond.eq (.elem (.static "SegmentForms$ServiceSigns" "UNTOLD" "[I") (.int 4)) (.int 39)).before args s = true := hs _ (by decide +kernel)
  obtain ⟨a, cell, ht, hat, hsz⟩ := am_len (N := 5) rfl (by decide) (va_eqt hlen)
  obtain ⟨hcell, hkn, hst, -⟩ := State.arrayAt?_spec hat
  obtain ⟨hof, -⟩ := Cond.arrayOf_spec harr ht hcell
  have el : ∀ (j : Nat) (z v : Int32), z = nI j → j < 2 ^ 31 → (Term.elem (.static "SegmentForms$ServiceSigns" "UNTOLD" "[I") (.int z)).eval args s none [] s = some (.int v) → cell.slots[j]? = some (.int v) := by
    intro j z v hz hj he
    obtain ⟨a2, i, cell2, g1, g2, g3, g4, g5⟩ := Term.elem_spec he
    cases ht.symm.trans g1
    cases hat.symm.trans g3
    have e : (Term.int z).eval args s none [] s = some (.int z) := rfl
    cases g2.symm.trans e
    rw [hz, nI_clamp hj] at g5
    exact g5
  have e0 := el 0 0 58 rfl (by decide) (va_eqt h0)
  have e1 := el 1 1 43 rfl (by decide) (va_eqt h1)
  have e2 := el 2 2 63 rfl (by decide) (va_eqt h2)
  have e3 := el 3 3 42 rfl (by decide) (va_eqt h3)
  have e4 := el 4 4 39 rfl (by decide) (va_eqt h4)
  refine ⟨a, cell, ht, hcell, hof, hkn, hst, ?_⟩
  refine Array.ext_getElem? fun i => ?_
  rw [Array.getElem?_ofFn]
  by_cases hi : i < 5
  · rw [dif_pos hi]
    rcases (show i = 0 ∨ i = 1 ∨ i = 2 ∨ i = 3 ∨ i = 4 by omega) with rfl | rfl | rfl | rfl | rfl
    · exact e0
    · exact e1
    · exact e2
    · exact e3
    · exact e4
  · rw [dif_neg hi]
    exact Array.getElem?_eq_none (by omega)
/-- the start: 'k' is the flag; at 1 it must be given that UNTOLD's array is of the class "[I", at 2 what gx_E says -/
theorem am_begin {l : Launch} {args : Array Value} {s : State} {b L : Nat} {xs : Nat → Int32} (hl : l.stackTraces = false) (hts : ∀ w ∈ lw_tbl, w.before args s = true) (hgv : (Jvm.Cond.and given_1 narrow_1).before args s = true) (hX : va_X b L xs s s.heap) (hbl : b < s.heap.size) (k : Nat)
    (hk1 : k = 1 → ∀ (tU : Nat) (cell : Cell), (Term.static "SegmentForms$ServiceSigns" "UNTOLD" "[I").eval args s none [] s = some (.ref tU) → s.heap[tU]? = some cell → s.vm.findClass "[I" = some cell.cls)
    (hk2 : k = 2 → ∀ (X : am_X), (Term.static "SegmentForms$ServiceSigns" "UNTOLD" "[I").eval args s none [] s = some (.ref (am_U X)) → gx_E X (fun q => s.heap.size ≤ q) s s.heap) :
    ∃ (D : va_G) (cI cG cJ : ClassId) (tU : Nat), am_Gt (l, D, cI, cG, cJ, tU, b, L, xs, k) (fun q => s.heap.size ≤ q) s s.heap := by
  have hs := flat_of_before _ hgv
  have hA : ∀ a : Nat, a < s.heap.size → ¬ (fun q : Nat => s.heap.size ≤ q) a := fun a h => Nat.not_le.mpr h
  obtain ⟨c0, i0, k0⟩ := u_known (C := R_Check) (T := T_Check) (N := 8) (n := 8) hts (by decide +kernel) (hts (.instantiable R_Check 8) (by decide +kernel))
  obtain ⟨c1, i1, k1⟩ := u_known (C := R_Grammar) (T := T_Grammar) (N := 5) (n := 5) hts (by decide +kernel) (hts (.instantiable R_Grammar 5) (by decide +kernel))
  obtain ⟨c2, i2, k2⟩ := u_known (C := R_Layer) (T := T_Layer) (N := 2) (n := 2) hts (by decide +kernel) (hts (.instantiable R_Layer 2) (by decide +kernel))
  obtain ⟨c3, i3, k3⟩ := u_known (C := R_Message) (T := T_Message) (N := 6) (n := 6) hts (by decide +kernel) (hts (.instantiable R_Message 6) (by decide +kernel))
  obtain ⟨c4, i4, k4⟩ := u_known (C := R_Reader) (T := T_Reader) (N := 4) (n := 4) hts (by decide +kernel) (hts (.instantiable R_Reader 4) (by decide +kernel))
  obtain ⟨c5, i5, k5⟩ := u_known (C := R_ServiceSigns) (T := T_ServiceSigns) (N := 1) (n := 1) hts (by decide +kernel) (hts (.instantiable R_ServiceSigns 1) (by decide +kernel))
  obtain ⟨c6, i6, k6⟩ := u_known (C := R_SignRow) (T := T_SignRow) (N := 2) (n := 2) hts (by decide +kernel) (hts (.instantiable R_SignRow 2) (by decide +kernel))
  obtain ⟨c7, i7, k7⟩ := u_known (C := R_Writer) (T := T_Writer) (N := 3) (n := 3) hts (by decide +kernel) (hts (.instantiable R_Writer 3) (by decide +kernel))
  obtain ⟨c8, i8, k8⟩ := u_known (C := R_Forms) (T := T_Forms) (N := 8) (n := 8) hts (by decide +kernel) (hts (.instantiable R_Forms 8) (by decide +kernel))
  obtain ⟨c9, i9, k9⟩ := u_known (C := R_Model) (T := T_Model) (N := 33) (n := 33) hts (by decide +kernel) (hts (.instantiable R_Model 33) (by decide +kernel))
  obtain ⟨cI, kI, pI, hI1, hI2, hI3⟩ := Cond.arrayClass_spec (type := .int) (hts (.arrayClass .int) (by decide +kernel))
  obtain ⟨cJ, kJ, pJ, hJ1, hJ2, hJ3⟩ := Cond.arrayClass_spec (type := .long) (hts (.arrayClass .long) (by decide +kernel))
  have hAO : (Cond.arrayOver (.object "SegmentForms$Grammar")).before args s = true := hts _ (by decide +kernel)
  obtain ⟨pG, cG, kG, hG1, -, hG3, hG4, hG5⟩ := Cond.arrayOver_spec hAO
  obtain ⟨tU, cell, hU, hUc, hUa, hUk, hUs, hUv⟩ := am_untold_at hgv
  have hUlt : tU < s.heap.size := (Array.getElem?_eq_some_iff.mp hUc).1
  refine ⟨(fun j => [c0, c1, c2, c3, c4, c5, c6, c7, c8, c9].getD j 0, fun j => [i0, i1, i2, i3, i4, i5, i6, i7, i8, i9].getD j (fun _ => 0)), cI, cG, cJ, tU, ⟨?_, ?_⟩, ?_, ?_, ?_, ?_, hX, hbl, hA b hbl, ?_, ?_, va_AO.of hAO, hl, fun hk => hk2 hk _ hU⟩
  · intro j q hq
    match j, hq with
    | 0, hq => cases hq; exact k0
    | 1, hq => cases hq; exact k1
    | 2, hq => cases hq; exact k2
    | 3, hq => cases hq; exact k3
    | 4, hq => cases hq; exact k4
    | 5, hq => cases hq; exact k5
    | 6, hq => cases hq; exact k6
    | 7, hq => cases hq; exact k7
    | 8, hq => cases hq; exact k8
    | 9, hq => cases hq; exact k9
    | j + 10, hq => simp [am_cl] at hq
  · intro j q hq
    match j, hq with
    | 0, hq => cases hq; exact ⟨fun n z => ⟨fun k h => (by cases h), kI, hI2, pI, hI3⟩, hI1⟩
    | 1, hq => cases hq; exact ⟨fun n z => ⟨fun k h => (by cases h), kG, hG3, pG, hG4⟩, kG, pG, hG3, hG4, hG1, hG5⟩
    | 2, hq => cases hq; exact ⟨fun n z => ⟨fun k h => (by cases h), kJ, hJ2, pJ, hJ3⟩, hJ1⟩
    | j + 3, hq => simp [am_tys] at hq
  · exact va_Zof (hts _ (by decide +kernel)) (hts _ (by decide +kernel)) hU hA
  · refine ⟨cell, hUc, ⟨hUa, fun hk => ?_⟩, hUk, hUs, hUv, hA tU hUlt⟩
    have e1 := hk1 hk tU cell hU hUc
    have e2 := va_nm_int (s := s) (cA := cI) hI1
    exact Option.some.inj (e1.symm.trans e2)
  · exact vx_Zqof (hts _ (by decide +kernel)) (hts _ (by decide +kernel)) (hs _ (by decide +kernel)) hA
  · exact vx_Zqof (hts _ (by decide +kernel)) (hts _ (by decide +kernel)) (hs _ (by decide +kernel)) hA
  · intro q hq
    have hex : ∀ i : Nat, ∀ tx : String, (Cond.stringRef "SegmentForms" i tx).before args s = true → (Cond.exactly (.string "SegmentForms" i) "java/lang/String").before args s = true → ∃ sa, vk_R "SegmentForms" i tx sa s := by
      intro i tx g1 g2
      have g3 : ∃ sa, (Term.string "SegmentForms" i).eval args s none [] s = some (.ref sa) := by
        cases hv : (Term.string "SegmentForms" i).eval args s none [] s with
        | none => simp [Cond.before, Cond.holds, Cond.value, hv] at g2
        | some v =>
          cases v with
          | ref sa => exact ⟨sa, rfl⟩
          | _ => cases hc : s.vm.findClass "java/lang/String" <;> simp [Cond.before, Cond.holds, Cond.value, hv, hc] at g2
      obtain ⟨sa, g3⟩ := g3
      exact ⟨sa, vk_R.of g1 g3⟩
    simp only [am_strs, List.mem_cons, List.not_mem_nil, or_false] at hq
    rcases hq with rfl | rfl | rfl | rfl | rfl | rfl | rfl <;> exact hex _ _ (hts _ (by decide +kernel)) (hs _ (by decide +kernel))
  · intro q hq
    simp only [am_ncs, List.mem_cons, List.not_mem_nil, or_false] at hq
    subst hq
    exact va_Nc.of (hs (.not (.castable "java/lang/IllegalStateException" "java/lang/IllegalArgumentException")) (by decide +kernel))
end
section
/-! A CALL THAT NEVER COMES TO ITS END: for the start of which part 95 speaks. -/
def dd_D (p : Program) (e : Env) (below : List Frame) (s : State) : Prop := ∀ n, Within (stepsAlone p.tables e n s) below
theorem dd_steps {p : Program} {e : Env} {below : List Frame} {s t : State} (h : Steps p.tables e below s t) (ht : dd_D p e below t) : dd_D p e below s := by
  obtain ⟨n, hn, hw⟩ := h
  intro k
  by_cases hk : k < n
  · exact hw k hk
  · have e1 : k = n + (k - n) := by omega
    rw [e1, stepsAlone_add, hn]
    exact ht _
/-- one instruction, as an equation -/
theorem dd_step1 {tb : Tables} [Ours tb] {e : Env} {below : List Frame} {s S2 : State} {f : JFrame} {c : Code} (h : At s f.method c below)
    (hw : match decode c.code f.pc with
      | .ok (i, len) => wpRun (tb.exec i)
          (fun _ s₁ _ => ∀ acts, (afterInstr e len (.ok () s₁ acts)).1 = S2)
          (fun x s₁ _ => ∀ acts, (afterInstr e len (.ctl x s₁ acts)).1 = S2) e (s.setTop f)
      | .error _ => False) : (stepThread tb e (s.setTop f)).1 = S2 := by
  rcases hd : decode c.code f.pc with x | ⟨i, len⟩
  · rw [hd] at hw; exact hw.elim
  · rw [hd] at hw
    rw [stepThread_java (State.frames_setTop' f h.top) h.plain h.code hd]
    have hw := (wpRun_iff_run _ _ _ _ _).mp hw
    cases hr : (tb.exec i).run e (s.setTop f) with
    | ok a s₁ acts => rw [hr] at hw; exact hw acts
    | ctl x s₁ acts => rw [hr] at hw; cases x <;> first | exact hw acts | exact hw.elim
/-- a jump to itself is never left -/
theorem dd_loop {p : Program} {e : Env} {below : List Frame} {T : State} {m : MethodId} {c : Code} (hx : p.tables.exec = Jvm.exec) (h : At T m c below) {g : JFrame} (hg : g.method = m) (hd : decode c.code g.pc = .ok (.goto 0, 3)) : dd_D p e below (T.setTop g) := by
  subst hg
  have h1 : (stepThread p.tables e (T.setTop g)).1 = T.setTop g := by
    refine dd_step1 (c := c) h ?_
    simp [jvm, wpRun, hx, exec, h.top, hd]
  have hgo : (T.setTop g).goesOn := ⟨h.running, by rw [State.curStatus?_setTop]; exact h.runnable, by rw [State.alone_setTop]; exact h.alone⟩
  intro n
  induction n with
  | zero => exact h.within g
  | succ n ih => rw [stepsAlone_succ _ hgo, h1]; exact ih
def dd_Met (l : Launch) (y : MethodName) (S : Spec) (P : Array Value → State → Prop) : Prop :=
  ∀ (p : Program) e, l.admits e → FairCas e.choices → FairClock e.choices → ∀ s m args below,
    s.frames = .invoking m args :: below → S.appliesLoose y e.platform s = true → P args s → dd_D p e below s
theorem dd_ofW {l : Launch} {y : MethodName} {ws ws' : List Cond} {rm : Room} {Pc : Array Value → State → Prop} {cc : ByteArray} {maxL : Nat} {ret : Option FieldType}
    (hy : plainName y.cls = true) (hw : ws = Cond.code y cc maxL ret :: ws')
    (body : ∀ p e s m args below meth c s₁, BodyLoose p l y (headSpec ws rm) cc maxL ret e s m args below meth c s₁ → c.maxLocals = maxL → Pc args s →
      W p l e (headSpec ws rm).room s m args below meth c s.heap [] 0 0 (dd_D p e below) (entryFrame m args maxL)) : dd_Met l y (headSpec ws rm) Pc := by
  intro p e ha hc hk s m args below hf happ hP
  obtain ⟨hrun, hable, halone, hname, hhears, hinit, hroom, hpre⟩ := (Spec.appliesLoose_iff hf).mp happ
  obtain ⟨meth, c, hmeth, hcode, hbytes, hlocals, hret, hlocks, -, -⟩ := Cond.code_spec hname (atoms_spec (ws := ws) hpre _ (by rw [hw]; exact List.mem_cons_self))
  have hcur := State.cur_lt_of_frames hf
  have hf1 : (s.setFrames (.java (entryFrame m args maxL) :: below)).frames = .java (entryFrame m args maxL) :: below := State.frames_setFrames _ hcur
  have ht1 := State.topJava?_of_frames hf1
  have hplain : (s.setFrames (.java (entryFrame m args maxL) :: below)).plainMethod m := State.plainMethod.of_named (s := s) (plainFor_of_name hy) hname hmeth
  have hAt : At (s.setFrames (.java (entryFrame m args maxL) :: below)) m c below :=
    ⟨by rw [ht1]; rfl, ⟨[], by rw [hf1]; rfl⟩, hrun, by simpa using hable, by simpa using halone, by rw [State.code?_eq]; simp [State.setFrames, hmeth, hcode], hplain⟩
  have hstep : (stepThread p.tables e s).1 = (s.setFrames (.java (entryFrame m args maxL) :: below)).setTop (entryFrame m args maxL) := by
    have hfull : e.platform.stackFull (s.setFrames below).me (s.setFrames below).frames c.maxLocals = false := by
      obtain ⟨-, h1, -, h2⟩ := State.hasRoom_stack hroom
      rw [hf, List.length_cons] at h1
      rw [State.localsInUse_invoking hf hmeth hcode] at h2
      have hw9 := stackUse_le_stackWeight below
      rw [State.frames_setFrames _ hcur]
      exact Platform.stackFull_eq_false (by rw [State.stackLimits_setFrames]; omega) (by rw [State.stackLimits_setFrames]; omega)
    rw [stepThread_invoking hf, (doInvoke_java (s := s.setFrames below) (e := e) (meth := meth) (code := c) hmeth hcode hlocks hfull).1, State.setTop_self ht1]
    simp only [State.pushFrame, State.frames_setFrames _ hcur, State.setFrames_setFrames, hlocals, entryFrame]
  have B : BodyLoose p l y (headSpec ws rm) cc maxL ret e s m args below meth c _ := ⟨ha, hc, hk, by cases p <;> rfl, hf, hname, hhears, hinit, hroom, hpre, hmeth, hret, hlocks, hbytes, rfl, hAt⟩
  obtain ⟨t, b1, b2⟩ := body p e s m args below meth c _ B hlocals hP (s.setFrames (.java (entryFrame m args maxL) :: below)) rfl (Stand.of_body B)
  exact dd_steps (Steps.head (tb := p.tables) (e := e) ⟨hrun, hable, halone⟩ ⟨[.invoking m args], hf, by simp, by simp⟩ (hstep ▸ b1)) b2
theorem dd_call {l : Launch} {x : MethodName} {S : Spec} {P : Array Value → State → Prop} {e : Env} (hM : dd_Met l x S P) (p : Program) (ha : l.admits e) (hc : FairCas e.choices) (hk : FairClock e.choices)
    {s : State} {m : MethodId} {args : Array Value} {acts : List Action} {mid below : List Frame} (hfr : s.frames = mid ++ below) (happ : S.appliesLoose x e.platform (s.pushFrame (.invoking m args)) = true) (hP : P args (s.pushFrame (.invoking m args))) :
    dd_D p e below (doInvoke e s acts m args).1 := by
  obtain ⟨t, ht⟩ : ∃ t, s.threads[s.cur]? = some t := by
    cases h : s.threads[s.cur]? with
    | some t => exact ⟨t, rfl⟩
    | none =>
      have : (s.pushFrame (.invoking m args)).frames = [] := by
        simp [State.frames, State.pushFrame, State.setFrames, Array.getElem?_modify, h]
      simp [Spec.appliesLoose, this] at happ
  have hlt : s.cur < s.threads.size := (Array.getElem?_eq_some_iff.mp ht).1
  have hf' : (s.pushFrame (.invoking m args)).frames = .invoking m args :: s.frames := State.frames_setFrames _ hlt
  obtain ⟨hrun, hable, halone, -⟩ := (Spec.appliesLoose_iff hf').mp happ
  have hgo : (s.pushFrame (.invoking m args)).goesOn := ⟨hrun, hable, halone⟩
  have hw := hM p e ha hc hk (s.pushFrame (.invoking m args)) m args s.frames hf' happ hP
  have hstep : (stepThread p.tables e (s.pushFrame (.invoking m args))).1 = (doInvoke e s acts m args).1 := by
    rw [stepThread_invoking hf', doInvoke_state e s acts, State.pushFrame, State.setFrames_setFrames, State.setFrames_self ht]
  intro n
  have := hw (n + 1)
  rw [stepsAlone_succ _ hgo, hstep, hfr] at this
  exact this.weaken
section DdCalls
variable {p : Program} {l : Launch} {e : Env} {R : Room} {s : State} {m : MethodId} {args : Array Value} {below : List Frame} {meth : Method} {c : Code} {T : State} {locs : List Loc} {cells slots : Nat}
theorem dd_back {y : MethodName} {ws : List Cond} {rm : Room} {Pc : Array Value → State → Prop} {bytes : ByteArray} {maxL W9 len : Nat} {ret : Option FieldType} (hM : dd_Met l y (headSpec ws rm) Pc)
    (hframes : rm.frames + 1 ≤ R.frames) (hlocals : W9 + (maxL + 11) + rm.locals ≤ R.locals) (hc : cells + rm.cells ≤ R.cells) (hs : slots + rm.slots ≤ R.slots)
    (hws : ∀ w ∈ ws, ∀ (a' : Array Value) (U : State), s.WarmedH U.vm → w.before a' U = true) (hcode : Cond.code y bytes maxL ret ∈ ws) (hinit : ∀ (a' : Array Value) (U : State), s.WarmedH U.vm → (Cond.initialized y.cls).before a' U = true)
    (X : Stand p l e R s m args below meth c T locs cells slots) {g : JFrame} (hg : g.method = m) (hsize : g.locals.size = c.maxLocals) {ig : Instr} (hdg : decode c.code g.pc = .ok (ig, len)) (hW : 2 * g.monitorRoom + (g.stack.map fun v => v.category).sum ≤ W9) {mk : MethodId} (hn : T.methodNamed? y = some mk) {a : Array Value} (hP : Pc a (T.calling g mk a)) :
    ∀ acts, dd_D p e below (doInvoke e (T.setTop g) acts mk a).1 := by
  intro acts
  have h1 : (headSpec ws rm).pre.before a T = true := atoms_intro fun w hw => hws w hw _ _ X.warmed
  have h2 : (Cond.code y bytes maxL ret).before a T = true := hws _ hcode _ _ X.warmed
  have h3 : (Cond.initialized y.cls).before a T = true := hinit _ _ X.warmed
  obtain ⟨methY, cY, hmY, hcY, -, hlY, -⟩ := Cond.code_spec hn h2
  obtain ⟨kY, hkY, -⟩ := className_of_methodNamed hn
  have hinitY : kY.init = .initialized := Cond.initialized_spec (findClass_of_methodNamed hn) hkY h3
  have h : At T g.method c below := by rw [hg]; exact X.here
  have hlocals9 : W9 + (maxL + 11) + (headSpec ws rm).room.locals ≤ R.locals := hlocals
  have happ : (headSpec ws rm).appliesLoose y e.platform (T.calling g mk a) = true :=
    Spec.appliesLoose_calling (g := g) h hdg hn hkY hinitY (X.room_calling (g := g) (R' := (headSpec ws rm).room) hsize hmY hcY hframes (by rw [hlY]; omega) hc hs) h1
  obtain ⟨mid, hmid⟩ := h.above
  have hfr : (T.setTop g).frames = (.java g :: mid) ++ below := by rw [State.frames_setTop' g h.top, hmid]; rfl
  exact dd_call hM p X.admits X.cas X.clock (acts := acts) hfr happ hP
end DdCalls
end
section
/-! ALONE the witness, its own general rows -/
set_option maxRecDepth 16384
theorem sg_code_word {a : Array Value} {s : State} {x : MethodName} {bytes : ByteArray} {maxL : Nat} {ret : Option FieldType} {m : MethodId} {meth : Method} {c : Code}
    (hn : s.methodNamed? x = some m) (hm : s.vm.method? m = some meth) (hc : meth.code = some c) (h1 : c.code = bytes) (h2 : c.maxLocals = maxL) (h3 : c.exceptionTable.isEmpty = true)
    (h4 : meth.sig.returnType = ret) (h5 : meth.locks = false) (h6 : parseMethodDescriptor x.desc = some meth.sig) (h7 : c.maxStack ≤ mostOperands) : (Cond.code x bytes maxL ret).before a s = true := by
  subst h1 h2 h4
  simp [Cond.before, Cond.holds, Cond.value, hn, hm, hc, h3, h5, h6, h7]
theorem sg_hand_word {a : Array Value} {s : State} {x : MethodName} {m : MethodId} {nm ds : String} {ps : List FieldType} {ret : Option FieldType} {fl maxL : Nat} {bytes : ByteArray}
    (hn : s.methodNamed? x = some m) (hm : s.vm.method? m = some (Lib.HandJ.method nm ds ps ret fl maxL bytes)) (h5 : (Lib.HandJ.method nm ds ps ret fl maxL bytes).locks = false)
    (h6 : parseMethodDescriptor x.desc = some (Lib.HandJ.method nm ds ps ret fl maxL bytes).sig) : (Cond.code x bytes maxL ret).before a s = true :=
  sg_code_word hn hm rfl rfl rfl rfl rfl h5 h6 (by first | decide | exact Nat.le_of_ble_eq_true rfl)
def sg_isCode : Jvm.Cond → Bool
  | .code .. => true
  | _ => false
theorem sg_words {l : List Jvm.Cond} {f : Jvm.Cond → Bool} (h1 : l.all (fun c => sg_isCode c || f c) = true) (h2 : ∀ c ∈ l.filter sg_isCode, f c = true) : ∀ c ∈ l, f c = true := by
  intro c hc
  have h := List.all_eq_true.mp h1 c hc
  cases hq : sg_isCode c with
  | false => simpa [hq] using h
  | true => exact h2 c (List.mem_filter.mpr ⟨hc, hq⟩)
def sg_look {α : Type} (d : α) : List (Nat × α) → Nat → α
  | [], _ => d
  | (k, v) :: r, i => match Nat.beq k i with
    | true => v
    | false => sg_look d r i
def sg_down {α : Type} (f : Nat → α) (n : Nat) : Nat → List α
  | 0 => []
  | k + 1 => f (n - (k + 1)) :: sg_down f n k
def sg_arr {α : Type} (d : α) (ps : List (Nat × α)) (n : Nat) : Array α := ⟨sg_down (sg_look d ps) n n⟩
def sg_poolPairs : List Lib.HandW.Entry → Nat → List (Nat × CpInfo)
  | [], _ => []
  | (kind, k, cls, name, desc, c, _) :: r, b =>
    ((if kind ≤ 1 then [(k, if kind = 0 then CpInfo.fieldref b (b + 2) else CpInfo.methodref b (b + 2)), (b, CpInfo.class_ (b + 1)), (b + 1, CpInfo.utf8 (stringToUtf16 cls)), (b + 2, CpInfo.nameAndType (b + 3) (b + 4)), (b + 3, CpInfo.utf8 (stringToUtf16 name)), (b + 4, CpInfo.utf8 (stringToUtf16 desc))]
     else if kind = 2 then [(k, CpInfo.class_ b), (b, CpInfo.utf8 (stringToUtf16 cls))]
     else if kind = 3 then [(k, CpInfo.string b), (b, CpInfo.utf8 (stringToUtf16 name))]
     else if kind = 4 then [(k, CpInfo.long (UInt64.ofNat c))]
     else if kind = 5 then [(k, CpInfo.integer (UInt32.ofNat c))]
     else if kind = 6 then [(k, CpInfo.float (UInt32.ofNat c))]
     else if kind = 8 then [(k, CpInfo.interfaceMethodref b (b + 2)), (b, CpInfo.class_ (b + 1)), (b + 1, CpInfo.utf8 (stringToUtf16 cls)), (b + 2, CpInfo.nameAndType (b + 3) (b + 4)), (b + 3, CpInfo.utf8 (stringToUtf16 name)), (b + 4, CpInfo.utf8 (stringToUtf16 desc))]
     else [(k, CpInfo.double (UInt64.ofNat c))]) : List (Nat × CpInfo)) ++ sg_poolPairs r (b + 7)
def sg_resPairs : List Lib.HandW.Entry → Nat → List (Nat × Option Resolved)
  | [], _ => []
  | (kind, k, _, _, _, c, i) :: t, b =>
    ((if kind = 0 then [(k, some (Resolved.field c i)), (b, some (Resolved.cls c))]
     else if kind = 1 then [(k, some (Resolved.method ⟨c, i⟩)), (b, some (Resolved.cls c))]
     else if kind = 2 then [(k, some (Resolved.cls c))]
     else if kind = 3 then [(k, some (Resolved.string c))]
     else if kind = 8 then [(k, some (Resolved.method ⟨c, i⟩)), (b, some (Resolved.cls c))]
     else []) : List (Nat × Option Resolved)) ++ sg_resPairs t (b + 7)
def sg_own (name : String) (flags : Nat) (es : List Lib.HandW.Entry) (fs : List (String × FieldType × Nat)) (m : Method) : Class :=
  { Lib.HandJ.cls name (sg_arr CpInfo.unusable (sg_poolPairs es (Lib.HandW.top es)) (Lib.HandW.top es + 7 * es.length)) (sg_arr (none : Option Resolved) (sg_resPairs es (Lib.HandW.top es)) (Lib.HandW.top es + 7 * es.length)) flags (Lib.HandW.fieldsFrom fs 0).toArray #[m] (fs.map fun f => f.2.1).toArray with super := some 1 }
/-! ===== END general text ===== -/
/-! ALONE the witness, part 1 -/
def gap1.mLaw : Method := Lib.HandJ.method x.name x.desc [.array .int] ret 0x9 maxLocals code
/-- the class entry of a reference to an inherited member names the subclass: resolved to that class, not to the declarer's -/
def gap1.suRes (es : List (Nat × Resolved)) (c : Class) : Class := { c with resolved := es.foldl (fun r e => r.setIfInBounds e.1 (some e.2)) c.resolved }
def gap1.cObjectC : Class := { Lib.HandBits.cObject with methods := Lib.HandBits.cObject.methods ++ #[{ name := "clone", desc := "()Ljava/lang/Object;", sig := { parameters := [], returnType := some (.object "java/lang/Object") }, accessFlags := 0x104, code := none }] }
def gap1.c0 : Class := { sg_own "SegmentFormsLaw" 0x31
    [(1, 7, "SegmentForms", "row", "(IIIII)I", 2, 3),
     (2, 8, "SegmentForms", "", "", 2, 0),
     (2, 13, "java/lang/IllegalArgumentException", "", "", 20, 0),
     (2, 15, "java/lang/IllegalStateException", "", "", 21, 0),
     (1, 17, "SegmentForms", "check", "()I", 2, 4),
     (1, 21, "SegmentForms", "segment", "(II)I", 2, 6),
     (2, 25, "java/lang/IndexOutOfBoundsException", "", "", 22, 0),
     (1, 27, "SegmentForms", "repeats", "(II)I", 2, 7),
     (1, 30, "SegmentForms", "components", "(III)I", 2, 8),
     (1, 34, "SegmentForms", "field", "(IIII)I", 2, 9),
     (1, 38, "SegmentForms", "letter", "(IIIII)I", 2, 10),
     (1, 41, "SegmentForms", "build", "()I", 2, 11),
     (1, 44, "SegmentForms", "at", "(I)I", 2, 12),
     (2, 48, "java/lang/ArrayIndexOutOfBoundsException", "", "", 23, 0),
     (1, 50, "SegmentForms", "<init>", "()V", 2, 0),
     (2, 51, "SegmentFormsModel", "", "", 12, 0),
     (1, 53, "SegmentFormsModel", "<init>", "()V", 12, 0),
     (1, 54, "SegmentForms", "add", "(I)Z", 2, 1),
     (1, 58, "SegmentFormsModel", "add", "(I)Z", 12, 3),
     (1, 59, "SegmentForms", "read", "()I", 2, 2),
     (1, 62, "SegmentFormsModel", "read", "()I", 12, 16),
     (1, 63, "SegmentFormsLaw", "row", "(LSegmentForms;IIIII[J)I", 0, 1),
     (1, 68, "SegmentFormsModel", "row", "(IIIII)I", 12, 30),
     (1, 69, "SegmentFormsModel", "thrown", "()I", 12, 1),
     (1, 72, "SegmentFormsLaw", "check", "(LSegmentForms;[J)I", 0, 2),
     (1, 75, "SegmentFormsModel", "check", "()I", 12, 39),
     (1, 76, "SegmentForms", "fault", "(I)I", 2, 5),
     (1, 79, "SegmentFormsModel", "fault", "(I)I", 12, 40),
     (1, 80, "SegmentFormsLaw", "segment", "(LSegmentForms;II[J)I", 0, 3),
     (1, 83, "SegmentFormsModel", "segment", "(II)I", 12, 24),
     (1, 84, "SegmentFormsLaw", "repeats", "(LSegmentForms;II[J)I", 0, 4),
     (1, 86, "SegmentFormsModel", "repeats", "(II)I", 12, 25),
     (1, 87, "SegmentFormsLaw", "components", "(LSegmentForms;III[J)I", 0, 5),
     (1, 90, "SegmentFormsModel", "components", "(III)I", 12, 26),
     (1, 91, "SegmentFormsLaw", "field", "(LSegmentForms;IIII[J)I", 0, 6),
     (1, 94, "SegmentFormsModel", "field", "(IIII)I", 12, 27),
     (1, 95, "SegmentFormsLaw", "letter", "(LSegmentForms;IIIII[J)I", 0, 7),
     (1, 97, "SegmentFormsModel", "letter", "(IIIII)I", 12, 28),
     (1, 98, "SegmentFormsLaw", "build", "(LSegmentForms;[J)I", 0, 8),
     (1, 100, "SegmentFormsModel", "build", "()I", 12, 47),
     (1, 101, "SegmentFormsLaw", "at", "(LSegmentForms;I[J)I", 0, 9),
     (1, 104, "SegmentFormsModel", "at", "(I)I", 12, 48),
     (1, 105, "SegmentForms", "count", "(I)I", 2, 13),
     (1, 108, "SegmentFormsModel", "count", "(I)I", 12, 49)]
    [] mLaw with
  methods := #[mLaw,
    (let q := Lib.HandJ.method "row" "(LSegmentForms;IIIII[J)I" [.object "SegmentForms", .int, .int, .int, .int, .int, .array .long] (some .int) 0xa 8 method_3_code; { q with code := q.code.map fun c => { c with exceptionTable := #[{ startPc := 0, endPc := 16, handlerPc := 19, catchType := 13 }, { startPc := 0, endPc := 16, handlerPc := 23, catchType := 15 }] } }),
    (let q := Lib.HandJ.method "check" "(LSegmentForms;[J)I" [.object "SegmentForms", .array .long] (some .int) 0xa 3 method_4_code; { q with code := q.code.map fun c => { c with exceptionTable := #[{ startPc := 0, endPc := 8, handlerPc := 11, catchType := 15 }] } }),
    (let q := Lib.HandJ.method "segment" "(LSegmentForms;II[J)I" [.object "SegmentForms", .int, .int, .array .long] (some .int) 0xa 5 method_5_code; { q with code := q.code.map fun c => { c with exceptionTable := #[{ startPc := 0, endPc := 10, handlerPc := 13, catchType := 25 }] } }),
    (let q := Lib.HandJ.method "repeats" "(LSegmentForms;II[J)I" [.object "SegmentForms", .int, .int, .array .long] (some .int) 0xa 5 method_6_code; { q with code := q.code.map fun c => { c with exceptionTable := #[{ startPc := 0, endPc := 10, handlerPc := 13, catchType := 25 }] } }),
    (let q := Lib.HandJ.method "components" "(LSegmentForms;III[J)I" [.object "SegmentForms", .int, .int, .int, .array .long] (some .int) 0xa 6 method_7_code; { q with code := q.code.map fun c => { c with exceptionTable := #[{ startPc := 0, endPc := 12, handlerPc := 15, catchType := 25 }] } }),
    (let q := Lib.HandJ.method "field" "(LSegmentForms;IIII[J)I" [.object "SegmentForms", .int, .int, .int, .int, .array .long] (some .int) 0xa 7 method_8_code; { q with code := q.code.map fun c => { c with exceptionTable := #[{ startPc := 0, endPc := 14, handlerPc := 17, catchType := 25 }] } }),
    (let q := Lib.HandJ.method "letter" "(LSegmentForms;IIIII[J)I" [.object "SegmentForms", .int, .int, .int, .int, .int, .array .long] (some .int) 0xa 8 method_9_code; { q with code := q.code.map fun c => { c with exceptionTable := #[{ startPc := 0, endPc := 16, handlerPc := 19, catchType := 25 }] } }),
    (let q := Lib.HandJ.method "build" "(LSegmentForms;[J)I" [.object "SegmentForms", .array .long] (some .int) 0xa 3 method_10_code; { q with code := q.code.map fun c => { c with exceptionTable := #[{ startPc := 0, endPc := 8, handlerPc := 11, catchType := 15 }] } }),
    (let q := Lib.HandJ.method "at" "(LSegmentForms;I[J)I" [.object "SegmentForms", .int, .array .long] (some .int) 0xa 4 method_11_code; { q with code := q.code.map fun c => { c with exceptionTable := #[{ startPc := 0, endPc := 9, handlerPc := 12, catchType := 48 }] } })] }
def gap1.c2 : Class := { sg_own "SegmentForms" 0x31
    [(1, 1, "java/lang/Object", "<init>", "()V", 1, 0),
     (2, 7, "SegmentForms$SignRow", "", "", 3, 0),
     (1, 9, "SegmentForms$SignRow", "<init>", "()V", 3, 0),
     (0, 10, "SegmentForms", "text", "LSegmentForms$SignRow;", 2, 0),
     (0, 16, "SegmentForms", "built", "LSegmentForms$SignRow;", 2, 1),
     (2, 19, "SegmentForms$ServiceSigns", "", "", 4, 0),
     (1, 21, "SegmentForms$ServiceSigns", "<init>", "()V", 4, 0),
     (0, 22, "SegmentForms", "signs", "LSegmentForms$ServiceSigns;", 2, 2),
     (2, 26, "SegmentForms$Message", "", "", 5, 0),
     (1, 28, "SegmentForms$Message", "<init>", "()V", 5, 0),
     (0, 29, "SegmentForms", "message", "LSegmentForms$Message;", 2, 3),
     (2, 33, "SegmentForms$Reader", "", "", 7, 0),
     (1, 35, "SegmentForms$Reader", "<init>", "(LSegmentForms$Message;LSegmentForms$ServiceSigns;)V", 7, 0),
     (0, 38, "SegmentForms", "reader", "LSegmentForms$Reader;", 2, 4),
     (2, 42, "SegmentForms$Grammar", "", "", 8, 0),
     (0, 44, "SegmentForms", "grammars", "[LSegmentForms$Grammar;", 2, 5),
     (1, 48, "SegmentForms$Grammar", "<init>", "()V", 8, 0),
     (2, 49, "SegmentForms$Check", "", "", 9, 0),
     (1, 51, "SegmentForms$Check", "<init>", "(LSegmentForms$Message;)V", 9, 0),
     (0, 54, "SegmentForms", "lastCheck", "LSegmentForms$Check;", 2, 6),
     (2, 58, "SegmentForms$Writer", "", "", 11, 0),
     (1, 60, "SegmentForms$Writer", "<init>", "(LSegmentForms$Message;LSegmentForms$ServiceSigns;LSegmentForms$SignRow;)V", 11, 0),
     (0, 63, "SegmentForms", "writer", "LSegmentForms$Writer;", 2, 7),
     (1, 67, "SegmentForms$SignRow", "append", "(I)Z", 3, 3),
     (1, 71, "SegmentForms$Check", "forget", "()V", 9, 1),
     (1, 74, "SegmentForms$Message", "clear", "()V", 5, 1),
     (1, 77, "SegmentForms$ServiceSigns", "setUntold", "()V", 4, 1),
     (1, 80, "SegmentForms$Reader", "firstWrongPlace", "(LSegmentForms$SignRow;)I", 7, 1),
     (1, 84, "SegmentForms$SignRow", "clear", "()V", 3, 1),
     (1, 85, "SegmentForms$Message", "size", "()I", 5, 4),
     (1, 89, "SegmentForms", "grammarOf", "(I)LSegmentForms$Grammar;", 2, 14),
     (1, 93, "SegmentForms$Tag", "isTag", "(I)Z", 13, 4),
     (2, 98, "java/lang/IllegalArgumentException", "", "", 20, 0),
     (3, 100, "", "no such kind or tag", "", 4, 0),
     (1, 102, "java/lang/IllegalArgumentException", "<init>", "(Ljava/lang/String;)V", 20, 0),
     (3, 105, "", "no such least or most", "", 6, 0),
     (1, 107, "SegmentForms$Grammar", "isFull", "()Z", 8, 2),
     (1, 111, "SegmentForms$Grammar", "canTakeLevel", "(I)Z", 8, 3),
     (2, 114, "java/lang/IllegalStateException", "", "", 21, 0),
     (3, 116, "", "too many rows, or no such level here", "", 8, 0),
     (1, 118, "java/lang/IllegalStateException", "<init>", "(Ljava/lang/String;)V", 21, 0),
     (1, 119, "SegmentForms$Grammar", "append", "(IIII)V", 8, 4),
     (1, 122, "SegmentForms$Grammar", "size", "()I", 8, 1),
     (1, 123, "SegmentForms", "needMessage", "()V", 2, 15),
     (1, 126, "SegmentForms$Check", "toldKind", "()I", 9, 7),
     (1, 129, "SegmentForms$Check", "run", "(LSegmentForms$Grammar;)I", 9, 8),
     (1, 133, "SegmentForms$Check", "answer", "()I", 9, 2),
     (1, 136, "SegmentForms$Check", "faultSegment", "()I", 9, 3),
     (1, 139, "SegmentForms$Check", "faultRow", "()I", 9, 4),
     (1, 142, "SegmentForms", "needSegment", "(I)V", 2, 16),
     (1, 146, "SegmentForms$Message", "tagOf", "(I)I", 5, 11),
     (1, 150, "SegmentForms$Message", "elementsOf", "(I)I", 5, 12),
     (1, 153, "SegmentForms$Check", "rowOf", "(I)I", 9, 5),
     (1, 156, "SegmentForms$Check", "aboveOf", "(I)I", 9, 6),
     (2, 159, "java/lang/IndexOutOfBoundsException", "", "", 22, 0),
     (3, 161, "", "no such what", "", 14, 0),
     (1, 163, "java/lang/IndexOutOfBoundsException", "<init>", "(Ljava/lang/String;)V", 22, 1),
     (1, 164, "SegmentForms$Message", "elementAt", "(II)I", 5, 13),
     (1, 168, "SegmentForms$Message", "repeatsOf", "(I)I", 5, 14),
     (1, 171, "SegmentForms$Message", "repeatAt", "(II)I", 5, 15),
     (1, 174, "SegmentForms$Message", "componentsOf", "(I)I", 5, 16),
     (1, 177, "SegmentForms$Message", "findComponent", "(IIII)I", 5, 20),
     (1, 181, "SegmentForms$Message", "lettersOf", "(I)I", 5, 18),
     (1, 184, "SegmentForms$Message", "letterAt", "(II)I", 5, 19),
     (1, 187, "SegmentForms$Writer", "write", "()V", 11, 1),
     (1, 190, "SegmentForms$SignRow", "length", "()I", 3, 2),
     (2, 193, "java/lang/ArrayIndexOutOfBoundsException", "", "", 23, 0),
     (3, 195, "", "no such place", "", 16, 0),
     (1, 197, "java/lang/ArrayIndexOutOfBoundsException", "<init>", "(Ljava/lang/String;)V", 23, 0),
     (1, 198, "SegmentForms$SignRow", "signAt", "(I)I", 3, 4),
     (1, 201, "SegmentForms$ServiceSigns", "signOf", "(I)I", 4, 3),
     (1, 204, "SegmentForms$Message", "isThere", "()Z", 5, 2),
     (3, 207, "", "no message", "", 10, 0),
     (3, 209, "", "no such segment", "", 12, 0)]
    [("text", .object "SegmentForms$SignRow", 0x12), ("built", .object "SegmentForms$SignRow", 0x12), ("signs", .object "SegmentForms$ServiceSigns", 0x12), ("message", .object "SegmentForms$Message", 0x12), ("reader", .object "SegmentForms$Reader", 0x12), ("grammars", .array (.object "SegmentForms$Grammar"), 0x12), ("lastCheck", .object "SegmentForms$Check", 0x12), ("writer", .object "SegmentForms$Writer", 0x12)] (Lib.HandJ.method "<init>" "()V" [] none 0x1 2 prog_1_method_1_code) with
  methods := #[Lib.HandJ.method "<init>" "()V" [] none 0x1 2 prog_1_method_1_code,
    Lib.HandJ.method "add" "(I)Z" [.int] (some .boolean) 0x1 2 prog_1_method_2_code,
    Lib.HandJ.method "read" "()I" [] (some .int) 0x1 2 prog_1_method_3_code,
    Lib.HandJ.method "row" "(IIIII)I" [.int, .int, .int, .int, .int] (some .int) 0x1 7 prog_1_method_4_code,
    Lib.HandJ.method "check" "()I" [] (some .int) 0x1 2 prog_1_method_5_code,
    Lib.HandJ.method "fault" "(I)I" [.int] (some .int) 0x1 2 prog_1_method_6_code,
    Lib.HandJ.method "segment" "(II)I" [.int, .int] (some .int) 0x1 3 prog_1_method_7_code,
    Lib.HandJ.method "repeats" "(II)I" [.int, .int] (some .int) 0x1 3 prog_1_method_8_code,
    Lib.HandJ.method "components" "(III)I" [.int, .int, .int] (some .int) 0x1 4 prog_1_method_9_code,
    Lib.HandJ.method "field" "(IIII)I" [.int, .int, .int, .int] (some .int) 0x1 6 prog_1_method_10_code,
    Lib.HandJ.method "letter" "(IIIII)I" [.int, .int, .int, .int, .int] (some .int) 0x1 6 prog_1_method_11_code,
    Lib.HandJ.method "build" "()I" [] (some .int) 0x1 1 prog_1_method_12_code,
    Lib.HandJ.method "at" "(I)I" [.int] (some .int) 0x1 2 prog_1_method_13_code,
    Lib.HandJ.method "count" "(I)I" [.int] (some .int) 0x1 3 prog_1_method_14_code,
    Lib.HandJ.method "grammarOf" "(I)LSegmentForms$Grammar;" [.int] (some (.object "SegmentForms$Grammar")) 0x2 2 prog_1_method_15_code,
    Lib.HandJ.method "needMessage" "()V" [] none 0x2 1 prog_1_method_16_code,
    Lib.HandJ.method "needSegment" "(I)V" [.int] none 0x2 2 prog_1_method_17_code] }
def gap1.c3 : Class := { sg_own "SegmentForms$SignRow" 0x30
    [(1, 3, "java/lang/Object", "<init>", "()V", 1, 0),
     (0, 9, "SegmentForms$SignRow", "signs", "[I", 3, 0),
     (0, 15, "SegmentForms$SignRow", "length", "I", 3, 1)]
    [("signs", .array .int, 0x12), ("length", .int, 0x2)] (Lib.HandJ.method "<init>" "()V" [] none 0x0 1 prog_8_method_1_code) with
  methods := #[Lib.HandJ.method "<init>" "()V" [] none 0x0 1 prog_8_method_1_code,
    Lib.HandJ.method "clear" "()V" [] none 0x0 1 prog_8_method_2_code,
    Lib.HandJ.method "length" "()I" [] (some .int) 0x0 1 prog_8_method_3_code,
    Lib.HandJ.method "append" "(I)Z" [.int] (some .boolean) 0x0 2 prog_8_method_4_code,
    Lib.HandJ.method "signAt" "(I)I" [.int] (some .int) 0x0 2 prog_8_method_5_code] }
def gap1.c4 : Class := suRes [(47, .cls 25)] <| { sg_own "SegmentForms$ServiceSigns" 0x30
    [(1, 3, "java/lang/Object", "<init>", "()V", 1, 0),
     (0, 9, "SegmentForms$ServiceSigns", "UNTOLD", "[I", 4, 7),
     (1, 15, "[I", "clone", "()Ljava/lang/Object;", 1, 1),
     (2, 16, "[I", "", "", 25, 0),
     (0, 20, "SegmentForms$ServiceSigns", "signs", "[I", 4, 0),
     (1, 23, "SegmentForms$ServiceSigns", "canServe", "(I)Z", 4, 5),
     (1, 27, "SegmentForms$Tag", "isLaterSign", "(I)Z", 13, 3),
     (1, 32, "SegmentForms$Tag", "isSmall", "(I)Z", 13, 1)]
    [("signs", .array .int, 0x12)] (Lib.HandJ.method "<init>" "()V" [] none 0x0 1 prog_7_method_1_code) with
  methods := #[Lib.HandJ.method "<init>" "()V" [] none 0x0 1 prog_7_method_1_code,
    Lib.HandJ.method "setUntold" "()V" [] none 0x0 2 prog_7_method_2_code,
    Lib.HandJ.method "tell" "(II)Z" [.int, .int] (some .boolean) 0x0 4 prog_7_method_3_code,
    Lib.HandJ.method "signOf" "(I)I" [.int] (some .int) 0x0 2 prog_7_method_4_code,
    Lib.HandJ.method "numberOf" "(I)I" [.int] (some .int) 0x0 3 prog_7_method_5_code,
    Lib.HandJ.method "canServe" "(I)Z" [.int] (some .boolean) 0xa 1 prog_7_method_6_code],
  fields := (Lib.HandW.fieldsFrom [("signs", .array .int, 0x12)] 0).toArray ++ #[{ name := "HOW_MANY", type := .int, accessFlags := 0x18, slot := 0, constantValue := 0 }, { name := "COMPONENT", type := .int, accessFlags := 0x18, slot := 1, constantValue := 0 }, { name := "ELEMENT", type := .int, accessFlags := 0x18, slot := 2, constantValue := 0 }, { name := "RELEASE", type := .int, accessFlags := 0x18, slot := 3, constantValue := 0 }, { name := "REPEAT", type := .int, accessFlags := 0x18, slot := 4, constantValue := 0 }, { name := "END", type := .int, accessFlags := 0x18, slot := 5, constantValue := 0 }, { name := "UNTOLD", type := .array .int, accessFlags := 0x1a, slot := 6, constantValue := 0 }],
  staticTypes := #[.int, .int, .int, .int, .int, .int, .array .int],
  statics := some 1 }
def gap1.c5 : Class := { sg_own "SegmentForms$Message" 0x30
    [(1, 3, "java/lang/Object", "<init>", "()V", 1, 0),
     (0, 9, "SegmentForms$Message", "tags", "[I", 5, 0),
     (2, 15, "SegmentForms$Layer", "", "", 6, 0),
     (1, 17, "SegmentForms$Layer", "<init>", "(I)V", 6, 0),
     (0, 20, "SegmentForms$Message", "segments", "LSegmentForms$Layer;", 5, 1),
     (0, 24, "SegmentForms$Message", "elements", "LSegmentForms$Layer;", 5, 2),
     (0, 27, "SegmentForms$Message", "repeats", "LSegmentForms$Layer;", 5, 3),
     (0, 30, "SegmentForms$Message", "components", "LSegmentForms$Layer;", 5, 4),
     (2, 33, "SegmentForms$SignRow", "", "", 3, 0),
     (1, 35, "SegmentForms$SignRow", "<init>", "()V", 3, 0),
     (0, 36, "SegmentForms$Message", "letters", "LSegmentForms$SignRow;", 5, 5),
     (1, 40, "SegmentForms$Layer", "clear", "()V", 6, 1),
     (1, 43, "SegmentForms$SignRow", "clear", "()V", 3, 1),
     (1, 44, "SegmentForms$Layer", "size", "()I", 6, 2),
     (1, 48, "SegmentForms$Layer", "open", "()Z", 6, 3),
     (1, 52, "SegmentForms$Message", "openBelow", "(LSegmentForms$Layer;ILSegmentForms$Layer;)Z", 5, 9),
     (1, 56, "SegmentForms$Layer", "childrenOfLast", "()I", 6, 6),
     (1, 59, "SegmentForms$Layer", "grow", "()V", 6, 4),
     (1, 62, "SegmentForms$SignRow", "append", "(I)Z", 3, 3),
     (1, 66, "SegmentForms$Layer", "childrenOf", "(I)I", 6, 5),
     (1, 70, "SegmentForms$Layer", "childAt", "(II)I", 6, 7),
     (1, 74, "SegmentForms$SignRow", "signAt", "(I)I", 3, 4),
     (1, 77, "SegmentForms$Message", "elementAt", "(II)I", 5, 13),
     (1, 80, "SegmentForms$Message", "repeatAt", "(II)I", 5, 15),
     (1, 83, "SegmentForms$Message", "componentAt", "(II)I", 5, 17),
     (1, 86, "SegmentForms$Message", "lettersOf", "(I)I", 5, 18),
     (1, 89, "SegmentForms$Message", "letterAt", "(II)I", 5, 19)]
    [("tags", .array .int, 0x12), ("segments", .object "SegmentForms$Layer", 0x12), ("elements", .object "SegmentForms$Layer", 0x12), ("repeats", .object "SegmentForms$Layer", 0x12), ("components", .object "SegmentForms$Layer", 0x12), ("letters", .object "SegmentForms$SignRow", 0x12)] (Lib.HandJ.method "<init>" "()V" [] none 0x0 1 prog_5_method_1_code) with
  methods := #[Lib.HandJ.method "<init>" "()V" [] none 0x0 1 prog_5_method_1_code,
    Lib.HandJ.method "clear" "()V" [] none 0x0 1 prog_5_method_2_code,
    Lib.HandJ.method "isThere" "()Z" [] (some .boolean) 0x0 1 prog_5_method_3_code,
    Lib.HandJ.method "isFull" "()Z" [] (some .boolean) 0x0 1 prog_5_method_4_code,
    Lib.HandJ.method "size" "()I" [] (some .int) 0x0 1 prog_5_method_5_code,
    Lib.HandJ.method "openSegment" "(I)Z" [.int] (some .boolean) 0x0 3 prog_5_method_6_code,
    Lib.HandJ.method "openElement" "()Z" [] (some .boolean) 0x0 1 prog_5_method_7_code,
    Lib.HandJ.method "openRepeat" "()Z" [] (some .boolean) 0x0 1 prog_5_method_8_code,
    Lib.HandJ.method "openComponent" "()Z" [] (some .boolean) 0x0 1 prog_5_method_9_code,
    Lib.HandJ.method "openBelow" "(LSegmentForms$Layer;ILSegmentForms$Layer;)Z" [.object "SegmentForms$Layer", .int, .object "SegmentForms$Layer"] (some .boolean) 0xa 3 prog_5_method_10_code,
    Lib.HandJ.method "appendLetter" "(I)Z" [.int] (some .boolean) 0x0 2 prog_5_method_11_code,
    Lib.HandJ.method "tagOf" "(I)I" [.int] (some .int) 0x0 2 prog_5_method_12_code,
    Lib.HandJ.method "elementsOf" "(I)I" [.int] (some .int) 0x0 2 prog_5_method_13_code,
    Lib.HandJ.method "elementAt" "(II)I" [.int, .int] (some .int) 0x0 3 prog_5_method_14_code,
    Lib.HandJ.method "repeatsOf" "(I)I" [.int] (some .int) 0x0 2 prog_5_method_15_code,
    Lib.HandJ.method "repeatAt" "(II)I" [.int, .int] (some .int) 0x0 3 prog_5_method_16_code,
    Lib.HandJ.method "componentsOf" "(I)I" [.int] (some .int) 0x0 2 prog_5_method_17_code,
    Lib.HandJ.method "componentAt" "(II)I" [.int, .int] (some .int) 0x0 3 prog_5_method_18_code,
    Lib.HandJ.method "lettersOf" "(I)I" [.int] (some .int) 0x0 2 prog_5_method_19_code,
    Lib.HandJ.method "letterAt" "(II)I" [.int, .int] (some .int) 0x0 4 prog_5_method_20_code,
    Lib.HandJ.method "findComponent" "(IIII)I" [.int, .int, .int, .int] (some .int) 0x0 5 prog_5_method_21_code,
    Lib.HandJ.method "areSame" "(II)Z" [.int, .int] (some .boolean) 0x0 5 prog_5_method_22_code,
    Lib.HandJ.method "spells" "(II)Z" [.int, .int] (some .boolean) 0x0 5 prog_5_method_23_code] }
def gap1.c6 : Class := { sg_own "SegmentForms$Layer" 0x30
    [(1, 3, "java/lang/Object", "<init>", "()V", 1, 0),
     (0, 9, "SegmentForms$Layer", "first", "[I", 6, 0),
     (0, 15, "SegmentForms$Layer", "size", "I", 6, 1)]
    [("first", .array .int, 0x12), ("size", .int, 0x2)] (Lib.HandJ.method "<init>" "(I)V" [.int] none 0x0 2 prog_4_method_1_code) with
  methods := #[Lib.HandJ.method "<init>" "(I)V" [.int] none 0x0 2 prog_4_method_1_code,
    Lib.HandJ.method "clear" "()V" [] none 0x0 1 prog_4_method_2_code,
    Lib.HandJ.method "size" "()I" [] (some .int) 0x0 1 prog_4_method_3_code,
    Lib.HandJ.method "open" "()Z" [] (some .boolean) 0x0 1 prog_4_method_4_code,
    Lib.HandJ.method "grow" "()V" [] none 0x0 1 prog_4_method_5_code,
    Lib.HandJ.method "childrenOf" "(I)I" [.int] (some .int) 0x0 2 prog_4_method_6_code,
    Lib.HandJ.method "childrenOfLast" "()I" [] (some .int) 0x0 1 prog_4_method_7_code,
    Lib.HandJ.method "childAt" "(II)I" [.int, .int] (some .int) 0x0 3 prog_4_method_8_code] }
def gap1.c7 : Class := { sg_own "SegmentForms$Reader" 0x30
    [(1, 3, "java/lang/Object", "<init>", "()V", 1, 0),
     (0, 9, "SegmentForms$Reader", "message", "LSegmentForms$Message;", 7, 0),
     (0, 15, "SegmentForms$Reader", "signs", "LSegmentForms$ServiceSigns;", 7, 1),
     (0, 19, "SegmentForms$Reader", "state", "I", 7, 2),
     (0, 23, "SegmentForms$Reader", "tag", "I", 7, 3),
     (1, 26, "SegmentForms$Reader", "beginsWithUna", "(LSegmentForms$SignRow;)Z", 7, 2),
     (1, 30, "SegmentForms$Reader", "firstWrongOfUna", "(LSegmentForms$SignRow;)I", 7, 3),
     (1, 36, "SegmentForms$SignRow", "length", "()I", 3, 2),
     (1, 42, "SegmentForms$SignRow", "signAt", "(I)I", 3, 4),
     (1, 46, "SegmentForms$Reader", "take", "(I)Z", 7, 4),
     (1, 50, "SegmentForms$Message", "isThere", "()Z", 5, 2),
     (1, 56, "SegmentForms$ServiceSigns", "tell", "(II)Z", 4, 2),
     (1, 60, "SegmentForms$Message", "isFull", "()Z", 5, 3),
     (1, 63, "SegmentForms$Tag", "isCapital", "(I)Z", 13, 0),
     (1, 68, "SegmentForms$Reader", "takeOfTag", "(II)Z", 7, 5),
     (1, 71, "SegmentForms$Tag", "isLaterSign", "(I)Z", 13, 3),
     (1, 74, "SegmentForms$Message", "openSegment", "(I)Z", 5, 5),
     (1, 77, "SegmentForms$ServiceSigns", "numberOf", "(I)I", 4, 4),
     (1, 80, "SegmentForms$Reader", "takeBehindTag", "(I)Z", 7, 6),
     (1, 83, "SegmentForms$Message", "appendLetter", "(I)Z", 5, 10),
     (1, 86, "SegmentForms$Reader", "takeInComponent", "(I)Z", 7, 7),
     (1, 89, "SegmentForms$Message", "openElement", "()Z", 5, 6),
     (1, 92, "SegmentForms$Message", "openComponent", "()Z", 5, 8),
     (1, 95, "SegmentForms$Message", "openRepeat", "()Z", 5, 7)]
    [("message", .object "SegmentForms$Message", 0x12), ("signs", .object "SegmentForms$ServiceSigns", 0x12), ("state", .int, 0x2), ("tag", .int, 0x2)] (Lib.HandJ.method "<init>" "(LSegmentForms$Message;LSegmentForms$ServiceSigns;)V" [.object "SegmentForms$Message", .object "SegmentForms$ServiceSigns"] none 0x0 3 prog_6_method_1_code) with
  methods := #[Lib.HandJ.method "<init>" "(LSegmentForms$Message;LSegmentForms$ServiceSigns;)V" [.object "SegmentForms$Message", .object "SegmentForms$ServiceSigns"] none 0x0 3 prog_6_method_1_code,
    Lib.HandJ.method "firstWrongPlace" "(LSegmentForms$SignRow;)I" [.object "SegmentForms$SignRow"] (some .int) 0x0 4 prog_6_method_2_code,
    Lib.HandJ.method "beginsWithUna" "(LSegmentForms$SignRow;)Z" [.object "SegmentForms$SignRow"] (some .boolean) 0xa 1 prog_6_method_3_code,
    Lib.HandJ.method "firstWrongOfUna" "(LSegmentForms$SignRow;)I" [.object "SegmentForms$SignRow"] (some .int) 0x2 4 prog_6_method_4_code,
    Lib.HandJ.method "take" "(I)Z" [.int] (some .boolean) 0x2 2 prog_6_method_5_code,
    Lib.HandJ.method "takeOfTag" "(II)Z" [.int, .int] (some .boolean) 0x2 3 prog_6_method_6_code,
    Lib.HandJ.method "takeBehindTag" "(I)Z" [.int] (some .boolean) 0x2 2 prog_6_method_7_code,
    Lib.HandJ.method "takeInComponent" "(I)Z" [.int] (some .boolean) 0x2 2 prog_6_method_8_code] }
def gap1.c8 : Class := { sg_own "SegmentForms$Grammar" 0x30
    [(1, 3, "java/lang/Object", "<init>", "()V", 1, 0),
     (0, 9, "SegmentForms$Grammar", "tags", "[I", 8, 0),
     (0, 15, "SegmentForms$Grammar", "leasts", "[I", 8, 1),
     (0, 18, "SegmentForms$Grammar", "mosts", "[I", 8, 2),
     (0, 21, "SegmentForms$Grammar", "levels", "[I", 8, 3),
     (0, 24, "SegmentForms$Grammar", "size", "I", 8, 4),
     (1, 28, "SegmentForms$Grammar", "levelOf", "(I)I", 8, 8),
     (1, 32, "java/lang/Math", "min", "(II)I", 15, 0),
     (1, 38, "SegmentForms$Grammar", "tagOf", "(I)I", 8, 5)]
    [("tags", .array .int, 0x12), ("leasts", .array .int, 0x12), ("mosts", .array .int, 0x12), ("levels", .array .int, 0x12), ("size", .int, 0x2)] (Lib.HandJ.method "<init>" "()V" [] none 0x0 1 prog_3_method_1_code) with
  methods := #[Lib.HandJ.method "<init>" "()V" [] none 0x0 1 prog_3_method_1_code,
    Lib.HandJ.method "size" "()I" [] (some .int) 0x0 1 prog_3_method_2_code,
    Lib.HandJ.method "isFull" "()Z" [] (some .boolean) 0x0 1 prog_3_method_3_code,
    Lib.HandJ.method "canTakeLevel" "(I)Z" [.int] (some .boolean) 0x0 3 prog_3_method_4_code,
    Lib.HandJ.method "append" "(IIII)V" [.int, .int, .int, .int] none 0x0 5 prog_3_method_5_code,
    Lib.HandJ.method "tagOf" "(I)I" [.int] (some .int) 0x0 2 prog_3_method_6_code,
    Lib.HandJ.method "leastOf" "(I)I" [.int] (some .int) 0x0 2 prog_3_method_7_code,
    Lib.HandJ.method "mostOf" "(I)I" [.int] (some .int) 0x0 2 prog_3_method_8_code,
    Lib.HandJ.method "levelOf" "(I)I" [.int] (some .int) 0x0 2 prog_3_method_9_code,
    Lib.HandJ.method "knows" "(I)Z" [.int] (some .boolean) 0x0 3 prog_3_method_10_code,
    Lib.HandJ.method "endOfGroup" "(I)I" [.int] (some .int) 0x0 3 prog_3_method_11_code] }
def gap1.c9 : Class := { sg_own "SegmentForms$Check" 0x30
    [(1, 3, "java/lang/Object", "<init>", "()V", 1, 0),
     (0, 9, "SegmentForms$Check", "message", "LSegmentForms$Message;", 9, 0),
     (0, 15, "SegmentForms$Check", "rows", "[I", 9, 1),
     (0, 19, "SegmentForms$Check", "aboves", "[I", 9, 2),
     (0, 22, "SegmentForms$Check", "next", "I", 9, 6),
     (0, 26, "SegmentForms$Check", "last", "I", 9, 7),
     (1, 29, "SegmentForms$Check", "forget", "()V", 9, 1),
     (1, 32, "java/util/Arrays", "fill", "([II)V", 10, 0),
     (0, 38, "SegmentForms$Check", "answer", "I", 9, 3),
     (0, 41, "SegmentForms$Check", "faultSegment", "I", 9, 4),
     (0, 44, "SegmentForms$Check", "faultRow", "I", 9, 5),
     (1, 47, "SegmentForms$Message", "findComponent", "(IIII)I", 5, 20),
     (1, 53, "SegmentForms$Message", "lettersOf", "(I)I", 5, 18),
     (1, 57, "SegmentForms$Message", "letterAt", "(II)I", 5, 19),
     (1, 61, "SegmentForms$Message", "size", "()I", 5, 4),
     (1, 65, "SegmentForms$Check", "faultOfFrame", "()I", 9, 9),
     (1, 68, "SegmentForms$Grammar", "size", "()I", 8, 1),
     (1, 71, "SegmentForms$Check", "faultBetween", "(LSegmentForms$Grammar;)I", 9, 10),
     (1, 75, "SegmentForms$Message", "tagOf", "(I)I", 5, 11),
     (5, 80, "", "", "", 5590600, 0),
     (5, 81, "", "", "", 5590612, 0),
     (1, 82, "SegmentForms$Message", "spells", "(II)Z", 5, 22),
     (1, 86, "SegmentForms$Message", "areSame", "(II)Z", 5, 21),
     (1, 89, "SegmentForms$Grammar", "knows", "(I)Z", 8, 9),
     (1, 93, "SegmentForms$Check", "walkRows", "(LSegmentForms$Grammar;IIII)Z", 9, 11),
     (1, 97, "SegmentForms$Grammar", "levelOf", "(I)I", 8, 8),
     (1, 100, "SegmentForms$Check", "walkRow", "(LSegmentForms$Grammar;III)Z", 9, 12),
     (1, 104, "SegmentForms$Grammar", "tagOf", "(I)I", 8, 5),
     (1, 105, "SegmentForms$Grammar", "mostOf", "(I)I", 8, 7),
     (1, 108, "SegmentForms$Grammar", "endOfGroup", "(I)I", 8, 10),
     (1, 111, "SegmentForms$Check", "walkOver", "(III)V", 9, 13),
     (1, 115, "SegmentForms$Grammar", "leastOf", "(I)I", 8, 6)]
    [("message", .object "SegmentForms$Message", 0x12), ("rows", .array .int, 0x12), ("aboves", .array .int, 0x12), ("answer", .int, 0x2), ("faultSegment", .int, 0x2), ("faultRow", .int, 0x2), ("next", .int, 0x2), ("last", .int, 0x2)] (Lib.HandJ.method "<init>" "(LSegmentForms$Message;)V" [.object "SegmentForms$Message"] none 0x0 2 prog_2_method_1_code) with
  methods := #[Lib.HandJ.method "<init>" "(LSegmentForms$Message;)V" [.object "SegmentForms$Message"] none 0x0 2 prog_2_method_1_code,
    Lib.HandJ.method "forget" "()V" [] none 0x0 1 prog_2_method_2_code,
    Lib.HandJ.method "answer" "()I" [] (some .int) 0x0 1 prog_2_method_3_code,
    Lib.HandJ.method "faultSegment" "()I" [] (some .int) 0x0 1 prog_2_method_4_code,
    Lib.HandJ.method "faultRow" "()I" [] (some .int) 0x0 1 prog_2_method_5_code,
    Lib.HandJ.method "rowOf" "(I)I" [.int] (some .int) 0x0 2 prog_2_method_6_code,
    Lib.HandJ.method "aboveOf" "(I)I" [.int] (some .int) 0x0 2 prog_2_method_7_code,
    Lib.HandJ.method "toldKind" "()I" [] (some .int) 0x0 2 prog_2_method_8_code,
    Lib.HandJ.method "run" "(LSegmentForms$Grammar;)I" [.object "SegmentForms$Grammar"] (some .int) 0x0 3 prog_2_method_9_code,
    Lib.HandJ.method "faultOfFrame" "()I" [] (some .int) 0x2 3 prog_2_method_10_code,
    Lib.HandJ.method "faultBetween" "(LSegmentForms$Grammar;)I" [.object "SegmentForms$Grammar"] (some .int) 0x2 3 prog_2_method_11_code,
    Lib.HandJ.method "walkRows" "(LSegmentForms$Grammar;IIII)Z" [.object "SegmentForms$Grammar", .int, .int, .int, .int] (some .boolean) 0x2 7 prog_2_method_12_code,
    Lib.HandJ.method "walkRow" "(LSegmentForms$Grammar;III)Z" [.object "SegmentForms$Grammar", .int, .int, .int] (some .boolean) 0x2 10 prog_2_method_13_code,
    Lib.HandJ.method "walkOver" "(III)V" [.int, .int, .int] none 0x2 4 prog_2_method_14_code] }
def gap1.c10 : Class := { sg_own "java/util/Arrays" 0x31
    []
    [] (Lib.HandJ.method "fill" "([II)V" [.array .int, .int] none 0x9 4 prog_23_method_103_code) with
  methods := #[Lib.HandJ.method "fill" "([II)V" [.array .int, .int] none 0x9 4 prog_23_method_103_code] }
/-! ALONE the witness, part 2, behind gap1.mLaw -/
def gap1.c11 : Class := { sg_own "SegmentForms$Writer" 0x30
    [(1, 3, "java/lang/Object", "<init>", "()V", 1, 0),
     (0, 9, "SegmentForms$Writer", "message", "LSegmentForms$Message;", 11, 0),
     (0, 15, "SegmentForms$Writer", "signs", "LSegmentForms$ServiceSigns;", 11, 1),
     (0, 19, "SegmentForms$Writer", "built", "LSegmentForms$SignRow;", 11, 2),
     (1, 23, "SegmentForms$SignRow", "clear", "()V", 3, 1),
     (1, 28, "SegmentForms$Message", "size", "()I", 5, 4),
     (1, 34, "SegmentForms$Message", "tagOf", "(I)I", 5, 11),
     (1, 38, "SegmentForms$Writer", "writeTag", "(I)V", 11, 2),
     (1, 42, "SegmentForms$Writer", "keptElements", "(I)I", 11, 7),
     (1, 47, "SegmentForms$Writer", "writeService", "(I)V", 11, 6),
     (1, 50, "SegmentForms$Message", "elementAt", "(II)I", 5, 13),
     (1, 54, "SegmentForms$Writer", "writeRepeats", "(I)V", 11, 3),
     (1, 57, "SegmentForms$Tag", "first", "(I)I", 13, 5),
     (1, 62, "SegmentForms$SignRow", "append", "(I)Z", 3, 3),
     (1, 66, "SegmentForms$Tag", "second", "(I)I", 13, 6),
     (1, 69, "SegmentForms$Tag", "third", "(I)I", 13, 7),
     (1, 72, "SegmentForms$Writer", "keptRepeats", "(I)I", 11, 8),
     (1, 75, "SegmentForms$Message", "repeatAt", "(II)I", 5, 15),
     (1, 78, "SegmentForms$Writer", "writeComponents", "(I)V", 11, 4),
     (1, 81, "SegmentForms$Writer", "keptComponents", "(I)I", 11, 9),
     (1, 84, "SegmentForms$Message", "componentAt", "(II)I", 5, 17),
     (1, 87, "SegmentForms$Writer", "writeLetters", "(I)V", 11, 5),
     (1, 90, "SegmentForms$Message", "lettersOf", "(I)I", 5, 18),
     (1, 93, "SegmentForms$Message", "letterAt", "(II)I", 5, 19),
     (1, 96, "SegmentForms$ServiceSigns", "numberOf", "(I)I", 4, 4),
     (1, 99, "SegmentForms$ServiceSigns", "signOf", "(I)I", 4, 3),
     (1, 102, "SegmentForms$Message", "elementsOf", "(I)I", 5, 12),
     (1, 105, "SegmentForms$Message", "repeatsOf", "(I)I", 5, 14),
     (1, 108, "SegmentForms$Message", "componentsOf", "(I)I", 5, 16)]
    [("message", .object "SegmentForms$Message", 0x12), ("signs", .object "SegmentForms$ServiceSigns", 0x12), ("built", .object "SegmentForms$SignRow", 0x12)] (Lib.HandJ.method "<init>" "(LSegmentForms$Message;LSegmentForms$ServiceSigns;LSegmentForms$SignRow;)V" [.object "SegmentForms$Message", .object "SegmentForms$ServiceSigns", .object "SegmentForms$SignRow"] none 0x0 4 prog_10_method_1_code) with
  methods := #[Lib.HandJ.method "<init>" "(LSegmentForms$Message;LSegmentForms$ServiceSigns;LSegmentForms$SignRow;)V" [.object "SegmentForms$Message", .object "SegmentForms$ServiceSigns", .object "SegmentForms$SignRow"] none 0x0 4 prog_10_method_1_code,
    Lib.HandJ.method "write" "()V" [] none 0x0 4 prog_10_method_2_code,
    Lib.HandJ.method "writeTag" "(I)V" [.int] none 0x2 2 prog_10_method_3_code,
    Lib.HandJ.method "writeRepeats" "(I)V" [.int] none 0x2 4 prog_10_method_4_code,
    Lib.HandJ.method "writeComponents" "(I)V" [.int] none 0x2 4 prog_10_method_5_code,
    Lib.HandJ.method "writeLetters" "(I)V" [.int] none 0x2 5 prog_10_method_6_code,
    Lib.HandJ.method "writeService" "(I)V" [.int] none 0x2 2 prog_10_method_7_code,
    Lib.HandJ.method "keptElements" "(I)I" [.int] (some .int) 0x2 3 prog_10_method_8_code,
    Lib.HandJ.method "keptRepeats" "(I)I" [.int] (some .int) 0x2 3 prog_10_method_9_code,
    Lib.HandJ.method "keptComponents" "(I)I" [.int] (some .int) 0x2 3 prog_10_method_10_code] }
def gap1.c12 : Class := { sg_own "SegmentFormsModel" 0x31
    [(1, 1, "java/lang/Object", "<init>", "()V", 1, 0),
     (0, 7, "SegmentFormsModel", "text", "[I", 12, 0),
     (0, 13, "SegmentFormsModel", "service", "[I", 12, 5),
     (0, 16, "SegmentFormsModel", "tag", "[I", 12, 12),
     (0, 19, "SegmentFormsModel", "elementFrom", "[I", 12, 13),
     (0, 22, "SegmentFormsModel", "repeatFrom", "[I", 12, 14),
     (0, 25, "SegmentFormsModel", "componentFrom", "[I", 12, 15),
     (0, 28, "SegmentFormsModel", "signFrom", "[I", 12, 16),
     (0, 31, "SegmentFormsModel", "sign", "[I", 12, 17),
     (0, 34, "SegmentFormsModel", "rows", "[I", 12, 18),
     (0, 37, "SegmentFormsModel", "rowTag", "[I", 12, 19),
     (0, 40, "SegmentFormsModel", "least", "[I", 12, 20),
     (0, 43, "SegmentFormsModel", "most", "[I", 12, 21),
     (0, 46, "SegmentFormsModel", "level", "[I", 12, 22),
     (0, 49, "SegmentFormsModel", "answer", "I", 12, 23),
     (0, 53, "SegmentFormsModel", "wrongSegment", "I", 12, 24),
     (0, 56, "SegmentFormsModel", "wrongRow", "I", 12, 25),
     (0, 59, "SegmentFormsModel", "rowOf", "[I", 12, 26),
     (0, 62, "SegmentFormsModel", "above", "[I", 12, 27),
     (0, 65, "SegmentFormsModel", "atRow", "[I", 12, 28),
     (0, 68, "SegmentFormsModel", "often", "[I", 12, 29),
     (0, 71, "SegmentFormsModel", "parent", "[I", 12, 30),
     (0, 74, "SegmentFormsModel", "built", "[I", 12, 31),
     (1, 77, "SegmentFormsModel", "usual", "()V", 12, 2),
     (0, 80, "SegmentFormsModel", "thrown", "I", 12, 4),
     (0, 83, "SegmentFormsModel", "length", "I", 12, 1),
     (0, 86, "SegmentFormsModel", "p", "I", 12, 2),
     (0, 89, "SegmentFormsModel", "bad", "I", 12, 3),
     (1, 92, "SegmentFormsModel", "look", "()I", 12, 4),
     (1, 96, "SegmentFormsModel", "isLetter", "(I)Z", 12, 6),
     (1, 100, "SegmentFormsModel", "isDigit", "(I)Z", 12, 7),
     (1, 103, "SegmentFormsModel", "fail", "()V", 12, 5),
     (0, 106, "SegmentFormsModel", "segments", "I", 12, 7),
     (0, 109, "SegmentFormsModel", "components", "I", 12, 10),
     (0, 112, "SegmentFormsModel", "signs", "I", 12, 11),
     (0, 115, "SegmentFormsModel", "repeats", "I", 12, 9),
     (1, 118, "SegmentFormsModel", "openComponent", "()V", 12, 11),
     (0, 121, "SegmentFormsModel", "elements", "I", 12, 8),
     (1, 124, "SegmentFormsModel", "openRepeat", "()V", 12, 12),
     (1, 127, "SegmentFormsModel", "take", "(I)V", 12, 13),
     (1, 131, "SegmentFormsModel", "readTag", "()V", 12, 10),
     (1, 134, "SegmentFormsModel", "readElement", "()V", 12, 14),
     (1, 137, "SegmentFormsModel", "begins", "()Z", 12, 9),
     (1, 141, "SegmentFormsModel", "readService", "()V", 12, 8),
     (1, 144, "SegmentFormsModel", "readSegment", "()V", 12, 15),
     (0, 147, "SegmentFormsModel", "message", "Z", 12, 6),
     (1, 151, "SegmentFormsModel", "forget", "(I)V", 12, 17),
     (1, 154, "SegmentFormsModel", "elementsOf", "(I)I", 12, 19),
     (1, 158, "SegmentFormsModel", "repeatsOf", "(II)I", 12, 20),
     (1, 162, "SegmentFormsModel", "componentsOf", "(III)I", 12, 21),
     (1, 166, "SegmentFormsModel", "isSegment", "(I)Z", 12, 18),
     (1, 169, "SegmentFormsModel", "componentAt", "(IIII)I", 12, 22),
     (1, 173, "SegmentFormsModel", "longOf", "(I)I", 12, 23),
     (1, 176, "SegmentFormsModel", "isTag", "(I)Z", 12, 29),
     (1, 179, "SegmentFormsModel", "wrong", "(III)I", 12, 34),
     (1, 182, "SegmentFormsModel", "nextRow", "(III)I", 12, 36),
     (5, 185, "", "", "", 5590600, 0),
     (5, 186, "", "", "", 5590612, 0),
     (1, 187, "SegmentFormsModel", "isCount", "(I)Z", 12, 31),
     (1, 190, "SegmentFormsModel", "alike", "(II)Z", 12, 32),
     (1, 194, "SegmentFormsModel", "kindOf", "()I", 12, 33),
     (1, 197, "SegmentFormsModel", "unknown", "(I)I", 12, 35),
     (1, 200, "SegmentFormsModel", "walk", "(I)I", 12, 37),
     (1, 203, "SegmentFormsModel", "checked", "()I", 12, 38),
     (0, 206, "SegmentFormsModel", "builtLong", "I", 12, 32),
     (1, 209, "SegmentFormsModel", "fullComponents", "(III)I", 12, 43),
     (1, 212, "SegmentFormsModel", "fullRepeats", "(II)I", 12, 44),
     (1, 215, "SegmentFormsModel", "put", "(I)V", 12, 41),
     (1, 218, "SegmentFormsModel", "isService", "(I)Z", 12, 42),
     (1, 221, "SegmentFormsModel", "fullElements", "(I)I", 12, 45),
     (1, 224, "SegmentFormsModel", "putRepeat", "(III)V", 12, 46)]
    [("text", .array .int, 0x12), ("length", .int, 0x2), ("p", .int, 0x2), ("bad", .int, 0x2), ("thrown", .int, 0x2), ("service", .array .int, 0x12), ("message", .boolean, 0x2), ("segments", .int, 0x2), ("elements", .int, 0x2), ("repeats", .int, 0x2), ("components", .int, 0x2), ("signs", .int, 0x2), ("tag", .array .int, 0x12), ("elementFrom", .array .int, 0x12), ("repeatFrom", .array .int, 0x12), ("componentFrom", .array .int, 0x12), ("signFrom", .array .int, 0x12), ("sign", .array .int, 0x12), ("rows", .array .int, 0x12), ("rowTag", .array .int, 0x12), ("least", .array .int, 0x12), ("most", .array .int, 0x12), ("level", .array .int, 0x12), ("answer", .int, 0x2), ("wrongSegment", .int, 0x2), ("wrongRow", .int, 0x2), ("rowOf", .array .int, 0x12), ("above", .array .int, 0x12), ("atRow", .array .int, 0x12), ("often", .array .int, 0x12), ("parent", .array .int, 0x12), ("built", .array .int, 0x12), ("builtLong", .int, 0x2)] (Lib.HandJ.method "<init>" "()V" [] none 0x1 1 prog_12_method_1_code) with
  methods := #[Lib.HandJ.method "<init>" "()V" [] none 0x1 1 prog_12_method_1_code,
    Lib.HandJ.method "thrown" "()I" [] (some .int) 0x1 1 prog_12_method_2_code,
    Lib.HandJ.method "usual" "()V" [] none 0x2 1 prog_12_method_3_code,
    Lib.HandJ.method "add" "(I)Z" [.int] (some .boolean) 0x1 2 prog_12_method_4_code,
    Lib.HandJ.method "look" "()I" [] (some .int) 0x2 1 prog_12_method_5_code,
    Lib.HandJ.method "fail" "()V" [] none 0x2 1 prog_12_method_6_code,
    Lib.HandJ.method "isLetter" "(I)Z" [.int] (some .boolean) 0xa 1 prog_12_method_7_code,
    Lib.HandJ.method "isDigit" "(I)Z" [.int] (some .boolean) 0xa 1 prog_12_method_8_code,
    Lib.HandJ.method "readService" "()V" [] none 0x2 5 prog_12_method_9_code,
    Lib.HandJ.method "begins" "()Z" [] (some .boolean) 0x2 1 prog_12_method_10_code,
    Lib.HandJ.method "readTag" "()V" [] none 0x2 4 prog_12_method_11_code,
    Lib.HandJ.method "openComponent" "()V" [] none 0x2 1 prog_12_method_12_code,
    Lib.HandJ.method "openRepeat" "()V" [] none 0x2 1 prog_12_method_13_code,
    Lib.HandJ.method "take" "(I)V" [.int] none 0x2 2 prog_12_method_14_code,
    Lib.HandJ.method "readElement" "()V" [] none 0x2 3 prog_12_method_15_code,
    Lib.HandJ.method "readSegment" "()V" [] none 0x2 1 prog_12_method_16_code,
    Lib.HandJ.method "read" "()I" [] (some .int) 0x1 3 prog_12_method_17_code,
    Lib.HandJ.method "forget" "(I)V" [.int] none 0x2 2 prog_12_method_18_code,
    Lib.HandJ.method "isSegment" "(I)Z" [.int] (some .boolean) 0x2 2 prog_12_method_19_code,
    Lib.HandJ.method "elementsOf" "(I)I" [.int] (some .int) 0x2 2 prog_12_method_20_code,
    Lib.HandJ.method "repeatsOf" "(II)I" [.int, .int] (some .int) 0x2 4 prog_12_method_21_code,
    Lib.HandJ.method "componentsOf" "(III)I" [.int, .int, .int] (some .int) 0x2 5 prog_12_method_22_code,
    Lib.HandJ.method "componentAt" "(IIII)I" [.int, .int, .int, .int] (some .int) 0x2 5 prog_12_method_23_code,
    Lib.HandJ.method "longOf" "(I)I" [.int] (some .int) 0x2 2 prog_12_method_24_code,
    Lib.HandJ.method "segment" "(II)I" [.int, .int] (some .int) 0x1 3 prog_12_method_25_code,
    Lib.HandJ.method "repeats" "(II)I" [.int, .int] (some .int) 0x1 3 prog_12_method_26_code,
    Lib.HandJ.method "components" "(III)I" [.int, .int, .int] (some .int) 0x1 4 prog_12_method_27_code,
    Lib.HandJ.method "field" "(IIII)I" [.int, .int, .int, .int] (some .int) 0x1 6 prog_12_method_28_code,
    Lib.HandJ.method "letter" "(IIIII)I" [.int, .int, .int, .int, .int] (some .int) 0x1 7 prog_12_method_29_code,
    Lib.HandJ.method "isTag" "(I)Z" [.int] (some .boolean) 0xa 4 prog_12_method_30_code,
    Lib.HandJ.method "row" "(IIIII)I" [.int, .int, .int, .int, .int] (some .int) 0x1 9 prog_12_method_31_code,
    Lib.HandJ.method "isCount" "(I)Z" [.int] (some .boolean) 0x2 4 prog_12_method_32_code,
    Lib.HandJ.method "alike" "(II)Z" [.int, .int] (some .boolean) 0x2 4 prog_12_method_33_code,
    Lib.HandJ.method "kindOf" "()I" [] (some .int) 0x2 3 prog_12_method_34_code,
    Lib.HandJ.method "wrong" "(III)I" [.int, .int, .int] (some .int) 0x2 4 prog_12_method_35_code,
    Lib.HandJ.method "unknown" "(I)I" [.int] (some .int) 0x2 5 prog_12_method_36_code,
    Lib.HandJ.method "nextRow" "(III)I" [.int, .int, .int] (some .int) 0x2 5 prog_12_method_37_code,
    Lib.HandJ.method "walk" "(I)I" [.int] (some .int) 0x2 8 prog_12_method_38_code,
    Lib.HandJ.method "checked" "()I" [] (some .int) 0x2 4 prog_12_method_39_code,
    Lib.HandJ.method "check" "()I" [] (some .int) 0x1 2 prog_12_method_40_code,
    Lib.HandJ.method "fault" "(I)I" [.int] (some .int) 0x1 2 prog_12_method_41_code,
    Lib.HandJ.method "put" "(I)V" [.int] none 0x2 2 prog_12_method_42_code,
    Lib.HandJ.method "isService" "(I)Z" [.int] (some .boolean) 0x2 3 prog_12_method_43_code,
    Lib.HandJ.method "fullComponents" "(III)I" [.int, .int, .int] (some .int) 0x2 5 prog_12_method_44_code,
    Lib.HandJ.method "fullRepeats" "(II)I" [.int, .int] (some .int) 0x2 4 prog_12_method_45_code,
    Lib.HandJ.method "fullElements" "(I)I" [.int] (some .int) 0x2 3 prog_12_method_46_code,
    Lib.HandJ.method "putRepeat" "(III)V" [.int, .int, .int] none 0x2 8 prog_12_method_47_code,
    Lib.HandJ.method "build" "()I" [] (some .int) 0x1 6 prog_12_method_48_code,
    Lib.HandJ.method "at" "(I)I" [.int] (some .int) 0x1 2 prog_12_method_49_code,
    Lib.HandJ.method "count" "(I)I" [.int] (some .int) 0x1 2 prog_12_method_50_code] }
def gap1.c13 : Class := { sg_own "SegmentForms$Tag" 0x30
    [(1, 7, "SegmentForms$Tag", "isCapital", "(I)Z", 13, 0),
     (1, 13, "SegmentForms$Tag", "isDigit", "(I)Z", 13, 2),
     (1, 16, "SegmentForms$Tag", "first", "(I)I", 13, 5),
     (1, 20, "SegmentForms$Tag", "second", "(I)I", 13, 6),
     (1, 23, "SegmentForms$Tag", "isLaterSign", "(I)Z", 13, 3),
     (1, 26, "SegmentForms$Tag", "third", "(I)I", 13, 7)]
    [] (Lib.HandJ.method "isCapital" "(I)Z" [.int] (some .boolean) 0x8 1 prog_9_method_2_code) with
  methods := #[Lib.HandJ.method "isCapital" "(I)Z" [.int] (some .boolean) 0x8 1 prog_9_method_2_code,
    Lib.HandJ.method "isSmall" "(I)Z" [.int] (some .boolean) 0x8 1 prog_9_method_3_code,
    Lib.HandJ.method "isDigit" "(I)Z" [.int] (some .boolean) 0x8 1 prog_9_method_4_code,
    Lib.HandJ.method "isLaterSign" "(I)Z" [.int] (some .boolean) 0x8 1 prog_9_method_5_code,
    Lib.HandJ.method "isTag" "(I)Z" [.int] (some .boolean) 0x8 1 prog_9_method_6_code,
    Lib.HandJ.method "first" "(I)I" [.int] (some .int) 0x8 1 prog_9_method_7_code,
    Lib.HandJ.method "second" "(I)I" [.int] (some .int) 0x8 1 prog_9_method_8_code,
    Lib.HandJ.method "third" "(I)I" [.int] (some .int) 0x8 1 prog_9_method_9_code] }
def gap1.c14 : Class := { sg_own "java/lang/Throwable" 0x21
    [(1, 1, "java/lang/Object", "<init>", "()V", 1, 0),
     (0, 7, "java/lang/Throwable", "cause", "Ljava/lang/Throwable;", 14, 2),
     (0, 13, "java/lang/Throwable", "UNASSIGNED_STACK", "[Ljava/lang/StackTraceElement;", 14, 7),
     (0, 17, "java/lang/Throwable", "stackTrace", "[Ljava/lang/StackTraceElement;", 14, 3),
     (0, 20, "java/lang/Throwable", "SUPPRESSED_SENTINEL", "Ljava/util/List;", 14, 8),
     (0, 24, "java/lang/Throwable", "suppressedExceptions", "Ljava/util/List;", 14, 5),
     (1, 27, "java/lang/Throwable", "fillInStackTrace", "()Ljava/lang/Throwable;", 14, 2),
     (0, 31, "java/lang/Throwable", "detailMessage", "Ljava/lang/String;", 14, 1),
     (0, 198, "java/lang/Throwable", "backtrace", "Ljava/lang/Object;", 14, 0),
     (1, 202, "java/lang/Throwable", "fillInStackTrace", "(I)Ljava/lang/Throwable;", 14, 3)]
    [("backtrace", .object "java/lang/Object", 0x82), ("detailMessage", .object "java/lang/String", 0x2), ("cause", .object "java/lang/Throwable", 0x2), ("stackTrace", .array (.object "java/lang/StackTraceElement"), 0x2), ("depth", .int, 0x82), ("suppressedExceptions", .object "java/util/List", 0x2)] (Lib.HandJ.method "<init>" "()V" [] none 0x1 1 prog_22_method_1_code) with
  methods := #[Lib.HandJ.method "<init>" "()V" [] none 0x1 1 prog_22_method_1_code,
    Lib.HandJ.method "<init>" "(Ljava/lang/String;)V" [.object "java/lang/String"] none 0x1 2 prog_22_method_2_code,
    Lib.HandJ.method "fillInStackTrace" "()Ljava/lang/Throwable;" [] (some (.object "java/lang/Throwable")) 0x21 1 prog_22_method_18_code,
    { name := "fillInStackTrace", desc := "(I)Ljava/lang/Throwable;", sig := { parameters := [.int], returnType := some (.object "java/lang/Throwable") }, accessFlags := 0x102, code := none }],
  fields := (Lib.HandW.fieldsFrom [("backtrace", .object "java/lang/Object", 0x82), ("detailMessage", .object "java/lang/String", 0x2), ("cause", .object "java/lang/Throwable", 0x2), ("stackTrace", .array (.object "java/lang/StackTraceElement"), 0x2), ("depth", .int, 0x82), ("suppressedExceptions", .object "java/util/List", 0x2)] 0).toArray ++ #[{ name := "serialVersionUID", type := .long, accessFlags := 0x1a, slot := 0, constantValue := 0 }, { name := "UNASSIGNED_STACK", type := .array (.object "java/lang/StackTraceElement"), accessFlags := 0x1a, slot := 1, constantValue := 0 }, { name := "SUPPRESSED_SENTINEL", type := .object "java/util/List", accessFlags := 0x1a, slot := 2, constantValue := 0 }, { name := "NULL_CAUSE_MESSAGE", type := .object "java/lang/String", accessFlags := 0x1a, slot := 3, constantValue := 0 }, { name := "SELF_SUPPRESSION_MESSAGE", type := .object "java/lang/String", accessFlags := 0x1a, slot := 4, constantValue := 0 }, { name := "CAUSE_CAPTION", type := .object "java/lang/String", accessFlags := 0x1a, slot := 5, constantValue := 0 }, { name := "SUPPRESSED_CAPTION", type := .object "java/lang/String", accessFlags := 0x1a, slot := 6, constantValue := 0 }, { name := "EMPTY_THROWABLE_ARRAY", type := .array (.object "java/lang/Throwable"), accessFlags := 0x1a, slot := 7, constantValue := 0 }, { name := "$assertionsDisabled", type := .boolean, accessFlags := 0x1018, slot := 8, constantValue := 0 }],
  staticTypes := #[.long, .array (.object "java/lang/StackTraceElement"), .object "java/util/List", .object "java/lang/String", .object "java/lang/String", .object "java/lang/String", .object "java/lang/String", .array (.object "java/lang/Throwable"), .boolean],
  statics := some 2 }
def gap1.c15 : Class := { sg_own "java/lang/Math" 0x31
    []
    [] (Lib.HandJ.method "min" "(II)I" [.int, .int] (some .int) 0x9 2 prog_19_method_69_code) with
  methods := #[Lib.HandJ.method "min" "(II)I" [.int, .int] (some .int) 0x9 2 prog_19_method_69_code] }
def gap1.c16 : Class := { sg_own "java/lang/String" 0x31
    []
    [("value", .array .byte, 0x12), ("coder", .byte, 0x12), ("hash", .int, 0x2), ("hashIsZero", .boolean, 0x2)] mLaw with
  methods := #[] }
def gap1.c17 : Class := { sg_own "java/lang/Cloneable" 0x601
    []
    [] mLaw with
  methods := #[] }
def gap1.c18 : Class := { sg_own "java/lang/Exception" 0x21
    [(1, 7, "java/lang/Throwable", "<init>", "(Ljava/lang/String;)V", 14, 1)]
    [] ({ name := "<init>", desc := "()V", sig := { parameters := [], returnType := none }, accessFlags := 0x1, code := none }) with
  methods := #[{ name := "<init>", desc := "()V", sig := { parameters := [], returnType := none }, accessFlags := 0x1, code := none },
    Lib.HandJ.method "<init>" "(Ljava/lang/String;)V" [.object "java/lang/String"] none 0x1 2 prog_15_method_2_code],
  super := some 14,
  instanceTypes := #[.object "java/lang/Object", .object "java/lang/String", .object "java/lang/Throwable", .array (.object "java/lang/StackTraceElement"), .int, .object "java/util/List"],
  fields := (Lib.HandW.fieldsFrom [] 6).toArray }
def gap1.c19 : Class := { sg_own "java/lang/RuntimeException" 0x21
    [(1, 7, "java/lang/Exception", "<init>", "(Ljava/lang/String;)V", 18, 1)]
    [] ({ name := "<init>", desc := "()V", sig := { parameters := [], returnType := none }, accessFlags := 0x1, code := none }) with
  methods := #[{ name := "<init>", desc := "()V", sig := { parameters := [], returnType := none }, accessFlags := 0x1, code := none },
    Lib.HandJ.method "<init>" "(Ljava/lang/String;)V" [.object "java/lang/String"] none 0x1 2 prog_20_method_2_code],
  super := some 18,
  instanceTypes := #[.object "java/lang/Object", .object "java/lang/String", .object "java/lang/Throwable", .array (.object "java/lang/StackTraceElement"), .int, .object "java/util/List"],
  fields := (Lib.HandW.fieldsFrom [] 6).toArray }
def gap1.c20 : Class := { sg_own "java/lang/IllegalArgumentException" 0x21
    [(1, 7, "java/lang/RuntimeException", "<init>", "(Ljava/lang/String;)V", 19, 1)]
    [] (Lib.HandJ.method "<init>" "(Ljava/lang/String;)V" [.object "java/lang/String"] none 0x1 2 prog_16_method_2_code) with
  methods := #[Lib.HandJ.method "<init>" "(Ljava/lang/String;)V" [.object "java/lang/String"] none 0x1 2 prog_16_method_2_code],
  super := some 19,
  instanceTypes := #[.object "java/lang/Object", .object "java/lang/String", .object "java/lang/Throwable", .array (.object "java/lang/StackTraceElement"), .int, .object "java/util/List"],
  fields := (Lib.HandW.fieldsFrom [] 6).toArray }
def gap1.c21 : Class := { sg_own "java/lang/IllegalStateException" 0x21
    [(1, 7, "java/lang/RuntimeException", "<init>", "(Ljava/lang/String;)V", 19, 1)]
    [] (Lib.HandJ.method "<init>" "(Ljava/lang/String;)V" [.object "java/lang/String"] none 0x1 2 prog_17_method_2_code) with
  methods := #[Lib.HandJ.method "<init>" "(Ljava/lang/String;)V" [.object "java/lang/String"] none 0x1 2 prog_17_method_2_code],
  super := some 19,
  instanceTypes := #[.object "java/lang/Object", .object "java/lang/String", .object "java/lang/Throwable", .array (.object "java/lang/StackTraceElement"), .int, .object "java/util/List"],
  fields := (Lib.HandW.fieldsFrom [] 6).toArray }
def gap1.c22 : Class := { sg_own "java/lang/IndexOutOfBoundsException" 0x21
    [(1, 7, "java/lang/RuntimeException", "<init>", "(Ljava/lang/String;)V", 19, 1)]
    [] ({ name := "<init>", desc := "()V", sig := { parameters := [], returnType := none }, accessFlags := 0x1, code := none }) with
  methods := #[{ name := "<init>", desc := "()V", sig := { parameters := [], returnType := none }, accessFlags := 0x1, code := none },
    Lib.HandJ.method "<init>" "(Ljava/lang/String;)V" [.object "java/lang/String"] none 0x1 2 prog_18_method_2_code],
  super := some 19,
  instanceTypes := #[.object "java/lang/Object", .object "java/lang/String", .object "java/lang/Throwable", .array (.object "java/lang/StackTraceElement"), .int, .object "java/util/List"],
  fields := (Lib.HandW.fieldsFrom [] 6).toArray }
def gap1.c23 : Class := { sg_own "java/lang/ArrayIndexOutOfBoundsException" 0x21
    [(1, 7, "java/lang/IndexOutOfBoundsException", "<init>", "(Ljava/lang/String;)V", 22, 1)]
    [] (Lib.HandJ.method "<init>" "(Ljava/lang/String;)V" [.object "java/lang/String"] none 0x1 2 prog_13_method_2_code) with
  methods := #[Lib.HandJ.method "<init>" "(Ljava/lang/String;)V" [.object "java/lang/String"] none 0x1 2 prog_13_method_2_code],
  super := some 22,
  instanceTypes := #[.object "java/lang/Object", .object "java/lang/String", .object "java/lang/Throwable", .array (.object "java/lang/StackTraceElement"), .int, .object "java/util/List"],
  fields := (Lib.HandW.fieldsFrom [] 6).toArray }
def gap1.cPrim (name : String) (ch : Char) : Class := { Lib.HandJ.cls name #[] #[] 0x411 #[] #[] #[] with kind := .primitive ch, cf := none }
def gap1.cArr (name : String) (prim : Nat) (t : FieldType) : Class := { Lib.HandJ.cls name #[] #[] 0x411 #[] #[] #[] with kind := .array prim t, super := some 1, cf := none }
def gap1.args0 : Array Value := #[.ref 0]
def gap1.cells0 : Array Value := #[.int 1, .int 4, .int (-6), .int 229283573, .int 5, .int 173]
def gap1.aboutOf (script : Array Value) : State where
  vm := { classes := #[c0, cObjectC, c2, c3, c4, c5, c6, c7, c8, c9, c10, c11, c12, c13, c14, c15, c16, c17, c18, c19, c20, c21, c22, c23, cPrim "int" 'I', { cArr "[I" 24 .int with interfaces := #[17] }, cPrim "byte" 'B', { cArr "[B" 26 .byte with interfaces := #[17] }, cPrim "long" 'J', { cArr "[J" 28 .long with interfaces := #[17] }, { cArr "[LSegmentForms$Grammar;" 8 (.object "SegmentForms$Grammar") with interfaces := #[17] }, { cArr "GapInts" 24 .int with methods := #[Lib.HandJ.method "clone" "()Ljava/lang/Object;" [] (some (.object "java/lang/Object")) 0x1 1 ⟨#[0xa7, 0, 0]⟩] }] }
  heap := #[{ cls := 25, slots := script, vm := .none }, { cls := 4, slots := #[.int 0, .int 0, .int 0, .int 0, .int 0, .int 0, .ref 3], vm := .statics 4 }, { cls := 14, slots := #[.long 0, .null, .null, .null, .null, .null, .null, .null, .int 0], vm := .statics 14 }, { cls := 31, slots := #[.int (58), .int (43), .int (63), .int (42), .int (39)], vm := .none }, { cls := 16, slots := #[.ref 5, .int 0, .int 0, .int 0], vm := .none }, { cls := 27, slots := #[.int 110, .int 111, .int 32, .int 115, .int 117, .int 99, .int 104, .int 32, .int 107, .int 105, .int 110, .int 100, .int 32, .int 111, .int 114, .int 32, .int 116, .int 97, .int 103], vm := .none }, { cls := 16, slots := #[.ref 7, .int 0, .int 0, .int 0], vm := .none }, { cls := 27, slots := #[.int 110, .int 111, .int 32, .int 115, .int 117, .int 99, .int 104, .int 32, .int 108, .int 101, .int 97, .int 115, .int 116, .int 32, .int 111, .int 114, .int 32, .int 109, .int 111, .int 115, .int 116], vm := .none }, { cls := 16, slots := #[.ref 9, .int 0, .int 0, .int 0], vm := .none }, { cls := 27, slots := #[.int 116, .int 111, .int 111, .int 32, .int 109, .int 97, .int 110, .int 121, .int 32, .int 114, .int 111, .int 119, .int 115, .int 44, .int 32, .int 111, .int 114, .int 32, .int 110, .int 111, .int 32, .int 115, .int 117, .int 99, .int 104, .int 32, .int 108, .int 101, .int 118, .int 101, .int 108, .int 32, .int 104, .int 101, .int 114, .int 101], vm := .none }, { cls := 16, slots := #[.ref 11, .int 0, .int 0, .int 0], vm := .none }, { cls := 27, slots := #[.int 110, .int 111, .int 32, .int 109, .int 101, .int 115, .int 115, .int 97, .int 103, .int 101], vm := .none }, { cls := 16, slots := #[.ref 13, .int 0, .int 0, .int 0], vm := .none }, { cls := 27, slots := #[.int 110, .int 111, .int 32, .int 115, .int 117, .int 99, .int 104, .int 32, .int 115, .int 101, .int 103, .int 109, .int 101, .int 110, .int 116], vm := .none }, { cls := 16, slots := #[.ref 15, .int 0, .int 0, .int 0], vm := .none }, { cls := 27, slots := #[.int 110, .int 111, .int 32, .int 115, .int 117, .int 99, .int 104, .int 32, .int 119, .int 104, .int 97, .int 116], vm := .none }, { cls := 16, slots := #[.ref 17, .int 0, .int 0, .int 0], vm := .none }, { cls := 27, slots := #[.int 110, .int 111, .int 32, .int 115, .int 117, .int 99, .int 104, .int 32, .int 112, .int 108, .int 97, .int 99, .int 101], vm := .none }]
  slotsUsed := script.size + 175
  threads := #[{ frames := .invoking ⟨0, 0⟩ args0 :: Lib.HandBits.below0 }]
def gap1.about : State := aboutOf cells0
def gap1.p0 : Program := .bare "" "" ""
def gap1.e0 : Env := launch0.env 0 0 0
theorem gap1.word_code : (Cond.code x code maxLocals ret).before args0 about = true := sg_hand_word (m := ⟨0, 0⟩) (by decide +kernel) rfl (by decide +kernel) (by decide +kernel)
theorem gap1.sg_all_split {α : Type} (p : α → Bool) (n : Nat) (l : List α) (h1 : (l.take n).all p = true) (h2 : (l.drop n).all p = true) : l.all p = true := by
  apply List.all_eq_true.mpr
  intro x hx
  have hx' : x ∈ l.take n ++ l.drop n := by rw [List.take_append_drop]; exact hx
  rcases List.mem_append.mp hx' with h | h
  · exact List.all_eq_true.mp h1 x h
  · exact List.all_eq_true.mp h2 x h
/-! ALONE the witness, part 3, behind gap1.c11 -/
theorem gap1.code0 : (Jvm.Cond.code (⟨"SegmentForms", "<init>", "()V"⟩ : Jvm.MethodName) prog_1_method_1_code 2 none).before args0 about = true :=
  sg_hand_word (m := ⟨2, 0⟩) (by decide +kernel) rfl (by decide +kernel) (by decide +kernel)
theorem gap1.code1 : (Jvm.Cond.code (⟨"java/lang/Object", "<init>", "()V"⟩ : Jvm.MethodName) object_method_1_code 1 none).before args0 about = true :=
  sg_hand_word (m := ⟨1, 0⟩) (by decide +kernel) rfl (by decide +kernel) (by decide +kernel)
theorem gap1.code2 : (Jvm.Cond.code (⟨"SegmentForms$SignRow", "<init>", "()V"⟩ : Jvm.MethodName) prog_8_method_1_code 1 none).before args0 about = true :=
  sg_hand_word (m := ⟨3, 0⟩) (by decide +kernel) rfl (by decide +kernel) (by decide +kernel)
theorem gap1.code3 : (Jvm.Cond.code (⟨"SegmentForms$ServiceSigns", "<init>", "()V"⟩ : Jvm.MethodName) prog_7_method_1_code 1 none).before args0 about = true :=
  sg_hand_word (m := ⟨4, 0⟩) (by decide +kernel) rfl (by decide +kernel) (by decide +kernel)
theorem gap1.code4 : (Jvm.Cond.code (⟨"SegmentForms$Message", "<init>", "()V"⟩ : Jvm.MethodName) prog_5_method_1_code 1 none).before args0 about = true :=
  sg_hand_word (m := ⟨5, 0⟩) (by decide +kernel) rfl (by decide +kernel) (by decide +kernel)
theorem gap1.code5 : (Jvm.Cond.code (⟨"SegmentForms$Layer", "<init>", "(I)V"⟩ : Jvm.MethodName) prog_4_method_1_code 2 none).before args0 about = true :=
  sg_hand_word (m := ⟨6, 0⟩) (by decide +kernel) rfl (by decide +kernel) (by decide +kernel)
theorem gap1.code6 : (Jvm.Cond.code (⟨"SegmentForms$Reader", "<init>", "(LSegmentForms$Message;LSegmentForms$ServiceSigns;)V"⟩ : Jvm.MethodName) prog_6_method_1_code 3 none).before args0 about = true :=
  sg_hand_word (m := ⟨7, 0⟩) (by decide +kernel) rfl (by decide +kernel) (by decide +kernel)
theorem gap1.code7 : (Jvm.Cond.code (⟨"SegmentForms$Grammar", "<init>", "()V"⟩ : Jvm.MethodName) prog_3_method_1_code 1 none).before args0 about = true :=
  sg_hand_word (m := ⟨8, 0⟩) (by decide +kernel) rfl (by decide +kernel) (by decide +kernel)
theorem gap1.code8 : (Jvm.Cond.code (⟨"SegmentForms$Check", "<init>", "(LSegmentForms$Message;)V"⟩ : Jvm.MethodName) prog_2_method_1_code 2 none).before args0 about = true :=
  sg_hand_word (m := ⟨9, 0⟩) (by decide +kernel) rfl (by decide +kernel) (by decide +kernel)
theorem gap1.code9 : (Jvm.Cond.code (⟨"SegmentForms$Check", "forget", "()V"⟩ : Jvm.MethodName) prog_2_method_2_code 1 none).before args0 about = true :=
  sg_hand_word (m := ⟨9, 1⟩) (by decide +kernel) rfl (by decide +kernel) (by decide +kernel)
theorem gap1.code10 : (Jvm.Cond.code (⟨"java/util/Arrays", "fill", "([II)V"⟩ : Jvm.MethodName) prog_23_method_103_code 4 none).before args0 about = true :=
  sg_hand_word (m := ⟨10, 0⟩) (by decide +kernel) rfl (by decide +kernel) (by decide +kernel)
theorem gap1.code11 : (Jvm.Cond.code (⟨"SegmentForms$Writer", "<init>", "(LSegmentForms$Message;LSegmentForms$ServiceSigns;LSegmentForms$SignRow;)V"⟩ : Jvm.MethodName) prog_10_method_1_code 4 none).before args0 about = true :=
  sg_hand_word (m := ⟨11, 0⟩) (by decide +kernel) rfl (by decide +kernel) (by decide +kernel)
theorem gap1.code12 : (Jvm.Cond.code (⟨"SegmentForms", "add", "(I)Z"⟩ : Jvm.MethodName) prog_1_method_2_code 2 (some .boolean)).before args0 about = true :=
  sg_hand_word (m := ⟨2, 1⟩) (by decide +kernel) rfl (by decide +kernel) (by decide +kernel)
theorem gap1.code13 : (Jvm.Cond.code (⟨"SegmentForms$SignRow", "append", "(I)Z"⟩ : Jvm.MethodName) prog_8_method_4_code 2 (some .boolean)).before args0 about = true :=
  sg_hand_word (m := ⟨3, 3⟩) (by decide +kernel) rfl (by decide +kernel) (by decide +kernel)
theorem gap1.code14 : (Jvm.Cond.code (⟨"SegmentForms", "read", "()I"⟩ : Jvm.MethodName) prog_1_method_3_code 2 (some .int)).before args0 about = true :=
  sg_hand_word (m := ⟨2, 2⟩) (by decide +kernel) rfl (by decide +kernel) (by decide +kernel)
theorem gap1.code15 : (Jvm.Cond.code (⟨"SegmentForms$Message", "clear", "()V"⟩ : Jvm.MethodName) prog_5_method_2_code 1 none).before args0 about = true :=
  sg_hand_word (m := ⟨5, 1⟩) (by decide +kernel) rfl (by decide +kernel) (by decide +kernel)
/-! ALONE the witness, part 4, behind gap1.c11 gap1.code0 -/
set_option maxRecDepth 16384 in
theorem gap1.codes_are_1 : tables_1_1.filter sg_isCode = [Jvm.Cond.code (⟨"SegmentForms", "<init>", "()V"⟩ : Jvm.MethodName) prog_1_method_1_code 2 none,
    Jvm.Cond.code (⟨"java/lang/Object", "<init>", "()V"⟩ : Jvm.MethodName) object_method_1_code 1 none,
    Jvm.Cond.code (⟨"SegmentForms$SignRow", "<init>", "()V"⟩ : Jvm.MethodName) prog_8_method_1_code 1 none,
    Jvm.Cond.code (⟨"SegmentForms$ServiceSigns", "<init>", "()V"⟩ : Jvm.MethodName) prog_7_method_1_code 1 none,
    Jvm.Cond.code (⟨"SegmentForms$Message", "<init>", "()V"⟩ : Jvm.MethodName) prog_5_method_1_code 1 none,
    Jvm.Cond.code (⟨"SegmentForms$Layer", "<init>", "(I)V"⟩ : Jvm.MethodName) prog_4_method_1_code 2 none,
    Jvm.Cond.code (⟨"SegmentForms$Reader", "<init>", "(LSegmentForms$Message;LSegmentForms$ServiceSigns;)V"⟩ : Jvm.MethodName) prog_6_method_1_code 3 none,
    Jvm.Cond.code (⟨"SegmentForms$Grammar", "<init>", "()V"⟩ : Jvm.MethodName) prog_3_method_1_code 1 none,
    Jvm.Cond.code (⟨"SegmentForms$Check", "<init>", "(LSegmentForms$Message;)V"⟩ : Jvm.MethodName) prog_2_method_1_code 2 none,
    Jvm.Cond.code (⟨"SegmentForms$Check", "forget", "()V"⟩ : Jvm.MethodName) prog_2_method_2_code 1 none,
    Jvm.Cond.code (⟨"java/util/Arrays", "fill", "([II)V"⟩ : Jvm.MethodName) prog_23_method_103_code 4 none,
    Jvm.Cond.code (⟨"SegmentForms$Writer", "<init>", "(LSegmentForms$Message;LSegmentForms$ServiceSigns;LSegmentForms$SignRow;)V"⟩ : Jvm.MethodName) prog_10_method_1_code 4 none,
    Jvm.Cond.code (⟨"SegmentForms", "add", "(I)Z"⟩ : Jvm.MethodName) prog_1_method_2_code 2 (some .boolean),
    Jvm.Cond.code (⟨"SegmentForms$SignRow", "append", "(I)Z"⟩ : Jvm.MethodName) prog_8_method_4_code 2 (some .boolean),
    Jvm.Cond.code (⟨"SegmentForms", "read", "()I"⟩ : Jvm.MethodName) prog_1_method_3_code 2 (some .int),
    Jvm.Cond.code (⟨"SegmentForms$Message", "clear", "()V"⟩ : Jvm.MethodName) prog_5_method_2_code 1 none] := by
  first
  | rfl
  | simp only [tables_1_1, List.filter, sg_isCode]
theorem gap1.codes_hold_1 : ∀ c ∈ tables_1_1.filter sg_isCode, c.before args0 about = true := by
  rw [codes_are_1]
  exact List.forall_mem_cons.mpr ⟨code0, List.forall_mem_cons.mpr ⟨code1, List.forall_mem_cons.mpr ⟨code2, List.forall_mem_cons.mpr ⟨code3, List.forall_mem_cons.mpr ⟨code4, List.forall_mem_cons.mpr ⟨code5, List.forall_mem_cons.mpr ⟨code6, List.forall_mem_cons.mpr ⟨code7, List.forall_mem_cons.mpr ⟨code8, List.forall_mem_cons.mpr ⟨code9, List.forall_mem_cons.mpr ⟨code10, List.forall_mem_cons.mpr ⟨code11, List.forall_mem_cons.mpr ⟨code12, List.forall_mem_cons.mpr ⟨code13, List.forall_mem_cons.mpr ⟨code14, List.forall_mem_cons.mpr ⟨code15, List.forall_mem_nil _⟩⟩⟩⟩⟩⟩⟩⟩⟩⟩⟩⟩⟩⟩⟩⟩
set_option maxRecDepth 16384 in
theorem gap1.others_1_0 : (tables_1_1.take 40).all (fun c => sg_isCode c || c.before args0 about) = true := by decide +kernel
set_option maxRecDepth 16384 in
theorem gap1.others_1_1 : ((tables_1_1.drop 40).take 40).all (fun c => sg_isCode c || c.before args0 about) = true := by decide +kernel
/-! ALONE the witness, part 5, behind gap1.c11 -/
set_option maxRecDepth 16384 in
theorem gap1.others_1_2 : (((tables_1_1.drop 40).drop 40).take 40).all (fun c => sg_isCode c || c.before args0 about) = true := by decide +kernel
set_option maxRecDepth 16384 in
theorem gap1.others_1_3 : ((((tables_1_1.drop 40).drop 40).drop 40).take 40).all (fun c => sg_isCode c || c.before args0 about) = true := by decide +kernel
/-! ALONE the witness, part 6, behind gap1.c11 gap1.codes_are_1 gap1.others_1_2 -/
set_option maxRecDepth 16384 in
theorem gap1.others_1_4 : (((((tables_1_1.drop 40).drop 40).drop 40).drop 40).take 40).all (fun c => sg_isCode c || c.before args0 about) = true := by decide +kernel
set_option maxRecDepth 16384 in
theorem gap1.others_1_5 : (((((tables_1_1.drop 40).drop 40).drop 40).drop 40).drop 40).all (fun c => sg_isCode c || c.before args0 about) = true := by decide +kernel
theorem gap1.others_hold_1 : tables_1_1.all (fun c => sg_isCode c || c.before args0 about) = true := sg_all_split _ 40 tables_1_1 others_1_0 (sg_all_split _ 40 (tables_1_1.drop 40) others_1_1 (sg_all_split _ 40 ((tables_1_1.drop 40).drop 40) others_1_2 (sg_all_split _ 40 (((tables_1_1.drop 40).drop 40).drop 40) others_1_3 (sg_all_split _ 40 ((((tables_1_1.drop 40).drop 40).drop 40).drop 40) others_1_4 others_1_5))))
theorem gap1.words_1 : ∀ c ∈ tables_1_1, c.before args0 about = true := fun c h => sg_words others_hold_1 codes_hold_1 c h
/-! ALONE the witness, part 7, behind gap1.c11 -/
theorem gap1.code16 : (Jvm.Cond.code (⟨"SegmentForms$Layer", "clear", "()V"⟩ : Jvm.MethodName) prog_4_method_2_code 1 none).before args0 about = true :=
  sg_hand_word (m := ⟨6, 1⟩) (by decide +kernel) rfl (by decide +kernel) (by decide +kernel)
theorem gap1.code17 : (Jvm.Cond.code (⟨"SegmentForms$SignRow", "clear", "()V"⟩ : Jvm.MethodName) prog_8_method_2_code 1 none).before args0 about = true :=
  sg_hand_word (m := ⟨3, 1⟩) (by decide +kernel) rfl (by decide +kernel) (by decide +kernel)
theorem gap1.code18 : (Jvm.Cond.code (⟨"SegmentForms$ServiceSigns", "setUntold", "()V"⟩ : Jvm.MethodName) prog_7_method_2_code 2 none).before args0 about = true :=
  sg_hand_word (m := ⟨4, 1⟩) (by decide +kernel) rfl (by decide +kernel) (by decide +kernel)
theorem gap1.code19 : (Jvm.Cond.code (⟨"SegmentForms$Reader", "firstWrongPlace", "(LSegmentForms$SignRow;)I"⟩ : Jvm.MethodName) prog_6_method_2_code 4 (some .int)).before args0 about = true :=
  sg_hand_word (m := ⟨7, 1⟩) (by decide +kernel) rfl (by decide +kernel) (by decide +kernel)
theorem gap1.code20 : (Jvm.Cond.code (⟨"SegmentForms$Reader", "beginsWithUna", "(LSegmentForms$SignRow;)Z"⟩ : Jvm.MethodName) prog_6_method_3_code 1 (some .boolean)).before args0 about = true :=
  sg_hand_word (m := ⟨7, 2⟩) (by decide +kernel) rfl (by decide +kernel) (by decide +kernel)
theorem gap1.code21 : (Jvm.Cond.code (⟨"SegmentForms$SignRow", "signAt", "(I)I"⟩ : Jvm.MethodName) prog_8_method_5_code 2 (some .int)).before args0 about = true :=
  sg_hand_word (m := ⟨3, 4⟩) (by decide +kernel) rfl (by decide +kernel) (by decide +kernel)
theorem gap1.code22 : (Jvm.Cond.code (⟨"SegmentForms$Reader", "firstWrongOfUna", "(LSegmentForms$SignRow;)I"⟩ : Jvm.MethodName) prog_6_method_4_code 4 (some .int)).before args0 about = true :=
  sg_hand_word (m := ⟨7, 3⟩) (by decide +kernel) rfl (by decide +kernel) (by decide +kernel)
theorem gap1.code23 : (Jvm.Cond.code (⟨"SegmentForms$SignRow", "length", "()I"⟩ : Jvm.MethodName) prog_8_method_3_code 1 (some .int)).before args0 about = true :=
  sg_hand_word (m := ⟨3, 2⟩) (by decide +kernel) rfl (by decide +kernel) (by decide +kernel)
theorem gap1.code24 : (Jvm.Cond.code (⟨"SegmentForms$ServiceSigns", "tell", "(II)Z"⟩ : Jvm.MethodName) prog_7_method_3_code 4 (some .boolean)).before args0 about = true :=
  sg_hand_word (m := ⟨4, 2⟩) (by decide +kernel) rfl (by decide +kernel) (by decide +kernel)
theorem gap1.code25 : (Jvm.Cond.code (⟨"SegmentForms$ServiceSigns", "canServe", "(I)Z"⟩ : Jvm.MethodName) prog_7_method_6_code 1 (some .boolean)).before args0 about = true :=
  sg_hand_word (m := ⟨4, 5⟩) (by decide +kernel) rfl (by decide +kernel) (by decide +kernel)
theorem gap1.code26 : (Jvm.Cond.code (⟨"SegmentForms$Tag", "isLaterSign", "(I)Z"⟩ : Jvm.MethodName) prog_9_method_5_code 1 (some .boolean)).before args0 about = true :=
  sg_hand_word (m := ⟨13, 3⟩) (by decide +kernel) rfl (by decide +kernel) (by decide +kernel)
theorem gap1.code27 : (Jvm.Cond.code (⟨"SegmentForms$Tag", "isCapital", "(I)Z"⟩ : Jvm.MethodName) prog_9_method_2_code 1 (some .boolean)).before args0 about = true :=
  sg_hand_word (m := ⟨13, 0⟩) (by decide +kernel) rfl (by decide +kernel) (by decide +kernel)
theorem gap1.code28 : (Jvm.Cond.code (⟨"SegmentForms$Tag", "isDigit", "(I)Z"⟩ : Jvm.MethodName) prog_9_method_4_code 1 (some .boolean)).before args0 about = true :=
  sg_hand_word (m := ⟨13, 2⟩) (by decide +kernel) rfl (by decide +kernel) (by decide +kernel)
theorem gap1.code29 : (Jvm.Cond.code (⟨"SegmentForms$Tag", "isSmall", "(I)Z"⟩ : Jvm.MethodName) prog_9_method_3_code 1 (some .boolean)).before args0 about = true :=
  sg_hand_word (m := ⟨13, 1⟩) (by decide +kernel) rfl (by decide +kernel) (by decide +kernel)
theorem gap1.code30 : (Jvm.Cond.code (⟨"SegmentForms$Reader", "take", "(I)Z"⟩ : Jvm.MethodName) prog_6_method_5_code 2 (some .boolean)).before args0 about = true :=
  sg_hand_word (m := ⟨7, 4⟩) (by decide +kernel) rfl (by decide +kernel) (by decide +kernel)
theorem gap1.code31 : (Jvm.Cond.code (⟨"SegmentForms$Message", "isFull", "()Z"⟩ : Jvm.MethodName) prog_5_method_4_code 1 (some .boolean)).before args0 about = true :=
  sg_hand_word (m := ⟨5, 3⟩) (by decide +kernel) rfl (by decide +kernel) (by decide +kernel)
theorem gap1.code32 : (Jvm.Cond.code (⟨"SegmentForms$Layer", "size", "()I"⟩ : Jvm.MethodName) prog_4_method_3_code 1 (some .int)).before args0 about = true :=
  sg_hand_word (m := ⟨6, 2⟩) (by decide +kernel) rfl (by decide +kernel) (by decide +kernel)
theorem gap1.code33 : (Jvm.Cond.code (⟨"SegmentForms$Reader", "takeOfTag", "(II)Z"⟩ : Jvm.MethodName) prog_6_method_6_code 3 (some .boolean)).before args0 about = true :=
  sg_hand_word (m := ⟨7, 5⟩) (by decide +kernel) rfl (by decide +kernel) (by decide +kernel)
theorem gap1.code34 : (Jvm.Cond.code (⟨"SegmentForms$Message", "openSegment", "(I)Z"⟩ : Jvm.MethodName) prog_5_method_6_code 3 (some .boolean)).before args0 about = true :=
  sg_hand_word (m := ⟨5, 5⟩) (by decide +kernel) rfl (by decide +kernel) (by decide +kernel)
theorem gap1.code35 : (Jvm.Cond.code (⟨"SegmentForms$Layer", "open", "()Z"⟩ : Jvm.MethodName) prog_4_method_4_code 1 (some .boolean)).before args0 about = true :=
  sg_hand_word (m := ⟨6, 3⟩) (by decide +kernel) rfl (by decide +kernel) (by decide +kernel)
theorem gap1.code36 : (Jvm.Cond.code (⟨"SegmentForms$ServiceSigns", "numberOf", "(I)I"⟩ : Jvm.MethodName) prog_7_method_5_code 3 (some .int)).before args0 about = true :=
  sg_hand_word (m := ⟨4, 4⟩) (by decide +kernel) rfl (by decide +kernel) (by decide +kernel)
theorem gap1.code37 : (Jvm.Cond.code (⟨"SegmentForms$Reader", "takeBehindTag", "(I)Z"⟩ : Jvm.MethodName) prog_6_method_7_code 2 (some .boolean)).before args0 about = true :=
  sg_hand_word (m := ⟨7, 6⟩) (by decide +kernel) rfl (by decide +kernel) (by decide +kernel)
theorem gap1.code38 : (Jvm.Cond.code (⟨"SegmentForms$Message", "openElement", "()Z"⟩ : Jvm.MethodName) prog_5_method_7_code 1 (some .boolean)).before args0 about = true :=
  sg_hand_word (m := ⟨5, 6⟩) (by decide +kernel) rfl (by decide +kernel) (by decide +kernel)
theorem gap1.code39 : (Jvm.Cond.code (⟨"SegmentForms$Message", "openBelow", "(LSegmentForms$Layer;ILSegmentForms$Layer;)Z"⟩ : Jvm.MethodName) prog_5_method_10_code 3 (some .boolean)).before args0 about = true :=
  sg_hand_word (m := ⟨5, 9⟩) (by decide +kernel) rfl (by decide +kernel) (by decide +kernel)
theorem gap1.code40 : (Jvm.Cond.code (⟨"SegmentForms$Layer", "childrenOfLast", "()I"⟩ : Jvm.MethodName) prog_4_method_7_code 1 (some .int)).before args0 about = true :=
  sg_hand_word (m := ⟨6, 6⟩) (by decide +kernel) rfl (by decide +kernel) (by decide +kernel)
theorem gap1.code41 : (Jvm.Cond.code (⟨"SegmentForms$Layer", "grow", "()V"⟩ : Jvm.MethodName) prog_4_method_5_code 1 none).before args0 about = true :=
  sg_hand_word (m := ⟨6, 4⟩) (by decide +kernel) rfl (by decide +kernel) (by decide +kernel)
theorem gap1.code42 : (Jvm.Cond.code (⟨"SegmentForms$Message", "appendLetter", "(I)Z"⟩ : Jvm.MethodName) prog_5_method_11_code 2 (some .boolean)).before args0 about = true :=
  sg_hand_word (m := ⟨5, 10⟩) (by decide +kernel) rfl (by decide +kernel) (by decide +kernel)
theorem gap1.code43 : (Jvm.Cond.code (⟨"SegmentForms$Reader", "takeInComponent", "(I)Z"⟩ : Jvm.MethodName) prog_6_method_8_code 2 (some .boolean)).before args0 about = true :=
  sg_hand_word (m := ⟨7, 7⟩) (by decide +kernel) rfl (by decide +kernel) (by decide +kernel)
theorem gap1.code44 : (Jvm.Cond.code (⟨"SegmentForms$Message", "openComponent", "()Z"⟩ : Jvm.MethodName) prog_5_method_9_code 1 (some .boolean)).before args0 about = true :=
  sg_hand_word (m := ⟨5, 8⟩) (by decide +kernel) rfl (by decide +kernel) (by decide +kernel)
theorem gap1.code45 : (Jvm.Cond.code (⟨"SegmentForms$Message", "openRepeat", "()Z"⟩ : Jvm.MethodName) prog_5_method_8_code 1 (some .boolean)).before args0 about = true :=
  sg_hand_word (m := ⟨5, 7⟩) (by decide +kernel) rfl (by decide +kernel) (by decide +kernel)
theorem gap1.code46 : (Jvm.Cond.code (⟨"SegmentForms$Message", "isThere", "()Z"⟩ : Jvm.MethodName) prog_5_method_3_code 1 (some .boolean)).before args0 about = true :=
  sg_hand_word (m := ⟨5, 2⟩) (by decide +kernel) rfl (by decide +kernel) (by decide +kernel)
theorem gap1.code47 : (Jvm.Cond.code (⟨"SegmentForms$Message", "size", "()I"⟩ : Jvm.MethodName) prog_5_method_5_code 1 (some .int)).before args0 about = true :=
  sg_hand_word (m := ⟨5, 4⟩) (by decide +kernel) rfl (by decide +kernel) (by decide +kernel)
theorem gap1.code48 : (Jvm.Cond.code (⟨"SegmentForms", "fault", "(I)I"⟩ : Jvm.MethodName) prog_1_method_6_code 2 (some .int)).before args0 about = true :=
  sg_hand_word (m := ⟨2, 5⟩) (by decide +kernel) rfl (by decide +kernel) (by decide +kernel)
theorem gap1.code49 : (Jvm.Cond.code (⟨"SegmentForms$Check", "answer", "()I"⟩ : Jvm.MethodName) prog_2_method_3_code 1 (some .int)).before args0 about = true :=
  sg_hand_word (m := ⟨9, 2⟩) (by decide +kernel) rfl (by decide +kernel) (by decide +kernel)
theorem gap1.code50 : (Jvm.Cond.code (⟨"SegmentForms$Check", "faultSegment", "()I"⟩ : Jvm.MethodName) prog_2_method_4_code 1 (some .int)).before args0 about = true :=
  sg_hand_word (m := ⟨9, 3⟩) (by decide +kernel) rfl (by decide +kernel) (by decide +kernel)
theorem gap1.code51 : (Jvm.Cond.code (⟨"SegmentForms$Check", "faultRow", "()I"⟩ : Jvm.MethodName) prog_2_method_5_code 1 (some .int)).before args0 about = true :=
  sg_hand_word (m := ⟨9, 4⟩) (by decide +kernel) rfl (by decide +kernel) (by decide +kernel)
theorem gap1.code52 : (Jvm.Cond.code (⟨"SegmentForms", "count", "(I)I"⟩ : Jvm.MethodName) prog_1_method_14_code 3 (some .int)).before args0 about = true :=
  sg_hand_word (m := ⟨2, 13⟩) (by decide +kernel) rfl (by decide +kernel) (by decide +kernel)
theorem gap1.code53 : (Jvm.Cond.code (⟨"SegmentForms$ServiceSigns", "signOf", "(I)I"⟩ : Jvm.MethodName) prog_7_method_4_code 2 (some .int)).before args0 about = true :=
  sg_hand_word (m := ⟨4, 3⟩) (by decide +kernel) rfl (by decide +kernel) (by decide +kernel)
theorem gap1.code54 : (Jvm.Cond.code (⟨"SegmentForms", "grammarOf", "(I)LSegmentForms$Grammar;"⟩ : Jvm.MethodName) prog_1_method_15_code 2 (some (.object "SegmentForms$Grammar"))).before args0 about = true :=
  sg_hand_word (m := ⟨2, 14⟩) (by decide +kernel) rfl (by decide +kernel) (by decide +kernel)
theorem gap1.code55 : (Jvm.Cond.code (⟨"SegmentForms$Grammar", "size", "()I"⟩ : Jvm.MethodName) prog_3_method_2_code 1 (some .int)).before args0 about = true :=
  sg_hand_word (m := ⟨8, 1⟩) (by decide +kernel) rfl (by decide +kernel) (by decide +kernel)
theorem gap1.code56 : (Jvm.Cond.code (⟨"SegmentForms", "row", "(IIIII)I"⟩ : Jvm.MethodName) prog_1_method_4_code 7 (some .int)).before args0 about = true :=
  sg_hand_word (m := ⟨2, 3⟩) (by decide +kernel) rfl (by decide +kernel) (by decide +kernel)
theorem gap1.code57 : (Jvm.Cond.code (⟨"SegmentForms$Tag", "isTag", "(I)Z"⟩ : Jvm.MethodName) prog_9_method_6_code 1 (some .boolean)).before args0 about = true :=
  sg_hand_word (m := ⟨13, 4⟩) (by decide +kernel) rfl (by decide +kernel) (by decide +kernel)
theorem gap1.code58 : (Jvm.Cond.code (⟨"SegmentForms$Tag", "first", "(I)I"⟩ : Jvm.MethodName) prog_9_method_7_code 1 (some .int)).before args0 about = true :=
  sg_hand_word (m := ⟨13, 5⟩) (by decide +kernel) rfl (by decide +kernel) (by decide +kernel)
theorem gap1.code59 : (Jvm.Cond.code (⟨"SegmentForms$Tag", "second", "(I)I"⟩ : Jvm.MethodName) prog_9_method_8_code 1 (some .int)).before args0 about = true :=
  sg_hand_word (m := ⟨13, 6⟩) (by decide +kernel) rfl (by decide +kernel) (by decide +kernel)
theorem gap1.code60 : (Jvm.Cond.code (⟨"SegmentForms$Tag", "third", "(I)I"⟩ : Jvm.MethodName) prog_9_method_9_code 1 (some .int)).before args0 about = true :=
  sg_hand_word (m := ⟨13, 7⟩) (by decide +kernel) rfl (by decide +kernel) (by decide +kernel)
theorem gap1.code61 : (Jvm.Cond.code (⟨"java/lang/Throwable", "<init>", "()V"⟩ : Jvm.MethodName) prog_22_method_1_code 1 none).before args0 about = true :=
  sg_hand_word (m := ⟨14, 0⟩) (by decide +kernel) rfl (by decide +kernel) (by decide +kernel)
theorem gap1.code62 : (Jvm.Cond.code (⟨"java/lang/IllegalArgumentException", "<init>", "(Ljava/lang/String;)V"⟩ : Jvm.MethodName) prog_16_method_2_code 2 none).before args0 about = true :=
  sg_hand_word (m := ⟨20, 0⟩) (by decide +kernel) rfl (by decide +kernel) (by decide +kernel)
theorem gap1.code63 : (Jvm.Cond.code (⟨"java/lang/RuntimeException", "<init>", "(Ljava/lang/String;)V"⟩ : Jvm.MethodName) prog_20_method_2_code 2 none).before args0 about = true :=
  sg_hand_word (m := ⟨19, 1⟩) (by decide +kernel) rfl (by decide +kernel) (by decide +kernel)
theorem gap1.code64 : (Jvm.Cond.code (⟨"java/lang/Exception", "<init>", "(Ljava/lang/String;)V"⟩ : Jvm.MethodName) prog_15_method_2_code 2 none).before args0 about = true :=
  sg_hand_word (m := ⟨18, 1⟩) (by decide +kernel) rfl (by decide +kernel) (by decide +kernel)
theorem gap1.code65 : (Jvm.Cond.code (⟨"java/lang/Throwable", "<init>", "(Ljava/lang/String;)V"⟩ : Jvm.MethodName) prog_22_method_2_code 2 none).before args0 about = true :=
  sg_hand_word (m := ⟨14, 1⟩) (by decide +kernel) rfl (by decide +kernel) (by decide +kernel)
/-! ALONE the witness, part 8, behind gap1.c11 gap1.code16 -/
set_option maxRecDepth 16384 in
theorem gap1.codes_are_2 : tables_1_2.filter sg_isCode = [Jvm.Cond.code (⟨"SegmentForms$Layer", "clear", "()V"⟩ : Jvm.MethodName) prog_4_method_2_code 1 none,
    Jvm.Cond.code (⟨"SegmentForms$SignRow", "clear", "()V"⟩ : Jvm.MethodName) prog_8_method_2_code 1 none,
    Jvm.Cond.code (⟨"SegmentForms$ServiceSigns", "setUntold", "()V"⟩ : Jvm.MethodName) prog_7_method_2_code 2 none,
    Jvm.Cond.code (⟨"SegmentForms$Reader", "firstWrongPlace", "(LSegmentForms$SignRow;)I"⟩ : Jvm.MethodName) prog_6_method_2_code 4 (some .int),
    Jvm.Cond.code (⟨"SegmentForms$Reader", "beginsWithUna", "(LSegmentForms$SignRow;)Z"⟩ : Jvm.MethodName) prog_6_method_3_code 1 (some .boolean),
    Jvm.Cond.code (⟨"SegmentForms$SignRow", "signAt", "(I)I"⟩ : Jvm.MethodName) prog_8_method_5_code 2 (some .int),
    Jvm.Cond.code (⟨"SegmentForms$Reader", "firstWrongOfUna", "(LSegmentForms$SignRow;)I"⟩ : Jvm.MethodName) prog_6_method_4_code 4 (some .int),
    Jvm.Cond.code (⟨"SegmentForms$SignRow", "length", "()I"⟩ : Jvm.MethodName) prog_8_method_3_code 1 (some .int),
    Jvm.Cond.code (⟨"SegmentForms$ServiceSigns", "tell", "(II)Z"⟩ : Jvm.MethodName) prog_7_method_3_code 4 (some .boolean),
    Jvm.Cond.code (⟨"SegmentForms$ServiceSigns", "canServe", "(I)Z"⟩ : Jvm.MethodName) prog_7_method_6_code 1 (some .boolean),
    Jvm.Cond.code (⟨"SegmentForms$Tag", "isLaterSign", "(I)Z"⟩ : Jvm.MethodName) prog_9_method_5_code 1 (some .boolean),
    Jvm.Cond.code (⟨"SegmentForms$Tag", "isCapital", "(I)Z"⟩ : Jvm.MethodName) prog_9_method_2_code 1 (some .boolean),
    Jvm.Cond.code (⟨"SegmentForms$Tag", "isDigit", "(I)Z"⟩ : Jvm.MethodName) prog_9_method_4_code 1 (some .boolean),
    Jvm.Cond.code (⟨"SegmentForms$Tag", "isSmall", "(I)Z"⟩ : Jvm.MethodName) prog_9_method_3_code 1 (some .boolean),
    Jvm.Cond.code (⟨"SegmentForms$Reader", "take", "(I)Z"⟩ : Jvm.MethodName) prog_6_method_5_code 2 (some .boolean),
    Jvm.Cond.code (⟨"SegmentForms$Message", "isFull", "()Z"⟩ : Jvm.MethodName) prog_5_method_4_code 1 (some .boolean),
    Jvm.Cond.code (⟨"SegmentForms$Layer", "size", "()I"⟩ : Jvm.MethodName) prog_4_method_3_code 1 (some .int),
    Jvm.Cond.code (⟨"SegmentForms$Reader", "takeOfTag", "(II)Z"⟩ : Jvm.MethodName) prog_6_method_6_code 3 (some .boolean),
    Jvm.Cond.code (⟨"SegmentForms$Message", "openSegment", "(I)Z"⟩ : Jvm.MethodName) prog_5_method_6_code 3 (some .boolean),
    Jvm.Cond.code (⟨"SegmentForms$Layer", "open", "()Z"⟩ : Jvm.MethodName) prog_4_method_4_code 1 (some .boolean),
    Jvm.Cond.code (⟨"SegmentForms$ServiceSigns", "numberOf", "(I)I"⟩ : Jvm.MethodName) prog_7_method_5_code 3 (some .int),
    Jvm.Cond.code (⟨"SegmentForms$Reader", "takeBehindTag", "(I)Z"⟩ : Jvm.MethodName) prog_6_method_7_code 2 (some .boolean),
    Jvm.Cond.code (⟨"SegmentForms$Message", "openElement", "()Z"⟩ : Jvm.MethodName) prog_5_method_7_code 1 (some .boolean),
    Jvm.Cond.code (⟨"SegmentForms$Message", "openBelow", "(LSegmentForms$Layer;ILSegmentForms$Layer;)Z"⟩ : Jvm.MethodName) prog_5_method_10_code 3 (some .boolean),
    Jvm.Cond.code (⟨"SegmentForms$Layer", "childrenOfLast", "()I"⟩ : Jvm.MethodName) prog_4_method_7_code 1 (some .int),
    Jvm.Cond.code (⟨"SegmentForms$Layer", "grow", "()V"⟩ : Jvm.MethodName) prog_4_method_5_code 1 none,
    Jvm.Cond.code (⟨"SegmentForms$Message", "appendLetter", "(I)Z"⟩ : Jvm.MethodName) prog_5_method_11_code 2 (some .boolean),
    Jvm.Cond.code (⟨"SegmentForms$Reader", "takeInComponent", "(I)Z"⟩ : Jvm.MethodName) prog_6_method_8_code 2 (some .boolean),
    Jvm.Cond.code (⟨"SegmentForms$Message", "openComponent", "()Z"⟩ : Jvm.MethodName) prog_5_method_9_code 1 (some .boolean),
    Jvm.Cond.code (⟨"SegmentForms$Message", "openRepeat", "()Z"⟩ : Jvm.MethodName) prog_5_method_8_code 1 (some .boolean),
    Jvm.Cond.code (⟨"SegmentForms$Message", "isThere", "()Z"⟩ : Jvm.MethodName) prog_5_method_3_code 1 (some .boolean),
    Jvm.Cond.code (⟨"SegmentForms$Message", "size", "()I"⟩ : Jvm.MethodName) prog_5_method_5_code 1 (some .int),
    Jvm.Cond.code (⟨"SegmentForms", "fault", "(I)I"⟩ : Jvm.MethodName) prog_1_method_6_code 2 (some .int),
    Jvm.Cond.code (⟨"SegmentForms$Check", "answer", "()I"⟩ : Jvm.MethodName) prog_2_method_3_code 1 (some .int),
    Jvm.Cond.code (⟨"SegmentForms$Check", "faultSegment", "()I"⟩ : Jvm.MethodName) prog_2_method_4_code 1 (some .int),
    Jvm.Cond.code (⟨"SegmentForms$Check", "faultRow", "()I"⟩ : Jvm.MethodName) prog_2_method_5_code 1 (some .int),
    Jvm.Cond.code (⟨"SegmentForms", "count", "(I)I"⟩ : Jvm.MethodName) prog_1_method_14_code 3 (some .int),
    Jvm.Cond.code (⟨"SegmentForms$ServiceSigns", "signOf", "(I)I"⟩ : Jvm.MethodName) prog_7_method_4_code 2 (some .int),
    Jvm.Cond.code (⟨"SegmentForms", "grammarOf", "(I)LSegmentForms$Grammar;"⟩ : Jvm.MethodName) prog_1_method_15_code 2 (some (.object "SegmentForms$Grammar")),
    Jvm.Cond.code (⟨"SegmentForms$Grammar", "size", "()I"⟩ : Jvm.MethodName) prog_3_method_2_code 1 (some .int),
    Jvm.Cond.code (⟨"SegmentForms", "row", "(IIIII)I"⟩ : Jvm.MethodName) prog_1_method_4_code 7 (some .int),
    Jvm.Cond.code (⟨"SegmentForms$Tag", "isTag", "(I)Z"⟩ : Jvm.MethodName) prog_9_method_6_code 1 (some .boolean),
    Jvm.Cond.code (⟨"SegmentForms$Tag", "first", "(I)I"⟩ : Jvm.MethodName) prog_9_method_7_code 1 (some .int),
    Jvm.Cond.code (⟨"SegmentForms$Tag", "second", "(I)I"⟩ : Jvm.MethodName) prog_9_method_8_code 1 (some .int),
    Jvm.Cond.code (⟨"SegmentForms$Tag", "third", "(I)I"⟩ : Jvm.MethodName) prog_9_method_9_code 1 (some .int),
    Jvm.Cond.code (⟨"java/lang/Throwable", "<init>", "()V"⟩ : Jvm.MethodName) prog_22_method_1_code 1 none,
    Jvm.Cond.code (⟨"java/lang/IllegalArgumentException", "<init>", "(Ljava/lang/String;)V"⟩ : Jvm.MethodName) prog_16_method_2_code 2 none,
    Jvm.Cond.code (⟨"java/lang/RuntimeException", "<init>", "(Ljava/lang/String;)V"⟩ : Jvm.MethodName) prog_20_method_2_code 2 none,
    Jvm.Cond.code (⟨"java/lang/Exception", "<init>", "(Ljava/lang/String;)V"⟩ : Jvm.MethodName) prog_15_method_2_code 2 none,
    Jvm.Cond.code (⟨"java/lang/Throwable", "<init>", "(Ljava/lang/String;)V"⟩ : Jvm.MethodName) prog_22_method_2_code 2 none] := by
  first
  | rfl
  | simp only [tables_1_2, List.filter, sg_isCode]
theorem gap1.codes_hold_2 : ∀ c ∈ tables_1_2.filter sg_isCode, c.before args0 about = true := by
  rw [codes_are_2]
  exact List.forall_mem_cons.mpr ⟨code16, List.forall_mem_cons.mpr ⟨code17, List.forall_mem_cons.mpr ⟨code18, List.forall_mem_cons.mpr ⟨code19, List.forall_mem_cons.mpr ⟨code20, List.forall_mem_cons.mpr ⟨code21, List.forall_mem_cons.mpr ⟨code22, List.forall_mem_cons.mpr ⟨code23, List.forall_mem_cons.mpr ⟨code24, List.forall_mem_cons.mpr ⟨code25, List.forall_mem_cons.mpr ⟨code26, List.forall_mem_cons.mpr ⟨code27, List.forall_mem_cons.mpr ⟨code28, List.forall_mem_cons.mpr ⟨code29, List.forall_mem_cons.mpr ⟨code30, List.forall_mem_cons.mpr ⟨code31, List.forall_mem_cons.mpr ⟨code32, List.forall_mem_cons.mpr ⟨code33, List.forall_mem_cons.mpr ⟨code34, List.forall_mem_cons.mpr ⟨code35, List.forall_mem_cons.mpr ⟨code36, List.forall_mem_cons.mpr ⟨code37, List.forall_mem_cons.mpr ⟨code38, List.forall_mem_cons.mpr ⟨code39, List.forall_mem_cons.mpr ⟨code40, List.forall_mem_cons.mpr ⟨code41, List.forall_mem_cons.mpr ⟨code42, List.forall_mem_cons.mpr ⟨code43, List.forall_mem_cons.mpr ⟨code44, List.forall_mem_cons.mpr ⟨code45, List.forall_mem_cons.mpr ⟨code46, List.forall_mem_cons.mpr ⟨code47, List.forall_mem_cons.mpr ⟨code48, List.forall_mem_cons.mpr ⟨code49, List.forall_mem_cons.mpr ⟨code50, List.forall_mem_cons.mpr ⟨code51, List.forall_mem_cons.mpr ⟨code52, List.forall_mem_cons.mpr ⟨code53, List.forall_mem_cons.mpr ⟨code54, List.forall_mem_cons.mpr ⟨code55, List.forall_mem_cons.mpr ⟨code56, List.forall_mem_cons.mpr ⟨code57, List.forall_mem_cons.mpr ⟨code58, List.forall_mem_cons.mpr ⟨code59, List.forall_mem_cons.mpr ⟨code60, List.forall_mem_cons.mpr ⟨code61, List.forall_mem_cons.mpr ⟨code62, List.forall_mem_cons.mpr ⟨code63, List.forall_mem_cons.mpr ⟨code64, List.forall_mem_cons.mpr ⟨code65, List.forall_mem_nil _⟩⟩⟩⟩⟩⟩⟩⟩⟩⟩⟩⟩⟩⟩⟩⟩⟩⟩⟩⟩⟩⟩⟩⟩⟩⟩⟩⟩⟩⟩⟩⟩⟩⟩⟩⟩⟩⟩⟩⟩⟩⟩⟩⟩⟩⟩⟩⟩⟩⟩
set_option maxRecDepth 16384 in
theorem gap1.others_2_0 : (tables_1_2.take 40).all (fun c => sg_isCode c || c.before args0 about) = true := by decide +kernel
set_option maxRecDepth 16384 in
theorem gap1.others_2_1 : ((tables_1_2.drop 40).take 40).all (fun c => sg_isCode c || c.before args0 about) = true := by decide +kernel
/-! ALONE the witness, part 9, behind gap1.c11 -/
set_option maxRecDepth 16384 in
theorem gap1.others_2_2 : (((tables_1_2.drop 40).drop 40).take 40).all (fun c => sg_isCode c || c.before args0 about) = true := by decide +kernel
set_option maxRecDepth 16384 in
theorem gap1.others_2_3 : ((((tables_1_2.drop 40).drop 40).drop 40).take 40).all (fun c => sg_isCode c || c.before args0 about) = true := by decide +kernel
/-! ALONE the witness, part 10, behind gap1.c11 gap1.codes_are_2 gap1.others_2_2 -/
set_option maxRecDepth 16384 in
theorem gap1.others_2_4 : (((((tables_1_2.drop 40).drop 40).drop 40).drop 40).take 40).all (fun c => sg_isCode c || c.before args0 about) = true := by decide +kernel
set_option maxRecDepth 16384 in
theorem gap1.others_2_5 : (((((tables_1_2.drop 40).drop 40).drop 40).drop 40).drop 40).all (fun c => sg_isCode c || c.before args0 about) = true := by decide +kernel
theorem gap1.others_hold_2 : tables_1_2.all (fun c => sg_isCode c || c.before args0 about) = true := sg_all_split _ 40 tables_1_2 others_2_0 (sg_all_split _ 40 (tables_1_2.drop 40) others_2_1 (sg_all_split _ 40 ((tables_1_2.drop 40).drop 40) others_2_2 (sg_all_split _ 40 (((tables_1_2.drop 40).drop 40).drop 40) others_2_3 (sg_all_split _ 40 ((((tables_1_2.drop 40).drop 40).drop 40).drop 40) others_2_4 others_2_5))))
theorem gap1.words_2 : ∀ c ∈ tables_1_2, c.before args0 about = true := fun c h => sg_words others_hold_2 codes_hold_2 c h
/-! ALONE the witness, part 11, behind gap1.c11 -/
theorem gap1.code66 : (Jvm.Cond.code (⟨"SegmentForms$Grammar", "isFull", "()Z"⟩ : Jvm.MethodName) prog_3_method_3_code 1 (some .boolean)).before args0 about = true :=
  sg_hand_word (m := ⟨8, 2⟩) (by decide +kernel) rfl (by decide +kernel) (by decide +kernel)
theorem gap1.code67 : (Jvm.Cond.code (⟨"SegmentForms$Grammar", "canTakeLevel", "(I)Z"⟩ : Jvm.MethodName) prog_3_method_4_code 3 (some .boolean)).before args0 about = true :=
  sg_hand_word (m := ⟨8, 3⟩) (by decide +kernel) rfl (by decide +kernel) (by decide +kernel)
theorem gap1.code68 : (Jvm.Cond.code (⟨"SegmentForms$Grammar", "levelOf", "(I)I"⟩ : Jvm.MethodName) prog_3_method_9_code 2 (some .int)).before args0 about = true :=
  sg_hand_word (m := ⟨8, 8⟩) (by decide +kernel) rfl (by decide +kernel) (by decide +kernel)
theorem gap1.code69 : (Jvm.Cond.code (⟨"java/lang/Math", "min", "(II)I"⟩ : Jvm.MethodName) prog_19_method_69_code 2 (some .int)).before args0 about = true :=
  sg_hand_word (m := ⟨15, 0⟩) (by decide +kernel) rfl (by decide +kernel) (by decide +kernel)
theorem gap1.code70 : (Jvm.Cond.code (⟨"java/lang/IllegalStateException", "<init>", "(Ljava/lang/String;)V"⟩ : Jvm.MethodName) prog_17_method_2_code 2 none).before args0 about = true :=
  sg_hand_word (m := ⟨21, 0⟩) (by decide +kernel) rfl (by decide +kernel) (by decide +kernel)
theorem gap1.code71 : (Jvm.Cond.code (⟨"SegmentForms$Grammar", "append", "(IIII)V"⟩ : Jvm.MethodName) prog_3_method_5_code 5 none).before args0 about = true :=
  sg_hand_word (m := ⟨8, 4⟩) (by decide +kernel) rfl (by decide +kernel) (by decide +kernel)
theorem gap1.code72 : (Jvm.Cond.code (⟨"SegmentForms", "check", "()I"⟩ : Jvm.MethodName) prog_1_method_5_code 2 (some .int)).before args0 about = true :=
  sg_hand_word (m := ⟨2, 4⟩) (by decide +kernel) rfl (by decide +kernel) (by decide +kernel)
theorem gap1.code73 : (Jvm.Cond.code (⟨"SegmentForms", "needMessage", "()V"⟩ : Jvm.MethodName) prog_1_method_16_code 1 none).before args0 about = true :=
  sg_hand_word (m := ⟨2, 15⟩) (by decide +kernel) rfl (by decide +kernel) (by decide +kernel)
theorem gap1.code74 : (Jvm.Cond.code (⟨"SegmentForms$Check", "toldKind", "()I"⟩ : Jvm.MethodName) prog_2_method_8_code 2 (some .int)).before args0 about = true :=
  sg_hand_word (m := ⟨9, 7⟩) (by decide +kernel) rfl (by decide +kernel) (by decide +kernel)
theorem gap1.code75 : (Jvm.Cond.code (⟨"SegmentForms$Message", "findComponent", "(IIII)I"⟩ : Jvm.MethodName) prog_5_method_21_code 5 (some .int)).before args0 about = true :=
  sg_hand_word (m := ⟨5, 20⟩) (by decide +kernel) rfl (by decide +kernel) (by decide +kernel)
theorem gap1.code76 : (Jvm.Cond.code (⟨"SegmentForms$Message", "elementAt", "(II)I"⟩ : Jvm.MethodName) prog_5_method_14_code 3 (some .int)).before args0 about = true :=
  sg_hand_word (m := ⟨5, 13⟩) (by decide +kernel) rfl (by decide +kernel) (by decide +kernel)
theorem gap1.code77 : (Jvm.Cond.code (⟨"SegmentForms$Layer", "childAt", "(II)I"⟩ : Jvm.MethodName) prog_4_method_8_code 3 (some .int)).before args0 about = true :=
  sg_hand_word (m := ⟨6, 7⟩) (by decide +kernel) rfl (by decide +kernel) (by decide +kernel)
theorem gap1.code78 : (Jvm.Cond.code (⟨"SegmentForms$Message", "repeatAt", "(II)I"⟩ : Jvm.MethodName) prog_5_method_16_code 3 (some .int)).before args0 about = true :=
  sg_hand_word (m := ⟨5, 15⟩) (by decide +kernel) rfl (by decide +kernel) (by decide +kernel)
theorem gap1.code79 : (Jvm.Cond.code (⟨"SegmentForms$Message", "componentAt", "(II)I"⟩ : Jvm.MethodName) prog_5_method_18_code 3 (some .int)).before args0 about = true :=
  sg_hand_word (m := ⟨5, 17⟩) (by decide +kernel) rfl (by decide +kernel) (by decide +kernel)
theorem gap1.code80 : (Jvm.Cond.code (⟨"SegmentForms$Message", "lettersOf", "(I)I"⟩ : Jvm.MethodName) prog_5_method_19_code 2 (some .int)).before args0 about = true :=
  sg_hand_word (m := ⟨5, 18⟩) (by decide +kernel) rfl (by decide +kernel) (by decide +kernel)
theorem gap1.code81 : (Jvm.Cond.code (⟨"SegmentForms$Layer", "childrenOf", "(I)I"⟩ : Jvm.MethodName) prog_4_method_6_code 2 (some .int)).before args0 about = true :=
  sg_hand_word (m := ⟨6, 5⟩) (by decide +kernel) rfl (by decide +kernel) (by decide +kernel)
theorem gap1.code82 : (Jvm.Cond.code (⟨"SegmentForms$Message", "letterAt", "(II)I"⟩ : Jvm.MethodName) prog_5_method_20_code 4 (some .int)).before args0 about = true :=
  sg_hand_word (m := ⟨5, 19⟩) (by decide +kernel) rfl (by decide +kernel) (by decide +kernel)
theorem gap1.code83 : (Jvm.Cond.code (⟨"SegmentForms$Check", "run", "(LSegmentForms$Grammar;)I"⟩ : Jvm.MethodName) prog_2_method_9_code 3 (some .int)).before args0 about = true :=
  sg_hand_word (m := ⟨9, 8⟩) (by decide +kernel) rfl (by decide +kernel) (by decide +kernel)
theorem gap1.code84 : (Jvm.Cond.code (⟨"SegmentForms$Check", "faultOfFrame", "()I"⟩ : Jvm.MethodName) prog_2_method_10_code 3 (some .int)).before args0 about = true :=
  sg_hand_word (m := ⟨9, 9⟩) (by decide +kernel) rfl (by decide +kernel) (by decide +kernel)
theorem gap1.code85 : (Jvm.Cond.code (⟨"SegmentForms$Message", "tagOf", "(I)I"⟩ : Jvm.MethodName) prog_5_method_12_code 2 (some .int)).before args0 about = true :=
  sg_hand_word (m := ⟨5, 11⟩) (by decide +kernel) rfl (by decide +kernel) (by decide +kernel)
theorem gap1.code86 : (Jvm.Cond.code (⟨"SegmentForms$Message", "spells", "(II)Z"⟩ : Jvm.MethodName) prog_5_method_23_code 5 (some .boolean)).before args0 about = true :=
  sg_hand_word (m := ⟨5, 22⟩) (by decide +kernel) rfl (by decide +kernel) (by decide +kernel)
theorem gap1.code87 : (Jvm.Cond.code (⟨"SegmentForms$Message", "areSame", "(II)Z"⟩ : Jvm.MethodName) prog_5_method_22_code 5 (some .boolean)).before args0 about = true :=
  sg_hand_word (m := ⟨5, 21⟩) (by decide +kernel) rfl (by decide +kernel) (by decide +kernel)
theorem gap1.code88 : (Jvm.Cond.code (⟨"SegmentForms$Check", "faultBetween", "(LSegmentForms$Grammar;)I"⟩ : Jvm.MethodName) prog_2_method_11_code 3 (some .int)).before args0 about = true :=
  sg_hand_word (m := ⟨9, 10⟩) (by decide +kernel) rfl (by decide +kernel) (by decide +kernel)
theorem gap1.code89 : (Jvm.Cond.code (⟨"SegmentForms$Grammar", "knows", "(I)Z"⟩ : Jvm.MethodName) prog_3_method_10_code 3 (some .boolean)).before args0 about = true :=
  sg_hand_word (m := ⟨8, 9⟩) (by decide +kernel) rfl (by decide +kernel) (by decide +kernel)
theorem gap1.code90 : (Jvm.Cond.code (⟨"SegmentForms$Grammar", "tagOf", "(I)I"⟩ : Jvm.MethodName) prog_3_method_6_code 2 (some .int)).before args0 about = true :=
  sg_hand_word (m := ⟨8, 5⟩) (by decide +kernel) rfl (by decide +kernel) (by decide +kernel)
theorem gap1.code91 : (Jvm.Cond.code (⟨"SegmentForms$Check", "walkRows", "(LSegmentForms$Grammar;IIII)Z"⟩ : Jvm.MethodName) prog_2_method_12_code 7 (some .boolean)).before args0 about = true :=
  sg_hand_word (m := ⟨9, 11⟩) (by decide +kernel) rfl (by decide +kernel) (by decide +kernel)
theorem gap1.code92 : (Jvm.Cond.code (⟨"SegmentForms$Check", "walkRow", "(LSegmentForms$Grammar;III)Z"⟩ : Jvm.MethodName) prog_2_method_13_code 10 (some .boolean)).before args0 about = true :=
  sg_hand_word (m := ⟨9, 12⟩) (by decide +kernel) rfl (by decide +kernel) (by decide +kernel)
theorem gap1.code93 : (Jvm.Cond.code (⟨"SegmentForms$Grammar", "mostOf", "(I)I"⟩ : Jvm.MethodName) prog_3_method_8_code 2 (some .int)).before args0 about = true :=
  sg_hand_word (m := ⟨8, 7⟩) (by decide +kernel) rfl (by decide +kernel) (by decide +kernel)
theorem gap1.code94 : (Jvm.Cond.code (⟨"SegmentForms$Grammar", "endOfGroup", "(I)I"⟩ : Jvm.MethodName) prog_3_method_11_code 3 (some .int)).before args0 about = true :=
  sg_hand_word (m := ⟨8, 10⟩) (by decide +kernel) rfl (by decide +kernel) (by decide +kernel)
theorem gap1.code95 : (Jvm.Cond.code (⟨"SegmentForms$Check", "walkOver", "(III)V"⟩ : Jvm.MethodName) prog_2_method_14_code 4 none).before args0 about = true :=
  sg_hand_word (m := ⟨9, 13⟩) (by decide +kernel) rfl (by decide +kernel) (by decide +kernel)
theorem gap1.code96 : (Jvm.Cond.code (⟨"SegmentForms$Grammar", "leastOf", "(I)I"⟩ : Jvm.MethodName) prog_3_method_7_code 2 (some .int)).before args0 about = true :=
  sg_hand_word (m := ⟨8, 6⟩) (by decide +kernel) rfl (by decide +kernel) (by decide +kernel)
theorem gap1.code97 : (Jvm.Cond.code (⟨"SegmentForms", "segment", "(II)I"⟩ : Jvm.MethodName) prog_1_method_7_code 3 (some .int)).before args0 about = true :=
  sg_hand_word (m := ⟨2, 6⟩) (by decide +kernel) rfl (by decide +kernel) (by decide +kernel)
theorem gap1.code98 : (Jvm.Cond.code (⟨"SegmentForms", "needSegment", "(I)V"⟩ : Jvm.MethodName) prog_1_method_17_code 2 none).before args0 about = true :=
  sg_hand_word (m := ⟨2, 16⟩) (by decide +kernel) rfl (by decide +kernel) (by decide +kernel)
theorem gap1.code99 : (Jvm.Cond.code (⟨"java/lang/IndexOutOfBoundsException", "<init>", "(Ljava/lang/String;)V"⟩ : Jvm.MethodName) prog_18_method_2_code 2 none).before args0 about = true :=
  sg_hand_word (m := ⟨22, 1⟩) (by decide +kernel) rfl (by decide +kernel) (by decide +kernel)
theorem gap1.code100 : (Jvm.Cond.code (⟨"SegmentForms$Message", "elementsOf", "(I)I"⟩ : Jvm.MethodName) prog_5_method_13_code 2 (some .int)).before args0 about = true :=
  sg_hand_word (m := ⟨5, 12⟩) (by decide +kernel) rfl (by decide +kernel) (by decide +kernel)
theorem gap1.code101 : (Jvm.Cond.code (⟨"SegmentForms$Check", "rowOf", "(I)I"⟩ : Jvm.MethodName) prog_2_method_6_code 2 (some .int)).before args0 about = true :=
  sg_hand_word (m := ⟨9, 5⟩) (by decide +kernel) rfl (by decide +kernel) (by decide +kernel)
theorem gap1.code102 : (Jvm.Cond.code (⟨"SegmentForms$Check", "aboveOf", "(I)I"⟩ : Jvm.MethodName) prog_2_method_7_code 2 (some .int)).before args0 about = true :=
  sg_hand_word (m := ⟨9, 6⟩) (by decide +kernel) rfl (by decide +kernel) (by decide +kernel)
theorem gap1.code103 : (Jvm.Cond.code (⟨"SegmentForms", "repeats", "(II)I"⟩ : Jvm.MethodName) prog_1_method_8_code 3 (some .int)).before args0 about = true :=
  sg_hand_word (m := ⟨2, 7⟩) (by decide +kernel) rfl (by decide +kernel) (by decide +kernel)
theorem gap1.code104 : (Jvm.Cond.code (⟨"SegmentForms$Message", "repeatsOf", "(I)I"⟩ : Jvm.MethodName) prog_5_method_15_code 2 (some .int)).before args0 about = true :=
  sg_hand_word (m := ⟨5, 14⟩) (by decide +kernel) rfl (by decide +kernel) (by decide +kernel)
theorem gap1.code105 : (Jvm.Cond.code (⟨"SegmentForms", "components", "(III)I"⟩ : Jvm.MethodName) prog_1_method_9_code 4 (some .int)).before args0 about = true :=
  sg_hand_word (m := ⟨2, 8⟩) (by decide +kernel) rfl (by decide +kernel) (by decide +kernel)
theorem gap1.code106 : (Jvm.Cond.code (⟨"SegmentForms$Message", "componentsOf", "(I)I"⟩ : Jvm.MethodName) prog_5_method_17_code 2 (some .int)).before args0 about = true :=
  sg_hand_word (m := ⟨5, 16⟩) (by decide +kernel) rfl (by decide +kernel) (by decide +kernel)
theorem gap1.code107 : (Jvm.Cond.code (⟨"SegmentForms", "field", "(IIII)I"⟩ : Jvm.MethodName) prog_1_method_10_code 6 (some .int)).before args0 about = true :=
  sg_hand_word (m := ⟨2, 9⟩) (by decide +kernel) rfl (by decide +kernel) (by decide +kernel)
/-! ALONE the witness, part 12, behind gap1.c11 gap1.code66 -/
set_option maxRecDepth 16384 in
theorem gap1.codes_are_3 : tables_1_3.filter sg_isCode = [Jvm.Cond.code (⟨"SegmentForms$Grammar", "isFull", "()Z"⟩ : Jvm.MethodName) prog_3_method_3_code 1 (some .boolean),
    Jvm.Cond.code (⟨"SegmentForms$Grammar", "canTakeLevel", "(I)Z"⟩ : Jvm.MethodName) prog_3_method_4_code 3 (some .boolean),
    Jvm.Cond.code (⟨"SegmentForms$Grammar", "levelOf", "(I)I"⟩ : Jvm.MethodName) prog_3_method_9_code 2 (some .int),
    Jvm.Cond.code (⟨"java/lang/Math", "min", "(II)I"⟩ : Jvm.MethodName) prog_19_method_69_code 2 (some .int),
    Jvm.Cond.code (⟨"java/lang/IllegalStateException", "<init>", "(Ljava/lang/String;)V"⟩ : Jvm.MethodName) prog_17_method_2_code 2 none,
    Jvm.Cond.code (⟨"SegmentForms$Grammar", "append", "(IIII)V"⟩ : Jvm.MethodName) prog_3_method_5_code 5 none,
    Jvm.Cond.code (⟨"SegmentForms", "check", "()I"⟩ : Jvm.MethodName) prog_1_method_5_code 2 (some .int),
    Jvm.Cond.code (⟨"SegmentForms", "needMessage", "()V"⟩ : Jvm.MethodName) prog_1_method_16_code 1 none,
    Jvm.Cond.code (⟨"SegmentForms$Check", "toldKind", "()I"⟩ : Jvm.MethodName) prog_2_method_8_code 2 (some .int),
    Jvm.Cond.code (⟨"SegmentForms$Message", "findComponent", "(IIII)I"⟩ : Jvm.MethodName) prog_5_method_21_code 5 (some .int),
    Jvm.Cond.code (⟨"SegmentForms$Message", "elementAt", "(II)I"⟩ : Jvm.MethodName) prog_5_method_14_code 3 (some .int),
    Jvm.Cond.code (⟨"SegmentForms$Layer", "childAt", "(II)I"⟩ : Jvm.MethodName) prog_4_method_8_code 3 (some .int),
    Jvm.Cond.code (⟨"SegmentForms$Message", "repeatAt", "(II)I"⟩ : Jvm.MethodName) prog_5_method_16_code 3 (some .int),
    Jvm.Cond.code (⟨"SegmentForms$Message", "componentAt", "(II)I"⟩ : Jvm.MethodName) prog_5_method_18_code 3 (some .int),
    Jvm.Cond.code (⟨"SegmentForms$Message", "lettersOf", "(I)I"⟩ : Jvm.MethodName) prog_5_method_19_code 2 (some .int),
    Jvm.Cond.code (⟨"SegmentForms$Layer", "childrenOf", "(I)I"⟩ : Jvm.MethodName) prog_4_method_6_code 2 (some .int),
    Jvm.Cond.code (⟨"SegmentForms$Message", "letterAt", "(II)I"⟩ : Jvm.MethodName) prog_5_method_20_code 4 (some .int),
    Jvm.Cond.code (⟨"SegmentForms$Check", "run", "(LSegmentForms$Grammar;)I"⟩ : Jvm.MethodName) prog_2_method_9_code 3 (some .int),
    Jvm.Cond.code (⟨"SegmentForms$Check", "faultOfFrame", "()I"⟩ : Jvm.MethodName) prog_2_method_10_code 3 (some .int),
    Jvm.Cond.code (⟨"SegmentForms$Message", "tagOf", "(I)I"⟩ : Jvm.MethodName) prog_5_method_12_code 2 (some .int),
    Jvm.Cond.code (⟨"SegmentForms$Message", "spells", "(II)Z"⟩ : Jvm.MethodName) prog_5_method_23_code 5 (some .boolean),
    Jvm.Cond.code (⟨"SegmentForms$Message", "areSame", "(II)Z"⟩ : Jvm.MethodName) prog_5_method_22_code 5 (some .boolean),
    Jvm.Cond.code (⟨"SegmentForms$Check", "faultBetween", "(LSegmentForms$Grammar;)I"⟩ : Jvm.MethodName) prog_2_method_11_code 3 (some .int),
    Jvm.Cond.code (⟨"SegmentForms$Grammar", "knows", "(I)Z"⟩ : Jvm.MethodName) prog_3_method_10_code 3 (some .boolean),
    Jvm.Cond.code (⟨"SegmentForms$Grammar", "tagOf", "(I)I"⟩ : Jvm.MethodName) prog_3_method_6_code 2 (some .int),
    Jvm.Cond.code (⟨"SegmentForms$Check", "walkRows", "(LSegmentForms$Grammar;IIII)Z"⟩ : Jvm.MethodName) prog_2_method_12_code 7 (some .boolean),
    Jvm.Cond.code (⟨"SegmentForms$Check", "walkRow", "(LSegmentForms$Grammar;III)Z"⟩ : Jvm.MethodName) prog_2_method_13_code 10 (some .boolean),
    Jvm.Cond.code (⟨"SegmentForms$Grammar", "mostOf", "(I)I"⟩ : Jvm.MethodName) prog_3_method_8_code 2 (some .int),
    Jvm.Cond.code (⟨"SegmentForms$Grammar", "endOfGroup", "(I)I"⟩ : Jvm.MethodName) prog_3_method_11_code 3 (some .int),
    Jvm.Cond.code (⟨"SegmentForms$Check", "walkOver", "(III)V"⟩ : Jvm.MethodName) prog_2_method_14_code 4 none,
    Jvm.Cond.code (⟨"SegmentForms$Grammar", "leastOf", "(I)I"⟩ : Jvm.MethodName) prog_3_method_7_code 2 (some .int),
    Jvm.Cond.code (⟨"SegmentForms", "segment", "(II)I"⟩ : Jvm.MethodName) prog_1_method_7_code 3 (some .int),
    Jvm.Cond.code (⟨"SegmentForms", "needSegment", "(I)V"⟩ : Jvm.MethodName) prog_1_method_17_code 2 none,
    Jvm.Cond.code (⟨"java/lang/IndexOutOfBoundsException", "<init>", "(Ljava/lang/String;)V"⟩ : Jvm.MethodName) prog_18_method_2_code 2 none,
    Jvm.Cond.code (⟨"SegmentForms$Message", "elementsOf", "(I)I"⟩ : Jvm.MethodName) prog_5_method_13_code 2 (some .int),
    Jvm.Cond.code (⟨"SegmentForms$Check", "rowOf", "(I)I"⟩ : Jvm.MethodName) prog_2_method_6_code 2 (some .int),
    Jvm.Cond.code (⟨"SegmentForms$Check", "aboveOf", "(I)I"⟩ : Jvm.MethodName) prog_2_method_7_code 2 (some .int),
    Jvm.Cond.code (⟨"SegmentForms", "repeats", "(II)I"⟩ : Jvm.MethodName) prog_1_method_8_code 3 (some .int),
    Jvm.Cond.code (⟨"SegmentForms$Message", "repeatsOf", "(I)I"⟩ : Jvm.MethodName) prog_5_method_15_code 2 (some .int),
    Jvm.Cond.code (⟨"SegmentForms", "components", "(III)I"⟩ : Jvm.MethodName) prog_1_method_9_code 4 (some .int),
    Jvm.Cond.code (⟨"SegmentForms$Message", "componentsOf", "(I)I"⟩ : Jvm.MethodName) prog_5_method_17_code 2 (some .int),
    Jvm.Cond.code (⟨"SegmentForms", "field", "(IIII)I"⟩ : Jvm.MethodName) prog_1_method_10_code 6 (some .int)] := by
  first
  | rfl
  | simp only [tables_1_3, List.filter, sg_isCode]
theorem gap1.codes_hold_3 : ∀ c ∈ tables_1_3.filter sg_isCode, c.before args0 about = true := by
  rw [codes_are_3]
  exact List.forall_mem_cons.mpr ⟨code66, List.forall_mem_cons.mpr ⟨code67, List.forall_mem_cons.mpr ⟨code68, List.forall_mem_cons.mpr ⟨code69, List.forall_mem_cons.mpr ⟨code70, List.forall_mem_cons.mpr ⟨code71, List.forall_mem_cons.mpr ⟨code72, List.forall_mem_cons.mpr ⟨code73, List.forall_mem_cons.mpr ⟨code74, List.forall_mem_cons.mpr ⟨code75, List.forall_mem_cons.mpr ⟨code76, List.forall_mem_cons.mpr ⟨code77, List.forall_mem_cons.mpr ⟨code78, List.forall_mem_cons.mpr ⟨code79, List.forall_mem_cons.mpr ⟨code80, List.forall_mem_cons.mpr ⟨code81, List.forall_mem_cons.mpr ⟨code82, List.forall_mem_cons.mpr ⟨code83, List.forall_mem_cons.mpr ⟨code84, List.forall_mem_cons.mpr ⟨code85, List.forall_mem_cons.mpr ⟨code86, List.forall_mem_cons.mpr ⟨code87, List.forall_mem_cons.mpr ⟨code88, List.forall_mem_cons.mpr ⟨code89, List.forall_mem_cons.mpr ⟨code90, List.forall_mem_cons.mpr ⟨code91, List.forall_mem_cons.mpr ⟨code92, List.forall_mem_cons.mpr ⟨code93, List.forall_mem_cons.mpr ⟨code94, List.forall_mem_cons.mpr ⟨code95, List.forall_mem_cons.mpr ⟨code96, List.forall_mem_cons.mpr ⟨code97, List.forall_mem_cons.mpr ⟨code98, List.forall_mem_cons.mpr ⟨code99, List.forall_mem_cons.mpr ⟨code100, List.forall_mem_cons.mpr ⟨code101, List.forall_mem_cons.mpr ⟨code102, List.forall_mem_cons.mpr ⟨code103, List.forall_mem_cons.mpr ⟨code104, List.forall_mem_cons.mpr ⟨code105, List.forall_mem_cons.mpr ⟨code106, List.forall_mem_cons.mpr ⟨code107, List.forall_mem_nil _⟩⟩⟩⟩⟩⟩⟩⟩⟩⟩⟩⟩⟩⟩⟩⟩⟩⟩⟩⟩⟩⟩⟩⟩⟩⟩⟩⟩⟩⟩⟩⟩⟩⟩⟩⟩⟩⟩⟩⟩⟩⟩
set_option maxRecDepth 16384 in
theorem gap1.others_3_0 : (tables_1_3.take 40).all (fun c => sg_isCode c || c.before args0 about) = true := by decide +kernel
set_option maxRecDepth 16384 in
theorem gap1.others_3_1 : ((tables_1_3.drop 40).take 40).all (fun c => sg_isCode c || c.before args0 about) = true := by decide +kernel
/-! ALONE the witness, part 13, behind gap1.c11 -/
set_option maxRecDepth 16384 in
theorem gap1.others_3_2 : (((tables_1_3.drop 40).drop 40).take 40).all (fun c => sg_isCode c || c.before args0 about) = true := by decide +kernel
set_option maxRecDepth 16384 in
theorem gap1.others_3_3 : ((((tables_1_3.drop 40).drop 40).drop 40).take 40).all (fun c => sg_isCode c || c.before args0 about) = true := by decide +kernel
/-! ALONE the witness, part 14, behind gap1.c11 gap1.codes_are_3 gap1.others_3_2 -/
set_option maxRecDepth 16384 in
theorem gap1.others_3_4 : (((((tables_1_3.drop 40).drop 40).drop 40).drop 40).take 40).all (fun c => sg_isCode c || c.before args0 about) = true := by decide +kernel
set_option maxRecDepth 16384 in
theorem gap1.others_3_5 : (((((tables_1_3.drop 40).drop 40).drop 40).drop 40).drop 40).all (fun c => sg_isCode c || c.before args0 about) = true := by decide +kernel
theorem gap1.others_hold_3 : tables_1_3.all (fun c => sg_isCode c || c.before args0 about) = true := sg_all_split _ 40 tables_1_3 others_3_0 (sg_all_split _ 40 (tables_1_3.drop 40) others_3_1 (sg_all_split _ 40 ((tables_1_3.drop 40).drop 40) others_3_2 (sg_all_split _ 40 (((tables_1_3.drop 40).drop 40).drop 40) others_3_3 (sg_all_split _ 40 ((((tables_1_3.drop 40).drop 40).drop 40).drop 40) others_3_4 others_3_5))))
theorem gap1.words_3 : ∀ c ∈ tables_1_3, c.before args0 about = true := fun c h => sg_words others_hold_3 codes_hold_3 c h
/-! ALONE the witness, part 15, behind gap1.c11 -/
theorem gap1.code108 : (Jvm.Cond.code (⟨"SegmentForms", "letter", "(IIIII)I"⟩ : Jvm.MethodName) prog_1_method_11_code 6 (some .int)).before args0 about = true :=
  sg_hand_word (m := ⟨2, 10⟩) (by decide +kernel) rfl (by decide +kernel) (by decide +kernel)
theorem gap1.code109 : (Jvm.Cond.code (⟨"SegmentForms", "build", "()I"⟩ : Jvm.MethodName) prog_1_method_12_code 1 (some .int)).before args0 about = true :=
  sg_hand_word (m := ⟨2, 11⟩) (by decide +kernel) rfl (by decide +kernel) (by decide +kernel)
theorem gap1.code110 : (Jvm.Cond.code (⟨"SegmentForms$Writer", "write", "()V"⟩ : Jvm.MethodName) prog_10_method_2_code 4 none).before args0 about = true :=
  sg_hand_word (m := ⟨11, 1⟩) (by decide +kernel) rfl (by decide +kernel) (by decide +kernel)
theorem gap1.code111 : (Jvm.Cond.code (⟨"SegmentForms$Writer", "writeTag", "(I)V"⟩ : Jvm.MethodName) prog_10_method_3_code 2 none).before args0 about = true :=
  sg_hand_word (m := ⟨11, 2⟩) (by decide +kernel) rfl (by decide +kernel) (by decide +kernel)
theorem gap1.code112 : (Jvm.Cond.code (⟨"SegmentForms$Writer", "keptElements", "(I)I"⟩ : Jvm.MethodName) prog_10_method_8_code 3 (some .int)).before args0 about = true :=
  sg_hand_word (m := ⟨11, 7⟩) (by decide +kernel) rfl (by decide +kernel) (by decide +kernel)
theorem gap1.code113 : (Jvm.Cond.code (⟨"SegmentForms$Writer", "keptRepeats", "(I)I"⟩ : Jvm.MethodName) prog_10_method_9_code 3 (some .int)).before args0 about = true :=
  sg_hand_word (m := ⟨11, 8⟩) (by decide +kernel) rfl (by decide +kernel) (by decide +kernel)
theorem gap1.code114 : (Jvm.Cond.code (⟨"SegmentForms$Writer", "keptComponents", "(I)I"⟩ : Jvm.MethodName) prog_10_method_10_code 3 (some .int)).before args0 about = true :=
  sg_hand_word (m := ⟨11, 9⟩) (by decide +kernel) rfl (by decide +kernel) (by decide +kernel)
theorem gap1.code115 : (Jvm.Cond.code (⟨"SegmentForms$Writer", "writeService", "(I)V"⟩ : Jvm.MethodName) prog_10_method_7_code 2 none).before args0 about = true :=
  sg_hand_word (m := ⟨11, 6⟩) (by decide +kernel) rfl (by decide +kernel) (by decide +kernel)
theorem gap1.code116 : (Jvm.Cond.code (⟨"SegmentForms$Writer", "writeRepeats", "(I)V"⟩ : Jvm.MethodName) prog_10_method_4_code 4 none).before args0 about = true :=
  sg_hand_word (m := ⟨11, 3⟩) (by decide +kernel) rfl (by decide +kernel) (by decide +kernel)
theorem gap1.code117 : (Jvm.Cond.code (⟨"SegmentForms$Writer", "writeComponents", "(I)V"⟩ : Jvm.MethodName) prog_10_method_5_code 4 none).before args0 about = true :=
  sg_hand_word (m := ⟨11, 4⟩) (by decide +kernel) rfl (by decide +kernel) (by decide +kernel)
theorem gap1.code118 : (Jvm.Cond.code (⟨"SegmentForms$Writer", "writeLetters", "(I)V"⟩ : Jvm.MethodName) prog_10_method_6_code 5 none).before args0 about = true :=
  sg_hand_word (m := ⟨11, 5⟩) (by decide +kernel) rfl (by decide +kernel) (by decide +kernel)
theorem gap1.code119 : (Jvm.Cond.code (⟨"SegmentForms", "at", "(I)I"⟩ : Jvm.MethodName) prog_1_method_13_code 2 (some .int)).before args0 about = true :=
  sg_hand_word (m := ⟨2, 12⟩) (by decide +kernel) rfl (by decide +kernel) (by decide +kernel)
theorem gap1.code120 : (Jvm.Cond.code (⟨"java/lang/ArrayIndexOutOfBoundsException", "<init>", "(Ljava/lang/String;)V"⟩ : Jvm.MethodName) prog_13_method_2_code 2 none).before args0 about = true :=
  sg_hand_word (m := ⟨23, 0⟩) (by decide +kernel) rfl (by decide +kernel) (by decide +kernel)
theorem gap1.code121 : (Jvm.Cond.code (⟨"SegmentFormsModel", "<init>", "()V"⟩ : Jvm.MethodName) prog_12_method_1_code 1 none).before args0 about = true :=
  sg_hand_word (m := ⟨12, 0⟩) (by decide +kernel) rfl (by decide +kernel) (by decide +kernel)
theorem gap1.code122 : (Jvm.Cond.code (⟨"SegmentFormsModel", "usual", "()V"⟩ : Jvm.MethodName) prog_12_method_3_code 1 none).before args0 about = true :=
  sg_hand_word (m := ⟨12, 2⟩) (by decide +kernel) rfl (by decide +kernel) (by decide +kernel)
theorem gap1.code123 : (Jvm.Cond.code (⟨"SegmentFormsModel", "thrown", "()I"⟩ : Jvm.MethodName) prog_12_method_2_code 1 (some .int)).before args0 about = true :=
  sg_hand_word (m := ⟨12, 1⟩) (by decide +kernel) rfl (by decide +kernel) (by decide +kernel)
theorem gap1.code124 : (Jvm.Cond.code (⟨"SegmentFormsModel", "add", "(I)Z"⟩ : Jvm.MethodName) prog_12_method_4_code 2 (some .boolean)).before args0 about = true :=
  sg_hand_word (m := ⟨12, 3⟩) (by decide +kernel) rfl (by decide +kernel) (by decide +kernel)
theorem gap1.code125 : (Jvm.Cond.code (⟨"SegmentFormsModel", "read", "()I"⟩ : Jvm.MethodName) prog_12_method_17_code 3 (some .int)).before args0 about = true :=
  sg_hand_word (m := ⟨12, 16⟩) (by decide +kernel) rfl (by decide +kernel) (by decide +kernel)
theorem gap1.code126 : (Jvm.Cond.code (⟨"SegmentFormsModel", "begins", "()Z"⟩ : Jvm.MethodName) prog_12_method_10_code 1 (some .boolean)).before args0 about = true :=
  sg_hand_word (m := ⟨12, 9⟩) (by decide +kernel) rfl (by decide +kernel) (by decide +kernel)
theorem gap1.code127 : (Jvm.Cond.code (⟨"SegmentFormsModel", "readService", "()V"⟩ : Jvm.MethodName) prog_12_method_9_code 5 none).before args0 about = true :=
  sg_hand_word (m := ⟨12, 8⟩) (by decide +kernel) rfl (by decide +kernel) (by decide +kernel)
theorem gap1.code128 : (Jvm.Cond.code (⟨"SegmentFormsModel", "look", "()I"⟩ : Jvm.MethodName) prog_12_method_5_code 1 (some .int)).before args0 about = true :=
  sg_hand_word (m := ⟨12, 4⟩) (by decide +kernel) rfl (by decide +kernel) (by decide +kernel)
theorem gap1.code129 : (Jvm.Cond.code (⟨"SegmentFormsModel", "isLetter", "(I)Z"⟩ : Jvm.MethodName) prog_12_method_7_code 1 (some .boolean)).before args0 about = true :=
  sg_hand_word (m := ⟨12, 6⟩) (by decide +kernel) rfl (by decide +kernel) (by decide +kernel)
theorem gap1.code130 : (Jvm.Cond.code (⟨"SegmentFormsModel", "isDigit", "(I)Z"⟩ : Jvm.MethodName) prog_12_method_8_code 1 (some .boolean)).before args0 about = true :=
  sg_hand_word (m := ⟨12, 7⟩) (by decide +kernel) rfl (by decide +kernel) (by decide +kernel)
theorem gap1.code131 : (Jvm.Cond.code (⟨"SegmentFormsModel", "fail", "()V"⟩ : Jvm.MethodName) prog_12_method_6_code 1 none).before args0 about = true :=
  sg_hand_word (m := ⟨12, 5⟩) (by decide +kernel) rfl (by decide +kernel) (by decide +kernel)
theorem gap1.code132 : (Jvm.Cond.code (⟨"SegmentFormsModel", "readSegment", "()V"⟩ : Jvm.MethodName) prog_12_method_16_code 1 none).before args0 about = true :=
  sg_hand_word (m := ⟨12, 15⟩) (by decide +kernel) rfl (by decide +kernel) (by decide +kernel)
/-! ALONE the witness, part 16, behind gap1.c11 gap1.code108 -/
set_option maxRecDepth 16384 in
theorem gap1.codes_are_4 : tables_1_4.filter sg_isCode = [Jvm.Cond.code (⟨"SegmentForms", "letter", "(IIIII)I"⟩ : Jvm.MethodName) prog_1_method_11_code 6 (some .int),
    Jvm.Cond.code (⟨"SegmentForms", "build", "()I"⟩ : Jvm.MethodName) prog_1_method_12_code 1 (some .int),
    Jvm.Cond.code (⟨"SegmentForms$Writer", "write", "()V"⟩ : Jvm.MethodName) prog_10_method_2_code 4 none,
    Jvm.Cond.code (⟨"SegmentForms$Writer", "writeTag", "(I)V"⟩ : Jvm.MethodName) prog_10_method_3_code 2 none,
    Jvm.Cond.code (⟨"SegmentForms$Writer", "keptElements", "(I)I"⟩ : Jvm.MethodName) prog_10_method_8_code 3 (some .int),
    Jvm.Cond.code (⟨"SegmentForms$Writer", "keptRepeats", "(I)I"⟩ : Jvm.MethodName) prog_10_method_9_code 3 (some .int),
    Jvm.Cond.code (⟨"SegmentForms$Writer", "keptComponents", "(I)I"⟩ : Jvm.MethodName) prog_10_method_10_code 3 (some .int),
    Jvm.Cond.code (⟨"SegmentForms$Writer", "writeService", "(I)V"⟩ : Jvm.MethodName) prog_10_method_7_code 2 none,
    Jvm.Cond.code (⟨"SegmentForms$Writer", "writeRepeats", "(I)V"⟩ : Jvm.MethodName) prog_10_method_4_code 4 none,
    Jvm.Cond.code (⟨"SegmentForms$Writer", "writeComponents", "(I)V"⟩ : Jvm.MethodName) prog_10_method_5_code 4 none,
    Jvm.Cond.code (⟨"SegmentForms$Writer", "writeLetters", "(I)V"⟩ : Jvm.MethodName) prog_10_method_6_code 5 none,
    Jvm.Cond.code (⟨"SegmentForms", "at", "(I)I"⟩ : Jvm.MethodName) prog_1_method_13_code 2 (some .int),
    Jvm.Cond.code (⟨"java/lang/ArrayIndexOutOfBoundsException", "<init>", "(Ljava/lang/String;)V"⟩ : Jvm.MethodName) prog_13_method_2_code 2 none,
    Jvm.Cond.code (⟨"SegmentFormsModel", "<init>", "()V"⟩ : Jvm.MethodName) prog_12_method_1_code 1 none,
    Jvm.Cond.code (⟨"SegmentFormsModel", "usual", "()V"⟩ : Jvm.MethodName) prog_12_method_3_code 1 none,
    Jvm.Cond.code (⟨"SegmentFormsModel", "thrown", "()I"⟩ : Jvm.MethodName) prog_12_method_2_code 1 (some .int),
    Jvm.Cond.code (⟨"SegmentFormsModel", "add", "(I)Z"⟩ : Jvm.MethodName) prog_12_method_4_code 2 (some .boolean),
    Jvm.Cond.code (⟨"SegmentFormsModel", "read", "()I"⟩ : Jvm.MethodName) prog_12_method_17_code 3 (some .int),
    Jvm.Cond.code (⟨"SegmentFormsModel", "begins", "()Z"⟩ : Jvm.MethodName) prog_12_method_10_code 1 (some .boolean),
    Jvm.Cond.code (⟨"SegmentFormsModel", "readService", "()V"⟩ : Jvm.MethodName) prog_12_method_9_code 5 none,
    Jvm.Cond.code (⟨"SegmentFormsModel", "look", "()I"⟩ : Jvm.MethodName) prog_12_method_5_code 1 (some .int),
    Jvm.Cond.code (⟨"SegmentFormsModel", "isLetter", "(I)Z"⟩ : Jvm.MethodName) prog_12_method_7_code 1 (some .boolean),
    Jvm.Cond.code (⟨"SegmentFormsModel", "isDigit", "(I)Z"⟩ : Jvm.MethodName) prog_12_method_8_code 1 (some .boolean),
    Jvm.Cond.code (⟨"SegmentFormsModel", "fail", "()V"⟩ : Jvm.MethodName) prog_12_method_6_code 1 none,
    Jvm.Cond.code (⟨"SegmentFormsModel", "readSegment", "()V"⟩ : Jvm.MethodName) prog_12_method_16_code 1 none] := by
  first
  | rfl
  | simp only [tables_1_4, List.filter, sg_isCode]
theorem gap1.codes_hold_4 : ∀ c ∈ tables_1_4.filter sg_isCode, c.before args0 about = true := by
  rw [codes_are_4]
  exact List.forall_mem_cons.mpr ⟨code108, List.forall_mem_cons.mpr ⟨code109, List.forall_mem_cons.mpr ⟨code110, List.forall_mem_cons.mpr ⟨code111, List.forall_mem_cons.mpr ⟨code112, List.forall_mem_cons.mpr ⟨code113, List.forall_mem_cons.mpr ⟨code114, List.forall_mem_cons.mpr ⟨code115, List.forall_mem_cons.mpr ⟨code116, List.forall_mem_cons.mpr ⟨code117, List.forall_mem_cons.mpr ⟨code118, List.forall_mem_cons.mpr ⟨code119, List.forall_mem_cons.mpr ⟨code120, List.forall_mem_cons.mpr ⟨code121, List.forall_mem_cons.mpr ⟨code122, List.forall_mem_cons.mpr ⟨code123, List.forall_mem_cons.mpr ⟨code124, List.forall_mem_cons.mpr ⟨code125, List.forall_mem_cons.mpr ⟨code126, List.forall_mem_cons.mpr ⟨code127, List.forall_mem_cons.mpr ⟨code128, List.forall_mem_cons.mpr ⟨code129, List.forall_mem_cons.mpr ⟨code130, List.forall_mem_cons.mpr ⟨code131, List.forall_mem_cons.mpr ⟨code132, List.forall_mem_nil _⟩⟩⟩⟩⟩⟩⟩⟩⟩⟩⟩⟩⟩⟩⟩⟩⟩⟩⟩⟩⟩⟩⟩⟩⟩
set_option maxRecDepth 16384 in
theorem gap1.others_4_0 : (tables_1_4.take 40).all (fun c => sg_isCode c || c.before args0 about) = true := by decide +kernel
set_option maxRecDepth 16384 in
theorem gap1.others_4_1 : ((tables_1_4.drop 40).take 40).all (fun c => sg_isCode c || c.before args0 about) = true := by decide +kernel
/-! ALONE the witness, part 17, behind gap1.c11 -/
set_option maxRecDepth 16384 in
theorem gap1.others_4_2 : (((tables_1_4.drop 40).drop 40).take 40).all (fun c => sg_isCode c || c.before args0 about) = true := by decide +kernel
set_option maxRecDepth 16384 in
theorem gap1.others_4_3 : ((((tables_1_4.drop 40).drop 40).drop 40).take 40).all (fun c => sg_isCode c || c.before args0 about) = true := by decide +kernel
/-! ALONE the witness, part 18, behind gap1.c11 gap1.codes_are_4 gap1.others_4_2 -/
set_option maxRecDepth 16384 in
theorem gap1.others_4_4 : (((((tables_1_4.drop 40).drop 40).drop 40).drop 40).take 40).all (fun c => sg_isCode c || c.before args0 about) = true := by decide +kernel
set_option maxRecDepth 16384 in
theorem gap1.others_4_5 : (((((tables_1_4.drop 40).drop 40).drop 40).drop 40).drop 40).all (fun c => sg_isCode c || c.before args0 about) = true := by decide +kernel
theorem gap1.others_hold_4 : tables_1_4.all (fun c => sg_isCode c || c.before args0 about) = true := sg_all_split _ 40 tables_1_4 others_4_0 (sg_all_split _ 40 (tables_1_4.drop 40) others_4_1 (sg_all_split _ 40 ((tables_1_4.drop 40).drop 40) others_4_2 (sg_all_split _ 40 (((tables_1_4.drop 40).drop 40).drop 40) others_4_3 (sg_all_split _ 40 ((((tables_1_4.drop 40).drop 40).drop 40).drop 40) others_4_4 others_4_5))))
theorem gap1.words_4 : ∀ c ∈ tables_1_4, c.before args0 about = true := fun c h => sg_words others_hold_4 codes_hold_4 c h
/-! ALONE the witness, part 19, behind gap1.c11 -/
theorem gap1.code133 : (Jvm.Cond.code (⟨"SegmentFormsModel", "readTag", "()V"⟩ : Jvm.MethodName) prog_12_method_11_code 4 none).before args0 about = true :=
  sg_hand_word (m := ⟨12, 10⟩) (by decide +kernel) rfl (by decide +kernel) (by decide +kernel)
theorem gap1.code134 : (Jvm.Cond.code (⟨"SegmentFormsModel", "readElement", "()V"⟩ : Jvm.MethodName) prog_12_method_15_code 3 none).before args0 about = true :=
  sg_hand_word (m := ⟨12, 14⟩) (by decide +kernel) rfl (by decide +kernel) (by decide +kernel)
theorem gap1.code135 : (Jvm.Cond.code (⟨"SegmentFormsModel", "openRepeat", "()V"⟩ : Jvm.MethodName) prog_12_method_13_code 1 none).before args0 about = true :=
  sg_hand_word (m := ⟨12, 12⟩) (by decide +kernel) rfl (by decide +kernel) (by decide +kernel)
theorem gap1.code136 : (Jvm.Cond.code (⟨"SegmentFormsModel", "openComponent", "()V"⟩ : Jvm.MethodName) prog_12_method_12_code 1 none).before args0 about = true :=
  sg_hand_word (m := ⟨12, 11⟩) (by decide +kernel) rfl (by decide +kernel) (by decide +kernel)
theorem gap1.code137 : (Jvm.Cond.code (⟨"SegmentFormsModel", "take", "(I)V"⟩ : Jvm.MethodName) prog_12_method_14_code 2 none).before args0 about = true :=
  sg_hand_word (m := ⟨12, 13⟩) (by decide +kernel) rfl (by decide +kernel) (by decide +kernel)
theorem gap1.code138 : (Jvm.Cond.code (⟨"SegmentFormsModel", "forget", "(I)V"⟩ : Jvm.MethodName) prog_12_method_18_code 2 none).before args0 about = true :=
  sg_hand_word (m := ⟨12, 17⟩) (by decide +kernel) rfl (by decide +kernel) (by decide +kernel)
theorem gap1.code139 : (Jvm.Cond.code (⟨"SegmentFormsModel", "segment", "(II)I"⟩ : Jvm.MethodName) prog_12_method_25_code 3 (some .int)).before args0 about = true :=
  sg_hand_word (m := ⟨12, 24⟩) (by decide +kernel) rfl (by decide +kernel) (by decide +kernel)
theorem gap1.code140 : (Jvm.Cond.code (⟨"SegmentFormsModel", "isSegment", "(I)Z"⟩ : Jvm.MethodName) prog_12_method_19_code 2 (some .boolean)).before args0 about = true :=
  sg_hand_word (m := ⟨12, 18⟩) (by decide +kernel) rfl (by decide +kernel) (by decide +kernel)
theorem gap1.code141 : (Jvm.Cond.code (⟨"SegmentFormsModel", "elementsOf", "(I)I"⟩ : Jvm.MethodName) prog_12_method_20_code 2 (some .int)).before args0 about = true :=
  sg_hand_word (m := ⟨12, 19⟩) (by decide +kernel) rfl (by decide +kernel) (by decide +kernel)
theorem gap1.code142 : (Jvm.Cond.code (⟨"SegmentFormsModel", "repeats", "(II)I"⟩ : Jvm.MethodName) prog_12_method_26_code 3 (some .int)).before args0 about = true :=
  sg_hand_word (m := ⟨12, 25⟩) (by decide +kernel) rfl (by decide +kernel) (by decide +kernel)
theorem gap1.code143 : (Jvm.Cond.code (⟨"SegmentFormsModel", "repeatsOf", "(II)I"⟩ : Jvm.MethodName) prog_12_method_21_code 4 (some .int)).before args0 about = true :=
  sg_hand_word (m := ⟨12, 20⟩) (by decide +kernel) rfl (by decide +kernel) (by decide +kernel)
theorem gap1.code144 : (Jvm.Cond.code (⟨"SegmentFormsModel", "components", "(III)I"⟩ : Jvm.MethodName) prog_12_method_27_code 4 (some .int)).before args0 about = true :=
  sg_hand_word (m := ⟨12, 26⟩) (by decide +kernel) rfl (by decide +kernel) (by decide +kernel)
theorem gap1.code145 : (Jvm.Cond.code (⟨"SegmentFormsModel", "componentsOf", "(III)I"⟩ : Jvm.MethodName) prog_12_method_22_code 5 (some .int)).before args0 about = true :=
  sg_hand_word (m := ⟨12, 21⟩) (by decide +kernel) rfl (by decide +kernel) (by decide +kernel)
theorem gap1.code146 : (Jvm.Cond.code (⟨"SegmentFormsModel", "field", "(IIII)I"⟩ : Jvm.MethodName) prog_12_method_28_code 6 (some .int)).before args0 about = true :=
  sg_hand_word (m := ⟨12, 27⟩) (by decide +kernel) rfl (by decide +kernel) (by decide +kernel)
theorem gap1.code147 : (Jvm.Cond.code (⟨"SegmentFormsModel", "componentAt", "(IIII)I"⟩ : Jvm.MethodName) prog_12_method_23_code 5 (some .int)).before args0 about = true :=
  sg_hand_word (m := ⟨12, 22⟩) (by decide +kernel) rfl (by decide +kernel) (by decide +kernel)
theorem gap1.code148 : (Jvm.Cond.code (⟨"SegmentFormsModel", "longOf", "(I)I"⟩ : Jvm.MethodName) prog_12_method_24_code 2 (some .int)).before args0 about = true :=
  sg_hand_word (m := ⟨12, 23⟩) (by decide +kernel) rfl (by decide +kernel) (by decide +kernel)
theorem gap1.code149 : (Jvm.Cond.code (⟨"SegmentFormsModel", "letter", "(IIIII)I"⟩ : Jvm.MethodName) prog_12_method_29_code 7 (some .int)).before args0 about = true :=
  sg_hand_word (m := ⟨12, 28⟩) (by decide +kernel) rfl (by decide +kernel) (by decide +kernel)
theorem gap1.code150 : (Jvm.Cond.code (⟨"SegmentFormsModel", "row", "(IIIII)I"⟩ : Jvm.MethodName) prog_12_method_31_code 9 (some .int)).before args0 about = true :=
  sg_hand_word (m := ⟨12, 30⟩) (by decide +kernel) rfl (by decide +kernel) (by decide +kernel)
theorem gap1.code151 : (Jvm.Cond.code (⟨"SegmentFormsModel", "isTag", "(I)Z"⟩ : Jvm.MethodName) prog_12_method_30_code 4 (some .boolean)).before args0 about = true :=
  sg_hand_word (m := ⟨12, 29⟩) (by decide +kernel) rfl (by decide +kernel) (by decide +kernel)
theorem gap1.code152 : (Jvm.Cond.code (⟨"SegmentFormsModel", "check", "()I"⟩ : Jvm.MethodName) prog_12_method_40_code 2 (some .int)).before args0 about = true :=
  sg_hand_word (m := ⟨12, 39⟩) (by decide +kernel) rfl (by decide +kernel) (by decide +kernel)
theorem gap1.code153 : (Jvm.Cond.code (⟨"SegmentFormsModel", "checked", "()I"⟩ : Jvm.MethodName) prog_12_method_39_code 4 (some .int)).before args0 about = true :=
  sg_hand_word (m := ⟨12, 38⟩) (by decide +kernel) rfl (by decide +kernel) (by decide +kernel)
theorem gap1.code154 : (Jvm.Cond.code (⟨"SegmentFormsModel", "isCount", "(I)Z"⟩ : Jvm.MethodName) prog_12_method_32_code 4 (some .boolean)).before args0 about = true :=
  sg_hand_word (m := ⟨12, 31⟩) (by decide +kernel) rfl (by decide +kernel) (by decide +kernel)
theorem gap1.code155 : (Jvm.Cond.code (⟨"SegmentFormsModel", "alike", "(II)Z"⟩ : Jvm.MethodName) prog_12_method_33_code 4 (some .boolean)).before args0 about = true :=
  sg_hand_word (m := ⟨12, 32⟩) (by decide +kernel) rfl (by decide +kernel) (by decide +kernel)
theorem gap1.code156 : (Jvm.Cond.code (⟨"SegmentFormsModel", "kindOf", "()I"⟩ : Jvm.MethodName) prog_12_method_34_code 3 (some .int)).before args0 about = true :=
  sg_hand_word (m := ⟨12, 33⟩) (by decide +kernel) rfl (by decide +kernel) (by decide +kernel)
theorem gap1.code157 : (Jvm.Cond.code (⟨"SegmentFormsModel", "unknown", "(I)I"⟩ : Jvm.MethodName) prog_12_method_36_code 5 (some .int)).before args0 about = true :=
  sg_hand_word (m := ⟨12, 35⟩) (by decide +kernel) rfl (by decide +kernel) (by decide +kernel)
theorem gap1.code158 : (Jvm.Cond.code (⟨"SegmentFormsModel", "wrong", "(III)I"⟩ : Jvm.MethodName) prog_12_method_35_code 4 (some .int)).before args0 about = true :=
  sg_hand_word (m := ⟨12, 34⟩) (by decide +kernel) rfl (by decide +kernel) (by decide +kernel)
theorem gap1.code159 : (Jvm.Cond.code (⟨"SegmentFormsModel", "walk", "(I)I"⟩ : Jvm.MethodName) prog_12_method_38_code 8 (some .int)).before args0 about = true :=
  sg_hand_word (m := ⟨12, 37⟩) (by decide +kernel) rfl (by decide +kernel) (by decide +kernel)
theorem gap1.code160 : (Jvm.Cond.code (⟨"SegmentFormsModel", "nextRow", "(III)I"⟩ : Jvm.MethodName) prog_12_method_37_code 5 (some .int)).before args0 about = true :=
  sg_hand_word (m := ⟨12, 36⟩) (by decide +kernel) rfl (by decide +kernel) (by decide +kernel)
theorem gap1.code161 : (Jvm.Cond.code (⟨"SegmentFormsModel", "fault", "(I)I"⟩ : Jvm.MethodName) prog_12_method_41_code 2 (some .int)).before args0 about = true :=
  sg_hand_word (m := ⟨12, 40⟩) (by decide +kernel) rfl (by decide +kernel) (by decide +kernel)
theorem gap1.code162 : (Jvm.Cond.code (⟨"SegmentFormsModel", "build", "()I"⟩ : Jvm.MethodName) prog_12_method_48_code 6 (some .int)).before args0 about = true :=
  sg_hand_word (m := ⟨12, 47⟩) (by decide +kernel) rfl (by decide +kernel) (by decide +kernel)
theorem gap1.code163 : (Jvm.Cond.code (⟨"SegmentFormsModel", "put", "(I)V"⟩ : Jvm.MethodName) prog_12_method_42_code 2 none).before args0 about = true :=
  sg_hand_word (m := ⟨12, 41⟩) (by decide +kernel) rfl (by decide +kernel) (by decide +kernel)
theorem gap1.code164 : (Jvm.Cond.code (⟨"SegmentFormsModel", "fullElements", "(I)I"⟩ : Jvm.MethodName) prog_12_method_46_code 3 (some .int)).before args0 about = true :=
  sg_hand_word (m := ⟨12, 45⟩) (by decide +kernel) rfl (by decide +kernel) (by decide +kernel)
theorem gap1.code165 : (Jvm.Cond.code (⟨"SegmentFormsModel", "fullRepeats", "(II)I"⟩ : Jvm.MethodName) prog_12_method_45_code 4 (some .int)).before args0 about = true :=
  sg_hand_word (m := ⟨12, 44⟩) (by decide +kernel) rfl (by decide +kernel) (by decide +kernel)
theorem gap1.code166 : (Jvm.Cond.code (⟨"SegmentFormsModel", "fullComponents", "(III)I"⟩ : Jvm.MethodName) prog_12_method_44_code 5 (some .int)).before args0 about = true :=
  sg_hand_word (m := ⟨12, 43⟩) (by decide +kernel) rfl (by decide +kernel) (by decide +kernel)
theorem gap1.code167 : (Jvm.Cond.code (⟨"SegmentFormsModel", "putRepeat", "(III)V"⟩ : Jvm.MethodName) prog_12_method_47_code 8 none).before args0 about = true :=
  sg_hand_word (m := ⟨12, 46⟩) (by decide +kernel) rfl (by decide +kernel) (by decide +kernel)
theorem gap1.code168 : (Jvm.Cond.code (⟨"SegmentFormsModel", "isService", "(I)Z"⟩ : Jvm.MethodName) prog_12_method_43_code 3 (some .boolean)).before args0 about = true :=
  sg_hand_word (m := ⟨12, 42⟩) (by decide +kernel) rfl (by decide +kernel) (by decide +kernel)
theorem gap1.code169 : (Jvm.Cond.code (⟨"SegmentFormsModel", "at", "(I)I"⟩ : Jvm.MethodName) prog_12_method_49_code 2 (some .int)).before args0 about = true :=
  sg_hand_word (m := ⟨12, 48⟩) (by decide +kernel) rfl (by decide +kernel) (by decide +kernel)
theorem gap1.code170 : (Jvm.Cond.code (⟨"SegmentFormsModel", "count", "(I)I"⟩ : Jvm.MethodName) prog_12_method_50_code 2 (some .int)).before args0 about = true :=
  sg_hand_word (m := ⟨12, 49⟩) (by decide +kernel) rfl (by decide +kernel) (by decide +kernel)
/-! ALONE the witness, part 20, behind gap1.c11 gap1.code133 -/
set_option maxRecDepth 16384 in
theorem gap1.codes_are_5 : tables_1_5.filter sg_isCode = [Jvm.Cond.code (⟨"SegmentFormsModel", "readTag", "()V"⟩ : Jvm.MethodName) prog_12_method_11_code 4 none,
    Jvm.Cond.code (⟨"SegmentFormsModel", "readElement", "()V"⟩ : Jvm.MethodName) prog_12_method_15_code 3 none,
    Jvm.Cond.code (⟨"SegmentFormsModel", "openRepeat", "()V"⟩ : Jvm.MethodName) prog_12_method_13_code 1 none,
    Jvm.Cond.code (⟨"SegmentFormsModel", "openComponent", "()V"⟩ : Jvm.MethodName) prog_12_method_12_code 1 none,
    Jvm.Cond.code (⟨"SegmentFormsModel", "take", "(I)V"⟩ : Jvm.MethodName) prog_12_method_14_code 2 none,
    Jvm.Cond.code (⟨"SegmentFormsModel", "forget", "(I)V"⟩ : Jvm.MethodName) prog_12_method_18_code 2 none,
    Jvm.Cond.code (⟨"SegmentFormsModel", "segment", "(II)I"⟩ : Jvm.MethodName) prog_12_method_25_code 3 (some .int),
    Jvm.Cond.code (⟨"SegmentFormsModel", "isSegment", "(I)Z"⟩ : Jvm.MethodName) prog_12_method_19_code 2 (some .boolean),
    Jvm.Cond.code (⟨"SegmentFormsModel", "elementsOf", "(I)I"⟩ : Jvm.MethodName) prog_12_method_20_code 2 (some .int),
    Jvm.Cond.code (⟨"SegmentFormsModel", "repeats", "(II)I"⟩ : Jvm.MethodName) prog_12_method_26_code 3 (some .int),
    Jvm.Cond.code (⟨"SegmentFormsModel", "repeatsOf", "(II)I"⟩ : Jvm.MethodName) prog_12_method_21_code 4 (some .int),
    Jvm.Cond.code (⟨"SegmentFormsModel", "components", "(III)I"⟩ : Jvm.MethodName) prog_12_method_27_code 4 (some .int),
    Jvm.Cond.code (⟨"SegmentFormsModel", "componentsOf", "(III)I"⟩ : Jvm.MethodName) prog_12_method_22_code 5 (some .int),
    Jvm.Cond.code (⟨"SegmentFormsModel", "field", "(IIII)I"⟩ : Jvm.MethodName) prog_12_method_28_code 6 (some .int),
    Jvm.Cond.code (⟨"SegmentFormsModel", "componentAt", "(IIII)I"⟩ : Jvm.MethodName) prog_12_method_23_code 5 (some .int),
    Jvm.Cond.code (⟨"SegmentFormsModel", "longOf", "(I)I"⟩ : Jvm.MethodName) prog_12_method_24_code 2 (some .int),
    Jvm.Cond.code (⟨"SegmentFormsModel", "letter", "(IIIII)I"⟩ : Jvm.MethodName) prog_12_method_29_code 7 (some .int),
    Jvm.Cond.code (⟨"SegmentFormsModel", "row", "(IIIII)I"⟩ : Jvm.MethodName) prog_12_method_31_code 9 (some .int),
    Jvm.Cond.code (⟨"SegmentFormsModel", "isTag", "(I)Z"⟩ : Jvm.MethodName) prog_12_method_30_code 4 (some .boolean),
    Jvm.Cond.code (⟨"SegmentFormsModel", "check", "()I"⟩ : Jvm.MethodName) prog_12_method_40_code 2 (some .int),
    Jvm.Cond.code (⟨"SegmentFormsModel", "checked", "()I"⟩ : Jvm.MethodName) prog_12_method_39_code 4 (some .int),
    Jvm.Cond.code (⟨"SegmentFormsModel", "isCount", "(I)Z"⟩ : Jvm.MethodName) prog_12_method_32_code 4 (some .boolean),
    Jvm.Cond.code (⟨"SegmentFormsModel", "alike", "(II)Z"⟩ : Jvm.MethodName) prog_12_method_33_code 4 (some .boolean),
    Jvm.Cond.code (⟨"SegmentFormsModel", "kindOf", "()I"⟩ : Jvm.MethodName) prog_12_method_34_code 3 (some .int),
    Jvm.Cond.code (⟨"SegmentFormsModel", "unknown", "(I)I"⟩ : Jvm.MethodName) prog_12_method_36_code 5 (some .int),
    Jvm.Cond.code (⟨"SegmentFormsModel", "wrong", "(III)I"⟩ : Jvm.MethodName) prog_12_method_35_code 4 (some .int),
    Jvm.Cond.code (⟨"SegmentFormsModel", "walk", "(I)I"⟩ : Jvm.MethodName) prog_12_method_38_code 8 (some .int),
    Jvm.Cond.code (⟨"SegmentFormsModel", "nextRow", "(III)I"⟩ : Jvm.MethodName) prog_12_method_37_code 5 (some .int),
    Jvm.Cond.code (⟨"SegmentFormsModel", "fault", "(I)I"⟩ : Jvm.MethodName) prog_12_method_41_code 2 (some .int),
    Jvm.Cond.code (⟨"SegmentFormsModel", "build", "()I"⟩ : Jvm.MethodName) prog_12_method_48_code 6 (some .int),
    Jvm.Cond.code (⟨"SegmentFormsModel", "put", "(I)V"⟩ : Jvm.MethodName) prog_12_method_42_code 2 none,
    Jvm.Cond.code (⟨"SegmentFormsModel", "fullElements", "(I)I"⟩ : Jvm.MethodName) prog_12_method_46_code 3 (some .int),
    Jvm.Cond.code (⟨"SegmentFormsModel", "fullRepeats", "(II)I"⟩ : Jvm.MethodName) prog_12_method_45_code 4 (some .int),
    Jvm.Cond.code (⟨"SegmentFormsModel", "fullComponents", "(III)I"⟩ : Jvm.MethodName) prog_12_method_44_code 5 (some .int),
    Jvm.Cond.code (⟨"SegmentFormsModel", "putRepeat", "(III)V"⟩ : Jvm.MethodName) prog_12_method_47_code 8 none,
    Jvm.Cond.code (⟨"SegmentFormsModel", "isService", "(I)Z"⟩ : Jvm.MethodName) prog_12_method_43_code 3 (some .boolean),
    Jvm.Cond.code (⟨"SegmentFormsModel", "at", "(I)I"⟩ : Jvm.MethodName) prog_12_method_49_code 2 (some .int),
    Jvm.Cond.code (⟨"SegmentFormsModel", "count", "(I)I"⟩ : Jvm.MethodName) prog_12_method_50_code 2 (some .int)] := by
  first
  | rfl
  | simp only [tables_1_5, List.filter, sg_isCode]
theorem gap1.codes_hold_5 : ∀ c ∈ tables_1_5.filter sg_isCode, c.before args0 about = true := by
  rw [codes_are_5]
  exact List.forall_mem_cons.mpr ⟨code133, List.forall_mem_cons.mpr ⟨code134, List.forall_mem_cons.mpr ⟨code135, List.forall_mem_cons.mpr ⟨code136, List.forall_mem_cons.mpr ⟨code137, List.forall_mem_cons.mpr ⟨code138, List.forall_mem_cons.mpr ⟨code139, List.forall_mem_cons.mpr ⟨code140, List.forall_mem_cons.mpr ⟨code141, List.forall_mem_cons.mpr ⟨code142, List.forall_mem_cons.mpr ⟨code143, List.forall_mem_cons.mpr ⟨code144, List.forall_mem_cons.mpr ⟨code145, List.forall_mem_cons.mpr ⟨code146, List.forall_mem_cons.mpr ⟨code147, List.forall_mem_cons.mpr ⟨code148, List.forall_mem_cons.mpr ⟨code149, List.forall_mem_cons.mpr ⟨code150, List.forall_mem_cons.mpr ⟨code151, List.forall_mem_cons.mpr ⟨code152, List.forall_mem_cons.mpr ⟨code153, List.forall_mem_cons.mpr ⟨code154, List.forall_mem_cons.mpr ⟨code155, List.forall_mem_cons.mpr ⟨code156, List.forall_mem_cons.mpr ⟨code157, List.forall_mem_cons.mpr ⟨code158, List.forall_mem_cons.mpr ⟨code159, List.forall_mem_cons.mpr ⟨code160, List.forall_mem_cons.mpr ⟨code161, List.forall_mem_cons.mpr ⟨code162, List.forall_mem_cons.mpr ⟨code163, List.forall_mem_cons.mpr ⟨code164, List.forall_mem_cons.mpr ⟨code165, List.forall_mem_cons.mpr ⟨code166, List.forall_mem_cons.mpr ⟨code167, List.forall_mem_cons.mpr ⟨code168, List.forall_mem_cons.mpr ⟨code169, List.forall_mem_cons.mpr ⟨code170, List.forall_mem_nil _⟩⟩⟩⟩⟩⟩⟩⟩⟩⟩⟩⟩⟩⟩⟩⟩⟩⟩⟩⟩⟩⟩⟩⟩⟩⟩⟩⟩⟩⟩⟩⟩⟩⟩⟩⟩⟩⟩
set_option maxRecDepth 16384 in
theorem gap1.others_5_0 : (tables_1_5.take 40).all (fun c => sg_isCode c || c.before args0 about) = true := by decide +kernel
set_option maxRecDepth 16384 in
theorem gap1.others_5_1 : ((tables_1_5.drop 40).take 40).all (fun c => sg_isCode c || c.before args0 about) = true := by decide +kernel
/-! ALONE the witness, part 21, behind gap1.c11 gap1.others_1_4 gap1.others_2_4 gap1.others_3_4 gap1.others_4_4 gap1.codes_are_5 -/
set_option maxRecDepth 16384 in
theorem gap1.others_5_2 : (((tables_1_5.drop 40).drop 40).take 40).all (fun c => sg_isCode c || c.before args0 about) = true := by decide +kernel
set_option maxRecDepth 16384 in
theorem gap1.others_5_3 : (((tables_1_5.drop 40).drop 40).drop 40).all (fun c => sg_isCode c || c.before args0 about) = true := by decide +kernel
theorem gap1.others_hold_5 : tables_1_5.all (fun c => sg_isCode c || c.before args0 about) = true := sg_all_split _ 40 tables_1_5 others_5_0 (sg_all_split _ 40 (tables_1_5.drop 40) others_5_1 (sg_all_split _ 40 ((tables_1_5.drop 40).drop 40) others_5_2 others_5_3))
theorem gap1.words_5 : ∀ c ∈ tables_1_5, c.before args0 about = true := fun c h => sg_words others_hold_5 codes_hold_5 c h
theorem gap1.words : ∀ c ∈ (Cond.code x code maxLocals ret :: tables_1), c.before args0 about = true := by
  intro c hc
  rcases List.mem_cons.mp hc with h | h
  · rw [h]; exact word_code
  · have h1 : c ∈ tables_1_1 ++ (tables_1_2 ++ (tables_1_3 ++ (tables_1_4 ++ tables_1_5))) := h
    rcases List.mem_append.mp h1 with h2 | h1
    · exact words_1 c h2
    rcases List.mem_append.mp h1 with h2 | h1
    · exact words_2 c h2
    rcases List.mem_append.mp h1 with h2 | h1
    · exact words_3 c h2
    rcases List.mem_append.mp h1 with h2 | h1
    · exact words_4 c h2
    exact words_5 c h1
set_option maxRecDepth 16384 in
theorem gap1.atStart : AtStart classFile x code maxLocals ret World_1 tables_1 room_1 Calls_1 rest_1 Pre_1 launch0 p0 e0 about ⟨0, 0⟩ args0 Lib.HandBits.below0 :=
  ⟨lists_1, trivial, launch0.admits_env _ _ _, launch0.least_env, fairChoices_fair.cas, fairChoices_fair.clock, rfl, by decide +kernel, by decide +kernel,
    (Spec.applies_iff rfl).mpr ⟨rfl, rfl, rfl, by decide +kernel, by decide +kernel, by decide +kernel, launch0.hasRoom_least _ room_1 (by decide +kernel) (by decide +kernel) (by decide +kernel) (by decide +kernel) (by decide +kernel) (by decide +kernel), atoms_intro words⟩,
    trivial, (show rest_1_c.before args0 about = true by decide +kernel), (show (Cond.and given_1 narrow_1).before args0 about = true by decide +kernel)⟩
/-! ALONE the witness: its end, behind gap1.mLaw gap1.c11 gap1.code0 gap1.codes_are_1 gap1.others_1_2 gap1.others_1_4 gap1.code16 gap1.codes_are_2 gap1.others_2_2 gap1.others_2_4 gap1.code66 gap1.codes_are_3 gap1.others_3_2 gap1.others_3_4 gap1.code108 gap1.codes_are_4 gap1.others_4_2 gap1.others_4_4 gap1.code133 gap1.codes_are_5 gap1.others_5_2 -/
end
section
/-! THE START OF PART 95 NEVER ENDS -/
def dd_Q : am_QT := fun p e _ _ below _ _ _ => dd_D p e below
/-- a method that never ends, over a world -/
def dd_A (X : am_X) (M : am_M) (d mc ms : Nat) (As : List Value) (ws : va_W) : Prop :=
  ∀ sz : Nat, dd_Met (am_l X) (am_y M) (headSpec (am_ws M) (am_rm d mc ms)) (va_Pc As (fun U => U.heap.size = sz ∧ va_P (am_D X) am_cl ws U.heap ∧ va_D (fun _ => True) ws ∧ am_Gt X (va_A ws sz) U U.heap))
theorem dd_A.of {X : am_X} {M : am_M} {d mc ms : Nat} {As : List Value} {ws : va_W} (hy : plainName (am_y M).cls = true) (hh : am_hh M = []) (hl : As.length ≤ am_nL M) (hc : ∀ v ∈ As, v.category = 1)
    (h : AW X M d mc ms 0 (As ++ List.replicate (am_nL M - As.length) (.retAddr 0)) [] ws dd_Q) : dd_A X M d mc ms As ws := by
  intro sz
  have hsl : ∀ As : List Value, (∀ v ∈ As, v.category = 1) → lg_sl As = As.map Slot.val := by
    intro As
    induction As with
    | nil => intro _; rfl
    | cons a t ih =>
      intro hc
      have h1 := ih (fun v hv => hc v (List.mem_cons_of_mem _ hv))
      have h2 : ¬ a.category = 2 := by rw [hc a List.mem_cons_self]; decide
      simp only [lg_sl, List.flatMap_cons, if_neg h2, List.map_cons] at h1 ⊢
      rw [h1]; rfl
  have hlen : (lg_sl As).length = As.length := by rw [hsl As hc, List.length_map]
  have hcw : am_cw M = Cond.code (am_y M) (am_c M) (am_nL M) (am_ret M) := by unfold am_cw; rw [hh]
  refine dd_ofW (cc := am_c M) (maxL := am_nL M) (ret := am_ret M) hy (by show am_cw M :: am_tbl = _; rw [hcw]) ?_
  intro p e s m args below meth c s₁ B hml hv
  obtain ⟨rfl, hsz, hP, hD0, hG⟩ := hv
  subst hsz
  have hts : ∀ w ∈ am_ws M, w.before As.toArray s = true := atoms_spec (ws := am_ws M) B.pre
  have ht : c.exceptionTable.toList = tableOf (am_hh M) := by
    obtain ⟨meth9, c9, h1, h2, -, -, -, -, h7, -⟩ := Cond.code_spec B.named (by have := hts _ List.mem_cons_self; rw [hcw] at this; exact this)
    cases Option.some.inj (h1.symm.trans B.method)
    cases Option.some.inj (h2.symm.trans (Stand.of_body B).code)
    rw [hh, Array.isEmpty_iff.mp h7]; rfl
  rw [lg_entry_eq]
  have hL := lv_entry As (n := am_nL M) (by rw [hlen]; exact hl)
  refine h p e _ s m As.toArray below meth c s.heap [] 0 0 _ (va_A ws s.heap.size) mc ms ⟨B.exec, B.bytes, B.returns, hml, findClass_of_methodNamed B.named, fun w hw => hts w (List.mem_cons_of_mem _ hw), B.notSynchronized, ht, (name_of_methodNamed B.named B.method).1⟩ hG (fun q hq => Or.inr hq) (Nat.le_refl _) (Nat.le_refl _) (by omega) (by omega) (Nat.le_refl _) (Nat.le_refl _) hP (hD0.self (sz := s.heap.size)) va_S.rf ?_
  refine ⟨hL.1, hL.2.1, by rw [List.length_append, List.length_replicate]; omega, fun v hv => ?_, fun i v hi hne => ?_⟩
  · rcases List.mem_append.mp hv with h1 | h1
    · exact hc v h1
    · rw [(List.mem_replicate.mp h1).2]; rfl
  · by_cases hi2 : i < As.length
    · rw [List.getElem?_append_left hi2] at hi
      rw [hsl As hc, List.getElem?_toArray, List.getElem?_append_left (by rw [List.length_map]; exact hi2), List.getElem?_map, hi]; rfl
    · rw [List.getElem?_append_right (by omega)] at hi
      have := List.mem_replicate.mp (List.mem_of_getElem? hi)
      exact absurd this.2 hne
section DdWalk
variable {X : am_X} {M M' : am_M} {d d' mc ms mc' ms' pc : Nat} {ls st : List Value} {ws : va_W}
theorem aw_deadI {idx n a : Nat} {As rest : List Value} (hd : decode (am_c M) pc = .ok (.invokespecial idx, 3)) (hl : am_ci (am_y M).cls idx M' n) (hC : dd_A X M' d' mc' ms' (.ref a :: As) ws) (hn : As.length = n) (hdd : d' + 1 ≤ d) (hrest : (rest.map fun v => v.category).sum ≤ 8) : AW X M d mc' ms' pc ls (As.reverse ++ .ref a :: rest) ws dd_Q := by
  intro p e R s m args below meth c H locs cells slots L A kc ks a1 a2 a3 a4 a5 a6 a7 a8 a9 a10 a11 a12 a13
  obtain ⟨hb, hi, hnm, hret⟩ := hl
  have hpre := am_pre (As := .ref a :: As) a2 a3 a10 a11 a12
  obtain ⟨-, -, hfr, hlo, hws, hcw, hcode, hini, hy, hlen, hlink⟩ := am_CallB (M := M) (mc := mc') (ms := ms') a1.2.2.2.2.2.1 hb hdd a4 a5
  rw [hret] at hcode hcw
  intro T hT XX
  have hpl : e.platform.magicAccessors = ({} : Platform).magicAccessors := by rw [XX.admits.platform]
  obtain ⟨mk, methM, cM, kP, vm₁, hnamed, hmethM, hcodeM, -, hlocalsM, -, hkP, -, hW₁, hstep₁⟩ := Steps.initColdArgs (e := e) XX.here a1.1 XX.warmed hpl a1.2.2.2.2.1 hnm hy hlink (a1.2.2.2.2.2.1 _ hi) hcode (f := F0 m pc L (As.reverse ++ .ref a :: rest)) rfl (argsL := As) (rest := rest) (fun sig h => hn.trans (hlen sig h)) rfl (by rw [a1.2.1]; exact hd)
  have X₁ := XX.noted hW₁
  have hdead := dd_back (hC H.size) (R := R) (W9 := 8) hfr hlo (by show cells + mc' ≤ _; omega) (by show slots + ms' ≤ _; omega) hws hcw (fun a' U hW => am_word hW (by rfl) hini) X₁ (g := { F0 m pc L (As.reverse ++ .ref a :: rest) with stack := rest }) rfl (by rw [a1.2.2.2.1]; exact a13.1) (by rw [a1.2.1]; exact hd) (lv_room hrest) (X₁.named hnamed) (a := (Value.ref a :: As).toArray) (hpre.1 _ _ _ _ (hpre.2 (T.setVm vm₁) hT hW₁))
  exact ⟨_, hstep₁ _ (fun acts => by rw [doInvoke_state]; exact Steps.refl _), hdead []⟩
/-- UNTOLD.clone() at that start -/
theorem aw_deadClone {idx : Nat} {rest : List Value} (hok : am_ok X = 2) (hd : decode (am_c M) pc = .ok (.invokevirtual idx, 3)) (w1 : Cond.methodLink (am_y M).cls idx ⟨"[I", "clone", "()Ljava/lang/Object;"⟩ ∈ am_tbl) (w2 : Cond.sameMethod "[I" "java/lang/Object" "clone" "()Ljava/lang/Object;" ∈ am_tbl) (w3 : Cond.native ⟨"java/lang/Object", "clone", "()Ljava/lang/Object;"⟩ ∈ am_tbl) (w4 : Cond.instanceMethod ⟨"java/lang/Object", "clone", "()Ljava/lang/Object;"⟩ ∈ am_tbl)
    (hdd : 1 ≤ d) (hrest : (rest.map fun v => v.category).sum ≤ 8) : AW X M d mc ms pc ls (.ref (am_U X) :: rest) ws dd_Q := by
  intro p e R s m args below meth c H locs cells slots L A kc ks a1 a2 a3 a4 a5 a6 a7 a8 a9 a10 a11 a12 a13
  obtain ⟨g1, g2, cell, g3, g4, g5, g6⟩ := (a2.2.2.2.2.2.2.2.2.2.2.2.2 hok).to (State.WarmedH.refl s) a12.2.1 (fun _ h => h)
  have hts := a1.2.2.2.2.2.1
  obtain ⟨r0, r, hnO, hmO, hstO, -⟩ := Cond.instanceMethod_spec (hts _ w4)
  obtain ⟨c2, r2, m2, q1, q2, q3, q4, kP, hkP, hkPi⟩ := Cond.selects_spec (g2 _ (List.mem_cons_self))
  cases g1.symm.trans q1
  cases (State.methodFound?_of_named hnO (by decide)).symm.trans q2
  have wc : (Cond.code gx_y ⟨#[0xa7, 0, 0]⟩ 1 (some (.object "java/lang/Object"))).before #[] s = true := g2 _ (List.mem_cons_of_mem _ List.mem_cons_self)
  have wi : (Cond.initialized "GapInts").before #[] s = true := g2 _ (List.mem_cons_of_mem _ (List.mem_cons_of_mem _ List.mem_cons_self))
  have wm : (Cond.instanceMethod gx_y).before #[] s = true := g2 _ (List.mem_cons_of_mem _ (List.mem_cons_of_mem _ (List.mem_cons_of_mem _ List.mem_cons_self)))
  obtain ⟨mk, methK, hnK, hmK, hstK, habK⟩ := Cond.instanceMethod_spec wm
  cases q3.symm.trans hnK
  have hG : ∀ sz : Nat, dd_Met (am_l X) gx_y (headSpec [Cond.code gx_y ⟨#[0xa7, 0, 0]⟩ 1 (some (.object "java/lang/Object"))] (am_rm 0 0 0)) (fun _ _ => True) := by
    intro _
    refine dd_ofW (cc := ⟨#[0xa7, 0, 0]⟩) (maxL := 1) (ret := some (.object "java/lang/Object")) (by decide) rfl ?_
    intro p e s m args below meth c s₁ B hml _ T hT X
    exact ⟨_, Steps.refl _, dd_loop B.exec X.here (g := entryFrame m args 1) rfl (by rw [B.bytes]; show decode ⟨#[0xa7, 0, 0]⟩ 0 = _; decide +kernel)⟩
  intro T hT XX
  have hsel : selectMethod e.platform s.vm cell.cls r0 = .method m2 := by rw [Launch.admits_selectMethod XX.admits, g4]; exact q4
  have hsig : r.sig.parameters.length = 0 := by
    obtain ⟨r9, kO, methO, hn9, hm9, hkO, N⟩ := NativeOf.of_instance (hts _ w3) (hts _ w4) (ps := []) (ret := some (.object "java/lang/Object")) (by decide +kernel)
    cases hnO.symm.trans hn9
    cases hmO.symm.trans hm9
    rw [N.sig]; rfl
  obtain ⟨vm', X', step⟩ := XX.invokevirtualUp a1.1 a1.2.2.2.2.1 (hts _ w1) (hts _ w2) (by decide) hnO hmO hstO (a := am_U X) (cell := cell) (by rw [hT]; exact g3) (fun k h => by rw [h] at g5; cases g5) hsel hmK habK hkP hkPi (g := F0 m pc L (.ref (am_U X) :: rest)) rfl (argsL := []) (rest := rest) hsig.symm rfl (by rw [a1.2.1]; exact hd)
  have hdead := dd_back (hG 0) (R := R) (W9 := 8) (by show 0 + 1 ≤ _; omega) (by show 8 + (1 + 11) + 64 * 0 ≤ _; omega) (by show cells + 0 ≤ _; omega) (by show slots + 0 ≤ _; omega) (s := s) (fun w hw a' U hW => by
      rcases List.mem_singleton.mp hw with rfl
      exact am_word hW (by rfl) wc) List.mem_cons_self (fun a' U hW => am_word hW (by rfl) wi) X' (g := { F0 m pc L (.ref (am_U X) :: rest) with stack := rest }) rfl (by rw [a1.2.2.2.1]; exact a13.1) (by rw [a1.2.1]; exact hd) (lv_room hrest) (X'.named hnK) (a := #[Value.ref (am_U X)]) trivial
  exact ⟨_, step _ (fun acts => by rw [doInvoke_state]; exact Steps.refl _), hdead []⟩
end DdWalk

/-- SignRow(): the row and its length -/
theorem am_SignRow_init {X : am_X} {a : Nat} {ws : va_W} {q0 : Nat} (hq : ws[q0]? = some (a, .inr (6, [.null, .int 0]))) (hlt : q0 < ws.length) :
    AMet X (y_SignRow_init, c_SignRow_init, 1, none, []) 1 1 1500 [.ref a] ws (fun o w => o = .inl none ∧ ∃ q : Nat, w = ((ws ++ [(q, (Sum.inl (am_I X, 1500, Sum.inl (fun _ => 0)) : va_E))]).set q0 (a, (Sum.inr (6, [.ref q, .int 0]) : va_E)))) := by
  have f9 : am_fl "SegmentForms$SignRow" 9 6 0 true (.array .int) := ⟨R_SignRow, T_SignRow, 2, ty_SignRow, rfl, by decide, by decide +kernel, by decide +kernel, ty_SignRow_ok, rfl, nm_SignRow, rfl⟩
  have f15 : am_fl "SegmentForms$SignRow" 15 6 1 false .int := ⟨R_SignRow, T_SignRow, 2, ty_SignRow, rfl, by decide, by decide +kernel, by decide +kernel, ty_SignRow_ok, rfl, nm_SignRow, rfl⟩
  refine AMet.of (by decide) (Nat.le_of_ble_eq_true rfl) (by simp [Value.category]) ?_
  refine aw_aload_n d_SignRow_init_0 rfl ?_
  refine aw_objInit d_SignRow_init_1 (by decide +kernel) (by decide +kernel) (by decide +kernel) (by decide) (by decide) ?_
  refine aw_aload_n d_SignRow_init_4 rfl ?_
  refine aw_sipush d_SignRow_init_5 rfl ?_
  refine aw_newi (mc := 0) (ms := 0) (N := 1500) d_SignRow_init_8 (by decide) (by decide) (by decide +kernel) (fun q => ?_)
  have hq1 : (ws ++ [(q, (Sum.inl (am_I X, 1500, Sum.inl (fun _ => 0)) : va_E))])[q0]? = some (a, .inr (6, [.null, .int 0])) := by rw [List.getElem?_append_left hlt]; exact hq
  refine aw_putF d_SignRow_init_10 f9 ⟨T_SignRow, 2, rfl, rfl⟩ rfl q0 hq1 rfl rfl (by decide) ?_
  refine aw_aload_n d_SignRow_init_13 rfl ?_
  refine aw_iconst d_SignRow_init_14 rfl ?_
  refine aw_putf d_SignRow_init_15 f15 q0 (fs := [.ref q, .int 0]) (by rw [List.getElem?_set_self (by rw [List.length_append]; omega)]; rfl) rfl rfl (Nat.le_of_ble_eq_true rfl) ?_
  refine aw_vret d_SignRow_init_18 rfl ⟨rfl, q, ?_⟩
  rw [List.set_set]; rfl
/-- ServiceSigns() never ends there -/
theorem dd_ServiceSigns_init {X : am_X} (hok : am_ok X = 2) {a : Nat} {ws : va_W} : dd_A X (y_ServiceSigns_init, c_ServiceSigns_init, 1, none, []) 1 0 0 [.ref a] ws := by
  refine dd_A.of (by decide) rfl (Nat.le_of_ble_eq_true rfl) (by simp [Value.category]) ?_
  refine aw_aload_n d_ServiceSigns_init_0 rfl ?_
  refine aw_objInit d_ServiceSigns_init_1 (by decide +kernel) (by decide +kernel) (by decide +kernel) (by decide) (by decide) ?_
  refine aw_aload_n d_ServiceSigns_init_4 rfl ?_
  refine aw_gets d_ServiceSigns_init_5 (by decide +kernel) ?_
  exact aw_deadClone hok d_ServiceSigns_init_8 (by decide +kernel) (by decide +kernel) (by decide +kernel) (by decide +kernel) (by decide) (Nat.le_of_ble_eq_true rfl)

abbrev dd_row (X : am_X) : am_M := (y_SignRow_init, c_SignRow_init, 1, none, [])
/-- SegmentForms() never ends there -/
theorem dd_Forms_init {X : am_X} (hok : am_ok X = 2) {a : Nat} {ws : va_W} {q0 : Nat} (hq : ws[q0]? = some (a, .inr (8, [.null, .null, .null, .null, .null, .null, .null, .null]))) : dd_A X (y_Forms_init, c_Forms_init, 2, none, []) 2 5 3005 [.ref a] ws := by
  have hlt : q0 < ws.length := (List.getElem?_eq_some_iff.mp hq).1
  have f10 : am_fl "SegmentForms" 10 8 0 true (.object "SegmentForms$SignRow") := ⟨R_Forms, T_Forms, 8, ty_Forms, rfl, by decide, by decide +kernel, by decide +kernel, ty_Forms_ok, rfl, nm_Forms, rfl⟩
  have f16 : am_fl "SegmentForms" 16 8 1 true (.object "SegmentForms$SignRow") := ⟨R_Forms, T_Forms, 8, ty_Forms, rfl, by decide, by decide +kernel, by decide +kernel, ty_Forms_ok, rfl, nm_Forms, rfl⟩
  have c9 : am_ci "SegmentForms" 9 (y_SignRow_init, c_SignRow_init, 1, none, []) 0 := ⟨⟨by decide +kernel, by decide +kernel, by decide +kernel, rfl, by decide +kernel, by decide +kernel, by decide⟩, by decide +kernel, rfl, rfl⟩
  have c21 : am_ci "SegmentForms" 21 (y_ServiceSigns_init, c_ServiceSigns_init, 1, none, []) 0 := ⟨⟨by decide +kernel, by decide +kernel, by decide +kernel, rfl, by decide +kernel, by decide +kernel, by decide⟩, by decide +kernel, rfl, rfl⟩
  refine dd_A.of (by decide) rfl (Nat.le_of_ble_eq_true rfl) (by simp [Value.category]) ?_
  refine aw_aload_n d_Forms_init_0 rfl ?_
  refine aw_objInit d_Forms_init_1 (by decide +kernel) (by decide +kernel) (by decide +kernel) (by decide) (Nat.le_of_ble_eq_true rfl) ?_
  refine aw_aload_n d_Forms_init_4 rfl ?_
  refine aw_new (ci := 6) (mc := 4) (ms := 3003) (fs := [.null, .int 0]) d_Forms_init_5 rfl (by decide +kernel) ty_SignRow_ok (by decide +kernel) (by decide +kernel) (by decide +kernel) (fun j hj => by rcases (show j = 0 ∨ j = 1 by omega) with rfl | rfl <;> rfl) (fun q1 => ?_)
  refine aw_dup d_Forms_init_8 rfl ?_
  refine aw_callI (As := []) (mc := 3) (ms := 1503) d_Forms_init_9 c9 (am_SignRow_init (q0 := ws.length) (by simp) (by simp)) rfl (by decide) (Nat.le_of_ble_eq_true rfl) (fun v w1 hw1 => ?_) (fun E w h => by cases h.1)
  obtain ⟨hv, r1, rfl⟩ := hw1
  cases hv
  refine aw_putF d_Forms_init_12 f10 ⟨T_Forms, 8, rfl, rfl⟩ rfl q0 (fs := [.null, .null, .null, .null, .null, .null, .null, .null]) (by rw [List.getElem?_set_ne (by omega), List.getElem?_append_left (by rw [List.length_append]; omega), List.getElem?_append_left hlt]; exact hq) rfl rfl (Nat.le_of_ble_eq_true rfl) ?_
  refine aw_aload_n d_Forms_init_15 rfl ?_
  refine aw_new (ci := 6) (mc := 2) (ms := 1501) (fs := [.null, .int 0]) d_Forms_init_16 rfl (by decide +kernel) ty_SignRow_ok (by decide +kernel) (by decide +kernel) (by decide +kernel) (fun j hj => by rcases (show j = 0 ∨ j = 1 by omega) with rfl | rfl <;> rfl) (fun q2 => ?_)
  refine aw_dup d_Forms_init_19 rfl ?_
  refine aw_callI (As := []) (mc := 1) (ms := 1) d_Forms_init_20 c9 (am_SignRow_init (q0 := ws.length + 2) (by simp) (by simp)) rfl (by decide) (Nat.le_of_ble_eq_true rfl) (fun v w2 hw2 => ?_) (fun E w h => by cases h.1)
  obtain ⟨hv, r2, rfl⟩ := hw2
  cases hv
  refine aw_putF d_Forms_init_23 f16 ⟨T_Forms, 8, rfl, rfl⟩ rfl q0 (fs := [.ref q1, .null, .null, .null, .null, .null, .null, .null]) (by rw [List.getElem?_set_ne (by omega), List.getElem?_append_left (by simp; omega), List.getElem?_append_left (by simp; omega), List.getElem?_set_self (by simp; omega)]; rfl) rfl rfl (Nat.le_of_ble_eq_true rfl) ?_
  refine aw_aload_n d_Forms_init_26 rfl ?_
  refine aw_new (ci := 5) (mc := 0) (ms := 0) (fs := [.null]) d_Forms_init_27 rfl (by decide +kernel) ty_ServiceSigns_ok (by decide +kernel) (by decide +kernel) (by decide +kernel) (fun j hj => by rcases (show j = 0 by omega) with rfl; rfl) (fun q3 => ?_)
  refine aw_dup d_Forms_init_30 rfl ?_
  exact aw_deadI (As := []) d_Forms_init_31 c21 (dd_ServiceSigns_init hok) rfl (by decide) (Nat.le_of_ble_eq_true rfl)
/-- the law never ends there -/
theorem dd_Law_law {X : am_X} (hok : am_ok X = 2) : dd_A X (y_Law_law, c_Law_law, 7, (some .boolean), []) 3 6 3013 [.ref (am_b X)] [] := by
  have c50 : am_ci "SegmentFormsLaw" 50 (y_Forms_init, c_Forms_init, 2, none, []) 0 := ⟨⟨by decide +kernel, by decide +kernel, by decide +kernel, rfl, by decide +kernel, by decide +kernel, by decide⟩, by decide +kernel, rfl, rfl⟩
  refine dd_A.of (by decide) rfl (Nat.le_of_ble_eq_true rfl) (by simp [Value.category]) ?_
  refine aw_new (ci := 8) (mc := 5) (ms := 3005) (fs := [.null, .null, .null, .null, .null, .null, .null, .null]) d_Law_law_0 rfl (by decide +kernel) ty_Forms_ok (by decide +kernel) (by decide +kernel) (by decide +kernel) (fun j hj => by rcases (show j = 0 ∨ j = 1 ∨ j = 2 ∨ j = 3 ∨ j = 4 ∨ j = 5 ∨ j = 6 ∨ j = 7 by omega) with rfl | rfl | rfl | rfl | rfl | rfl | rfl | rfl <;> rfl) (fun q => ?_)
  refine aw_dup d_Law_law_3 rfl ?_
  exact aw_deadI (As := []) d_Law_law_4 c50 (dd_Forms_init hok (q0 := 0) rfl) rfl (by decide) (Nat.le_of_ble_eq_true rfl)
end
section
/-! THE CLAIM IS FALSE AS IT IS WRITTEN: at the start of part 95 (which meets every premise, 'gap1.atStart') the law never ends. -/
theorem gap_room {s : State} {pl : Platform} {R R' : Room} (h : s.hasRoom pl R = true) (h1 : R'.frames ≤ R.frames) (h2 : R'.cells ≤ R.cells) (h3 : R'.slots ≤ R.slots) (h4 : R'.locals ≤ R.locals) : s.hasRoom pl R' = true := by
  simp only [State.hasRoom, Bool.and_eq_true, decide_eq_true_eq] at h ⊢
  obtain ⟨⟨⟨⟨h5, h6, h7, h8, h9, h10⟩, h11⟩, h12⟩, h13⟩ := h
  exact ⟨⟨⟨⟨by omega, by omega, by omega, by omega, by omega, h10⟩, by omega⟩, by omega⟩, h13⟩
theorem gap_words : ∀ w ∈ lw_tbl, w.before gap1.args0 gap1.about = true := k2_hts_sels lw_privs (fun w hw => gap1.words w (List.mem_cons_of_mem _ hw)) lw_privs_ok
def gap_xs : Nat → Int32 := fun j => match gap1.cells0[j]? with
  | some (.int z) => z
  | _ => 0
theorem gap_never : dd_D gap1.p0 gap1.e0 Lib.HandBits.below0 gap1.about := by
  obtain ⟨hlists, hw, hadm, hleast, hcas, hclk, hframes, hfit, hheap, happ, hcalls, hrest, hpre⟩ := gap1.atStart
  have hgv : (Jvm.Cond.and given_1 narrow_1).before gap1.args0 gap1.about = true := hpre
  have hb : gap1.about.heap[0]? = some { cls := 25, slots := gap1.cells0, vm := .none } := rfl
  have hbl : 0 < gap1.about.heap.size := by decide +kernel
  have hints : ∀ j : Nat, j < gap1.cells0.size → ∃ z : Int32, gap1.cells0[j]? = some (.int z) := by
    have h9 : (List.range gap1.cells0.size).all (fun j => match gap1.cells0[j]? with | some (.int _) => true | _ => false) = true := by decide +kernel
    intro j hj
    have h8 := List.all_eq_true.mp h9 j (List.mem_range.mpr hj)
    cases hv : gap1.cells0[j]? with
    | none => rw [hv] at h8; cases h8
    | some v =>
      cases v with
      | int z => exact ⟨z, rfl⟩
      | _ => rw [hv] at h8; cases h8
  have hX : va_X 0 gap1.cells0.size gap_xs gap1.about gap1.about.heap := by
    refine ⟨_, hb, ⟨fun k h => (by cases h), ?_⟩, (by intro h; cases h), rfl, fun j hj => ?_⟩
    · exact ⟨_, rfl, 24, rfl⟩
    · obtain ⟨z, hz⟩ := hints j hj
      show gap1.cells0[j]? = some (.int (gap_xs j))
      simp only [gap_xs, hz]
  obtain ⟨D, cI, cG, cJ, tU, hG⟩ := am_begin (l := launch0) (args := gap1.args0) (s := gap1.about) (b := 0) (by decide +kernel) gap_words hgv hX hbl 2 (fun h => by cases h) (fun _ X hU => by
    have e : (Term.static "SegmentForms$ServiceSigns" "UNTOLD" "[I").eval gap1.args0 gap1.about none [] gap1.about = some (.ref 3) := by decide +kernel
    have e3 : am_U X = 3 := Value.ref.inj (Option.some.inj (hU.symm.trans e))
    refine ⟨by decide +kernel, by decide +kernel, { cls := 31, slots := #[.int (58), .int (43), .int (63), .int (42), .int (39)], vm := .none }, by rw [e3]; rfl, rfl, rfl, by rw [e3]; decide +kernel⟩)
  have hmet := dd_Law_law (X := (launch0, D, cI, cG, cJ, tU, 0, gap1.cells0.size, gap_xs, 2)) rfl gap1.about.heap.size
  have hloose := ((Spec.applies_iff_loose hframes).mp happ).1
  obtain ⟨hrun, hable, halone, hname, hhears, hinit, hroom, hpre9⟩ := (Spec.appliesLoose_iff hframes).mp hloose
  refine hmet gap1.p0 gap1.e0 hadm hcas hclk gap1.about ⟨0, 0⟩ gap1.args0 Lib.HandBits.below0 hframes ((Spec.appliesLoose_iff hframes).mpr ⟨hrun, hable, halone, hname, hhears, hinit, ?_, ?_⟩) ⟨rfl, rfl, fun k q h => by simp at h, ⟨fun i j p q h => by simp at h, fun k q h => by simp at h⟩, hG.to (State.WarmedH.refl _) (Nat.le_refl _) (fun _ _ _ => rfl) (fun q _ h => ?_) (fun q h => ?_)⟩
  · exact gap_room hroom (by decide) (by decide) (by decide) (by decide)
  · refine atoms_intro fun w hw => ?_
    rcases List.mem_cons.mp hw with rfl | hw
    · exact gap1.words _ List.mem_cons_self
    · exact gap_words w (List.mem_filter.mp hw).1
  · rcases h with ⟨k, e9, h⟩ | h
    · simp at h
    · exact h
  · rcases h with ⟨k, e9, h⟩ | h
    · simp at h
    · exact h
/-- the first half of what is owed is false -/
theorem whole_false : ¬ Claimed_1_1 := by
  intro h
  obtain ⟨hlists, hw, hadm, hleast, hcas, hclk, hframes, hfit, hheap, happ, hcalls, hrest, hpre⟩ := gap1.atStart
  obtain ⟨n, o, h1, h2, h3, h4⟩ := h launch0 rfl hlists hw gap1.p0 gap1.e0 hadm hcas hclk gap1.about ⟨0, 0⟩ gap1.args0 Lib.HandBits.below0 hframes hfit hheap happ ⟨hcalls, hrest, hpre⟩
  exact h3.not_within (gap_never n)
end
