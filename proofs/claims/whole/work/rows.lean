section
-- ===== PART A: goes FIRST, ahead of the names: the tables' words, and 'selects' of the private methods out of them =====
/-- a private method of a class that the tables say can be made, by its rows of tables_1 -/
def lw_okq (q : MethodName × Nat) : Prop := (q.1.cls ≠ "java/lang/invoke/MethodHandle" ∧ q.1.cls ≠ "java/lang/invoke/VarHandle") ∧ Cond.instantiable q.1.cls q.2 ∈ tables_1 ∧ Cond.privateMethod q.1 ∈ tables_1 ∧ Cond.instanceMethod q.1 ∈ tables_1
theorem lw_p0 : lw_okq (⟨"SegmentForms$Reader", "firstWrongOfUna", "(LSegmentForms$SignRow;)I"⟩, 4) := ⟨⟨by decide +kernel, by decide +kernel⟩, List.mem_of_getElem? (i := 103) (by decide +kernel), List.mem_of_getElem? (i := 264) (by decide +kernel), List.mem_of_getElem? (i := 265) (by decide +kernel)⟩
theorem lw_p1 : lw_okq (⟨"SegmentForms$Reader", "take", "(I)Z"⟩, 4) := ⟨⟨by decide +kernel, by decide +kernel⟩, List.mem_of_getElem? (i := 103) (by decide +kernel), List.mem_of_getElem? (i := 291) (by decide +kernel), List.mem_of_getElem? (i := 292) (by decide +kernel)⟩
theorem lw_p2 : lw_okq (⟨"SegmentForms$Reader", "takeOfTag", "(II)Z"⟩, 4) := ⟨⟨by decide +kernel, by decide +kernel⟩, List.mem_of_getElem? (i := 103) (by decide +kernel), List.mem_of_getElem? (i := 304) (by decide +kernel), List.mem_of_getElem? (i := 305) (by decide +kernel)⟩
theorem lw_p3 : lw_okq (⟨"SegmentForms$Reader", "takeBehindTag", "(I)Z"⟩, 4) := ⟨⟨by decide +kernel, by decide +kernel⟩, List.mem_of_getElem? (i := 103) (by decide +kernel), List.mem_of_getElem? (i := 321) (by decide +kernel), List.mem_of_getElem? (i := 322) (by decide +kernel)⟩
theorem lw_p4 : lw_okq (⟨"SegmentForms$Reader", "takeInComponent", "(I)Z"⟩, 4) := ⟨⟨by decide +kernel, by decide +kernel⟩, List.mem_of_getElem? (i := 103) (by decide +kernel), List.mem_of_getElem? (i := 345) (by decide +kernel), List.mem_of_getElem? (i := 346) (by decide +kernel)⟩
theorem lw_p5 : lw_okq (⟨"SegmentForms", "grammarOf", "(I)LSegmentForms$Grammar;"⟩, 8) := ⟨⟨by decide +kernel, by decide +kernel⟩, List.mem_of_getElem? (i := 22) (by decide +kernel), List.mem_of_getElem? (i := 390) (by decide +kernel), List.mem_of_getElem? (i := 391) (by decide +kernel)⟩
theorem lw_p6 : lw_okq (⟨"java/lang/Throwable", "fillInStackTrace", "(I)Ljava/lang/Throwable;"⟩, 6) := ⟨⟨by decide +kernel, by decide +kernel⟩, List.mem_of_getElem? (i := 460) (by decide +kernel), List.mem_of_getElem? (i := 458) (by decide +kernel), List.mem_of_getElem? (i := 459) (by decide +kernel)⟩
theorem lw_p7 : lw_okq (⟨"SegmentForms", "needMessage", "()V"⟩, 8) := ⟨⟨by decide +kernel, by decide +kernel⟩, List.mem_of_getElem? (i := 22) (by decide +kernel), List.mem_of_getElem? (i := 533) (by decide +kernel), List.mem_of_getElem? (i := 534) (by decide +kernel)⟩
theorem lw_p8 : lw_okq (⟨"SegmentForms$Check", "faultOfFrame", "()I"⟩, 8) := ⟨⟨by decide +kernel, by decide +kernel⟩, List.mem_of_getElem? (i := 145) (by decide +kernel), List.mem_of_getElem? (i := 581) (by decide +kernel), List.mem_of_getElem? (i := 582) (by decide +kernel)⟩
theorem lw_p9 : lw_okq (⟨"SegmentForms$Check", "faultBetween", "(LSegmentForms$Grammar;)I"⟩, 8) := ⟨⟨by decide +kernel, by decide +kernel⟩, List.mem_of_getElem? (i := 145) (by decide +kernel), List.mem_of_getElem? (i := 602) (by decide +kernel), List.mem_of_getElem? (i := 603) (by decide +kernel)⟩
theorem lw_p10 : lw_okq (⟨"SegmentForms$Check", "walkRows", "(LSegmentForms$Grammar;IIII)Z"⟩, 8) := ⟨⟨by decide +kernel, by decide +kernel⟩, List.mem_of_getElem? (i := 145) (by decide +kernel), List.mem_of_getElem? (i := 614) (by decide +kernel), List.mem_of_getElem? (i := 615) (by decide +kernel)⟩
theorem lw_p11 : lw_okq (⟨"SegmentForms$Check", "walkRow", "(LSegmentForms$Grammar;III)Z"⟩, 8) := ⟨⟨by decide +kernel, by decide +kernel⟩, List.mem_of_getElem? (i := 145) (by decide +kernel), List.mem_of_getElem? (i := 619) (by decide +kernel), List.mem_of_getElem? (i := 620) (by decide +kernel)⟩
theorem lw_p12 : lw_okq (⟨"SegmentForms$Check", "walkOver", "(III)V"⟩, 8) := ⟨⟨by decide +kernel, by decide +kernel⟩, List.mem_of_getElem? (i := 145) (by decide +kernel), List.mem_of_getElem? (i := 632) (by decide +kernel), List.mem_of_getElem? (i := 633) (by decide +kernel)⟩
theorem lw_p13 : lw_okq (⟨"SegmentForms", "needSegment", "(I)V"⟩, 8) := ⟨⟨by decide +kernel, by decide +kernel⟩, List.mem_of_getElem? (i := 22) (by decide +kernel), List.mem_of_getElem? (i := 648) (by decide +kernel), List.mem_of_getElem? (i := 649) (by decide +kernel)⟩
theorem lw_p14 : lw_okq (⟨"SegmentForms$Writer", "writeTag", "(I)V"⟩, 3) := ⟨⟨by decide +kernel, by decide +kernel⟩, List.mem_of_getElem? (i := 183) (by decide +kernel), List.mem_of_getElem? (i := 737) (by decide +kernel), List.mem_of_getElem? (i := 738) (by decide +kernel)⟩
theorem lw_p15 : lw_okq (⟨"SegmentForms$Writer", "keptElements", "(I)I"⟩, 3) := ⟨⟨by decide +kernel, by decide +kernel⟩, List.mem_of_getElem? (i := 183) (by decide +kernel), List.mem_of_getElem? (i := 745) (by decide +kernel), List.mem_of_getElem? (i := 746) (by decide +kernel)⟩
def lw_privs_1 : List (MethodName × Nat) := [(⟨"SegmentForms$Reader", "firstWrongOfUna", "(LSegmentForms$SignRow;)I"⟩, 4), (⟨"SegmentForms$Reader", "take", "(I)Z"⟩, 4), (⟨"SegmentForms$Reader", "takeOfTag", "(II)Z"⟩, 4), (⟨"SegmentForms$Reader", "takeBehindTag", "(I)Z"⟩, 4), (⟨"SegmentForms$Reader", "takeInComponent", "(I)Z"⟩, 4), (⟨"SegmentForms", "grammarOf", "(I)LSegmentForms$Grammar;"⟩, 8), (⟨"java/lang/Throwable", "fillInStackTrace", "(I)Ljava/lang/Throwable;"⟩, 6), (⟨"SegmentForms", "needMessage", "()V"⟩, 8), (⟨"SegmentForms$Check", "faultOfFrame", "()I"⟩, 8), (⟨"SegmentForms$Check", "faultBetween", "(LSegmentForms$Grammar;)I"⟩, 8), (⟨"SegmentForms$Check", "walkRows", "(LSegmentForms$Grammar;IIII)Z"⟩, 8), (⟨"SegmentForms$Check", "walkRow", "(LSegmentForms$Grammar;III)Z"⟩, 8), (⟨"SegmentForms$Check", "walkOver", "(III)V"⟩, 8), (⟨"SegmentForms", "needSegment", "(I)V"⟩, 8), (⟨"SegmentForms$Writer", "writeTag", "(I)V"⟩, 3), (⟨"SegmentForms$Writer", "keptElements", "(I)I"⟩, 3)]
theorem lw_r1 : ∀ q ∈ lw_privs_1, lw_okq q := List.forall_mem_cons.mpr ⟨lw_p0, List.forall_mem_cons.mpr ⟨lw_p1, List.forall_mem_cons.mpr ⟨lw_p2, List.forall_mem_cons.mpr ⟨lw_p3, List.forall_mem_cons.mpr ⟨lw_p4, List.forall_mem_cons.mpr ⟨lw_p5, List.forall_mem_cons.mpr ⟨lw_p6, List.forall_mem_cons.mpr ⟨lw_p7, List.forall_mem_cons.mpr ⟨lw_p8, List.forall_mem_cons.mpr ⟨lw_p9, List.forall_mem_cons.mpr ⟨lw_p10, List.forall_mem_cons.mpr ⟨lw_p11, List.forall_mem_cons.mpr ⟨lw_p12, List.forall_mem_cons.mpr ⟨lw_p13, List.forall_mem_cons.mpr ⟨lw_p14, List.forall_mem_cons.mpr ⟨lw_p15, fun _ h => absurd h List.not_mem_nil⟩⟩⟩⟩⟩⟩⟩⟩⟩⟩⟩⟩⟩⟩⟩⟩
theorem lw_p16 : lw_okq (⟨"SegmentForms$Writer", "keptRepeats", "(I)I"⟩, 3) := ⟨⟨by decide +kernel, by decide +kernel⟩, List.mem_of_getElem? (i := 183) (by decide +kernel), List.mem_of_getElem? (i := 751) (by decide +kernel), List.mem_of_getElem? (i := 752) (by decide +kernel)⟩
theorem lw_p17 : lw_okq (⟨"SegmentForms$Writer", "keptComponents", "(I)I"⟩, 3) := ⟨⟨by decide +kernel, by decide +kernel⟩, List.mem_of_getElem? (i := 183) (by decide +kernel), List.mem_of_getElem? (i := 757) (by decide +kernel), List.mem_of_getElem? (i := 758) (by decide +kernel)⟩
theorem lw_p18 : lw_okq (⟨"SegmentForms$Writer", "writeService", "(I)V"⟩, 3) := ⟨⟨by decide +kernel, by decide +kernel⟩, List.mem_of_getElem? (i := 183) (by decide +kernel), List.mem_of_getElem? (i := 764) (by decide +kernel), List.mem_of_getElem? (i := 765) (by decide +kernel)⟩
theorem lw_p19 : lw_okq (⟨"SegmentForms$Writer", "writeRepeats", "(I)V"⟩, 3) := ⟨⟨by decide +kernel, by decide +kernel⟩, List.mem_of_getElem? (i := 183) (by decide +kernel), List.mem_of_getElem? (i := 769) (by decide +kernel), List.mem_of_getElem? (i := 770) (by decide +kernel)⟩
theorem lw_p20 : lw_okq (⟨"SegmentForms$Writer", "writeComponents", "(I)V"⟩, 3) := ⟨⟨by decide +kernel, by decide +kernel⟩, List.mem_of_getElem? (i := 183) (by decide +kernel), List.mem_of_getElem? (i := 773) (by decide +kernel), List.mem_of_getElem? (i := 774) (by decide +kernel)⟩
theorem lw_p21 : lw_okq (⟨"SegmentForms$Writer", "writeLetters", "(I)V"⟩, 3) := ⟨⟨by decide +kernel, by decide +kernel⟩, List.mem_of_getElem? (i := 183) (by decide +kernel), List.mem_of_getElem? (i := 777) (by decide +kernel), List.mem_of_getElem? (i := 778) (by decide +kernel)⟩
theorem lw_p22 : lw_okq (⟨"SegmentFormsModel", "usual", "()V"⟩, 33) := ⟨⟨by decide +kernel, by decide +kernel⟩, List.mem_of_getElem? (i := 810) (by decide +kernel), List.mem_of_getElem? (i := 816) (by decide +kernel), List.mem_of_getElem? (i := 817) (by decide +kernel)⟩
theorem lw_p23 : lw_okq (⟨"SegmentFormsModel", "begins", "()Z"⟩, 33) := ⟨⟨by decide +kernel, by decide +kernel⟩, List.mem_of_getElem? (i := 810) (by decide +kernel), List.mem_of_getElem? (i := 932) (by decide +kernel), List.mem_of_getElem? (i := 933) (by decide +kernel)⟩
theorem lw_p24 : lw_okq (⟨"SegmentFormsModel", "readService", "()V"⟩, 33) := ⟨⟨by decide +kernel, by decide +kernel⟩, List.mem_of_getElem? (i := 810) (by decide +kernel), List.mem_of_getElem? (i := 936) (by decide +kernel), List.mem_of_getElem? (i := 937) (by decide +kernel)⟩
theorem lw_p25 : lw_okq (⟨"SegmentFormsModel", "look", "()I"⟩, 33) := ⟨⟨by decide +kernel, by decide +kernel⟩, List.mem_of_getElem? (i := 810) (by decide +kernel), List.mem_of_getElem? (i := 940) (by decide +kernel), List.mem_of_getElem? (i := 941) (by decide +kernel)⟩
theorem lw_p26 : lw_okq (⟨"SegmentFormsModel", "fail", "()V"⟩, 33) := ⟨⟨by decide +kernel, by decide +kernel⟩, List.mem_of_getElem? (i := 810) (by decide +kernel), List.mem_of_getElem? (i := 950) (by decide +kernel), List.mem_of_getElem? (i := 951) (by decide +kernel)⟩
theorem lw_p27 : lw_okq (⟨"SegmentFormsModel", "readSegment", "()V"⟩, 33) := ⟨⟨by decide +kernel, by decide +kernel⟩, List.mem_of_getElem? (i := 810) (by decide +kernel), List.mem_of_getElem? (i := 954) (by decide +kernel), List.mem_of_getElem? (i := 955) (by decide +kernel)⟩
theorem lw_p28 : lw_okq (⟨"SegmentFormsModel", "readTag", "()V"⟩, 33) := ⟨⟨by decide +kernel, by decide +kernel⟩, List.mem_of_getElem? (i := 810) (by decide +kernel), List.mem_of_getElem? (i := 958) (by decide +kernel), List.mem_of_getElem? (i := 959) (by decide +kernel)⟩
theorem lw_p29 : lw_okq (⟨"SegmentFormsModel", "readElement", "()V"⟩, 33) := ⟨⟨by decide +kernel, by decide +kernel⟩, List.mem_of_getElem? (i := 810) (by decide +kernel), List.mem_of_getElem? (i := 962) (by decide +kernel), List.mem_of_getElem? (i := 963) (by decide +kernel)⟩
theorem lw_p30 : lw_okq (⟨"SegmentFormsModel", "openRepeat", "()V"⟩, 33) := ⟨⟨by decide +kernel, by decide +kernel⟩, List.mem_of_getElem? (i := 810) (by decide +kernel), List.mem_of_getElem? (i := 966) (by decide +kernel), List.mem_of_getElem? (i := 967) (by decide +kernel)⟩
theorem lw_p31 : lw_okq (⟨"SegmentFormsModel", "openComponent", "()V"⟩, 33) := ⟨⟨by decide +kernel, by decide +kernel⟩, List.mem_of_getElem? (i := 810) (by decide +kernel), List.mem_of_getElem? (i := 970) (by decide +kernel), List.mem_of_getElem? (i := 971) (by decide +kernel)⟩
def lw_privs_2 : List (MethodName × Nat) := [(⟨"SegmentForms$Writer", "keptRepeats", "(I)I"⟩, 3), (⟨"SegmentForms$Writer", "keptComponents", "(I)I"⟩, 3), (⟨"SegmentForms$Writer", "writeService", "(I)V"⟩, 3), (⟨"SegmentForms$Writer", "writeRepeats", "(I)V"⟩, 3), (⟨"SegmentForms$Writer", "writeComponents", "(I)V"⟩, 3), (⟨"SegmentForms$Writer", "writeLetters", "(I)V"⟩, 3), (⟨"SegmentFormsModel", "usual", "()V"⟩, 33), (⟨"SegmentFormsModel", "begins", "()Z"⟩, 33), (⟨"SegmentFormsModel", "readService", "()V"⟩, 33), (⟨"SegmentFormsModel", "look", "()I"⟩, 33), (⟨"SegmentFormsModel", "fail", "()V"⟩, 33), (⟨"SegmentFormsModel", "readSegment", "()V"⟩, 33), (⟨"SegmentFormsModel", "readTag", "()V"⟩, 33), (⟨"SegmentFormsModel", "readElement", "()V"⟩, 33), (⟨"SegmentFormsModel", "openRepeat", "()V"⟩, 33), (⟨"SegmentFormsModel", "openComponent", "()V"⟩, 33)]
theorem lw_r2 : ∀ q ∈ lw_privs_2, lw_okq q := List.forall_mem_cons.mpr ⟨lw_p16, List.forall_mem_cons.mpr ⟨lw_p17, List.forall_mem_cons.mpr ⟨lw_p18, List.forall_mem_cons.mpr ⟨lw_p19, List.forall_mem_cons.mpr ⟨lw_p20, List.forall_mem_cons.mpr ⟨lw_p21, List.forall_mem_cons.mpr ⟨lw_p22, List.forall_mem_cons.mpr ⟨lw_p23, List.forall_mem_cons.mpr ⟨lw_p24, List.forall_mem_cons.mpr ⟨lw_p25, List.forall_mem_cons.mpr ⟨lw_p26, List.forall_mem_cons.mpr ⟨lw_p27, List.forall_mem_cons.mpr ⟨lw_p28, List.forall_mem_cons.mpr ⟨lw_p29, List.forall_mem_cons.mpr ⟨lw_p30, List.forall_mem_cons.mpr ⟨lw_p31, fun _ h => absurd h List.not_mem_nil⟩⟩⟩⟩⟩⟩⟩⟩⟩⟩⟩⟩⟩⟩⟩⟩
theorem lw_p32 : lw_okq (⟨"SegmentFormsModel", "take", "(I)V"⟩, 33) := ⟨⟨by decide +kernel, by decide +kernel⟩, List.mem_of_getElem? (i := 810) (by decide +kernel), List.mem_of_getElem? (i := 974) (by decide +kernel), List.mem_of_getElem? (i := 975) (by decide +kernel)⟩
theorem lw_p33 : lw_okq (⟨"SegmentFormsModel", "forget", "(I)V"⟩, 33) := ⟨⟨by decide +kernel, by decide +kernel⟩, List.mem_of_getElem? (i := 810) (by decide +kernel), List.mem_of_getElem? (i := 978) (by decide +kernel), List.mem_of_getElem? (i := 979) (by decide +kernel)⟩
theorem lw_p34 : lw_okq (⟨"SegmentFormsModel", "isSegment", "(I)Z"⟩, 33) := ⟨⟨by decide +kernel, by decide +kernel⟩, List.mem_of_getElem? (i := 810) (by decide +kernel), List.mem_of_getElem? (i := 986) (by decide +kernel), List.mem_of_getElem? (i := 987) (by decide +kernel)⟩
theorem lw_p35 : lw_okq (⟨"SegmentFormsModel", "elementsOf", "(I)I"⟩, 33) := ⟨⟨by decide +kernel, by decide +kernel⟩, List.mem_of_getElem? (i := 810) (by decide +kernel), List.mem_of_getElem? (i := 990) (by decide +kernel), List.mem_of_getElem? (i := 991) (by decide +kernel)⟩
theorem lw_p36 : lw_okq (⟨"SegmentFormsModel", "repeatsOf", "(II)I"⟩, 33) := ⟨⟨by decide +kernel, by decide +kernel⟩, List.mem_of_getElem? (i := 810) (by decide +kernel), List.mem_of_getElem? (i := 998) (by decide +kernel), List.mem_of_getElem? (i := 999) (by decide +kernel)⟩
theorem lw_p37 : lw_okq (⟨"SegmentFormsModel", "componentsOf", "(III)I"⟩, 33) := ⟨⟨by decide +kernel, by decide +kernel⟩, List.mem_of_getElem? (i := 810) (by decide +kernel), List.mem_of_getElem? (i := 1006) (by decide +kernel), List.mem_of_getElem? (i := 1007) (by decide +kernel)⟩
theorem lw_p38 : lw_okq (⟨"SegmentFormsModel", "componentAt", "(IIII)I"⟩, 33) := ⟨⟨by decide +kernel, by decide +kernel⟩, List.mem_of_getElem? (i := 810) (by decide +kernel), List.mem_of_getElem? (i := 1014) (by decide +kernel), List.mem_of_getElem? (i := 1015) (by decide +kernel)⟩
theorem lw_p39 : lw_okq (⟨"SegmentFormsModel", "longOf", "(I)I"⟩, 33) := ⟨⟨by decide +kernel, by decide +kernel⟩, List.mem_of_getElem? (i := 810) (by decide +kernel), List.mem_of_getElem? (i := 1018) (by decide +kernel), List.mem_of_getElem? (i := 1019) (by decide +kernel)⟩
theorem lw_p40 : lw_okq (⟨"SegmentFormsModel", "checked", "()I"⟩, 33) := ⟨⟨by decide +kernel, by decide +kernel⟩, List.mem_of_getElem? (i := 810) (by decide +kernel), List.mem_of_getElem? (i := 1037) (by decide +kernel), List.mem_of_getElem? (i := 1038) (by decide +kernel)⟩
theorem lw_p41 : lw_okq (⟨"SegmentFormsModel", "isCount", "(I)Z"⟩, 33) := ⟨⟨by decide +kernel, by decide +kernel⟩, List.mem_of_getElem? (i := 810) (by decide +kernel), List.mem_of_getElem? (i := 1043) (by decide +kernel), List.mem_of_getElem? (i := 1044) (by decide +kernel)⟩
theorem lw_p42 : lw_okq (⟨"SegmentFormsModel", "alike", "(II)Z"⟩, 33) := ⟨⟨by decide +kernel, by decide +kernel⟩, List.mem_of_getElem? (i := 810) (by decide +kernel), List.mem_of_getElem? (i := 1047) (by decide +kernel), List.mem_of_getElem? (i := 1048) (by decide +kernel)⟩
theorem lw_p43 : lw_okq (⟨"SegmentFormsModel", "kindOf", "()I"⟩, 33) := ⟨⟨by decide +kernel, by decide +kernel⟩, List.mem_of_getElem? (i := 810) (by decide +kernel), List.mem_of_getElem? (i := 1051) (by decide +kernel), List.mem_of_getElem? (i := 1052) (by decide +kernel)⟩
theorem lw_p44 : lw_okq (⟨"SegmentFormsModel", "unknown", "(I)I"⟩, 33) := ⟨⟨by decide +kernel, by decide +kernel⟩, List.mem_of_getElem? (i := 810) (by decide +kernel), List.mem_of_getElem? (i := 1055) (by decide +kernel), List.mem_of_getElem? (i := 1056) (by decide +kernel)⟩
theorem lw_p45 : lw_okq (⟨"SegmentFormsModel", "wrong", "(III)I"⟩, 33) := ⟨⟨by decide +kernel, by decide +kernel⟩, List.mem_of_getElem? (i := 810) (by decide +kernel), List.mem_of_getElem? (i := 1059) (by decide +kernel), List.mem_of_getElem? (i := 1060) (by decide +kernel)⟩
theorem lw_p46 : lw_okq (⟨"SegmentFormsModel", "walk", "(I)I"⟩, 33) := ⟨⟨by decide +kernel, by decide +kernel⟩, List.mem_of_getElem? (i := 810) (by decide +kernel), List.mem_of_getElem? (i := 1063) (by decide +kernel), List.mem_of_getElem? (i := 1064) (by decide +kernel)⟩
theorem lw_p47 : lw_okq (⟨"SegmentFormsModel", "nextRow", "(III)I"⟩, 33) := ⟨⟨by decide +kernel, by decide +kernel⟩, List.mem_of_getElem? (i := 810) (by decide +kernel), List.mem_of_getElem? (i := 1067) (by decide +kernel), List.mem_of_getElem? (i := 1068) (by decide +kernel)⟩
def lw_privs_3 : List (MethodName × Nat) := [(⟨"SegmentFormsModel", "take", "(I)V"⟩, 33), (⟨"SegmentFormsModel", "forget", "(I)V"⟩, 33), (⟨"SegmentFormsModel", "isSegment", "(I)Z"⟩, 33), (⟨"SegmentFormsModel", "elementsOf", "(I)I"⟩, 33), (⟨"SegmentFormsModel", "repeatsOf", "(II)I"⟩, 33), (⟨"SegmentFormsModel", "componentsOf", "(III)I"⟩, 33), (⟨"SegmentFormsModel", "componentAt", "(IIII)I"⟩, 33), (⟨"SegmentFormsModel", "longOf", "(I)I"⟩, 33), (⟨"SegmentFormsModel", "checked", "()I"⟩, 33), (⟨"SegmentFormsModel", "isCount", "(I)Z"⟩, 33), (⟨"SegmentFormsModel", "alike", "(II)Z"⟩, 33), (⟨"SegmentFormsModel", "kindOf", "()I"⟩, 33), (⟨"SegmentFormsModel", "unknown", "(I)I"⟩, 33), (⟨"SegmentFormsModel", "wrong", "(III)I"⟩, 33), (⟨"SegmentFormsModel", "walk", "(I)I"⟩, 33), (⟨"SegmentFormsModel", "nextRow", "(III)I"⟩, 33)]
theorem lw_r3 : ∀ q ∈ lw_privs_3, lw_okq q := List.forall_mem_cons.mpr ⟨lw_p32, List.forall_mem_cons.mpr ⟨lw_p33, List.forall_mem_cons.mpr ⟨lw_p34, List.forall_mem_cons.mpr ⟨lw_p35, List.forall_mem_cons.mpr ⟨lw_p36, List.forall_mem_cons.mpr ⟨lw_p37, List.forall_mem_cons.mpr ⟨lw_p38, List.forall_mem_cons.mpr ⟨lw_p39, List.forall_mem_cons.mpr ⟨lw_p40, List.forall_mem_cons.mpr ⟨lw_p41, List.forall_mem_cons.mpr ⟨lw_p42, List.forall_mem_cons.mpr ⟨lw_p43, List.forall_mem_cons.mpr ⟨lw_p44, List.forall_mem_cons.mpr ⟨lw_p45, List.forall_mem_cons.mpr ⟨lw_p46, List.forall_mem_cons.mpr ⟨lw_p47, fun _ h => absurd h List.not_mem_nil⟩⟩⟩⟩⟩⟩⟩⟩⟩⟩⟩⟩⟩⟩⟩⟩
theorem lw_p48 : lw_okq (⟨"SegmentFormsModel", "put", "(I)V"⟩, 33) := ⟨⟨by decide +kernel, by decide +kernel⟩, List.mem_of_getElem? (i := 810) (by decide +kernel), List.mem_of_getElem? (i := 1079) (by decide +kernel), List.mem_of_getElem? (i := 1080) (by decide +kernel)⟩
theorem lw_p49 : lw_okq (⟨"SegmentFormsModel", "fullElements", "(I)I"⟩, 33) := ⟨⟨by decide +kernel, by decide +kernel⟩, List.mem_of_getElem? (i := 810) (by decide +kernel), List.mem_of_getElem? (i := 1083) (by decide +kernel), List.mem_of_getElem? (i := 1084) (by decide +kernel)⟩
theorem lw_p50 : lw_okq (⟨"SegmentFormsModel", "fullRepeats", "(II)I"⟩, 33) := ⟨⟨by decide +kernel, by decide +kernel⟩, List.mem_of_getElem? (i := 810) (by decide +kernel), List.mem_of_getElem? (i := 1087) (by decide +kernel), List.mem_of_getElem? (i := 1088) (by decide +kernel)⟩
theorem lw_p51 : lw_okq (⟨"SegmentFormsModel", "fullComponents", "(III)I"⟩, 33) := ⟨⟨by decide +kernel, by decide +kernel⟩, List.mem_of_getElem? (i := 810) (by decide +kernel), List.mem_of_getElem? (i := 1091) (by decide +kernel), List.mem_of_getElem? (i := 1092) (by decide +kernel)⟩
theorem lw_p52 : lw_okq (⟨"SegmentFormsModel", "putRepeat", "(III)V"⟩, 33) := ⟨⟨by decide +kernel, by decide +kernel⟩, List.mem_of_getElem? (i := 810) (by decide +kernel), List.mem_of_getElem? (i := 1095) (by decide +kernel), List.mem_of_getElem? (i := 1096) (by decide +kernel)⟩
theorem lw_p53 : lw_okq (⟨"SegmentFormsModel", "isService", "(I)Z"⟩, 33) := ⟨⟨by decide +kernel, by decide +kernel⟩, List.mem_of_getElem? (i := 810) (by decide +kernel), List.mem_of_getElem? (i := 1099) (by decide +kernel), List.mem_of_getElem? (i := 1100) (by decide +kernel)⟩
def lw_privs_4 : List (MethodName × Nat) := [(⟨"SegmentFormsModel", "put", "(I)V"⟩, 33), (⟨"SegmentFormsModel", "fullElements", "(I)I"⟩, 33), (⟨"SegmentFormsModel", "fullRepeats", "(II)I"⟩, 33), (⟨"SegmentFormsModel", "fullComponents", "(III)I"⟩, 33), (⟨"SegmentFormsModel", "putRepeat", "(III)V"⟩, 33), (⟨"SegmentFormsModel", "isService", "(I)Z"⟩, 33)]
theorem lw_r4 : ∀ q ∈ lw_privs_4, lw_okq q := List.forall_mem_cons.mpr ⟨lw_p48, List.forall_mem_cons.mpr ⟨lw_p49, List.forall_mem_cons.mpr ⟨lw_p50, List.forall_mem_cons.mpr ⟨lw_p51, List.forall_mem_cons.mpr ⟨lw_p52, List.forall_mem_cons.mpr ⟨lw_p53, fun _ h => absurd h List.not_mem_nil⟩⟩⟩⟩⟩⟩
def lw_privs : List (MethodName × Nat) := lw_privs_1 ++ (lw_privs_2 ++ (lw_privs_3 ++ (lw_privs_4)))
def lw_tbl : List Cond := k2_sels lw_privs ++ tables_1
theorem lw_privs_ok : ∀ q ∈ lw_privs, lw_okq q := by
  show ∀ q ∈ lw_privs_1 ++ (lw_privs_2 ++ (lw_privs_3 ++ (lw_privs_4))), lw_okq q
  exact List.forall_mem_append.mpr ⟨lw_r1, List.forall_mem_append.mpr ⟨lw_r2, List.forall_mem_append.mpr ⟨lw_r3, lw_r4⟩⟩⟩
end
section
/-! ===== BEGIN words of one list among another's, by their places ===== -/
theorem goodIn_r {big : List Cond} (ws : List Cond) (ps : List Nat) (hp : ws = ps.filterMap (fun i => big[i]?)) (h : ws.all goodWord = true) : GoodIn big ws := by
  intro w hw
  have h1 := List.all_eq_true.mp h w hw
  rw [hp] at hw
  obtain ⟨i, -, hi⟩ := List.mem_filterMap.mp hw
  have hm : w ∈ big := by first | exact List.mem_of_getElem? hi | exact List.getElem?_mem hi
  exact ⟨hm, good_of_word h1⟩
theorem goodIn_app {big a b : List Cond} (ha : GoodIn big a) (hb : GoodIn big b) : GoodIn big (a ++ b) := fun w h => (List.mem_append.mp h).elim (ha w) (hb w)
theorem goodIn_ca {big a b : List Cond} {c : Cond} (ha : GoodIn big (c :: a)) (hb : GoodIn big b) : GoodIn big (c :: (a ++ b)) := fun w h => (List.mem_cons.mp h).elim (fun e => ha w (List.mem_cons.mpr (Or.inl e))) (fun h => (List.mem_append.mp h).elim (fun h => ha w (List.mem_cons.mpr (Or.inr h))) (hb w))
theorem goodIn_sub {big ws : List Cond} (hm : ∀ w ∈ ws, w ∈ big) (h : ws.all goodWord = true) : GoodIn big ws := fun w hw => ⟨hm w hw, good_of_word (List.all_eq_true.mp h w hw)⟩
/-! ===== END ===== -/

/-! ===== BEGIN exceptions that leave a method, and their catching by the caller (launches without stack traces) ===== -/
section VXA
/-! The laws vx_back, vx_callV, vx_callS, vx_callSW, vx_throw0, vx_throwS follow proofs of the library, with one case more: JvmDerived/Free/Laws.lean (Back.of_free), Shelf42/LK1.lean (callV, callS), Shelf/KitTraced.lean (throwNew0V, throwNewS). -/
/-- where a method has thrown q: the class by its name, the cell, what was written, the world -/
def vx_T (XC : String → State → State → Prop) (st : State) (q : Addr) (t : State) (mc ms : Nat) (free : Addr → Prop) : Prop :=
  ∃ (E : String) (ce : Cell) (L : List Loc), XC E st t ∧ t.heap[q]? = some ce ∧ ce.vm = .none ∧ st.vm.findClass E = some ce.cls ∧ st.WarmedH t.vm ∧ st.sameButNew ({ t with vm := st.vm } : State) L mc ms ∧ ∀ z ∈ L, free z.base
def vx_Q (Qc : Array Value → State → Outcome → State → Prop) (XC : String → State → State → Prop) (mc ms : Nat) (free : Addr → Prop) : Array Value → State → Outcome → State → Prop := fun a st o t =>
  (Qc a st o t ∧ ∃ L, FrameEnd st o t L mc ms ∧ ∀ q ∈ L, free q.base) ∨ ∃ q, o = .threw q ∧ vx_T XC st q t mc ms free
/-- a callee that returns or throws -/
def vx_Met (l : Launch) (y : MethodName) (ws : List Cond) (rm : Room) (Pc : Array Value → State → Prop) (Qc : Array Value → State → Outcome → State → Prop) (XC : String → State → State → Prop) (mc ms : Nat) (free : Addr → Prop) : Prop :=
  MetFree l y (headSpec ws rm) Pc (fun _ _ _ _ _ => True) (vx_Q Qc XC mc ms free)
def vx_Post (XC : String → State → State → Prop) (mc ms : Nat) (free : Addr → Prop) : Pt → Array Value → Addr → Pt → Prop := fun A a q B =>
  ∃ (g : JFrame) (mk : MethodId) (t : State) (L : List Loc) (E : String) (ce : Cell), B.U.heap = t.heap ∧ B.U.vm = t.vm ∧ XC E (A.U.calling g mk a) t ∧ t.heap[q]? = some ce ∧ ce.vm = .none ∧ A.U.vm.findClass E = some ce.cls ∧ B.locs = A.locs ++ L ∧ (∀ z ∈ L, free z.base) ∧ B.cells = A.cells + mc ∧ B.slots = A.slots + ms
def vx_Back (l : Launch) (R : Room) (p : Program) (e : Env) (below : List Frame) (s : State) (sargs : Array Value) (y : MethodName) (len W9 : Nat)
    (Pre : Pt → Array Value → Prop) (Post : Pt → Array Value → Option Value → Pt → Prop) (PostX : Pt → Array Value → Addr → Pt → Prop) : Prop :=
  ∀ (m : MethodId) (meth : Method) (c : Code) (A : Pt) (g : JFrame) (ig : Instr) (mk : MethodId) (a : Array Value),
    Stand p l e R s m sargs below meth c A.U A.locs A.cells A.slots → g.method = m → g.locals.size = c.maxLocals → decode c.code g.pc = .ok (ig, len) →
    2 * g.monitorRoom + (g.stack.map fun v => v.category).sum ≤ W9 → A.U.methodNamed? y = some mk → Pre A a →
    (∃ (v : Option Value) (B : Pt), Stand p l e R s m sargs below meth c B.U B.locs B.cells B.slots ∧ Post A a v B ∧
      Steps p.tables e below (doInvoke e (A.U.setTop g) [] mk a).1 (B.U.setTop { g with pc := g.pc + len, stack := v.toList ++ g.stack })) ∨
    (∃ (q : Addr) (B : Pt), Stand p l e R s m sargs below meth c B.U B.locs B.cells B.slots ∧ PostX A a q B ∧
      Steps p.tables e below (doInvoke e (A.U.setTop g) [] mk a).1 ((B.U.setTop g).pushFrame (.throwing q)))
section Payer
variable {l : Launch} {R : Room} {p : Program} {e : Env} {below : List Frame} {s : State} {sargs : Array Value} {y : MethodName} {len W9 : Nat}
theorem vx_back {ws : List Cond} {rm : Room} {Pc : Array Value → State → Prop} {Qc : Array Value → State → Outcome → State → Prop} {XC : String → State → State → Prop} {mc ms : Nat} {free : Addr → Prop} {bytes : ByteArray} {maxL : Nat} {ret : Option FieldType}
    (hM : vx_Met l y ws rm Pc Qc XC mc ms free) (hblind : FrameBlind Pc) (hrc : rm.cells = mc) (hrs : rm.slots = ms)
    (hframes : rm.frames + 1 ≤ R.frames) (hlocals : W9 + (maxL + 11) + rm.locals ≤ R.locals)
    (hws : ∀ w ∈ ws, ∀ a' U, s.WarmedH U.vm → w.before a' U = true) (hcode : Cond.code y bytes maxL ret ∈ ws) (hinit : ∀ a' U, s.WarmedH U.vm → (Cond.initialized y.cls).before a' U = true) :
    vx_Back l R p e below s sargs y len W9 (PreOf R mc ms Pc) (PostOf Qc mc ms free) (vx_Post XC mc ms free) := by
  intro m meth c A g ig mk a X hg hsize hdg hW hn hp
  have h1 : (headSpec ws rm).pre.before a A.U = true := atoms_intro fun w hw => hws w hw _ _ X.warmed
  have h2 : (Cond.code y bytes maxL ret).before a A.U = true := hws _ hcode _ _ X.warmed
  have h3 : (Cond.initialized y.cls).before a A.U = true := hinit _ _ X.warmed
  have h4 : A.cells + (headSpec ws rm).room.cells ≤ R.cells := by rw [show (headSpec ws rm).room.cells = mc from hrc]; exact hp.1
  have h5 : A.slots + (headSpec ws rm).room.slots ≤ R.slots := by rw [show (headSpec ws rm).room.slots = ms from hrs]; exact hp.2.1
  have hPc : Pc a (A.U.calling g mk a) := hblind _ _ _ _ hp.2.2
  obtain ⟨U, Ls, c0, s0⟩ := A
  dsimp only [Pt.U, Pt.locs, Pt.cells, Pt.slots] at h1 h2 h3 h4 h5 X hn hPc ⊢
  obtain ⟨methY, cY, hmY, hcY, -, hlY, -, -, -, -⟩ := Cond.code_spec hn h2
  obtain ⟨kY, hkY, -⟩ := className_of_methodNamed hn
  have hinitY : kY.init = .initialized := Cond.initialized_spec (findClass_of_methodNamed hn) hkY h3
  have h : At U g.method c below := by rw [hg]; exact X.here
  have hlocals9 : W9 + (maxL + 11) + (headSpec ws rm).room.locals ≤ R.locals := hlocals
  have happ : (headSpec ws rm).appliesLoose y e.platform (U.calling g mk a) = true :=
    Spec.appliesLoose_calling (g := g) h hdg hn hkY hinitY
      (X.room_calling (g := g) (R' := (headSpec ws rm).room) hsize hmY hcY hframes (by rw [hlY]; omega) h4 h5) h1
  obtain ⟨mid, hmid⟩ := h.above
  have hfr : (U.setTop g).frames = (.java g :: mid) ++ below := by rw [State.frames_setTop' g h.top, hmid]; rfl
  obtain ⟨o, s₂, hsteps, -, hend, hq⟩ := Steps.callFree hM p X.admits X.cas X.clock (acts := []) hfr happ hPc trivial
  have hq' : vx_Q Qc XC mc ms free a (U.calling g mk a) o s₂ := hq
  rw [State.frames_setTop' g h.top] at hend
  obtain ⟨g₀, hg0⟩ := Option.isSome_iff_exists.mp h.top
  obtain ⟨r, hr⟩ := State.topJava?_eq_some.mp hg0
  have hr' : (({ U with heap := s₂.heap, slotsUsed := s₂.slotsUsed } : State).setVm s₂.vm).frames = .java g₀ :: r := hr
  rcases hq' with ⟨hqc, L, hfe, hL⟩ | ⟨q, rfl, E, ce, L, hx, hce, hcv, hcl, hW₂, hsm, hL⟩
  · obtain ⟨⟨v, rfl⟩, hW₂, e2, q2, q3, q4, q5, q6⟩ := id hfe
    have e3 : s₂ = ({ (U.calling g mk a).setFrames s₂.frames with heap := s₂.heap, slotsUsed := s₂.slotsUsed } : State).setVm s₂.vm := by
      have : s₂ = ({ s₂ with vm := (U.calling g mk a).vm } : State).setVm s₂.vm := rfl
      rw [e2] at this
      exact this
    obtain ⟨c₂, i₂, len₂, hc₂, hd₂, hf₂⟩ := hend
    have hW' : U.WarmedH s₂.vm := hW₂
    have hcc : c₂ = c := by
      have h1 : s₂.code? g.method = U.code? g.method := by
        rw [State.code?_eq, State.code?_eq, hW'.alike.method?]
      exact Option.some.inj (hc₂.symm.trans (h1.trans h.code))
    subst hcc
    have hlen : len₂ = len := by rw [hdg] at hd₂; cases hd₂; rfl
    subst hlen
    have hs₂ : s₂ = (({ U with heap := s₂.heap, slotsUsed := s₂.slotsUsed } : State).setVm s₂.vm).setTop { g with pc := g.pc + len₂, stack := v.toList ++ g.stack } := by
      refine e3.trans ?_
      rw [hf₂, State.calling_eq h.top, State.setFrames_setFrames, State.setTop_of_frames _ hr', hr]
      rfl
    have hsame : U.sameButNew ({ U with heap := s₂.heap, slotsUsed := s₂.slotsUsed } : State) L mc ms := by
      refine ⟨?_, q2, q3, q4, q5, q6⟩
      obtain ⟨t, ht, -⟩ := State.frames_cons hr
      show ({ U with heap := s₂.heap, slotsUsed := s₂.slotsUsed } : State) = { U.setFrames U.frames with heap := s₂.heap, slotsUsed := s₂.slotsUsed }
      rw [State.setFrames_self ht]
    subst hg
    refine Or.inl ⟨v, ⟨(({ U with heap := s₂.heap, slotsUsed := s₂.slotsUsed } : State).setVm s₂.vm), Ls ++ L, c0 + mc, s0 + ms⟩,
      ⟨X.admits, X.cas, X.clock, X.frames, X.room, X.hears, X.method, X.code, (X.here.setHeapUsed s₂.heap s₂.slotsUsed).setVm hW'.alike, X.tail, State.WarmedH.trans X.warmed hW', X.limits, X.bytes, X.same.trans (hsame.setVm s.vm)⟩,
      ⟨g, mk, s₂, L, rfl, rfl, hqc, rfl, hL, rfl, rfl⟩, ?_⟩
    show Steps p.tables e below _ ((({ U with heap := s₂.heap, slotsUsed := s₂.slotsUsed } : State).setVm s₂.vm).setTop { g with pc := g.pc + len₂, stack := v.toList ++ g.stack })
    rw [← hs₂]
    exact hsteps
  · obtain ⟨e2, q2, q3, q4, q5, q6⟩ := id hsm
    have e3 : s₂ = ({ (U.calling g mk a).setFrames s₂.frames with heap := s₂.heap, slotsUsed := s₂.slotsUsed } : State).setVm s₂.vm := by
      have : s₂ = ({ s₂ with vm := (U.calling g mk a).vm } : State).setVm s₂.vm := rfl
      rw [e2] at this
      exact this
    have hf₂ : s₂.frames = .throwing q :: .java g :: U.frames.tail := hend
    have hW' : U.WarmedH s₂.vm := hW₂
    have hs₂ : s₂ = ((({ U with heap := s₂.heap, slotsUsed := s₂.slotsUsed } : State).setVm s₂.vm).setTop g).pushFrame (.throwing q) := by
      refine e3.trans ?_
      rw [hf₂, State.calling_eq h.top, State.setFrames_setFrames, State.pushFrame, State.frames_setTop _ hr', State.setTop_of_frames _ hr', State.setFrames_setFrames, hr]
      rfl
    have hsame : U.sameButNew ({ U with heap := s₂.heap, slotsUsed := s₂.slotsUsed } : State) L mc ms := by
      refine ⟨?_, q2, q3, q4, q5, q6⟩
      obtain ⟨t, ht, -⟩ := State.frames_cons hr
      show ({ U with heap := s₂.heap, slotsUsed := s₂.slotsUsed } : State) = { U.setFrames U.frames with heap := s₂.heap, slotsUsed := s₂.slotsUsed }
      rw [State.setFrames_self ht]
    subst hg
    refine Or.inr ⟨q, ⟨(({ U with heap := s₂.heap, slotsUsed := s₂.slotsUsed } : State).setVm s₂.vm), Ls ++ L, c0 + mc, s0 + ms⟩,
      ⟨X.admits, X.cas, X.clock, X.frames, X.room, X.hears, X.method, X.code, (X.here.setHeapUsed s₂.heap s₂.slotsUsed).setVm hW'.alike, X.tail, State.WarmedH.trans X.warmed hW', X.limits, X.bytes, X.same.trans (hsame.setVm s.vm)⟩,
      ⟨g, mk, s₂, L, E, ce, rfl, rfl, hx, hce, hcv, hcl, rfl, hL, rfl, rfl⟩, ?_⟩
    show Steps p.tables e below _ (((({ U with heap := s₂.heap, slotsUsed := s₂.slotsUsed } : State).setVm s₂.vm).setTop g).pushFrame (.throwing q))
    rw [← hs₂]
    exact hsteps
end Payer
section Calls
variable {p : Program} {l : Launch} {e : Env} {R : Room} {s : State} {m : MethodId} {args : Array Value} {below : List Frame} {meth : Method} {c : Code} {T : State} {locs : List Loc} {cells slots : Nat}
theorem vx_callV (X : Stand p l e R s m args below meth c T locs cells slots) (hexec : p.tables.exec = Jvm.exec) {own C : String} {index : Nat} {y : MethodName} {bytes : ByteArray} {maxL : Nat} {ret : Option FieldType}
    (hown : s.vm.findClass own = some m.cls) (hlink : (Cond.methodLink own index y).before args s = true) (hinst : (Cond.instanceMethod y).before args s = true) (hsel : (Cond.selects C y y).before args s = true)
    (hcode : (Cond.code y bytes maxL ret).before args s = true) (hy : y.cls ≠ "java/lang/invoke/MethodHandle" ∧ y.cls ≠ "java/lang/invoke/VarHandle")
    {W9 : Nat} {Pre : Pt → Array Value → Prop} {Post : Pt → Array Value → Option Value → Pt → Prop} {PostX : Pt → Array Value → Addr → Pt → Prop} (hK : vx_Back l R p e below s args y 3 W9 Pre Post PostX)
    {b : Addr} {cellB : Cell} (hcell : T.heap[b]? = some cellB) (hobj : cellB.vm.isStatics = false) (hcls : s.vm.findClass C = some cellB.cls)
    {g : JFrame} (hg : g.method = m) (hsize : g.locals.size = c.maxLocals) {argsL rest : List Value} (hlen : ∀ sig, parseMethodDescriptor y.desc = some sig → argsL.length = sig.parameters.length)
    (hstack : g.stack = argsL.reverse ++ .ref b :: rest) (hW : 2 * g.monitorRoom + (rest.map fun v => v.category).sum ≤ W9) (hdg : decode c.code g.pc = .ok (.invokevirtual index, 3))
    (hpre : ∀ vm₁, s.WarmedH vm₁ → Pre ⟨T.setVm vm₁, locs, cells, slots⟩ (Value.ref b :: argsL).toArray) :
    (∃ (v : Option Value) (vm₁ : Vm) (B : Pt), s.WarmedH vm₁ ∧ Stand p l e R s m args below meth c B.U B.locs B.cells B.slots ∧ Post ⟨T.setVm vm₁, locs, cells, slots⟩ (Value.ref b :: argsL).toArray v B ∧
      ∀ target, Steps p.tables e below (B.U.setTop { g with pc := g.pc + 3, stack := v.toList ++ rest }) target → Steps p.tables e below (T.setTop g) target) ∨
    (∃ (q : Addr) (vm₁ : Vm) (B : Pt), s.WarmedH vm₁ ∧ Stand p l e R s m args below meth c B.U B.locs B.cells B.slots ∧ PostX ⟨T.setVm vm₁, locs, cells, slots⟩ (Value.ref b :: argsL).toArray q B ∧
      Steps p.tables e below (T.setTop g) ((B.U.setTop { g with stack := rest }).pushFrame (.throwing q))) := by
  obtain ⟨mk, methM, hnamed, hmethM, hstM, habM⟩ := Cond.instanceMethod_spec hinst
  obtain ⟨methM', cM, hmethM', -, -, -, -, -, -, hsigM⟩ := Cond.code_spec hnamed hcode
  cases hmethM.symm.trans hmethM'
  obtain ⟨c2, r2, m2, q1, q2, q3, q4, kP, hkP, hkPi⟩ := Cond.selects_spec hsel
  cases hcls.symm.trans q1
  cases (State.methodFound?_of_named hnamed hy).symm.trans q2
  cases hnamed.symm.trans q3
  have hselP : selectMethod e.platform s.vm cellB.cls mk = .method mk := by rw [Launch.admits_selectMethod X.admits]; exact q4
  obtain ⟨vm₁, X₁, hstep₁⟩ := X.invokevirtual hexec hown hlink hnamed hmethM hstM hkP hkPi hy (a := b) (cell := cellB) hcell
    (fun z h => by rw [h] at hobj; cases hobj) hselP hmethM habM hkP hkPi (g := g) hg (argsL := argsL) (rest := rest) (hlen _ hsigM) hstack hdg
  rcases hK m meth c ⟨T.setVm vm₁, locs, cells, slots⟩ { g with stack := rest } (.invokevirtual index) mk (Value.ref b :: argsL).toArray X₁ hg hsize hdg hW (X₁.named hnamed) (hpre vm₁ X₁.warmed) with ⟨v, B, X', hpost, hsteps⟩ | ⟨q, B, X', hpost, hsteps⟩
  · exact Or.inl ⟨v, vm₁, B, X₁.warmed, X', hpost, fun target h => hstep₁ _ fun acts => by rw [doInvoke_state]; exact hsteps.trans h⟩
  · exact Or.inr ⟨q, vm₁, B, X₁.warmed, X', hpost, hstep₁ _ fun acts => by rw [doInvoke_state]; exact hsteps⟩
theorem vx_callS (X : Stand p l e R s m args below meth c T locs cells slots) (hexec : p.tables.exec = Jvm.exec) {own : String} {index : Nat} {y : MethodName} {bytes : ByteArray} {maxL : Nat} {ret : Option FieldType}
    (hown : s.vm.findClass own = some m.cls) (hlink : (Cond.methodLink own index y).before args s = true) (hstat : (Cond.static y).before args s = true) (hinit : (Cond.initialized y.cls).before args s = true)
    (hcode : (Cond.code y bytes maxL ret).before args s = true) (hy : y.cls ≠ "java/lang/invoke/MethodHandle" ∧ y.cls ≠ "java/lang/invoke/VarHandle")
    {W9 : Nat} {Pre : Pt → Array Value → Prop} {Post : Pt → Array Value → Option Value → Pt → Prop} {PostX : Pt → Array Value → Addr → Pt → Prop} (hK : vx_Back l R p e below s args y 3 W9 Pre Post PostX)
    {g : JFrame} (hg : g.method = m) (hsize : g.locals.size = c.maxLocals) {argsL rest : List Value} (hlen : ∀ sig, parseMethodDescriptor y.desc = some sig → argsL.length = sig.parameters.length)
    (hstack : g.stack = argsL.reverse ++ rest) (hW : 2 * g.monitorRoom + (rest.map fun v => v.category).sum ≤ W9) (hdg : decode c.code g.pc = .ok (.invokestatic index, 3))
    (hpre : ∀ vm₁, s.WarmedH vm₁ → Pre ⟨T.setVm vm₁, locs, cells, slots⟩ argsL.toArray) :
    (∃ (v : Option Value) (vm₁ : Vm) (B : Pt), s.WarmedH vm₁ ∧ Stand p l e R s m args below meth c B.U B.locs B.cells B.slots ∧ Post ⟨T.setVm vm₁, locs, cells, slots⟩ argsL.toArray v B ∧
      ∀ target, Steps p.tables e below (B.U.setTop { g with pc := g.pc + 3, stack := v.toList ++ rest }) target → Steps p.tables e below (T.setTop g) target) ∨
    (∃ (q : Addr) (vm₁ : Vm) (B : Pt), s.WarmedH vm₁ ∧ Stand p l e R s m args below meth c B.U B.locs B.cells B.slots ∧ PostX ⟨T.setVm vm₁, locs, cells, slots⟩ argsL.toArray q B ∧
      Steps p.tables e below (T.setTop g) ((B.U.setTop { g with stack := rest }).pushFrame (.throwing q))) := by
  obtain ⟨mk, hnamed⟩ := Cond.code_named hcode
  obtain ⟨methM, cM, hmethM, -, -, -, -, -, -, hsigM⟩ := Cond.code_spec hnamed hcode
  have hstatic : methM.isStatic = true := Cond.static_spec hnamed hmethM hstat
  obtain ⟨kP, hkP, -⟩ := className_of_methodNamed hnamed
  have hinitP : kP.init = .initialized := Cond.initialized_spec (findClass_of_methodNamed hnamed) hkP hinit
  obtain ⟨vm₁, X₁, hstep₁⟩ := X.invokestatic hexec hown hlink hnamed hmethM hstatic hkP hinitP hy (g := g) hg (argsL := argsL) (rest := rest) (hlen _ hsigM) hstack hdg
  rcases hK m meth c ⟨T.setVm vm₁, locs, cells, slots⟩ { g with stack := rest } (.invokestatic index) mk argsL.toArray X₁ hg hsize hdg hW (X₁.named hnamed) (hpre vm₁ X₁.warmed) with ⟨v, B, X', hpost, hsteps⟩ | ⟨q, B, X', hpost, hsteps⟩
  · exact Or.inl ⟨v, vm₁, B, X₁.warmed, X', hpost, fun target h => hstep₁ _ fun acts => by rw [doInvoke_state]; exact hsteps.trans h⟩
  · exact Or.inr ⟨q, vm₁, B, X₁.warmed, X', hpost, hstep₁ _ fun acts => by rw [doInvoke_state]; exact hsteps⟩
end Calls
theorem vx_cls {s : State} {T : State} {vm₁ : Vm} {E : String} {k : ClassId} (hW : s.WarmedH vm₁) (h : (T.setVm vm₁).vm.findClass E = some k) : s.vm.findClass E = some k := by
  have h1 : vm₁.findClass E = some k := h
  rw [hW.alike.findClass] at h1
  exact h1
/-- the method's frame g, with q thrown over it -/
def vx_W (p : Program) (l : Launch) (e : Env) (R : Room) (s : State) (m : MethodId) (args : Array Value) (below : List Frame) (meth : Method) (c : Code) (H : Heap) (locs : List Loc) (cells slots : Nat) (Q : State → Prop) (g : JFrame) (q : Addr) : Prop :=
  ∀ T : State, T.heap = H → Stand p l e R s m args below meth c T locs cells slots → ∃ t, Steps p.tables e below ((T.setTop g).pushFrame (.throwing q)) t ∧ Q t
def vx_Run (p : Program) (l : Launch) (e : Env) (R : Room) (s : State) (m : MethodId) (args : Array Value) (below : List Frame) (meth : Method) (c : Code) (H : Heap) (locs : List Loc) (cells slots mc ms : Nat) (g : JFrame) (rest : List Value) (Qa : State → Outcome → State → Prop) (XC : String → State → State → Prop) (free : Addr → Prop) : Prop :=
  ∀ T : State, T.heap = H → Stand p l e R s m args below meth c T locs cells slots →
    (∃ (v : Option Value) (st₀ t T' : State) (L : List Loc), st₀.heap = H ∧ Stand p l e R s m args below meth c T' (locs ++ L) (cells + mc) (slots + ms) ∧ (∀ q ∈ L, free q.base) ∧ T'.heap = t.heap ∧ T'.vm = t.vm ∧ Qa st₀ (.returned v) t ∧
      Goes p e below T g T' { g with pc := g.pc + 3, stack := v.toList ++ rest }) ∨
    (∃ (q : Addr) (st₀ t T' : State) (L : List Loc) (E : String) (ce : Cell), st₀.heap = H ∧ Stand p l e R s m args below meth c T' (locs ++ L) (cells + mc) (slots + ms) ∧ (∀ z ∈ L, free z.base) ∧ T'.heap = t.heap ∧ T'.vm = t.vm ∧ XC E st₀ t ∧ t.heap[q]? = some ce ∧ ce.vm = .none ∧ s.vm.findClass E = some ce.cls ∧
      Steps p.tables e below (T.setTop g) ((T'.setTop { g with stack := rest }).pushFrame (.throwing q)))
def vx_X {S : Type} (px : S → Prop) (B : String → S → State → Prop) (A : Nat → Prop) : String → State → State → Prop := fun E st t => ∃ u : S, px u ∧ B E u t ∧ va_F A st t
section Runs
variable {p : Program} {l : Launch} {e : Env} {R : Room} {s : State} {m : MethodId} {args : Array Value} {below : List Frame} {meth : Method} {c : Code} {H : Heap} {locs : List Loc} {cells slots : Nat}
variable {y : MethodName} {bytes cc : ByteArray} {maxL nL mc ms n index : Nat} {ret : Option FieldType} {ws : List Cond} {rm : Room} {Pc : Array Value → State → Prop} {Qc : Array Value → State → Outcome → State → Prop} {XC : String → State → State → Prop} {free : Addr → Prop} {Ts : List Cond} {own C : String} {b : Addr} {As rest : List Value} {g : JFrame}
theorem vx_callBack (cb : CallB R s args own index y bytes maxL ret ws rm mc ms n) (hM : vx_Met l y ws rm Pc Qc XC mc ms free) (hbl : FrameBlind Pc) : vx_Back l R p e below s args y 3 8 (PreOf R mc ms Pc) (PostOf Qc mc ms free) (vx_Post XC mc ms free) := by
  obtain ⟨hrc, hrs, hfr, hlo, hws, hcw, -, hini, -⟩ := cb
  exact vx_back (bytes := bytes) (maxL := maxL) (ret := ret) hM hbl hrc hrs hfr hlo hws hcw (fun a' U hW => word_at hW (Or.inl (by first | rfl | simp [Cond.onTables, Cond.keeps, Cond.steady])) hini)
theorem vx_runV (S : CallFix p m c cc nL s args Ts own) (hM : vx_Met l y ws rm Pc Qc XC mc ms free) (cw : CallW R s args own C index y bytes maxL ret ws rm mc ms n) (hp : PreV s H C b Pc As)
    (hg : g.method = m) (hn : As.length = n) (hsize : g.locals.size = nL) (hstack : g.stack = As.reverse ++ .ref b :: rest) (hW : 2 * g.monitorRoom + (rest.map fun v => v.category).sum ≤ 8) (hdg : decode cc g.pc = .ok (.invokevirtual index, 3)) (hf : cells + mc ≤ R.cells ∧ slots + ms ≤ R.slots) :
    vx_Run p l e R s m args below meth c H locs cells slots mc ms g rest (Qc (Value.ref b :: As).toArray) XC free := by
  have hK : vx_Back l R p e below s args y 3 8 (PreOf R mc ms Pc) (PostOf Qc mc ms free) (vx_Post XC mc ms free) := vx_callBack cw.1 hM hp.1
  obtain ⟨⟨-, -, -, -, -, -, hcode, -, hy, hlen, hl⟩, hin, hse⟩ := cw
  obtain ⟨hx, hb, hml, ho, -⟩ := S
  obtain ⟨-, ⟨cellB, hcB, hoB, hclB⟩, hPc⟩ := hp
  intro T hT X
  rcases vx_callV X hx (C := C) (bytes := bytes) (maxL := maxL) (ret := ret) ho hl hin hse hcode hy hK (by rw [hT]; exact hcB) hoB hclB hg (hsize.trans hml.symm) (argsL := As) (rest := rest) (fun sig h => hn.trans (hlen sig h)) hstack hW (by rw [hb]; exact hdg)
    (fun vm₁ hW₁ => ⟨hf.1, hf.2, hPc (T.setVm vm₁) hT hW₁⟩) with ⟨v, vm₁, ⟨U', l2, c2, s2⟩, hW₁, X', ⟨g', mk, t, L, e1, e2, hq, h1, hL, h2, h3⟩, st⟩ | ⟨q, vm₁, ⟨U', l2, c2, s2⟩, hW₁, X', ⟨g', mk, t, L, E, ce, e1, e2, hq, hce, hcv, hcl, h1, hL, h2, h3⟩, st⟩
  · dsimp only [Pt.U, Pt.locs, Pt.cells, Pt.slots] at X' e1 e2 h1 h2 h3 st
    subst h1; subst h2; subst h3
    exact Or.inl ⟨v, (T.setVm vm₁).calling g' mk (Value.ref b :: As).toArray, t, U', L, hT, X', hL, e1, e2, hq, st⟩
  · dsimp only [Pt.U, Pt.locs, Pt.cells, Pt.slots] at X' e1 e2 h1 h2 h3 st hcl
    subst h1; subst h2; subst h3
    exact Or.inr ⟨q, (T.setVm vm₁).calling g' mk (Value.ref b :: As).toArray, t, U', L, E, ce, hT, X', hL, e1, e2, hq, hce, hcv, vx_cls hW₁ hcl, st⟩
theorem vx_runS (S : CallFix p m c cc nL s args Ts own) (hM : vx_Met l y ws rm Pc Qc XC mc ms free) (cw : CallB R s args own index y bytes maxL ret ws rm mc ms n ∧ (Cond.static y).before args s = true) (hp : PreS s H Pc As)
    (hg : g.method = m) (hn : As.length = n) (hsize : g.locals.size = nL) (hstack : g.stack = As.reverse ++ rest) (hW : 2 * g.monitorRoom + (rest.map fun v => v.category).sum ≤ 8) (hdg : decode cc g.pc = .ok (.invokestatic index, 3)) (hf : cells + mc ≤ R.cells ∧ slots + ms ≤ R.slots) :
    vx_Run p l e R s m args below meth c H locs cells slots mc ms g rest (Qc As.toArray) XC free := by
  have hK : vx_Back l R p e below s args y 3 8 (PreOf R mc ms Pc) (PostOf Qc mc ms free) (vx_Post XC mc ms free) := vx_callBack cw.1 hM hp.1
  obtain ⟨⟨-, -, -, -, -, -, hcode, hini, hy, hlen, hl⟩, hstt⟩ := cw
  obtain ⟨hx, hb, hml, ho, -⟩ := S
  intro T hT X
  rcases vx_callS X hx (bytes := bytes) (maxL := maxL) (ret := ret) ho hl hstt hini hcode hy hK hg (hsize.trans hml.symm) (argsL := As) (rest := rest) (fun sig h => hn.trans (hlen sig h)) hstack hW (by rw [hb]; exact hdg)
    (fun vm₁ hW₁ => ⟨hf.1, hf.2, hp.2 (T.setVm vm₁) hT hW₁⟩) with ⟨v, vm₁, ⟨U', l2, c2, s2⟩, hW₁, X', ⟨g', mk, t, L, e1, e2, hq, h1, hL, h2, h3⟩, st⟩ | ⟨q, vm₁, ⟨U', l2, c2, s2⟩, hW₁, X', ⟨g', mk, t, L, E, ce, e1, e2, hq, hce, hcv, hcl, h1, hL, h2, h3⟩, st⟩
  · dsimp only [Pt.U, Pt.locs, Pt.cells, Pt.slots] at X' e1 e2 h1 h2 h3 st
    subst h1; subst h2; subst h3
    exact Or.inl ⟨v, (T.setVm vm₁).calling g' mk As.toArray, t, U', L, hT, X', hL, e1, e2, hq, st⟩
  · dsimp only [Pt.U, Pt.locs, Pt.cells, Pt.slots] at X' e1 e2 h1 h2 h3 st hcl
    subst h1; subst h2; subst h3
    exact Or.inr ⟨q, (T.setVm vm₁).calling g' mk As.toArray, t, U', L, E, ce, hT, X', hL, e1, e2, hq, hce, hcv, vx_cls hW₁ hcl, st⟩
end Runs
section Rows
variable {p : Program} {l : Launch} {e : Env} {R : Room} {s : State} {m : MethodId} {args : Array Value} {below : List Frame} {meth : Method} {c : Code} {H : Heap} {locs : List Loc} {cells slots : Nat} {Q : State → Prop}
variable {mc ms : Nat} {free : Addr → Prop} {A0 A1 : Nat → Prop} {H0 : Heap} {a : Array Value} {pc : Nat} {ls : Array Slot} {st0 rest : List Value}
theorem vx_keep {st₀ t T' : State} {L : List Loc} (h0 : st₀.heap = H) (e1 : T'.heap = t.heap) (hS : va_S A0 H0 H locs) (hA : ∀ q, q < H.size → A1 q → A0 q) (hf : ∀ q, free q → A0 q) (hL : ∀ q ∈ L, free q.base) (hF : va_F A1 st₀ t) :
    H.size ≤ T'.heap.size ∧ (∀ q : Nat, q < H.size → ¬ A1 q → T'.heap[q]? = H[q]?) ∧ va_S A0 H0 T'.heap (locs ++ L) := by
  obtain ⟨hz, hk⟩ := hF
  rw [h0] at hz hk
  exact ⟨by rw [e1]; exact hz, fun q h1 h2 => by rw [e1]; exact hk q h1 h2,
    ⟨Nat.le_trans hS.1 (by rw [e1]; exact hz), fun q h1 h2 => by rw [e1, hk q (Nat.lt_of_lt_of_le h1 hS.1) (fun z => h2 (hA q (Nat.lt_of_lt_of_le h1 hS.1) z))]; exact hS.2.1 q h1 h2, fun q hq => by
      rcases List.mem_append.mp hq with h | h
      · exact hS.2.2 q h
      · exact hf _ (hL q h)⟩⟩
theorem vx_calli {S SX : Type} {post : Int32 → S → Prop} {px : SX → Prop} {B : S → State → Prop} {BX : String → SX → State → Prop} {AX : Nat → Prop} (hr : vx_Run p l e R s m args below meth c H locs cells slots mc ms (F0 m pc ls st0) rest (va_Qi post B A1 a) (vx_X px BX AX) free) (hS : va_S A0 H0 H locs) (hA : ∀ q, q < H.size → A1 q → A0 q) (hf : ∀ q, free q → A0 q) (hAX : ∀ q, q < H.size → AX q → A0 q)
    (kx : ∀ (E : String) (ce : Cell) (q9 : Addr) (u : SX) (t : State) (H1 : Heap) (locs1 : List Loc), t.heap = H1 → s.vm.Alike t.vm → px u → BX E u t → H.size ≤ H1.size → (∀ q : Nat, q < H.size → ¬ AX q → H1[q]? = H[q]?) → va_S A0 H0 H1 locs1 → H1[q9]? = some ce → ce.vm = .none → s.vm.findClass E = some ce.cls → vx_W p l e R s m args below meth c H1 locs1 (cells + mc) (slots + ms) Q (F0 m pc ls rest) q9)
    (kk : ∀ (r : Int32) (u : S) (t : State) (H1 : Heap) (locs1 : List Loc), t.heap = H1 → s.vm.Alike t.vm → post r u → B u t → H.size ≤ H1.size → (∀ q : Nat, q < H.size → ¬ A1 q → H1[q]? = H[q]?) → va_S A0 H0 H1 locs1 → W p l e R s m args below meth c H1 locs1 (cells + mc) (slots + ms) Q (F0 m (pc + 3) ls (.int r :: rest))) : W p l e R s m args below meth c H locs cells slots Q (F0 m pc ls st0) := by
  intro T hT X
  rcases hr T hT X with ⟨v, st₀, t, T', L, h0, X', hL, e1, e2, ⟨⟨r, u, hv, hp, hb⟩, hF⟩, st⟩ | ⟨q, st₀, t, T', L, E, ce, h0, X', hL, e1, e2, ⟨u, hp, hb, hF⟩, hce, hcv, hcl, st⟩
  · cases hv
    obtain ⟨k1, k2, k3⟩ := vx_keep h0 e1 hS hA hf hL hF
    obtain ⟨t2, a1, b1⟩ := kk r u t T'.heap (locs ++ L) e1.symm (by rw [← e2]; exact X'.warmed.alike) hp hb k1 k2 k3 T' rfl X'
    exact ⟨t2, st t2 a1, b1⟩
  · obtain ⟨k1, k2, k3⟩ := vx_keep h0 e1 hS hAX hf hL hF
    obtain ⟨t2, a1, b1⟩ := kx E ce q u t T'.heap (locs ++ L) e1.symm (by rw [← e2]; exact X'.warmed.alike) hp hb k1 k2 k3 (by rw [e1]; exact hce) hcv hcl T' rfl X'
    exact ⟨t2, st.trans a1, b1⟩
theorem vx_calll {S SX : Type} {post : Int64 → S → Prop} {px : SX → Prop} {B : S → State → Prop} {BX : String → SX → State → Prop} {AX : Nat → Prop} (hr : vx_Run p l e R s m args below meth c H locs cells slots mc ms (F0 m pc ls st0) rest (va_Ql post B A1 a) (vx_X px BX AX) free) (hS : va_S A0 H0 H locs) (hA : ∀ q, q < H.size → A1 q → A0 q) (hf : ∀ q, free q → A0 q) (hAX : ∀ q, q < H.size → AX q → A0 q)
    (kx : ∀ (E : String) (ce : Cell) (q9 : Addr) (u : SX) (t : State) (H1 : Heap) (locs1 : List Loc), t.heap = H1 → s.vm.Alike t.vm → px u → BX E u t → H.size ≤ H1.size → (∀ q : Nat, q < H.size → ¬ AX q → H1[q]? = H[q]?) → va_S A0 H0 H1 locs1 → H1[q9]? = some ce → ce.vm = .none → s.vm.findClass E = some ce.cls → vx_W p l e R s m args below meth c H1 locs1 (cells + mc) (slots + ms) Q (F0 m pc ls rest) q9)
    (kk : ∀ (r : Int64) (u : S) (t : State) (H1 : Heap) (locs1 : List Loc), t.heap = H1 → s.vm.Alike t.vm → post r u → B u t → H.size ≤ H1.size → (∀ q : Nat, q < H.size → ¬ A1 q → H1[q]? = H[q]?) → va_S A0 H0 H1 locs1 → W p l e R s m args below meth c H1 locs1 (cells + mc) (slots + ms) Q (F0 m (pc + 3) ls (.long r :: rest))) : W p l e R s m args below meth c H locs cells slots Q (F0 m pc ls st0) := by
  intro T hT X
  rcases hr T hT X with ⟨v, st₀, t, T', L, h0, X', hL, e1, e2, ⟨⟨r, u, hv, hp, hb⟩, hF⟩, st⟩ | ⟨q, st₀, t, T', L, E, ce, h0, X', hL, e1, e2, ⟨u, hp, hb, hF⟩, hce, hcv, hcl, st⟩
  · cases hv
    obtain ⟨k1, k2, k3⟩ := vx_keep h0 e1 hS hA hf hL hF
    obtain ⟨t2, a1, b1⟩ := kk r u t T'.heap (locs ++ L) e1.symm (by rw [← e2]; exact X'.warmed.alike) hp hb k1 k2 k3 T' rfl X'
    exact ⟨t2, st t2 a1, b1⟩
  · obtain ⟨k1, k2, k3⟩ := vx_keep h0 e1 hS hAX hf hL hF
    obtain ⟨t2, a1, b1⟩ := kx E ce q u t T'.heap (locs ++ L) e1.symm (by rw [← e2]; exact X'.warmed.alike) hp hb k1 k2 k3 (by rw [e1]; exact hce) hcv hcl T' rfl X'
    exact ⟨t2, st.trans a1, b1⟩
theorem vx_callf {S SX : Type} {post : UInt32 → S → Prop} {px : SX → Prop} {B : S → State → Prop} {BX : String → SX → State → Prop} {AX : Nat → Prop} (hr : vx_Run p l e R s m args below meth c H locs cells slots mc ms (F0 m pc ls st0) rest (va_Qf post B A1 a) (vx_X px BX AX) free) (hS : va_S A0 H0 H locs) (hA : ∀ q, q < H.size → A1 q → A0 q) (hf : ∀ q, free q → A0 q) (hAX : ∀ q, q < H.size → AX q → A0 q)
    (kx : ∀ (E : String) (ce : Cell) (q9 : Addr) (u : SX) (t : State) (H1 : Heap) (locs1 : List Loc), t.heap = H1 → s.vm.Alike t.vm → px u → BX E u t → H.size ≤ H1.size → (∀ q : Nat, q < H.size → ¬ AX q → H1[q]? = H[q]?) → va_S A0 H0 H1 locs1 → H1[q9]? = some ce → ce.vm = .none → s.vm.findClass E = some ce.cls → vx_W p l e R s m args below meth c H1 locs1 (cells + mc) (slots + ms) Q (F0 m pc ls rest) q9)
    (kk : ∀ (r : UInt32) (u : S) (t : State) (H1 : Heap) (locs1 : List Loc), t.heap = H1 → s.vm.Alike t.vm → post r u → B u t → H.size ≤ H1.size → (∀ q : Nat, q < H.size → ¬ A1 q → H1[q]? = H[q]?) → va_S A0 H0 H1 locs1 → W p l e R s m args below meth c H1 locs1 (cells + mc) (slots + ms) Q (F0 m (pc + 3) ls (.float r :: rest))) : W p l e R s m args below meth c H locs cells slots Q (F0 m pc ls st0) := by
  intro T hT X
  rcases hr T hT X with ⟨v, st₀, t, T', L, h0, X', hL, e1, e2, ⟨⟨r, u, hv, hp, hb⟩, hF⟩, st⟩ | ⟨q, st₀, t, T', L, E, ce, h0, X', hL, e1, e2, ⟨u, hp, hb, hF⟩, hce, hcv, hcl, st⟩
  · cases hv
    obtain ⟨k1, k2, k3⟩ := vx_keep h0 e1 hS hA hf hL hF
    obtain ⟨t2, a1, b1⟩ := kk r u t T'.heap (locs ++ L) e1.symm (by rw [← e2]; exact X'.warmed.alike) hp hb k1 k2 k3 T' rfl X'
    exact ⟨t2, st t2 a1, b1⟩
  · obtain ⟨k1, k2, k3⟩ := vx_keep h0 e1 hS hAX hf hL hF
    obtain ⟨t2, a1, b1⟩ := kx E ce q u t T'.heap (locs ++ L) e1.symm (by rw [← e2]; exact X'.warmed.alike) hp hb k1 k2 k3 (by rw [e1]; exact hce) hcv hcl T' rfl X'
    exact ⟨t2, st.trans a1, b1⟩
theorem vx_calld {S SX : Type} {post : UInt64 → S → Prop} {px : SX → Prop} {B : S → State → Prop} {BX : String → SX → State → Prop} {AX : Nat → Prop} (hr : vx_Run p l e R s m args below meth c H locs cells slots mc ms (F0 m pc ls st0) rest (va_Qd post B A1 a) (vx_X px BX AX) free) (hS : va_S A0 H0 H locs) (hA : ∀ q, q < H.size → A1 q → A0 q) (hf : ∀ q, free q → A0 q) (hAX : ∀ q, q < H.size → AX q → A0 q)
    (kx : ∀ (E : String) (ce : Cell) (q9 : Addr) (u : SX) (t : State) (H1 : Heap) (locs1 : List Loc), t.heap = H1 → s.vm.Alike t.vm → px u → BX E u t → H.size ≤ H1.size → (∀ q : Nat, q < H.size → ¬ AX q → H1[q]? = H[q]?) → va_S A0 H0 H1 locs1 → H1[q9]? = some ce → ce.vm = .none → s.vm.findClass E = some ce.cls → vx_W p l e R s m args below meth c H1 locs1 (cells + mc) (slots + ms) Q (F0 m pc ls rest) q9)
    (kk : ∀ (r : UInt64) (u : S) (t : State) (H1 : Heap) (locs1 : List Loc), t.heap = H1 → s.vm.Alike t.vm → post r u → B u t → H.size ≤ H1.size → (∀ q : Nat, q < H.size → ¬ A1 q → H1[q]? = H[q]?) → va_S A0 H0 H1 locs1 → W p l e R s m args below meth c H1 locs1 (cells + mc) (slots + ms) Q (F0 m (pc + 3) ls (.double r :: rest))) : W p l e R s m args below meth c H locs cells slots Q (F0 m pc ls st0) := by
  intro T hT X
  rcases hr T hT X with ⟨v, st₀, t, T', L, h0, X', hL, e1, e2, ⟨⟨r, u, hv, hp, hb⟩, hF⟩, st⟩ | ⟨q, st₀, t, T', L, E, ce, h0, X', hL, e1, e2, ⟨u, hp, hb, hF⟩, hce, hcv, hcl, st⟩
  · cases hv
    obtain ⟨k1, k2, k3⟩ := vx_keep h0 e1 hS hA hf hL hF
    obtain ⟨t2, a1, b1⟩ := kk r u t T'.heap (locs ++ L) e1.symm (by rw [← e2]; exact X'.warmed.alike) hp hb k1 k2 k3 T' rfl X'
    exact ⟨t2, st t2 a1, b1⟩
  · obtain ⟨k1, k2, k3⟩ := vx_keep h0 e1 hS hAX hf hL hF
    obtain ⟨t2, a1, b1⟩ := kx E ce q u t T'.heap (locs ++ L) e1.symm (by rw [← e2]; exact X'.warmed.alike) hp hb k1 k2 k3 (by rw [e1]; exact hce) hcv hcl T' rfl X'
    exact ⟨t2, st.trans a1, b1⟩
theorem vx_callv {S SX : Type} {post : S → Prop} {px : SX → Prop} {B : S → State → Prop} {BX : String → SX → State → Prop} {AX : Nat → Prop} (hr : vx_Run p l e R s m args below meth c H locs cells slots mc ms (F0 m pc ls st0) rest (va_Qv post B A1 a) (vx_X px BX AX) free) (hS : va_S A0 H0 H locs) (hA : ∀ q, q < H.size → A1 q → A0 q) (hf : ∀ q, free q → A0 q) (hAX : ∀ q, q < H.size → AX q → A0 q)
    (kx : ∀ (E : String) (ce : Cell) (q9 : Addr) (u : SX) (t : State) (H1 : Heap) (locs1 : List Loc), t.heap = H1 → s.vm.Alike t.vm → px u → BX E u t → H.size ≤ H1.size → (∀ q : Nat, q < H.size → ¬ AX q → H1[q]? = H[q]?) → va_S A0 H0 H1 locs1 → H1[q9]? = some ce → ce.vm = .none → s.vm.findClass E = some ce.cls → vx_W p l e R s m args below meth c H1 locs1 (cells + mc) (slots + ms) Q (F0 m pc ls rest) q9)
    (kk : ∀ (u : S) (t : State) (H1 : Heap) (locs1 : List Loc), t.heap = H1 → s.vm.Alike t.vm → post u → B u t → H.size ≤ H1.size → (∀ q : Nat, q < H.size → ¬ A1 q → H1[q]? = H[q]?) → va_S A0 H0 H1 locs1 → W p l e R s m args below meth c H1 locs1 (cells + mc) (slots + ms) Q (F0 m (pc + 3) ls (rest))) : W p l e R s m args below meth c H locs cells slots Q (F0 m pc ls st0) := by
  intro T hT X
  rcases hr T hT X with ⟨v, st₀, t, T', L, h0, X', hL, e1, e2, ⟨⟨u, hv, hp, hb⟩, hF⟩, st⟩ | ⟨q, st₀, t, T', L, E, ce, h0, X', hL, e1, e2, ⟨u, hp, hb, hF⟩, hce, hcv, hcl, st⟩
  · cases hv
    obtain ⟨k1, k2, k3⟩ := vx_keep h0 e1 hS hA hf hL hF
    obtain ⟨t2, a1, b1⟩ := kk u t T'.heap (locs ++ L) e1.symm (by rw [← e2]; exact X'.warmed.alike) hp hb k1 k2 k3 T' rfl X'
    exact ⟨t2, st t2 a1, b1⟩
  · obtain ⟨k1, k2, k3⟩ := vx_keep h0 e1 hS hAX hf hL hF
    obtain ⟨t2, a1, b1⟩ := kx E ce q u t T'.heap (locs ++ L) e1.symm (by rw [← e2]; exact X'.warmed.alike) hp hb k1 k2 k3 (by rw [e1]; exact hce) hcv hcl T' rfl X'
    exact ⟨t2, st.trans a1, b1⟩

end Rows
section Ends
variable {p : Program} {l : Launch} {e : Env} {R : Room} {s : State} {m : MethodId} {args : Array Value} {below : List Frame} {meth : Method} {c : Code} {H : Heap} {locs : List Loc} {cells slots : Nat} {Q : State → Prop}
variable {mc ms : Nat} {free : Addr → Prop} {A0 A1 : Nat → Prop} {H0 : Heap} {a : Array Value} {ls : Array Slot} {st0 rest : List Value}
variable {Qc : Array Value → State → Outcome → State → Prop} {XC : String → State → State → Prop}
/-- what a body that may throw owes at its end -/
def vx_MQ (below : List Frame) (Qc : Array Value → State → Outcome → State → Prop) (XC : String → State → State → Prop) (a : Array Value) (s : State) (mc ms : Nat) (free : Addr → Prop) : State → Prop := fun t =>
  ∃ o, t.status = .running ∧ Ended t below o ∧ vx_Q Qc XC mc ms free a s o t
theorem vx_ret {g : JFrame} {mc ms : Nat} (k : W p l e R s m args below meth c H locs cells slots (MQ below Qc args s mc ms free) g) : W p l e R s m args below meth c H locs cells slots (vx_MQ below Qc XC args s mc ms free) g := by
  intro T hT X
  obtain ⟨t, a1, o, b1, b2, b3, b4⟩ := k T hT X
  exact ⟨t, a1, o, b1, b2, Or.inl ⟨b3, b4⟩⟩
/-- not caught here: it goes on to the caller -/
theorem vx_widen {g : JFrame} {q : Addr} {k n : Nat} (h1 : cells ≤ k) (h2 : slots ≤ n) (kk : vx_W p l e R s m args below meth c H locs k n Q g q) : vx_W p l e R s m args below meth c H locs cells slots Q g q := fun T hT X => kk T hT (stand_widen X h1 h2)
theorem vx_out {pc : Nat} {E : String} {ce : Cell} {q : Addr} {mc ms : Nat} (hout : ∀ x ∈ c.exceptionTable.toList, covers x pc = false) (hlocks : meth.locks = false) (hcell : H[q]? = some ce) (hv : ce.vm = .none) (hcl : s.vm.findClass E = some ce.cls)
    (hx : ∀ t : State, t.heap = H → s.vm.Alike t.vm → XC E s t) (hf : ∀ z ∈ locs, free z.base) (hc : cells ≤ mc) (hs : slots ≤ ms) :
    vx_W p l e R s m args below meth c H locs cells slots (vx_MQ below Qc XC args s mc ms free) (F0 m pc ls rest) q := by
  intro T hT X
  obtain ⟨st1, hrun, hend, hW, hsm⟩ := X.leaveThrown q (g := F0 m pc ls rest) rfl rfl rfl hout hlocks
  have hcell9 : (T.setFrames (.throwing q :: below)).heap[q]? = some ce := by
    show T.heap[q]? = some ce
    rw [hT]; exact hcell
  exact ⟨_, st1, .threw q, hrun, hend, Or.inr ⟨q, rfl, E, ce, locs, hx _ hT hW.alike, hcell9, hv, hcl, hW, hsm.mono hc hs, hf⟩⟩
theorem vx_frame {U : State} {k n : Nat} (h : s.sameButNew ({ U with vm := s.vm } : State) locs k n) : s.heap.size ≤ U.heap.size ∧ ∀ q : Nat, q < s.heap.size → (∀ z ∈ locs, z.base ≠ q) → U.heap[q]? = s.heap[q]? := by
  obtain ⟨-, h2, -, -, -, h6⟩ := h
  refine ⟨h2, fun q hq hz => ?_⟩
  obtain ⟨c9, e1, e2, e3, e4⟩ := h6 q _ (Array.getElem?_eq_getElem hq)
  have hs : c9.slots = (s.heap[q]).slots := Array.ext_getElem? fun i => e4 i fun hm => hz _ hm rfl
  have h9 : c9 = s.heap[q] := by
    rw [hs] at e2
    exact e2
  have e5 : U.heap[q]? = some c9 := e1
  rw [e5, h9, Array.getElem?_eq_getElem hq]
/-- the words of a throw but the four that speak of the heap -/
def vx_no (w : Cond) : Bool := decide (w ≠ .isRef (.static Bundle.tN "UNASSIGNED_STACK" Bundle.steD)) && decide (w ≠ .isRef (.static Bundle.tN "SUPPRESSED_SENTINEL" Bundle.listD)) && decide (w ≠ .laysStatic Bundle.tN "UNASSIGNED_STACK" Bundle.steD) && decide (w ≠ .laysStatic Bundle.tN "SUPPRESSED_SENTINEL" Bundle.listD)
def vx_at0 (own : String) (ic : Nat) (X : String) (names : List String) : List Cond := (Bundle.ownAtoms0 own ic X names).filter vx_no
def vx_atS (own : String) (ic : Nat) (X : String) (names : List String) : List Cond := (Bundle.ownAtoms own ic X names).filter vx_no
/-- a word that the tables alone decide, or a good one -/
def vx_ot (w : Cond) : Bool := w.onTables || goodWord w
theorem vx_ot_at {args a' : Array Value} {s U : State} {w : Cond} (hW : s.WarmedH U.vm) (hvm : s.vm = U.vm) (hg : vx_ot w = true) (h : w.before args s = true) : w.before a' U = true := by
  simp only [vx_ot, Bool.or_eq_true] at hg
  rcases hg with hg | hg
  · exact va_tabs hg hvm h
  · exact word_at hW (good_of_word hg) h
/-- a list's words: the good ones out of the method's own list, the others by premises of their own -/
theorem vx_hat {args : Array Value} {s : State} {L B : List Cond} (h1 : ∀ w ∈ L.filter goodWord, w.before args s = true) (h2 : ∀ w ∈ L.filter (fun w => !goodWord w), w ∈ B) (h3 : ∀ w ∈ B, w.before args s = true) : ∀ w ∈ L, w.before args s = true := by
  intro w hw
  by_cases g : goodWord w = true
  · exact h1 w (List.mem_filter.mpr ⟨hw, g⟩)
  · refine h3 w (h2 w (List.mem_filter.mpr ⟨hw, ?_⟩))
    show (!goodWord w) = true
    cases hgw : goodWord w
    · rfl
    · exact absurd hgw g
theorem vx_c {args : Array Value} {s : State} {w : Cond} {B : List Cond} (h : w.before args s = true) (t : ∀ w ∈ B, w.before args s = true) : ∀ w' ∈ w :: B, w'.before args s = true := fun w' h' => (List.mem_cons.mp h').elim (fun e => by rw [e]; exact h) (t w')
theorem vx_n {args : Array Value} {s : State} : ∀ w ∈ ([] : List Cond), w.before args s = true := fun _ h => nomatch h
theorem vx_own {args : Array Value} {s : State} {L : List Cond} (h1 : ∀ w ∈ L.filter vx_no, w.before args s = true)
    (hU : (Cond.isRef (.static Bundle.tN "UNASSIGNED_STACK" Bundle.steD)).before args s = true) (hN : (Cond.isRef (.static Bundle.tN "SUPPRESSED_SENTINEL" Bundle.listD)).before args s = true)
    (lU : (Cond.laysStatic Bundle.tN "UNASSIGNED_STACK" Bundle.steD).before args s = true) (lN : (Cond.laysStatic Bundle.tN "SUPPRESSED_SENTINEL" Bundle.listD).before args s = true) : ∀ w ∈ L, w.before args s = true := by
  intro w hw
  by_cases e1 : w = .isRef (.static Bundle.tN "UNASSIGNED_STACK" Bundle.steD)
  · rw [e1]; exact hU
  · by_cases e2 : w = .isRef (.static Bundle.tN "SUPPRESSED_SENTINEL" Bundle.listD)
    · rw [e2]; exact hN
    · by_cases e3 : w = .laysStatic Bundle.tN "UNASSIGNED_STACK" Bundle.steD
      · rw [e3]; exact lU
      · by_cases e4 : w = .laysStatic Bundle.tN "SUPPRESSED_SENTINEL" Bundle.listD
        · rw [e4]; exact lN
        · exact h1 w (List.mem_filter.mpr ⟨hw, by unfold vx_no; rw [decide_eq_true e1, decide_eq_true e2, decide_eq_true e3, decide_eq_true e4]; rfl⟩)
/-- where a static field lies, its class's statics cell in H -/
def vx_L (C n d : String) (A : Nat → Prop) (U : State) (H : Heap) : Prop := ∃ (c : ClassId) (k : Class) (i : Nat) (f : Field) (a : Nat) (cell : Cell), U.vm.findClass C = some c ∧ U.fieldFound? C n d = some (c, k, i, f) ∧ f.isStatic = true ∧ k.statics = some a ∧ H[a]? = some cell ∧ cell.vm.isStatics = true ∧ cell.cls = c ∧ f.slot < cell.slots.size ∧ k.staticTypes[f.slot]? = some f.type ∧ ¬ A a
theorem vx_L.moved {C n d : String} {A : Nat → Prop} {u U : State} {H : Heap} (hvm : u.vm.Alike U.vm) (h : vx_L C n d A u H) : vx_L C n d A U H := by
  obtain ⟨c, k, i, f, a, cell, h1, h2, h3, h4, h5, h6, h7, h8, h9, h10⟩ := h
  obtain ⟨k', hi', he⟩ := State.fieldFound?_setVm hvm h2
  exact ⟨c, k', i, f, a, cell, by rw [hvm.findClass]; exact h1, hi', h3, by rw [he]; exact h4, h5, h6, h7, h8, by rw [he]; exact h9, h10⟩
theorem vx_L.kept {C n d : String} {A : Nat → Prop} {U : State} {H H1 : Heap} (h : vx_L C n d A U H) (hq : ∀ a : Nat, a < H.size → ¬ A a → H1[a]? = H[a]?) : vx_L C n d A U H1 := by
  obtain ⟨c, k, i, f, a, cell, h1, h2, h3, h4, h5, h6, h7, h8, h9, h10⟩ := h
  exact ⟨c, k, i, f, a, cell, h1, h2, h3, h4, by rw [hq a (Array.getElem?_eq_some_iff.mp h5).1 h10]; exact h5, h6, h7, h8, h9, h10⟩
theorem vx_L.narrow {C n d : String} {A B : Nat → Prop} {U : State} {H : Heap} (h : vx_L C n d A U H) (hAB : ∀ q, B q → A q) : vx_L C n d B U H := by
  obtain ⟨c, k, i, f, a, cell, h1, h2, h3, h4, h5, h6, h7, h8, h9, h10⟩ := h
  exact ⟨c, k, i, f, a, cell, h1, h2, h3, h4, h5, h6, h7, h8, h9, fun z => h10 (hAB _ z)⟩
theorem vx_L.word {C n d : String} {A : Nat → Prop} {s : State} {args : Array Value} (h : vx_L C n d A s s.heap) : (Cond.laysStatic C n d).before args s = true := by
  obtain ⟨c, k, i, f, a, cell, h1, h2, h3, h4, h5, h6, h7, h8, h9, -⟩ := h
  show (Cond.laysStatic C n d).holds args s none s [] = true
  exact Cond.laysStatic_of h1 h2 h3 h4 h5 h6 h7 h8 h9
/-- .. and what it holds: null or some reference -/
def vx_Zq (C n d : String) (A : Nat → Prop) (U : State) (H : Heap) : Prop := va_Zq C n d A U H ∧ vx_L C n d A U H
theorem vx_Zq.moved {C n d : String} {A : Nat → Prop} {u U : State} {H : Heap} (hvm : u.vm.Alike U.vm) (h : vx_Zq C n d A u H) : vx_Zq C n d A U H := ⟨va_Zq.moved hvm h.1, vx_L.moved hvm h.2⟩
theorem vx_Zq.kept {C n d : String} {A : Nat → Prop} {U : State} {H H1 : Heap} (h : vx_Zq C n d A U H) (hq : ∀ a : Nat, a < H.size → ¬ A a → H1[a]? = H[a]?) : vx_Zq C n d A U H1 := ⟨va_Zq.kept h.1 hq, vx_L.kept h.2 hq⟩
theorem vx_Zq.narrow {C n d : String} {A B : Nat → Prop} {U : State} {H : Heap} (h : vx_Zq C n d A U H) (hAB : ∀ q, B q → A q) : vx_Zq C n d B U H := ⟨va_Zq.narrow h.1 hAB, vx_L.narrow h.2 hAB⟩
theorem vx_Zqof {args : Array Value} {s : State} {C n d : String} {A : Nat → Prop} (hl : (Cond.laysStatic C n d).before args s = true) (hini : (Cond.initialized C).before args s = true) (h : (Cond.isRef (.static C n d)).before args s = true) (hA : ∀ a : Nat, a < s.heap.size → ¬ A a) : vx_Zq C n d A s s.heap := by
  refine ⟨va_Zqof hl hini h hA, ?_⟩
  obtain ⟨c, k, i, f, a, cell, h1, h2, h3, h4, h5, h6, h7, h8, h9⟩ := Cond.laysStatic_spec hl
  exact ⟨c, k, i, f, a, cell, h1, h2, h3, h4, h5, h6, h7, h8, h9, hA a (Array.getElem?_eq_some_iff.mp h5).1⟩
theorem vx_isRef {C n d : String} {v : Value} {A : Nat → Prop} {s : State} {args : Array Value} (h : va_Z C n d v A s s.heap) (hv : v.isRef = true) : (Cond.isRef (.static C n d)).before args s = true := by
  obtain ⟨cf, kf, fi, f, a, cell, h1, h2, h3, h4, h5, h6, h7, -⟩ := h
  have he : (Term.static C n d).eval args s none [] s = some v := by
    simp [Term.eval, State.fieldNamed?, h1, h2, h4, h5, h6, h7]
  simp only [Cond.before, Cond.holds, Cond.value, he]
  cases v <;> simp_all [Value.isRef]
theorem vx_isRefq {C n d : String} {A : Nat → Prop} {s : State} {args : Array Value} (h : va_Zq C n d A s s.heap) : (Cond.isRef (.static C n d)).before args s = true := by
  rcases h with h | ⟨t, h⟩
  · exact vx_isRef h rfl
  · exact vx_isRef h rfl
/-- the same frame, seen from here: as if the method were called anew in this heap -/
theorem vx_rebase {T : State} (X : Stand p l e R s m args below meth c T locs cells slots) {R' : Room} (hf : R'.frames ≤ R.frames) (hl : R'.locals ≤ R.locals) (hc : cells + R'.cells ≤ R.cells) (hs : slots + R'.slots ≤ R.slots) :
    Stand p l e R' ((T.setVm s.vm).setFrames (.invoking m args :: below)) m args below meth c T [] 0 0 := by
  have htop : (T.setVm s.vm).topJava?.isSome := X.here.top
  have hF : ((T.setVm s.vm).setFrames (.invoking m args :: below)).frames = .invoking m args :: below := State.frames_setFrames _ (State.cur_lt_of_top htop)
  obtain ⟨g₀, hg0⟩ := Option.isSome_iff_exists.mp htop
  obtain ⟨r, hr⟩ := State.topJava?_eq_some.mp hg0
  have hl9 : e.platform.stackLimits (T.setVm s.vm).me = e.platform.stackLimits s.me := X.limits
  have hb9 : (T.setVm s.vm).me.stackBytes = s.me.stackBytes := X.bytes
  refine ⟨X.admits, X.cas, X.clock, hF, ?_, X.hears, X.method, X.code, X.here, X.tail, X.warmed, ?_, ?_, ?_⟩
  · have h := X.room
    have hU : ((T.setVm s.vm).setFrames (.invoking m args :: below)).localsInUse = s.localsInUse := by
      rw [State.localsInUse_invoking hF (meth := meth) (c := c) X.method X.code, State.localsInUse_invoking X.frames X.method X.code]
    simp only [State.hasRoom, Bool.and_eq_true, decide_eq_true_eq] at h ⊢
    obtain ⟨⟨⟨⟨h1, h2, h3, h4, h5, h6⟩, h7⟩, h8⟩, h9⟩ := h
    rw [X.frames, List.length_cons] at h2 h3
    have q1 := X.heapSize
    have q2 := X.used
    simp only [hF, hU, List.length_cons, State.stackLimits_setFrames, State.stackBytes_setFrames, hl9, hb9]
    refine ⟨⟨⟨⟨by omega, by omega, by omega, by omega, by omega, h6⟩, ?_⟩, ?_⟩, X.book⟩
    · show T.heap.size + R'.cells ≤ e.platform.maxCells
      omega
    · show T.slotsUsed + R'.slots ≤ e.platform.maxSlots
      omega
  · rw [State.stackLimits_setFrames]; rfl
  · rw [State.stackBytes_setFrames]; rfl
  · refine ⟨?_, Nat.le_refl _, Nat.le_refl _, ?_, ?_, fun a c9 h9 => ⟨c9, h9, rfl, rfl, fun _ _ => rfl⟩⟩
    · obtain ⟨t, ht, -⟩ := State.frames_cons hr
      show T.setVm s.vm = { ((T.setVm s.vm).setFrames (.invoking m args :: below)).setFrames (T.setVm s.vm).frames with heap := T.heap, slotsUsed := T.slotsUsed }
      rw [State.setFrames_setFrames, State.setFrames_self ht]
      rfl
    · show T.slotsUsed = T.slotsUsed + ((T.heap.toList.drop T.heap.size).map (·.slots.size)).sum
      rw [List.drop_eq_nil_of_le (Nat.le_of_eq Array.length_toList)]
      rfl
    · show ((T.heap.toList.drop T.heap.size).map (·.slots.size)).sum ≤ 0
      rw [List.drop_eq_nil_of_le (Nat.le_of_eq Array.length_toList)]
      exact Nat.le_refl _
/-- 'throw new E()': new; dup; invokespecial; athrow -/
theorem vx_throw0 {cc : ByteArray} {pc : Nat} (hexec : p.tables.exec = Jvm.exec) (hb : c.code = cc) (hl : l.stackTraces = false) {own cls : String} {names : List String} {ik ic mc ms : Nat} {A : Nat → Prop}
    (hown : s.vm.findClass own = some m.cls) (hcls : Bundle.fit cls = true) (hnames : ∀ n ∈ names, Bundle.fit n = true)
    (hk : (Cond.classLink own ik cls).before args s = true) (hini : (Cond.initialized cls).before args s = true) (hat : ∀ w ∈ vx_at0 own ic cls names, w.before args s = true)
    (hgood : ∀ w ∈ Cond.classLink own ik cls :: Cond.initialized cls :: vx_at0 own ic cls names, vx_ot w = true)
    (hU : vx_Zq Bundle.tN "UNASSIGNED_STACK" Bundle.steD A s s.heap) (hN : vx_Zq Bundle.tN "SUPPRESSED_SENTINEL" Bundle.listD A s s.heap) (hS : va_S A s.heap H locs) (hsize : ls.size = c.maxLocals)
    (d0 : decode cc pc = .ok (.new ik, 3)) (d3 : decode cc (pc + 3) = .ok (.dup, 1)) (d4 : decode cc (pc + 4) = .ok (.invokespecial ic, 3)) (d7 : decode cc (pc + 7) = .ok (.athrow, 1))
    (hout : ∀ x ∈ c.exceptionTable.toList, covers x (pc + 7) = false)
    (hRframes : names.length + 3 < R.frames) (hRlocals : (rest.map fun v => v.category).sum + (13 * (names.length + 1) + 42) ≤ R.locals) (hRcells : cells + 1 ≤ R.cells) (hRslots : slots + 6 ≤ R.slots) (hlocks : meth.locks = false)
    (hx : ∀ t : State, s.vm.Alike t.vm → H.size ≤ t.heap.size → (∀ q : Nat, q < H.size → t.heap[q]? = H[q]?) → XC cls s t)
    (hf : ∀ z ∈ locs, free z.base) (hc : cells + 1 ≤ mc) (hs : slots + 6 ≤ ms) :
    W p l e R s m args below meth c H locs cells slots (vx_MQ below Qc XC args s mc ms free) (F0 m pc ls rest) := by
  intro T hT X
  have htr : e.platform.stackTraces = false := (show e.platform.stackTraces = l.stackTraces by rw [X.admits.platform]).trans hl
  have Y := vx_rebase X (R' := { frames := R.frames, locals := R.locals, cells := 1, slots := 6 }) (Nat.le_refl _) (Nat.le_refl _) hRcells hRslots
  obtain ⟨s', hA⟩ : ∃ z, z = (T.setVm s.vm).setFrames (.invoking m args :: below) := ⟨_, rfl⟩
  rw [← hA] at Y
  have hvm : s'.vm = s.vm := by rw [hA]; rfl
  have hhp : s'.heap = H := by rw [hA]; exact hT
  have hW0 : s.WarmedH s'.vm := by rw [hvm]; exact State.WarmedH.refl s
  have hat' : ∀ w ∈ vx_at0 own ic cls names, w.before args s' = true := fun w hw => vx_ot_at hW0 hvm.symm (hgood w (List.mem_cons_of_mem _ (List.mem_cons_of_mem _ hw))) (hat w hw)
  have hk' : (Cond.classLink own ik cls).before args s' = true := vx_ot_at hW0 hvm.symm (hgood _ List.mem_cons_self) hk
  have hini' : (Cond.initialized cls).before args s' = true := vx_ot_at hW0 hvm.symm (hgood _ (List.mem_cons_of_mem _ List.mem_cons_self)) hini
  have hU' : vx_Zq Bundle.tN "UNASSIGNED_STACK" Bundle.steD A s' s'.heap := by rw [hhp]; exact vx_Zq.moved hW0.alike (hU.kept hS.2.1)
  have hN' : vx_Zq Bundle.tN "SUPPRESSED_SENTINEL" Bundle.listD A s' s'.heap := by rw [hhp]; exact vx_Zq.moved hW0.alike (hN.kept hS.2.1)
  have h : ∀ w ∈ Bundle.ownAtoms0 own ic cls names, w.before args s' = true := vx_own hat' (vx_isRefq hU'.1) (vx_isRefq hN'.1) hU'.2.word hN'.2.word
  have hown' : s'.vm.findClass own = some m.cls := by rw [hvm]; exact hown
  have hins : (Cond.instantiable cls 6).before args s' = true := h _ (by simp [Bundle.ownAtoms0])
  obtain ⟨vm₁, cX, kX, hfX, hkX, -, -, X₁, st1⟩ := Y.newCold hexec (own := own) (C := cls) (index := ik) (n := 6) hown' hk' hins hini'
    (g := F0 m pc ls rest) rfl (by rw [hb]; exact d0) (Nat.le_refl _) (Nat.le_refl _)
  generalize hT1 : (T.setVm vm₁).pushCell { cls := cX, slots := kX.instanceTypes.map defaultValue, vm := .none } = T1 at X₁ st1
  have hcat : (Value.ref T.heap.size).category = 1 := rfl
  have hcellA : T1.heap[T.heap.size]? = some (freshCell cX kX) := by rw [← hT1]; exact State.heap_pushCell_size _ _
  have d3' : decode c.code (pc + 3) = .ok (.dup, 1) := by rw [hb]; exact d3
  obtain ⟨U, hsteps, hrun, hend, hW, hsame, ce, hce, hO⟩ := X₁.ctorThrow0 hexec htr (own := own) (cls := cls) (names := names) (ic := ic) hown' hcls hnames h (fun x hx => nomatch hx) hfX hkX hcellA (by rw [hhp, hT]; exact Nat.le_refl _)
    (g := { method := m, pc := pc + 4, locals := ls, stack := .ref T.heap.size :: .ref T.heap.size :: rest, locked := none }) rfl hsize rfl rfl (rest := rest) rfl
    (by rw [hb]; exact d4) (by rw [hb]; exact d7) hout hRframes (by simp only [List.map_cons, List.sum_cons, hcat]; omega) hlocks
  obtain ⟨f1, f2⟩ := vx_frame hsame
  rw [hhp] at f1 f2
  have hWs : s.WarmedH U.vm := State.WarmedH.trans hW0 hW
  have hcl : s.vm.findClass cls = some ce.cls := by
    have h9 := hO.cls
    rw [hvm] at h9
    exact h9
  have hall : s.sameButNew ({ U with vm := s.vm } : State) locs mc ms := by
    subst hA
    obtain ⟨e1, e2⟩ := hsame
    rw [State.setFrames_setFrames] at e1
    have h2 : (T.setVm s.vm).sameButNew ({ U with vm := s.vm } : State) [] (0 + 1) (0 + 6) := ⟨e1, e2⟩
    have h3 := X.same.trans h2
    rw [List.append_nil] at h3
    exact h3.mono hc hs
  refine ⟨U, ?_, .threw T.heap.size, hrun, hend, Or.inr ⟨T.heap.size, rfl, cls, ce, locs, hx U hWs.alike f1 (fun q hq => f2 q hq (fun z hz => nomatch hz)), hce, hO.vm, hcl, hWs, hall, hf⟩⟩
  refine st1 _ ?_
  show Steps p.tables e below (T1.setTop { method := m, pc := pc + 3, locals := ls, stack := .ref T.heap.size :: rest, locked := none }) _
  jvm_step X₁.here [X₁.here.top, hexec, d3', Value.category]
  exact hsteps
/-- 'throw new E("text")': new; dup; ldc; invokespecial; athrow -/
theorem vx_throwS {cc : ByteArray} {pc : Nat} (hexec : p.tables.exec = Jvm.exec) (hb : c.code = cc) (hl : l.stackTraces = false) {own cls text : String} {names : List String} {ik is ic mc ms sa : Nat} {A : Nat → Prop}
    (hown : s.vm.findClass own = some m.cls) (hcls : Bundle.fit cls = true) (hnames : ∀ n ∈ names, Bundle.fit n = true)
    (hk : (Cond.classLink own ik cls).before args s = true) (hini : (Cond.initialized cls).before args s = true) (hstr : vk_R own is text sa s) (hat : ∀ w ∈ vx_atS own ic cls names, w.before args s = true)
    (hgood : ∀ w ∈ Cond.classLink own ik cls :: Cond.initialized cls :: vx_atS own ic cls names, vx_ot w = true)
    (hU : vx_Zq Bundle.tN "UNASSIGNED_STACK" Bundle.steD A s s.heap) (hN : vx_Zq Bundle.tN "SUPPRESSED_SENTINEL" Bundle.listD A s s.heap) (hS : va_S A s.heap H locs) (hsize : ls.size = c.maxLocals)
    (d0 : decode cc pc = .ok (.new ik, 3)) (d3 : decode cc (pc + 3) = .ok (.dup, 1)) (d4 : decode cc (pc + 4) = .ok (.ldc is, 2)) (d6 : decode cc (pc + 6) = .ok (.invokespecial ic, 3)) (d9 : decode cc (pc + 9) = .ok (.athrow, 1))
    (hout : ∀ x ∈ c.exceptionTable.toList, covers x (pc + 9) = false)
    (hRframes : names.length + 3 < R.frames) (hRlocals : (rest.map fun v => v.category).sum + (13 * (names.length + 1) + 43) ≤ R.locals) (hRcells : cells + 1 ≤ R.cells) (hRslots : slots + 6 ≤ R.slots) (hlocks : meth.locks = false)
    (hx : ∀ t : State, s.vm.Alike t.vm → H.size ≤ t.heap.size → (∀ q : Nat, q < H.size → t.heap[q]? = H[q]?) → XC cls s t)
    (hf : ∀ z ∈ locs, free z.base) (hc : cells + 1 ≤ mc) (hs : slots + 6 ≤ ms) :
    W p l e R s m args below meth c H locs cells slots (vx_MQ below Qc XC args s mc ms free) (F0 m pc ls rest) := by
  intro T hT X
  have htr : e.platform.stackTraces = false := (show e.platform.stackTraces = l.stackTraces by rw [X.admits.platform]).trans hl
  have Y := vx_rebase X (R' := { frames := R.frames, locals := R.locals, cells := 1, slots := 6 }) (Nat.le_refl _) (Nat.le_refl _) hRcells hRslots
  obtain ⟨s', hA⟩ : ∃ z, z = (T.setVm s.vm).setFrames (.invoking m args :: below) := ⟨_, rfl⟩
  rw [← hA] at Y
  have hvm : s'.vm = s.vm := by rw [hA]; rfl
  have hhp : s'.heap = H := by rw [hA]; exact hT
  have hW0 : s.WarmedH s'.vm := by rw [hvm]; exact State.WarmedH.refl s
  have hat' : ∀ w ∈ vx_atS own ic cls names, w.before args s' = true := fun w hw => vx_ot_at hW0 hvm.symm (hgood w (List.mem_cons_of_mem _ (List.mem_cons_of_mem _ hw))) (hat w hw)
  have hk' : (Cond.classLink own ik cls).before args s' = true := vx_ot_at hW0 hvm.symm (hgood _ List.mem_cons_self) hk
  have hini' : (Cond.initialized cls).before args s' = true := vx_ot_at hW0 hvm.symm (hgood _ (List.mem_cons_of_mem _ List.mem_cons_self)) hini
  have hU' : vx_Zq Bundle.tN "UNASSIGNED_STACK" Bundle.steD A s' s'.heap := by rw [hhp]; exact vx_Zq.moved hW0.alike (hU.kept hS.2.1)
  have hN' : vx_Zq Bundle.tN "SUPPRESSED_SENTINEL" Bundle.listD A s' s'.heap := by rw [hhp]; exact vx_Zq.moved hW0.alike (hN.kept hS.2.1)
  have h : ∀ w ∈ Bundle.ownAtoms own ic cls names, w.before args s' = true := vx_own hat' (vx_isRefq hU'.1) (vx_isRefq hN'.1) hU'.2.word hN'.2.word
  have hown' : s'.vm.findClass own = some m.cls := by rw [hvm]; exact hown
  have hins : (Cond.instantiable cls 6).before args s' = true := h _ (by simp [Bundle.ownAtoms])
  obtain ⟨vm₁, cX, kX, hfX, hkX, -, -, X₁, st1⟩ := Y.newCold hexec (own := own) (C := cls) (index := ik) (n := 6) hown' hk' hins hini'
    (g := F0 m pc ls rest) rfl (by rw [hb]; exact d0) (Nat.le_refl _) (Nat.le_refl _)
  generalize hT1 : (T.setVm vm₁).pushCell { cls := cX, slots := kX.instanceTypes.map defaultValue, vm := .none } = T1 at X₁ st1
  have hcat : (Value.ref T.heap.size).category = 1 := rfl
  have hcellA : T1.heap[T.heap.size]? = some (freshCell cX kX) := by rw [← hT1]; exact State.heap_pushCell_size _ _
  have d3' : decode c.code (pc + 3) = .ok (.dup, 1) := by rw [hb]; exact d3
  have d4' : decode c.code (pc + 4) = .ok (.ldc is, 2) := by rw [hb]; exact d4
  have hstr' : vk_R own is text sa s' := vk_R.warm hW0 hstr
  obtain ⟨U, hsteps, hrun, hend, hW, hsame, ce, hce, hO⟩ := X₁.ctorThrowS hexec htr (own := own) (cls := cls) (names := names) (ic := ic) hown' hcls hnames h (fun x hx => nomatch hx) hfX hkX hcellA (by rw [hhp, hT]; exact Nat.le_refl _) (msg := .ref sa) rfl
    (g := { method := m, pc := pc + 6, locals := ls, stack := .ref sa :: .ref T.heap.size :: .ref T.heap.size :: rest, locked := none }) rfl hsize rfl rfl (rest := rest) rfl
    (by rw [hb]; exact d6) (by rw [hb]; exact d9) hout hRframes (by simp only [List.map_cons, List.sum_cons, hcat]; omega) hlocks
  obtain ⟨f1, f2⟩ := vx_frame hsame
  rw [hhp] at f1 f2
  have hWs : s.WarmedH U.vm := State.WarmedH.trans hW0 hW
  have hcl : s.vm.findClass cls = some ce.cls := by
    have h9 := hO.cls
    rw [hvm] at h9
    exact h9
  have hall : s.sameButNew ({ U with vm := s.vm } : State) locs mc ms := by
    subst hA
    obtain ⟨e1, e2⟩ := hsame
    rw [State.setFrames_setFrames] at e1
    have h2 : (T.setVm s.vm).sameButNew ({ U with vm := s.vm } : State) [] (0 + 1) (0 + 6) := ⟨e1, e2⟩
    have h3 := X.same.trans h2
    rw [List.append_nil] at h3
    exact h3.mono hc hs
  refine ⟨U, ?_, .threw T.heap.size, hrun, hend, Or.inr ⟨T.heap.size, rfl, cls, ce, locs, hx U hWs.alike f1 (fun q hq => f2 q hq (fun z hz => nomatch hz)), hce, hO.vm, hcl, hWs, hall, hf⟩⟩
  refine st1 _ ?_
  show Steps p.tables e below (T1.setTop { method := m, pc := pc + 3, locals := ls, stack := .ref T.heap.size :: rest, locked := none }) _
  jvm_step X₁.here [X₁.here.top, hexec, d3', Value.category]
  exact X₁.ldcString hexec (own := own) (text := text) (index := is) (a := sa) hown' hstr'.1 hstr'.2
    (g := { method := m, pc := pc + 4, locals := ls, stack := .ref T.heap.size :: .ref T.heap.size :: rest, locked := none }) rfl d4' _ hsteps
/-- 'throw new E("text")', the text by a wide index -/
theorem vx_throwSW {cc : ByteArray} {pc : Nat} (hexec : p.tables.exec = Jvm.exec) (hb : c.code = cc) (hl : l.stackTraces = false) {own cls text : String} {names : List String} {ik is ic mc ms sa : Nat} {A : Nat → Prop}
    (hown : s.vm.findClass own = some m.cls) (hcls : Bundle.fit cls = true) (hnames : ∀ n ∈ names, Bundle.fit n = true)
    (hk : (Cond.classLink own ik cls).before args s = true) (hini : (Cond.initialized cls).before args s = true) (hstr : vk_R own is text sa s) (hat : ∀ w ∈ vx_atS own ic cls names, w.before args s = true)
    (hgood : ∀ w ∈ Cond.classLink own ik cls :: Cond.initialized cls :: vx_atS own ic cls names, vx_ot w = true)
    (hU : vx_Zq Bundle.tN "UNASSIGNED_STACK" Bundle.steD A s s.heap) (hN : vx_Zq Bundle.tN "SUPPRESSED_SENTINEL" Bundle.listD A s s.heap) (hS : va_S A s.heap H locs) (hsize : ls.size = c.maxLocals)
    (d0 : decode cc pc = .ok (.new ik, 3)) (d3 : decode cc (pc + 3) = .ok (.dup, 1)) (d4 : decode cc (pc + 4) = .ok (.ldc_w is, 3)) (d7 : decode cc (pc + 7) = .ok (.invokespecial ic, 3)) (d10 : decode cc (pc + 10) = .ok (.athrow, 1))
    (hout : ∀ x ∈ c.exceptionTable.toList, covers x (pc + 10) = false)
    (hRframes : names.length + 3 < R.frames) (hRlocals : (rest.map fun v => v.category).sum + (13 * (names.length + 1) + 43) ≤ R.locals) (hRcells : cells + 1 ≤ R.cells) (hRslots : slots + 6 ≤ R.slots) (hlocks : meth.locks = false)
    (hx : ∀ t : State, s.vm.Alike t.vm → H.size ≤ t.heap.size → (∀ q : Nat, q < H.size → t.heap[q]? = H[q]?) → XC cls s t)
    (hf : ∀ z ∈ locs, free z.base) (hc : cells + 1 ≤ mc) (hs : slots + 6 ≤ ms) :
    W p l e R s m args below meth c H locs cells slots (vx_MQ below Qc XC args s mc ms free) (F0 m pc ls rest) := by
  intro T hT X
  have htr : e.platform.stackTraces = false := (show e.platform.stackTraces = l.stackTraces by rw [X.admits.platform]).trans hl
  have Y := vx_rebase X (R' := { frames := R.frames, locals := R.locals, cells := 1, slots := 6 }) (Nat.le_refl _) (Nat.le_refl _) hRcells hRslots
  obtain ⟨s', hA⟩ : ∃ z, z = (T.setVm s.vm).setFrames (.invoking m args :: below) := ⟨_, rfl⟩
  rw [← hA] at Y
  have hvm : s'.vm = s.vm := by rw [hA]; rfl
  have hhp : s'.heap = H := by rw [hA]; exact hT
  have hW0 : s.WarmedH s'.vm := by rw [hvm]; exact State.WarmedH.refl s
  have hat' : ∀ w ∈ vx_atS own ic cls names, w.before args s' = true := fun w hw => vx_ot_at hW0 hvm.symm (hgood w (List.mem_cons_of_mem _ (List.mem_cons_of_mem _ hw))) (hat w hw)
  have hk' : (Cond.classLink own ik cls).before args s' = true := vx_ot_at hW0 hvm.symm (hgood _ List.mem_cons_self) hk
  have hini' : (Cond.initialized cls).before args s' = true := vx_ot_at hW0 hvm.symm (hgood _ (List.mem_cons_of_mem _ List.mem_cons_self)) hini
  have hU' : vx_Zq Bundle.tN "UNASSIGNED_STACK" Bundle.steD A s' s'.heap := by rw [hhp]; exact vx_Zq.moved hW0.alike (hU.kept hS.2.1)
  have hN' : vx_Zq Bundle.tN "SUPPRESSED_SENTINEL" Bundle.listD A s' s'.heap := by rw [hhp]; exact vx_Zq.moved hW0.alike (hN.kept hS.2.1)
  have h : ∀ w ∈ Bundle.ownAtoms own ic cls names, w.before args s' = true := vx_own hat' (vx_isRefq hU'.1) (vx_isRefq hN'.1) hU'.2.word hN'.2.word
  have hown' : s'.vm.findClass own = some m.cls := by rw [hvm]; exact hown
  have hins : (Cond.instantiable cls 6).before args s' = true := h _ (by simp [Bundle.ownAtoms])
  obtain ⟨vm₁, cX, kX, hfX, hkX, -, -, X₁, st1⟩ := Y.newCold hexec (own := own) (C := cls) (index := ik) (n := 6) hown' hk' hins hini'
    (g := F0 m pc ls rest) rfl (by rw [hb]; exact d0) (Nat.le_refl _) (Nat.le_refl _)
  generalize hT1 : (T.setVm vm₁).pushCell { cls := cX, slots := kX.instanceTypes.map defaultValue, vm := .none } = T1 at X₁ st1
  have hcat : (Value.ref T.heap.size).category = 1 := rfl
  have hcellA : T1.heap[T.heap.size]? = some (freshCell cX kX) := by rw [← hT1]; exact State.heap_pushCell_size _ _
  have d3' : decode c.code (pc + 3) = .ok (.dup, 1) := by rw [hb]; exact d3
  have d4' : decode c.code (pc + 4) = .ok (.ldc_w is, 3) := by rw [hb]; exact d4
  have hstr' : vk_R own is text sa s' := vk_R.warm hW0 hstr
  obtain ⟨U, hsteps, hrun, hend, hW, hsame, ce, hce, hO⟩ := X₁.ctorThrowS hexec htr (own := own) (cls := cls) (names := names) (ic := ic) hown' hcls hnames h (fun x hx => nomatch hx) hfX hkX hcellA (by rw [hhp, hT]; exact Nat.le_refl _) (msg := .ref sa) rfl
    (g := { method := m, pc := pc + 7, locals := ls, stack := .ref sa :: .ref T.heap.size :: .ref T.heap.size :: rest, locked := none }) rfl hsize rfl rfl (rest := rest) rfl
    (by rw [hb]; exact d7) (by rw [hb]; exact d10) hout hRframes (by simp only [List.map_cons, List.sum_cons, hcat]; omega) hlocks
  obtain ⟨f1, f2⟩ := vx_frame hsame
  rw [hhp] at f1 f2
  have hWs : s.WarmedH U.vm := State.WarmedH.trans hW0 hW
  have hcl : s.vm.findClass cls = some ce.cls := by
    have h9 := hO.cls
    rw [hvm] at h9
    exact h9
  have hall : s.sameButNew ({ U with vm := s.vm } : State) locs mc ms := by
    subst hA
    obtain ⟨e1, e2⟩ := hsame
    rw [State.setFrames_setFrames] at e1
    have h2 : (T.setVm s.vm).sameButNew ({ U with vm := s.vm } : State) [] (0 + 1) (0 + 6) := ⟨e1, e2⟩
    have h3 := X.same.trans h2
    rw [List.append_nil] at h3
    exact h3.mono hc hs
  refine ⟨U, ?_, .threw T.heap.size, hrun, hend, Or.inr ⟨T.heap.size, rfl, cls, ce, locs, hx U hWs.alike f1 (fun q hq => f2 q hq (fun z hz => nomatch hz)), hce, hO.vm, hcl, hWs, hall, hf⟩⟩
  refine st1 _ ?_
  show Steps p.tables e below (T1.setTop { method := m, pc := pc + 3, locals := ls, stack := .ref T.heap.size :: rest, locked := none }) _
  jvm_step X₁.here [X₁.here.top, hexec, d3', Value.category]
  exact X₁.ldcStringW hexec (own := own) (text := text) (index := is) (a := sa) hown' hstr'.1 hstr'.2
    (g := { method := m, pc := pc + 4, locals := ls, stack := .ref T.heap.size :: .ref T.heap.size :: rest, locked := none }) rfl d4' _ hsteps
end Ends
section Bodies
variable {l : Launch}
theorem vx_ofW {y : MethodName} {ws ws' : List Cond} {rm : Room} {Pc : Array Value → State → Prop} {Qc : Array Value → State → Outcome → State → Prop} {XC : String → State → State → Prop} {mc ms : Nat} {free : Addr → Prop} {cc : ByteArray} {maxL : Nat} {ret : Option FieldType}
    (hy : plainName y.cls = true) (hw : ws = Cond.code y cc maxL ret :: ws')
    (body : ∀ p e s m args below meth c s₁, BodyLoose p l y (headSpec ws rm) cc maxL ret e s m args below meth c s₁ → c.maxLocals = maxL → (∀ x ∈ c.exceptionTable.toList, False) → Pc args s →
      W p l e (headSpec ws rm).room s m args below meth c s.heap [] 0 0 (vx_MQ below Qc XC args s mc ms free) (entryFrame m args maxL)) : vx_Met l y ws rm Pc Qc XC mc ms free := by
  refine MetFree.of_bodyS (code := cc) (maxLocals := maxL) (ret := ret) hy ?_ ?_
  · intro args s m h hn
    obtain ⟨meth, c, h1, h2, h3, h4, h5, h6, -, -⟩ := Cond.code_spec hn (atoms_spec (ws := ws) h _ (by rw [hw]; exact List.mem_cons_self))
    exact ⟨meth, c, h1, h2, h3, h4, h5, h6⟩
  · intro p e s m args below meth c s₁ B hml hP _
    have hh0 : s₁.heap = s.heap := by rw [B.state]; rfl
    have ht : ∀ x ∈ c.exceptionTable.toList, False := by
      obtain ⟨meth9, c9, h1, h2, -, -, -, -, h7, -⟩ := Cond.code_spec B.named (atoms_spec (ws := ws) B.pre _ (by rw [hw]; exact List.mem_cons_self))
      cases Option.some.inj (h1.symm.trans B.method)
      cases Option.some.inj (h2.symm.trans (Stand.of_body B).code)
      intro x hx
      rw [Array.isEmpty_iff.mp h7] at hx
      cases hx
    obtain ⟨t, a1, o, b1, b2, b3⟩ := body p e s m args below meth c s₁ B hml ht hP s₁ hh0 (Stand.of_body B)
    exact ⟨t, o, a1, b1, b2, b3⟩
/-- the table of a body with handlers -/
theorem vx_table {p : Program} {x y : MethodName} {S : Spec} {cc bytes : ByteArray} {maxL maxL' : Nat} {ret ret' : Option FieldType} {e : Env} {s s₁ : State} {m : MethodId} {args : Array Value} {below : List Frame} {meth : Method} {c : Code} {hh : List (Nat × Nat × Nat × Nat)}
    (B : BodyLoose p l y S cc maxL ret e s m args below meth c s₁) (h : (Cond.codeWith y bytes maxL' ret' hh).before args s = true) : c.exceptionTable.toList = tableOf hh := by
  obtain ⟨m9, meth9, c9, hn9, h1, h2, -, -, h6, -⟩ := Cond.codeWith_spec h
  cases Option.some.inj (hn9.symm.trans B.named)
  cases Option.some.inj (h1.symm.trans B.method)
  cases Option.some.inj (h2.symm.trans (Stand.of_body B).code)
  rw [← h6, table_eq]
end Bodies
end VXA
/-! ===== END ===== -/
/-! ===== BEGIN a static call of a method with an exception table ===== -/
section VXS
variable {p : Program} {l : Launch} {e : Env} {R : Room} {s : State} {m : MethodId} {args : Array Value} {below : List Frame} {meth : Method} {c : Code} {T : State} {H : Heap} {locs : List Loc} {cells slots : Nat}
abbrev vx_CSW (R : Room) (s : State) (args : Array Value) (own : String) (index : Nat) (y : MethodName) (bytes : ByteArray) (maxL : Nat) (ret : Option FieldType) (hh : List (Nat × Nat × Nat × Nat)) (ws : List Cond) (rm : Room) (mc ms n : Nat) : Prop :=
  (rm.cells = mc ∧ rm.slots = ms ∧ rm.frames + 1 ≤ R.frames ∧ 8 + (maxL + 11) + rm.locals ≤ R.locals ∧ (∀ w ∈ ws, ∀ (a' : Array Value) (U : State), s.WarmedH U.vm → w.before a' U = true) ∧ Cond.codeWith y bytes maxL ret hh ∈ ws) ∧
  (Cond.codeWith y bytes maxL ret hh).before args s = true ∧ (Cond.initialized y.cls).before args s = true ∧ (y.cls ≠ "java/lang/invoke/MethodHandle" ∧ y.cls ≠ "java/lang/invoke/VarHandle") ∧
  (∀ sig, parseMethodDescriptor y.desc = some sig → n = sig.parameters.length) ∧ (Cond.methodLink own index y).before args s = true ∧ (Cond.static y).before args s = true
theorem vx_cwSW {own : String} {index maxL mc ms : Nat} {y : MethodName} {bytes : ByteArray} {ret : Option FieldType} {hh : List (Nat × Nat × Nat × Nat)} {Ts ws ws' : List Cond} {rm : Room} (n : Nat) (ht : ∀ w ∈ Ts, w.before args s = true) (hT : GoodIn Ts (va_wsS own index y ws)) (hw : ws = Cond.codeWith y bytes maxL ret hh :: ws') (hrc : rm.cells = mc) (hrs : rm.slots = ms)
    (hd : y.cls ≠ "java/lang/invoke/MethodHandle" ∧ y.cls ≠ "java/lang/invoke/VarHandle" ∧ (parseMethodDescriptor y.desc).map (fun d => d.parameters.length) = some n) (hR : rm.frames + 1 ≤ R.frames ∧ 8 + (maxL + 11) + rm.locals ≤ R.locals) :
    vx_CSW R s args own index y bytes maxL ret hh ws rm mc ms n := by
  have ok : ∀ w ∈ va_wsS own index y ws, w.before args s = true := fun w h => ht w (hT w h).1
  have hG : GoodIn Ts ws := fun w h => hT w (by unfold va_wsS; exact List.mem_append_right _ h)
  have hc : Cond.codeWith y bytes maxL ret hh ∈ ws := by rw [hw]; exact List.mem_cons_self
  refine ⟨⟨hrc, hrs, hR.1, hR.2, pay_in ht hG, hc⟩, ht _ (hG _ hc).1, ok _ (by simp [va_wsS]), ⟨hd.1, hd.2.1⟩, fun sig h => ?_, ok _ (by simp [va_wsS]), ok _ (by simp [va_wsS])⟩
  have h2 := hd.2.2
  rw [h] at h2
  exact (Option.some.inj h2).symm
theorem vx_callSW (X : Stand p l e R s m args below meth c T locs cells slots) (hexec : p.tables.exec = Jvm.exec) {own : String} {index : Nat} {y : MethodName} {bytes : ByteArray} {maxL : Nat} {ret : Option FieldType} {hh : List (Nat × Nat × Nat × Nat)}
    (hown : s.vm.findClass own = some m.cls) (hlink : (Cond.methodLink own index y).before args s = true) (hstat : (Cond.static y).before args s = true) (hinit : (Cond.initialized y.cls).before args s = true)
    (hcode : (Cond.codeWith y bytes maxL ret hh).before args s = true) (hy : y.cls ≠ "java/lang/invoke/MethodHandle" ∧ y.cls ≠ "java/lang/invoke/VarHandle")
    {W9 : Nat} {Pre : Pt → Array Value → Prop} {Post : Pt → Array Value → Option Value → Pt → Prop} (hK : Back l R p e below s args y 3 W9 Pre Post)
    {g : JFrame} (hg : g.method = m) (hsize : g.locals.size = c.maxLocals) {argsL rest : List Value} (hlen : ∀ sig, parseMethodDescriptor y.desc = some sig → argsL.length = sig.parameters.length)
    (hstack : g.stack = argsL.reverse ++ rest) (hW : 2 * g.monitorRoom + (rest.map fun v => v.category).sum ≤ W9) (hdg : decode c.code g.pc = .ok (.invokestatic index, 3))
    (hpre : ∀ vm₁, s.WarmedH vm₁ → Pre ⟨T.setVm vm₁, locs, cells, slots⟩ argsL.toArray) :
    ∃ (v : Option Value) (vm₁ : Vm) (B : Pt), s.WarmedH vm₁ ∧ Stand p l e R s m args below meth c B.U B.locs B.cells B.slots ∧ Post ⟨T.setVm vm₁, locs, cells, slots⟩ argsL.toArray v B ∧
      ∀ target, Steps p.tables e below (B.U.setTop { g with pc := g.pc + 3, stack := v.toList ++ rest }) target → Steps p.tables e below (T.setTop g) target := by
  obtain ⟨mk, methM, cM, hnamed, hmethM, -, -, -, -, -, -, hsigM⟩ := Cond.codeWith_spec hcode
  have hstatic : methM.isStatic = true := Cond.static_spec hnamed hmethM hstat
  obtain ⟨kP, hkP, -⟩ := className_of_methodNamed hnamed
  have hinitP : kP.init = .initialized := Cond.initialized_spec (findClass_of_methodNamed hnamed) hkP hinit
  obtain ⟨vm₁, X₁, hstep₁⟩ := X.invokestatic hexec hown hlink hnamed hmethM hstatic hkP hinitP hy (g := g) hg (argsL := argsL) (rest := rest) (hlen _ hsigM) hstack hdg
  obtain ⟨v, B, X', hpost, hsteps⟩ := hK m meth c ⟨T.setVm vm₁, locs, cells, slots⟩ { g with stack := rest } (.invokestatic index) mk argsL.toArray X₁ hg hsize hdg hW (X₁.named hnamed) (hpre vm₁ X₁.warmed)
  exact ⟨v, vm₁, B, X₁.warmed, X', hpost, fun target h => hstep₁ _ fun acts => by rw [doInvoke_state]; exact hsteps.trans h⟩
theorem vx_runSW {y : MethodName} {bytes cc : ByteArray} {maxL nL mc ms n index : Nat} {ret : Option FieldType} {hh : List (Nat × Nat × Nat × Nat)} {ws : List Cond} {rm : Room} {Pc : Array Value → State → Prop} {Qc : Array Value → State → Outcome → State → Prop} {free : Addr → Prop} {Ts : List Cond} {own : String} {As rest : List Value} {g : JFrame}
    (S : CallFix p m c cc nL s args Ts own) (hM : Met l y ws rm Pc Qc mc ms free) (cw : vx_CSW R s args own index y bytes maxL ret hh ws rm mc ms n) (hp : PreS s H Pc As)
    (hg : g.method = m) (hn : As.length = n) (hsize : g.locals.size = nL) (hstack : g.stack = As.reverse ++ rest) (hW : 2 * g.monitorRoom + (rest.map fun v => v.category).sum ≤ 8) (hdg : decode cc g.pc = .ok (.invokestatic index, 3)) (hf : cells + mc ≤ R.cells ∧ slots + ms ≤ R.slots) :
    va_Run p l e R s m args below meth c H locs cells slots mc ms g rest (Qc As.toArray) (free) := by
  obtain ⟨⟨hrc, hrs, hfr, hlo, hws, hcw⟩, hcode, hini, hy, hlen, hl, hstt⟩ := cw
  have hK : Back l R p e below s args y 3 8 (PreOf R mc ms Pc) (PostOf Qc mc ms free) := va_backW (hh := hh) (bytes := bytes) (maxL := maxL) (ret := ret) hM hp.1 hrc hrs hfr hlo hws hcw (fun a' U hW => word_at hW (Or.inl (by first | rfl | simp [Cond.onTables, Cond.keeps, Cond.steady])) hini)
  obtain ⟨hx, hb, hml, ho, -⟩ := S
  intro T hT X
  obtain ⟨v, vm₁, ⟨U', l2, c2, s2⟩, hW₁, X', ⟨g', mk, t, L, e1, e2, hq, h1, hL, h2, h3⟩, st⟩ := vx_callSW X hx (hh := hh) (bytes := bytes) (maxL := maxL) (ret := ret) ho hl hstt hini hcode hy hK hg (hsize.trans hml.symm) (argsL := As) (rest := rest) (fun sig h => hn.trans (hlen sig h)) hstack hW (by rw [hb]; exact hdg)
    (fun vm₁ hW₁ => ⟨hf.1, hf.2, hp.2 (T.setVm vm₁) hT hW₁⟩)
  dsimp only [Pt.U, Pt.locs, Pt.cells, Pt.slots] at X' e1 e2 h1 h2 h3 st
  subst h1; subst h2; subst h3
  exact ⟨v, (T.setVm vm₁).calling g' mk As.toArray, t, U', L, hT, X', hL, e1, e2, hq, st⟩
/-- a thing of a world lies in the heap -/
theorem vx_lt {D : va_G} {cl : List vw_C} {ws : va_W} {H1 : Heap} (h : va_P D cl ws H1) {k : Nat} {q : Nat × va_E} (hk : ws[k]? = some q) : q.1 < H1.size := (h k q hk).lt
end VXS
/-! ===== END ===== -/
/-! ===== BEGIN methods with a table of their own: called by a name, returning or throwing ===== -/
section VXH
/-! vx_backW, vx_callVX, vx_callSX, vx_callVW, vx_runVW, vx_runVX, vx_runSX, vx_ofWH follow the same proofs as their sisters above (Free/Laws.lean, Shelf42/LK1.lean); vx_outP calls Shelf42/NT130.lean (outThrough). -/
section
variable {l : Launch} {R : Room} {p : Program} {e : Env} {below : List Frame} {s : State} {sargs : Array Value} {y : MethodName} {len W9 : Nat}
theorem vx_backW {ws : List Cond} {rm : Room} {Pc : Array Value → State → Prop} {Qc : Array Value → State → Outcome → State → Prop} {XC : String → State → State → Prop} {mc ms : Nat} {free : Addr → Prop} {bytes : ByteArray} {maxL : Nat} {ret : Option FieldType} {hh : List (Nat × Nat × Nat × Nat)}
    (hM : vx_Met l y ws rm Pc Qc XC mc ms free) (hblind : FrameBlind Pc) (hrc : rm.cells = mc) (hrs : rm.slots = ms)
    (hframes : rm.frames + 1 ≤ R.frames) (hlocals : W9 + (maxL + 11) + rm.locals ≤ R.locals)
    (hws : ∀ w ∈ ws, ∀ a' U, s.WarmedH U.vm → w.before a' U = true) (hcode : Cond.codeWith y bytes maxL ret hh ∈ ws) (hinit : ∀ a' U, s.WarmedH U.vm → (Cond.initialized y.cls).before a' U = true) :
    vx_Back l R p e below s sargs y len W9 (PreOf R mc ms Pc) (PostOf Qc mc ms free) (vx_Post XC mc ms free) := by
  intro m meth c A g ig mk a X hg hsize hdg hW hn hp
  have h1 : (headSpec ws rm).pre.before a A.U = true := atoms_intro fun w hw => hws w hw _ _ X.warmed
  have h2 : (Cond.codeWith y bytes maxL ret hh).before a A.U = true := hws _ hcode _ _ X.warmed
  have h3 : (Cond.initialized y.cls).before a A.U = true := hinit _ _ X.warmed
  have h4 : A.cells + (headSpec ws rm).room.cells ≤ R.cells := by rw [show (headSpec ws rm).room.cells = mc from hrc]; exact hp.1
  have h5 : A.slots + (headSpec ws rm).room.slots ≤ R.slots := by rw [show (headSpec ws rm).room.slots = ms from hrs]; exact hp.2.1
  have hPc : Pc a (A.U.calling g mk a) := hblind _ _ _ _ hp.2.2
  obtain ⟨U, Ls, c0, s0⟩ := A
  dsimp only [Pt.U, Pt.locs, Pt.cells, Pt.slots] at h1 h2 h3 h4 h5 X hn hPc ⊢
  obtain ⟨m9, methY, cY, hn9, hmY, hcY, -, hlY, -⟩ := Cond.codeWith_spec h2
  cases Option.some.inj (hn9.symm.trans hn)
  obtain ⟨kY, hkY, -⟩ := className_of_methodNamed hn
  have hinitY : kY.init = .initialized := Cond.initialized_spec (findClass_of_methodNamed hn) hkY h3
  have h : At U g.method c below := by rw [hg]; exact X.here
  have hlocals9 : W9 + (maxL + 11) + (headSpec ws rm).room.locals ≤ R.locals := hlocals
  have happ : (headSpec ws rm).appliesLoose y e.platform (U.calling g mk a) = true :=
    Spec.appliesLoose_calling (g := g) h hdg hn hkY hinitY
      (X.room_calling (g := g) (R' := (headSpec ws rm).room) hsize hmY hcY hframes (by rw [hlY]; omega) h4 h5) h1
  obtain ⟨mid, hmid⟩ := h.above
  have hfr : (U.setTop g).frames = (.java g :: mid) ++ below := by rw [State.frames_setTop' g h.top, hmid]; rfl
  obtain ⟨o, s₂, hsteps, -, hend, hq⟩ := Steps.callFree hM p X.admits X.cas X.clock (acts := []) hfr happ hPc trivial
  have hq' : vx_Q Qc XC mc ms free a (U.calling g mk a) o s₂ := hq
  rw [State.frames_setTop' g h.top] at hend
  obtain ⟨g₀, hg0⟩ := Option.isSome_iff_exists.mp h.top
  obtain ⟨r, hr⟩ := State.topJava?_eq_some.mp hg0
  have hr' : (({ U with heap := s₂.heap, slotsUsed := s₂.slotsUsed } : State).setVm s₂.vm).frames = .java g₀ :: r := hr
  rcases hq' with ⟨hqc, L, hfe, hL⟩ | ⟨q, rfl, E, ce, L, hx, hce, hcv, hcl, hW₂, hsm, hL⟩
  · obtain ⟨⟨v, rfl⟩, hW₂, e2, q2, q3, q4, q5, q6⟩ := id hfe
    have e3 : s₂ = ({ (U.calling g mk a).setFrames s₂.frames with heap := s₂.heap, slotsUsed := s₂.slotsUsed } : State).setVm s₂.vm := by
      have : s₂ = ({ s₂ with vm := (U.calling g mk a).vm } : State).setVm s₂.vm := rfl
      rw [e2] at this
      exact this
    obtain ⟨c₂, i₂, len₂, hc₂, hd₂, hf₂⟩ := hend
    have hW' : U.WarmedH s₂.vm := hW₂
    have hcc : c₂ = c := by
      have h1 : s₂.code? g.method = U.code? g.method := by
        rw [State.code?_eq, State.code?_eq, hW'.alike.method?]
      exact Option.some.inj (hc₂.symm.trans (h1.trans h.code))
    subst hcc
    have hlen : len₂ = len := by rw [hdg] at hd₂; cases hd₂; rfl
    subst hlen
    have hs₂ : s₂ = (({ U with heap := s₂.heap, slotsUsed := s₂.slotsUsed } : State).setVm s₂.vm).setTop { g with pc := g.pc + len₂, stack := v.toList ++ g.stack } := by
      refine e3.trans ?_
      rw [hf₂, State.calling_eq h.top, State.setFrames_setFrames, State.setTop_of_frames _ hr', hr]
      rfl
    have hsame : U.sameButNew ({ U with heap := s₂.heap, slotsUsed := s₂.slotsUsed } : State) L mc ms := by
      refine ⟨?_, q2, q3, q4, q5, q6⟩
      obtain ⟨t, ht, -⟩ := State.frames_cons hr
      show ({ U with heap := s₂.heap, slotsUsed := s₂.slotsUsed } : State) = { U.setFrames U.frames with heap := s₂.heap, slotsUsed := s₂.slotsUsed }
      rw [State.setFrames_self ht]
    subst hg
    refine Or.inl ⟨v, ⟨(({ U with heap := s₂.heap, slotsUsed := s₂.slotsUsed } : State).setVm s₂.vm), Ls ++ L, c0 + mc, s0 + ms⟩,
      ⟨X.admits, X.cas, X.clock, X.frames, X.room, X.hears, X.method, X.code, (X.here.setHeapUsed s₂.heap s₂.slotsUsed).setVm hW'.alike, X.tail, State.WarmedH.trans X.warmed hW', X.limits, X.bytes, X.same.trans (hsame.setVm s.vm)⟩,
      ⟨g, mk, s₂, L, rfl, rfl, hqc, rfl, hL, rfl, rfl⟩, ?_⟩
    show Steps p.tables e below _ ((({ U with heap := s₂.heap, slotsUsed := s₂.slotsUsed } : State).setVm s₂.vm).setTop { g with pc := g.pc + len₂, stack := v.toList ++ g.stack })
    rw [← hs₂]
    exact hsteps
  · obtain ⟨e2, q2, q3, q4, q5, q6⟩ := id hsm
    have e3 : s₂ = ({ (U.calling g mk a).setFrames s₂.frames with heap := s₂.heap, slotsUsed := s₂.slotsUsed } : State).setVm s₂.vm := by
      have : s₂ = ({ s₂ with vm := (U.calling g mk a).vm } : State).setVm s₂.vm := rfl
      rw [e2] at this
      exact this
    have hf₂ : s₂.frames = .throwing q :: .java g :: U.frames.tail := hend
    have hW' : U.WarmedH s₂.vm := hW₂
    have hs₂ : s₂ = ((({ U with heap := s₂.heap, slotsUsed := s₂.slotsUsed } : State).setVm s₂.vm).setTop g).pushFrame (.throwing q) := by
      refine e3.trans ?_
      rw [hf₂, State.calling_eq h.top, State.setFrames_setFrames, State.pushFrame, State.frames_setTop _ hr', State.setTop_of_frames _ hr', State.setFrames_setFrames, hr]
      rfl
    have hsame : U.sameButNew ({ U with heap := s₂.heap, slotsUsed := s₂.slotsUsed } : State) L mc ms := by
      refine ⟨?_, q2, q3, q4, q5, q6⟩
      obtain ⟨t, ht, -⟩ := State.frames_cons hr
      show ({ U with heap := s₂.heap, slotsUsed := s₂.slotsUsed } : State) = { U.setFrames U.frames with heap := s₂.heap, slotsUsed := s₂.slotsUsed }
      rw [State.setFrames_self ht]
    subst hg
    refine Or.inr ⟨q, ⟨(({ U with heap := s₂.heap, slotsUsed := s₂.slotsUsed } : State).setVm s₂.vm), Ls ++ L, c0 + mc, s0 + ms⟩,
      ⟨X.admits, X.cas, X.clock, X.frames, X.room, X.hears, X.method, X.code, (X.here.setHeapUsed s₂.heap s₂.slotsUsed).setVm hW'.alike, X.tail, State.WarmedH.trans X.warmed hW', X.limits, X.bytes, X.same.trans (hsame.setVm s.vm)⟩,
      ⟨g, mk, s₂, L, E, ce, rfl, rfl, hx, hce, hcv, hcl, rfl, hL, rfl, rfl⟩, ?_⟩
    show Steps p.tables e below _ (((({ U with heap := s₂.heap, slotsUsed := s₂.slotsUsed } : State).setVm s₂.vm).setTop g).pushFrame (.throwing q))
    rw [← hs₂]
    exact hsteps
end
variable {p : Program} {l : Launch} {e : Env} {R : Room} {s : State} {m : MethodId} {args : Array Value} {below : List Frame} {meth : Method} {c : Code} {T : State} {H : Heap} {locs : List Loc} {cells slots : Nat}
theorem vx_callVX (X : Stand p l e R s m args below meth c T locs cells slots) (hexec : p.tables.exec = Jvm.exec) {own C : String} {index : Nat} {y : MethodName} {bytes : ByteArray} {maxL : Nat} {ret : Option FieldType} {hh : List (Nat × Nat × Nat × Nat)}
    (hown : s.vm.findClass own = some m.cls) (hlink : (Cond.methodLink own index y).before args s = true) (hinst : (Cond.instanceMethod y).before args s = true) (hsel : (Cond.selects C y y).before args s = true)
    (hcode : (Cond.codeWith y bytes maxL ret hh).before args s = true) (hy : y.cls ≠ "java/lang/invoke/MethodHandle" ∧ y.cls ≠ "java/lang/invoke/VarHandle")
    {W9 : Nat} {Pre : Pt → Array Value → Prop} {Post : Pt → Array Value → Option Value → Pt → Prop} {PostX : Pt → Array Value → Addr → Pt → Prop} (hK : vx_Back l R p e below s args y 3 W9 Pre Post PostX)
    {b : Addr} {cellB : Cell} (hcell : T.heap[b]? = some cellB) (hobj : cellB.vm.isStatics = false) (hcls : s.vm.findClass C = some cellB.cls)
    {g : JFrame} (hg : g.method = m) (hsize : g.locals.size = c.maxLocals) {argsL rest : List Value} (hlen : ∀ sig, parseMethodDescriptor y.desc = some sig → argsL.length = sig.parameters.length)
    (hstack : g.stack = argsL.reverse ++ .ref b :: rest) (hW : 2 * g.monitorRoom + (rest.map fun v => v.category).sum ≤ W9) (hdg : decode c.code g.pc = .ok (.invokevirtual index, 3))
    (hpre : ∀ vm₁, s.WarmedH vm₁ → Pre ⟨T.setVm vm₁, locs, cells, slots⟩ (Value.ref b :: argsL).toArray) :
    (∃ (v : Option Value) (vm₁ : Vm) (B : Pt), s.WarmedH vm₁ ∧ Stand p l e R s m args below meth c B.U B.locs B.cells B.slots ∧ Post ⟨T.setVm vm₁, locs, cells, slots⟩ (Value.ref b :: argsL).toArray v B ∧
      ∀ target, Steps p.tables e below (B.U.setTop { g with pc := g.pc + 3, stack := v.toList ++ rest }) target → Steps p.tables e below (T.setTop g) target) ∨
    (∃ (q : Addr) (vm₁ : Vm) (B : Pt), s.WarmedH vm₁ ∧ Stand p l e R s m args below meth c B.U B.locs B.cells B.slots ∧ PostX ⟨T.setVm vm₁, locs, cells, slots⟩ (Value.ref b :: argsL).toArray q B ∧
      Steps p.tables e below (T.setTop g) ((B.U.setTop { g with stack := rest }).pushFrame (.throwing q))) := by
  obtain ⟨mk, methM, hnamed, hmethM, hstM, habM⟩ := Cond.instanceMethod_spec hinst
  obtain ⟨m8, methM', cM, hn8, hmethM', -, -, -, -, -, -, hsigM⟩ := Cond.codeWith_spec hcode
  cases Option.some.inj (hn8.symm.trans hnamed)
  cases hmethM.symm.trans hmethM'
  obtain ⟨c2, r2, m2, q1, q2, q3, q4, kP, hkP, hkPi⟩ := Cond.selects_spec hsel
  cases hcls.symm.trans q1
  cases (State.methodFound?_of_named hnamed hy).symm.trans q2
  cases hnamed.symm.trans q3
  have hselP : selectMethod e.platform s.vm cellB.cls mk = .method mk := by rw [Launch.admits_selectMethod X.admits]; exact q4
  obtain ⟨vm₁, X₁, hstep₁⟩ := X.invokevirtual hexec hown hlink hnamed hmethM hstM hkP hkPi hy (a := b) (cell := cellB) hcell
    (fun z h => by rw [h] at hobj; cases hobj) hselP hmethM habM hkP hkPi (g := g) hg (argsL := argsL) (rest := rest) (hlen _ hsigM) hstack hdg
  rcases hK m meth c ⟨T.setVm vm₁, locs, cells, slots⟩ { g with stack := rest } (.invokevirtual index) mk (Value.ref b :: argsL).toArray X₁ hg hsize hdg hW (X₁.named hnamed) (hpre vm₁ X₁.warmed) with ⟨v, B, X', hpost, hsteps⟩ | ⟨q, B, X', hpost, hsteps⟩
  · exact Or.inl ⟨v, vm₁, B, X₁.warmed, X', hpost, fun target h => hstep₁ _ fun acts => by rw [doInvoke_state]; exact hsteps.trans h⟩
  · exact Or.inr ⟨q, vm₁, B, X₁.warmed, X', hpost, hstep₁ _ fun acts => by rw [doInvoke_state]; exact hsteps⟩
theorem vx_callSX (X : Stand p l e R s m args below meth c T locs cells slots) (hexec : p.tables.exec = Jvm.exec) {own : String} {index : Nat} {y : MethodName} {bytes : ByteArray} {maxL : Nat} {ret : Option FieldType} {hh : List (Nat × Nat × Nat × Nat)}
    (hown : s.vm.findClass own = some m.cls) (hlink : (Cond.methodLink own index y).before args s = true) (hstat : (Cond.static y).before args s = true) (hinit : (Cond.initialized y.cls).before args s = true)
    (hcode : (Cond.codeWith y bytes maxL ret hh).before args s = true) (hy : y.cls ≠ "java/lang/invoke/MethodHandle" ∧ y.cls ≠ "java/lang/invoke/VarHandle")
    {W9 : Nat} {Pre : Pt → Array Value → Prop} {Post : Pt → Array Value → Option Value → Pt → Prop} {PostX : Pt → Array Value → Addr → Pt → Prop} (hK : vx_Back l R p e below s args y 3 W9 Pre Post PostX)
    {g : JFrame} (hg : g.method = m) (hsize : g.locals.size = c.maxLocals) {argsL rest : List Value} (hlen : ∀ sig, parseMethodDescriptor y.desc = some sig → argsL.length = sig.parameters.length)
    (hstack : g.stack = argsL.reverse ++ rest) (hW : 2 * g.monitorRoom + (rest.map fun v => v.category).sum ≤ W9) (hdg : decode c.code g.pc = .ok (.invokestatic index, 3))
    (hpre : ∀ vm₁, s.WarmedH vm₁ → Pre ⟨T.setVm vm₁, locs, cells, slots⟩ argsL.toArray) :
    (∃ (v : Option Value) (vm₁ : Vm) (B : Pt), s.WarmedH vm₁ ∧ Stand p l e R s m args below meth c B.U B.locs B.cells B.slots ∧ Post ⟨T.setVm vm₁, locs, cells, slots⟩ argsL.toArray v B ∧
      ∀ target, Steps p.tables e below (B.U.setTop { g with pc := g.pc + 3, stack := v.toList ++ rest }) target → Steps p.tables e below (T.setTop g) target) ∨
    (∃ (q : Addr) (vm₁ : Vm) (B : Pt), s.WarmedH vm₁ ∧ Stand p l e R s m args below meth c B.U B.locs B.cells B.slots ∧ PostX ⟨T.setVm vm₁, locs, cells, slots⟩ argsL.toArray q B ∧
      Steps p.tables e below (T.setTop g) ((B.U.setTop { g with stack := rest }).pushFrame (.throwing q))) := by
  obtain ⟨mk, methM, cM, hnamed, hmethM, -, -, -, -, -, -, hsigM⟩ := Cond.codeWith_spec hcode
  have hstatic : methM.isStatic = true := Cond.static_spec hnamed hmethM hstat
  obtain ⟨kP, hkP, -⟩ := className_of_methodNamed hnamed
  have hinitP : kP.init = .initialized := Cond.initialized_spec (findClass_of_methodNamed hnamed) hkP hinit
  obtain ⟨vm₁, X₁, hstep₁⟩ := X.invokestatic hexec hown hlink hnamed hmethM hstatic hkP hinitP hy (g := g) hg (argsL := argsL) (rest := rest) (hlen _ hsigM) hstack hdg
  rcases hK m meth c ⟨T.setVm vm₁, locs, cells, slots⟩ { g with stack := rest } (.invokestatic index) mk argsL.toArray X₁ hg hsize hdg hW (X₁.named hnamed) (hpre vm₁ X₁.warmed) with ⟨v, B, X', hpost, hsteps⟩ | ⟨q, B, X', hpost, hsteps⟩
  · exact Or.inl ⟨v, vm₁, B, X₁.warmed, X', hpost, fun target h => hstep₁ _ fun acts => by rw [doInvoke_state]; exact hsteps.trans h⟩
  · exact Or.inr ⟨q, vm₁, B, X₁.warmed, X', hpost, hstep₁ _ fun acts => by rw [doInvoke_state]; exact hsteps⟩
theorem vx_callVW (X : Stand p l e R s m args below meth c T locs cells slots) (hexec : p.tables.exec = Jvm.exec) {own C : String} {index : Nat} {y : MethodName} {bytes : ByteArray} {maxL : Nat} {ret : Option FieldType} {hh : List (Nat × Nat × Nat × Nat)}
    (hown : s.vm.findClass own = some m.cls) (hlink : (Cond.methodLink own index y).before args s = true) (hinst : (Cond.instanceMethod y).before args s = true) (hsel : (Cond.selects C y y).before args s = true)
    (hcode : (Cond.codeWith y bytes maxL ret hh).before args s = true) (hy : y.cls ≠ "java/lang/invoke/MethodHandle" ∧ y.cls ≠ "java/lang/invoke/VarHandle")
    {W9 : Nat} {Pre : Pt → Array Value → Prop} {Post : Pt → Array Value → Option Value → Pt → Prop} (hK : Back l R p e below s args y 3 W9 Pre Post)
    {b : Addr} {cellB : Cell} (hcell : T.heap[b]? = some cellB) (hobj : cellB.vm.isStatics = false) (hcls : s.vm.findClass C = some cellB.cls)
    {g : JFrame} (hg : g.method = m) (hsize : g.locals.size = c.maxLocals) {argsL rest : List Value} (hlen : ∀ sig, parseMethodDescriptor y.desc = some sig → argsL.length = sig.parameters.length)
    (hstack : g.stack = argsL.reverse ++ .ref b :: rest) (hW : 2 * g.monitorRoom + (rest.map fun v => v.category).sum ≤ W9) (hdg : decode c.code g.pc = .ok (.invokevirtual index, 3))
    (hpre : ∀ vm₁, s.WarmedH vm₁ → Pre ⟨T.setVm vm₁, locs, cells, slots⟩ (Value.ref b :: argsL).toArray) :
    ∃ (v : Option Value) (vm₁ : Vm) (B : Pt), s.WarmedH vm₁ ∧ Stand p l e R s m args below meth c B.U B.locs B.cells B.slots ∧ Post ⟨T.setVm vm₁, locs, cells, slots⟩ (Value.ref b :: argsL).toArray v B ∧
      ∀ target, Steps p.tables e below (B.U.setTop { g with pc := g.pc + 3, stack := v.toList ++ rest }) target → Steps p.tables e below (T.setTop g) target := by
  obtain ⟨mk, methM, hnamed, hmethM, hstM, habM⟩ := Cond.instanceMethod_spec hinst
  obtain ⟨m8, methM', cM, hn8, hmethM', -, -, -, -, -, -, hsigM⟩ := Cond.codeWith_spec hcode
  cases Option.some.inj (hn8.symm.trans hnamed)
  cases hmethM.symm.trans hmethM'
  obtain ⟨c2, r2, m2, q1, q2, q3, q4, kP, hkP, hkPi⟩ := Cond.selects_spec hsel
  cases hcls.symm.trans q1
  cases (State.methodFound?_of_named hnamed hy).symm.trans q2
  cases hnamed.symm.trans q3
  have hselP : selectMethod e.platform s.vm cellB.cls mk = .method mk := by rw [Launch.admits_selectMethod X.admits]; exact q4
  obtain ⟨vm₁, X₁, hstep₁⟩ := X.invokevirtual hexec hown hlink hnamed hmethM hstM hkP hkPi hy (a := b) (cell := cellB) hcell
    (fun z h => by rw [h] at hobj; cases hobj) hselP hmethM habM hkP hkPi (g := g) hg (argsL := argsL) (rest := rest) (hlen _ hsigM) hstack hdg
  obtain ⟨v, B, X', hpost, hsteps⟩ := hK m meth c ⟨T.setVm vm₁, locs, cells, slots⟩ { g with stack := rest } (.invokevirtual index) mk (Value.ref b :: argsL).toArray X₁ hg hsize hdg hW (X₁.named hnamed) (hpre vm₁ X₁.warmed)
  exact ⟨v, vm₁, B, X₁.warmed, X', hpost, fun target h => hstep₁ _ fun acts => by rw [doInvoke_state]; exact hsteps.trans h⟩
abbrev vx_CVW (R : Room) (s : State) (args : Array Value) (own C : String) (index : Nat) (y : MethodName) (bytes : ByteArray) (maxL : Nat) (ret : Option FieldType) (hh : List (Nat × Nat × Nat × Nat)) (ws : List Cond) (rm : Room) (mc ms n : Nat) : Prop :=
  (rm.cells = mc ∧ rm.slots = ms ∧ rm.frames + 1 ≤ R.frames ∧ 8 + (maxL + 11) + rm.locals ≤ R.locals ∧ (∀ w ∈ ws, ∀ (a' : Array Value) (U : State), s.WarmedH U.vm → w.before a' U = true) ∧ Cond.codeWith y bytes maxL ret hh ∈ ws) ∧
  (Cond.codeWith y bytes maxL ret hh).before args s = true ∧ (Cond.initialized y.cls).before args s = true ∧ (y.cls ≠ "java/lang/invoke/MethodHandle" ∧ y.cls ≠ "java/lang/invoke/VarHandle") ∧
  (∀ sig, parseMethodDescriptor y.desc = some sig → n = sig.parameters.length) ∧ (Cond.methodLink own index y).before args s = true ∧ (Cond.instanceMethod y).before args s = true ∧ (Cond.selects C y y).before args s = true
theorem vx_cwVW {own C : String} {index maxL mc ms : Nat} {y : MethodName} {bytes : ByteArray} {ret : Option FieldType} {hh : List (Nat × Nat × Nat × Nat)} {Ts ws ws' : List Cond} {rm : Room} (n : Nat) (ht : ∀ w ∈ Ts, w.before args s = true) (hT : GoodIn Ts (wsV own index C y ws)) (hw : ws = Cond.codeWith y bytes maxL ret hh :: ws') (hrc : rm.cells = mc) (hrs : rm.slots = ms)
    (hd : y.cls = C ∧ y.cls ≠ "java/lang/invoke/MethodHandle" ∧ y.cls ≠ "java/lang/invoke/VarHandle" ∧ (parseMethodDescriptor y.desc).map (fun d => d.parameters.length) = some n) (hR : rm.frames + 1 ≤ R.frames ∧ 8 + (maxL + 11) + rm.locals ≤ R.locals) :
    vx_CVW R s args own C index y bytes maxL ret hh ws rm mc ms n := by
  obtain ⟨hC, hd⟩ := hd
  subst hC
  have ok : ∀ w ∈ wsV own index y.cls y ws, w.before args s = true := fun w h => ht w (hT w h).1
  have hG : GoodIn Ts ws := fun w h => hT w (by unfold wsV; exact List.mem_append_right _ h)
  have hc : Cond.codeWith y bytes maxL ret hh ∈ ws := by rw [hw]; exact List.mem_cons_self
  refine ⟨⟨hrc, hrs, hR.1, hR.2, pay_in ht hG, hc⟩, ht _ (hG _ hc).1, ok _ (by simp [wsV]), ⟨hd.1, hd.2.1⟩, fun sig h => ?_, ok _ (by simp [wsV]), ok _ (by simp [wsV]), ok _ (by simp [wsV])⟩
  have h2 := hd.2.2
  rw [h] at h2
  exact (Option.some.inj h2).symm
theorem vx_runVW {y : MethodName} {bytes cc : ByteArray} {maxL nL mc ms n index : Nat} {ret : Option FieldType} {hh : List (Nat × Nat × Nat × Nat)} {ws : List Cond} {rm : Room} {Pc : Array Value → State → Prop} {Qc : Array Value → State → Outcome → State → Prop} {free : Addr → Prop} {Ts : List Cond} {own C : String} {b : Addr} {As rest : List Value} {g : JFrame}
    (S : CallFix p m c cc nL s args Ts own) (hM : Met l y ws rm Pc Qc mc ms free) (cw : vx_CVW R s args own C index y bytes maxL ret hh ws rm mc ms n) (hp : PreV s H C b Pc As)
    (hg : g.method = m) (hn : As.length = n) (hsize : g.locals.size = nL) (hstack : g.stack = As.reverse ++ .ref b :: rest) (hW : 2 * g.monitorRoom + (rest.map fun v => v.category).sum ≤ 8) (hdg : decode cc g.pc = .ok (.invokevirtual index, 3)) (hf : cells + mc ≤ R.cells ∧ slots + ms ≤ R.slots) :
    va_Run p l e R s m args below meth c H locs cells slots mc ms g rest (Qc (Value.ref b :: As).toArray) free := by
  obtain ⟨⟨hrc, hrs, hfr, hlo, hws, hcw⟩, hcode, hini, hy, hlen, hl, hin, hse⟩ := cw
  have hK : Back l R p e below s args y 3 8 (PreOf R mc ms Pc) (PostOf Qc mc ms free) := va_backW (hh := hh) (bytes := bytes) (maxL := maxL) (ret := ret) hM hp.1 hrc hrs hfr hlo hws hcw (fun a' U hW => word_at hW (Or.inl (by first | rfl | simp [Cond.onTables, Cond.keeps, Cond.steady])) hini)
  obtain ⟨hx, hb, hml, ho, -⟩ := S
  obtain ⟨-, ⟨cellB, hcB, hoB, hclB⟩, hPc⟩ := hp
  intro T hT X
  obtain ⟨v, vm₁, ⟨U', l2, c2, s2⟩, hW₁, X', ⟨g', mk, t, L, e1, e2, hq, h1, hL, h2, h3⟩, st⟩ := vx_callVW X hx (C := C) (hh := hh) (bytes := bytes) (maxL := maxL) (ret := ret) ho hl hin hse hcode hy hK (by rw [hT]; exact hcB) hoB hclB hg (hsize.trans hml.symm) (argsL := As) (rest := rest) (fun sig h => hn.trans (hlen sig h)) hstack hW (by rw [hb]; exact hdg)
    (fun vm₁ hW₁ => ⟨hf.1, hf.2, hPc (T.setVm vm₁) hT hW₁⟩)
  dsimp only [Pt.U, Pt.locs, Pt.cells, Pt.slots] at X' e1 e2 h1 h2 h3 st
  subst h1; subst h2; subst h3
  exact ⟨v, (T.setVm vm₁).calling g' mk (Value.ref b :: As).toArray, t, U', L, hT, X', hL, e1, e2, hq, st⟩
section
variable {y : MethodName} {bytes cc : ByteArray} {maxL nL mc ms n index : Nat} {ret : Option FieldType} {ws : List Cond} {rm : Room} {Pc : Array Value → State → Prop} {Qc : Array Value → State → Outcome → State → Prop} {XC : String → State → State → Prop} {free : Addr → Prop} {Ts : List Cond} {own C : String} {b : Addr} {As rest : List Value} {g : JFrame}
theorem vx_runVX {hh : List (Nat × Nat × Nat × Nat)} (S : CallFix p m c cc nL s args Ts own) (hM : vx_Met l y ws rm Pc Qc XC mc ms free) (cw : vx_CVW R s args own C index y bytes maxL ret hh ws rm mc ms n) (hp : PreV s H C b Pc As)
    (hg : g.method = m) (hn : As.length = n) (hsize : g.locals.size = nL) (hstack : g.stack = As.reverse ++ .ref b :: rest) (hW : 2 * g.monitorRoom + (rest.map fun v => v.category).sum ≤ 8) (hdg : decode cc g.pc = .ok (.invokevirtual index, 3)) (hf : cells + mc ≤ R.cells ∧ slots + ms ≤ R.slots) :
    vx_Run p l e R s m args below meth c H locs cells slots mc ms g rest (Qc (Value.ref b :: As).toArray) XC free := by
  obtain ⟨⟨hrc, hrs, hfr, hlo, hws, hcw⟩, hcode, hini, hy, hlen, hl, hin, hse⟩ := cw
  have hK : vx_Back l R p e below s args y 3 8 (PreOf R mc ms Pc) (PostOf Qc mc ms free) (vx_Post XC mc ms free) := vx_backW (hh := hh) (bytes := bytes) (maxL := maxL) (ret := ret) hM hp.1 hrc hrs hfr hlo hws hcw (fun a' U hW => word_at hW (Or.inl (by first | rfl | simp [Cond.onTables, Cond.keeps, Cond.steady])) hini)
  obtain ⟨hx, hb, hml, ho, -⟩ := S
  obtain ⟨-, ⟨cellB, hcB, hoB, hclB⟩, hPc⟩ := hp
  intro T hT X
  rcases vx_callVX X hx (C := C) (hh := hh) (bytes := bytes) (maxL := maxL) (ret := ret) ho hl hin hse hcode hy hK (by rw [hT]; exact hcB) hoB hclB hg (hsize.trans hml.symm) (argsL := As) (rest := rest) (fun sig h => hn.trans (hlen sig h)) hstack hW (by rw [hb]; exact hdg)
    (fun vm₁ hW₁ => ⟨hf.1, hf.2, hPc (T.setVm vm₁) hT hW₁⟩) with ⟨v, vm₁, ⟨U', l2, c2, s2⟩, hW₁, X', ⟨g', mk, t, L, e1, e2, hq, h1, hL, h2, h3⟩, st⟩ | ⟨q, vm₁, ⟨U', l2, c2, s2⟩, hW₁, X', ⟨g', mk, t, L, E, ce, e1, e2, hq, hce, hcv, hcl, h1, hL, h2, h3⟩, st⟩
  · dsimp only [Pt.U, Pt.locs, Pt.cells, Pt.slots] at X' e1 e2 h1 h2 h3 st
    subst h1; subst h2; subst h3
    exact Or.inl ⟨v, (T.setVm vm₁).calling g' mk (Value.ref b :: As).toArray, t, U', L, hT, X', hL, e1, e2, hq, st⟩
  · dsimp only [Pt.U, Pt.locs, Pt.cells, Pt.slots] at X' e1 e2 h1 h2 h3 st hcl
    subst h1; subst h2; subst h3
    exact Or.inr ⟨q, (T.setVm vm₁).calling g' mk (Value.ref b :: As).toArray, t, U', L, E, ce, hT, X', hL, e1, e2, hq, hce, hcv, vx_cls hW₁ hcl, st⟩
theorem vx_runSX {hh : List (Nat × Nat × Nat × Nat)} (S : CallFix p m c cc nL s args Ts own) (hM : vx_Met l y ws rm Pc Qc XC mc ms free) (cw : vx_CSW R s args own index y bytes maxL ret hh ws rm mc ms n) (hp : PreS s H Pc As)
    (hg : g.method = m) (hn : As.length = n) (hsize : g.locals.size = nL) (hstack : g.stack = As.reverse ++ rest) (hW : 2 * g.monitorRoom + (rest.map fun v => v.category).sum ≤ 8) (hdg : decode cc g.pc = .ok (.invokestatic index, 3)) (hf : cells + mc ≤ R.cells ∧ slots + ms ≤ R.slots) :
    vx_Run p l e R s m args below meth c H locs cells slots mc ms g rest (Qc As.toArray) XC free := by
  obtain ⟨⟨hrc, hrs, hfr, hlo, hws, hcw⟩, hcode, hini, hy, hlen, hl, hstt⟩ := cw
  have hK : vx_Back l R p e below s args y 3 8 (PreOf R mc ms Pc) (PostOf Qc mc ms free) (vx_Post XC mc ms free) := vx_backW (hh := hh) (bytes := bytes) (maxL := maxL) (ret := ret) hM hp.1 hrc hrs hfr hlo hws hcw (fun a' U hW => word_at hW (Or.inl (by first | rfl | simp [Cond.onTables, Cond.keeps, Cond.steady])) hini)
  obtain ⟨hx, hb, hml, ho, -⟩ := S
  intro T hT X
  rcases vx_callSX X hx (hh := hh) (bytes := bytes) (maxL := maxL) (ret := ret) ho hl hstt hini hcode hy hK hg (hsize.trans hml.symm) (argsL := As) (rest := rest) (fun sig h => hn.trans (hlen sig h)) hstack hW (by rw [hb]; exact hdg)
    (fun vm₁ hW₁ => ⟨hf.1, hf.2, hp.2 (T.setVm vm₁) hT hW₁⟩) with ⟨v, vm₁, ⟨U', l2, c2, s2⟩, hW₁, X', ⟨g', mk, t, L, e1, e2, hq, h1, hL, h2, h3⟩, st⟩ | ⟨q, vm₁, ⟨U', l2, c2, s2⟩, hW₁, X', ⟨g', mk, t, L, E, ce, e1, e2, hq, hce, hcv, hcl, h1, hL, h2, h3⟩, st⟩
  · dsimp only [Pt.U, Pt.locs, Pt.cells, Pt.slots] at X' e1 e2 h1 h2 h3 st
    subst h1; subst h2; subst h3
    exact Or.inl ⟨v, (T.setVm vm₁).calling g' mk As.toArray, t, U', L, hT, X', hL, e1, e2, hq, st⟩
  · dsimp only [Pt.U, Pt.locs, Pt.cells, Pt.slots] at X' e1 e2 h1 h2 h3 st hcl
    subst h1; subst h2; subst h3
    exact Or.inr ⟨q, (T.setVm vm₁).calling g' mk As.toArray, t, U', L, E, ce, hT, X', hL, e1, e2, hq, hce, hcv, vx_cls hW₁ hcl, st⟩
end
end VXH
theorem vx_ofWH {l : Launch} {y : MethodName} {ws ws' : List Cond} {rm : Room} {Pc : Array Value → State → Prop} {Qc : Array Value → State → Outcome → State → Prop} {XC : String → State → State → Prop} {mc ms : Nat} {free : Addr → Prop} {cc : ByteArray} {maxL : Nat} {ret : Option FieldType} {hh : List (Nat × Nat × Nat × Nat)}
    (hy : plainName y.cls = true) (hw : ws = Cond.codeWith y cc maxL ret hh :: ws')
    (body : ∀ p e s m args below meth c s₁, BodyLoose p l y (headSpec ws rm) cc maxL ret e s m args below meth c s₁ → c.maxLocals = maxL → Pc args s →
      W p l e (headSpec ws rm).room s m args below meth c s.heap [] 0 0 (vx_MQ below Qc XC args s mc ms free) (entryFrame m args maxL)) : vx_Met l y ws rm Pc Qc XC mc ms free := by
  refine MetFree.of_bodyS (code := cc) (maxLocals := maxL) (ret := ret) hy ?_ ?_
  · intro args s m h hn
    obtain ⟨m9, meth, c, hn9, h1, h2, h3, h4, -, h5, h6, -⟩ := Cond.codeWith_spec (atoms_spec (ws := ws) h _ (by rw [hw]; exact List.mem_cons_self))
    cases hn.symm.trans hn9
    exact ⟨meth, c, h1, h2, h3, h4, h5, h6⟩
  · intro p e s m args below meth c s₁ B hml hP _
    have hh0 : s₁.heap = s.heap := by rw [B.state]; rfl
    obtain ⟨t, a1, o, b1, b2, b3⟩ := body p e s m args below meth c s₁ B hml hP s₁ hh0 (Stand.of_body B)
    exact ⟨t, o, a1, b1, b2, b3⟩
/-! ===== END ===== -/
end
section
def R_Check : String := "SegmentForms$Check"
def T_Check : u_T := fun k => match k with
  | 0 => ("SegmentForms$Check", "message", "LSegmentForms$Message;", true)
  | 1 => ("SegmentForms$Check", "rows", "[I", true)
  | 2 => ("SegmentForms$Check", "aboves", "[I", true)
  | 3 => ("SegmentForms$Check", "answer", "I", false)
  | 4 => ("SegmentForms$Check", "faultSegment", "I", false)
  | 5 => ("SegmentForms$Check", "faultRow", "I", false)
  | 6 => ("SegmentForms$Check", "next", "I", false)
  | _ => ("SegmentForms$Check", "last", "I", false)
def ty_Check : Nat → FieldType := fun k => match k with
  | 0 => .object "SegmentForms$Message"
  | 1 => .array .int
  | 2 => .array .int
  | 3 => .int
  | 4 => .int
  | 5 => .int
  | 6 => .int
  | _ => .int
theorem nm_Check : ∀ a, a < 8 → ∀ b, b < 8 → a ≠ b → (T_Check a).2.1 ≠ (T_Check b).2.1 := by decide +kernel
theorem ty_Check_ok : ∀ k, k < 8 → parseFieldDescriptor (T_Check k).2.2.1 = some (ty_Check k) := by decide +kernel
abbrev c_Check_init : ByteArray := prog_2_method_1_code
def y_Check_init : MethodName := ⟨R_Check, "<init>", "(LSegmentForms$Message;)V"⟩
abbrev c_Check_forget : ByteArray := prog_2_method_2_code
def y_Check_forget : MethodName := ⟨R_Check, "forget", "()V"⟩
abbrev c_Check_answer : ByteArray := prog_2_method_3_code
def y_Check_answer : MethodName := ⟨R_Check, "answer", "()I"⟩
abbrev c_Check_faultSegment : ByteArray := prog_2_method_4_code
def y_Check_faultSegment : MethodName := ⟨R_Check, "faultSegment", "()I"⟩
abbrev c_Check_faultRow : ByteArray := prog_2_method_5_code
def y_Check_faultRow : MethodName := ⟨R_Check, "faultRow", "()I"⟩
abbrev c_Check_rowOf : ByteArray := prog_2_method_6_code
def y_Check_rowOf : MethodName := ⟨R_Check, "rowOf", "(I)I"⟩
abbrev c_Check_aboveOf : ByteArray := prog_2_method_7_code
def y_Check_aboveOf : MethodName := ⟨R_Check, "aboveOf", "(I)I"⟩
abbrev c_Check_toldKind : ByteArray := prog_2_method_8_code
def y_Check_toldKind : MethodName := ⟨R_Check, "toldKind", "()I"⟩
abbrev c_Check_run : ByteArray := prog_2_method_9_code
def y_Check_run : MethodName := ⟨R_Check, "run", "(LSegmentForms$Grammar;)I"⟩
abbrev c_Check_faultOfFrame : ByteArray := prog_2_method_10_code
def y_Check_faultOfFrame : MethodName := ⟨R_Check, "faultOfFrame", "()I"⟩
abbrev c_Check_faultBetween : ByteArray := prog_2_method_11_code
def y_Check_faultBetween : MethodName := ⟨R_Check, "faultBetween", "(LSegmentForms$Grammar;)I"⟩
abbrev c_Check_walkRows : ByteArray := prog_2_method_12_code
def y_Check_walkRows : MethodName := ⟨R_Check, "walkRows", "(LSegmentForms$Grammar;IIII)Z"⟩
abbrev c_Check_walkRow : ByteArray := prog_2_method_13_code
def y_Check_walkRow : MethodName := ⟨R_Check, "walkRow", "(LSegmentForms$Grammar;III)Z"⟩
abbrev c_Check_walkOver : ByteArray := prog_2_method_14_code
def y_Check_walkOver : MethodName := ⟨R_Check, "walkOver", "(III)V"⟩
def R_Grammar : String := "SegmentForms$Grammar"
def T_Grammar : u_T := fun k => match k with
  | 0 => ("SegmentForms$Grammar", "tags", "[I", true)
  | 1 => ("SegmentForms$Grammar", "leasts", "[I", true)
  | 2 => ("SegmentForms$Grammar", "mosts", "[I", true)
  | 3 => ("SegmentForms$Grammar", "levels", "[I", true)
  | _ => ("SegmentForms$Grammar", "size", "I", false)
def ty_Grammar : Nat → FieldType := fun k => match k with
  | 0 => .array .int
  | 1 => .array .int
  | 2 => .array .int
  | 3 => .array .int
  | _ => .int
theorem nm_Grammar : ∀ a, a < 5 → ∀ b, b < 5 → a ≠ b → (T_Grammar a).2.1 ≠ (T_Grammar b).2.1 := by decide +kernel
theorem ty_Grammar_ok : ∀ k, k < 5 → parseFieldDescriptor (T_Grammar k).2.2.1 = some (ty_Grammar k) := by decide +kernel
abbrev c_Grammar_init : ByteArray := prog_3_method_1_code
def y_Grammar_init : MethodName := ⟨R_Grammar, "<init>", "()V"⟩
abbrev c_Grammar_size : ByteArray := prog_3_method_2_code
def y_Grammar_size : MethodName := ⟨R_Grammar, "size", "()I"⟩
abbrev c_Grammar_isFull : ByteArray := prog_3_method_3_code
def y_Grammar_isFull : MethodName := ⟨R_Grammar, "isFull", "()Z"⟩
abbrev c_Grammar_canTakeLevel : ByteArray := prog_3_method_4_code
def y_Grammar_canTakeLevel : MethodName := ⟨R_Grammar, "canTakeLevel", "(I)Z"⟩
abbrev c_Grammar_append : ByteArray := prog_3_method_5_code
def y_Grammar_append : MethodName := ⟨R_Grammar, "append", "(IIII)V"⟩
abbrev c_Grammar_tagOf : ByteArray := prog_3_method_6_code
def y_Grammar_tagOf : MethodName := ⟨R_Grammar, "tagOf", "(I)I"⟩
abbrev c_Grammar_leastOf : ByteArray := prog_3_method_7_code
def y_Grammar_leastOf : MethodName := ⟨R_Grammar, "leastOf", "(I)I"⟩
abbrev c_Grammar_mostOf : ByteArray := prog_3_method_8_code
def y_Grammar_mostOf : MethodName := ⟨R_Grammar, "mostOf", "(I)I"⟩
abbrev c_Grammar_levelOf : ByteArray := prog_3_method_9_code
def y_Grammar_levelOf : MethodName := ⟨R_Grammar, "levelOf", "(I)I"⟩
abbrev c_Grammar_knows : ByteArray := prog_3_method_10_code
def y_Grammar_knows : MethodName := ⟨R_Grammar, "knows", "(I)Z"⟩
abbrev c_Grammar_endOfGroup : ByteArray := prog_3_method_11_code
def y_Grammar_endOfGroup : MethodName := ⟨R_Grammar, "endOfGroup", "(I)I"⟩
def R_Layer : String := "SegmentForms$Layer"
def T_Layer : u_T := fun k => match k with
  | 0 => ("SegmentForms$Layer", "first", "[I", true)
  | _ => ("SegmentForms$Layer", "size", "I", false)
def ty_Layer : Nat → FieldType := fun k => match k with
  | 0 => .array .int
  | _ => .int
theorem nm_Layer : ∀ a, a < 2 → ∀ b, b < 2 → a ≠ b → (T_Layer a).2.1 ≠ (T_Layer b).2.1 := by decide +kernel
theorem ty_Layer_ok : ∀ k, k < 2 → parseFieldDescriptor (T_Layer k).2.2.1 = some (ty_Layer k) := by decide +kernel
abbrev c_Layer_init : ByteArray := prog_4_method_1_code
def y_Layer_init : MethodName := ⟨R_Layer, "<init>", "(I)V"⟩
abbrev c_Layer_clear : ByteArray := prog_4_method_2_code
def y_Layer_clear : MethodName := ⟨R_Layer, "clear", "()V"⟩
abbrev c_Layer_size : ByteArray := prog_4_method_3_code
def y_Layer_size : MethodName := ⟨R_Layer, "size", "()I"⟩
abbrev c_Layer_open : ByteArray := prog_4_method_4_code
def y_Layer_open : MethodName := ⟨R_Layer, "open", "()Z"⟩
abbrev c_Layer_grow : ByteArray := prog_4_method_5_code
def y_Layer_grow : MethodName := ⟨R_Layer, "grow", "()V"⟩
abbrev c_Layer_childrenOf : ByteArray := prog_4_method_6_code
def y_Layer_childrenOf : MethodName := ⟨R_Layer, "childrenOf", "(I)I"⟩
abbrev c_Layer_childrenOfLast : ByteArray := prog_4_method_7_code
def y_Layer_childrenOfLast : MethodName := ⟨R_Layer, "childrenOfLast", "()I"⟩
abbrev c_Layer_childAt : ByteArray := prog_4_method_8_code
def y_Layer_childAt : MethodName := ⟨R_Layer, "childAt", "(II)I"⟩
def R_Message : String := "SegmentForms$Message"
def T_Message : u_T := fun k => match k with
  | 0 => ("SegmentForms$Message", "tags", "[I", true)
  | 1 => ("SegmentForms$Message", "segments", "LSegmentForms$Layer;", true)
  | 2 => ("SegmentForms$Message", "elements", "LSegmentForms$Layer;", true)
  | 3 => ("SegmentForms$Message", "repeats", "LSegmentForms$Layer;", true)
  | 4 => ("SegmentForms$Message", "components", "LSegmentForms$Layer;", true)
  | _ => ("SegmentForms$Message", "letters", "LSegmentForms$SignRow;", true)
def ty_Message : Nat → FieldType := fun k => match k with
  | 0 => .array .int
  | 1 => .object "SegmentForms$Layer"
  | 2 => .object "SegmentForms$Layer"
  | 3 => .object "SegmentForms$Layer"
  | 4 => .object "SegmentForms$Layer"
  | _ => .object "SegmentForms$SignRow"
theorem nm_Message : ∀ a, a < 6 → ∀ b, b < 6 → a ≠ b → (T_Message a).2.1 ≠ (T_Message b).2.1 := by decide +kernel
theorem ty_Message_ok : ∀ k, k < 6 → parseFieldDescriptor (T_Message k).2.2.1 = some (ty_Message k) := by decide +kernel
abbrev c_Message_init : ByteArray := prog_5_method_1_code
def y_Message_init : MethodName := ⟨R_Message, "<init>", "()V"⟩
abbrev c_Message_clear : ByteArray := prog_5_method_2_code
def y_Message_clear : MethodName := ⟨R_Message, "clear", "()V"⟩
abbrev c_Message_isThere : ByteArray := prog_5_method_3_code
def y_Message_isThere : MethodName := ⟨R_Message, "isThere", "()Z"⟩
abbrev c_Message_isFull : ByteArray := prog_5_method_4_code
def y_Message_isFull : MethodName := ⟨R_Message, "isFull", "()Z"⟩
abbrev c_Message_size : ByteArray := prog_5_method_5_code
def y_Message_size : MethodName := ⟨R_Message, "size", "()I"⟩
abbrev c_Message_openSegment : ByteArray := prog_5_method_6_code
def y_Message_openSegment : MethodName := ⟨R_Message, "openSegment", "(I)Z"⟩
abbrev c_Message_openElement : ByteArray := prog_5_method_7_code
def y_Message_openElement : MethodName := ⟨R_Message, "openElement", "()Z"⟩
abbrev c_Message_openRepeat : ByteArray := prog_5_method_8_code
def y_Message_openRepeat : MethodName := ⟨R_Message, "openRepeat", "()Z"⟩
abbrev c_Message_openComponent : ByteArray := prog_5_method_9_code
def y_Message_openComponent : MethodName := ⟨R_Message, "openComponent", "()Z"⟩
abbrev c_Message_openBelow : ByteArray := prog_5_method_10_code
def y_Message_openBelow : MethodName := ⟨R_Message, "openBelow", "(LSegmentForms$Layer;ILSegmentForms$Layer;)Z"⟩
abbrev c_Message_appendLetter : ByteArray := prog_5_method_11_code
def y_Message_appendLetter : MethodName := ⟨R_Message, "appendLetter", "(I)Z"⟩
abbrev c_Message_tagOf : ByteArray := prog_5_method_12_code
def y_Message_tagOf : MethodName := ⟨R_Message, "tagOf", "(I)I"⟩
abbrev c_Message_elementsOf : ByteArray := prog_5_method_13_code
def y_Message_elementsOf : MethodName := ⟨R_Message, "elementsOf", "(I)I"⟩
abbrev c_Message_elementAt : ByteArray := prog_5_method_14_code
def y_Message_elementAt : MethodName := ⟨R_Message, "elementAt", "(II)I"⟩
abbrev c_Message_repeatsOf : ByteArray := prog_5_method_15_code
def y_Message_repeatsOf : MethodName := ⟨R_Message, "repeatsOf", "(I)I"⟩
abbrev c_Message_repeatAt : ByteArray := prog_5_method_16_code
def y_Message_repeatAt : MethodName := ⟨R_Message, "repeatAt", "(II)I"⟩
abbrev c_Message_componentsOf : ByteArray := prog_5_method_17_code
def y_Message_componentsOf : MethodName := ⟨R_Message, "componentsOf", "(I)I"⟩
abbrev c_Message_componentAt : ByteArray := prog_5_method_18_code
def y_Message_componentAt : MethodName := ⟨R_Message, "componentAt", "(II)I"⟩
abbrev c_Message_lettersOf : ByteArray := prog_5_method_19_code
def y_Message_lettersOf : MethodName := ⟨R_Message, "lettersOf", "(I)I"⟩
abbrev c_Message_letterAt : ByteArray := prog_5_method_20_code
def y_Message_letterAt : MethodName := ⟨R_Message, "letterAt", "(II)I"⟩
abbrev c_Message_findComponent : ByteArray := prog_5_method_21_code
def y_Message_findComponent : MethodName := ⟨R_Message, "findComponent", "(IIII)I"⟩
abbrev c_Message_areSame : ByteArray := prog_5_method_22_code
def y_Message_areSame : MethodName := ⟨R_Message, "areSame", "(II)Z"⟩
abbrev c_Message_spells : ByteArray := prog_5_method_23_code
def y_Message_spells : MethodName := ⟨R_Message, "spells", "(II)Z"⟩
def R_Reader : String := "SegmentForms$Reader"
def T_Reader : u_T := fun k => match k with
  | 0 => ("SegmentForms$Reader", "message", "LSegmentForms$Message;", true)
  | 1 => ("SegmentForms$Reader", "signs", "LSegmentForms$ServiceSigns;", true)
  | 2 => ("SegmentForms$Reader", "state", "I", false)
  | _ => ("SegmentForms$Reader", "tag", "I", false)
def ty_Reader : Nat → FieldType := fun k => match k with
  | 0 => .object "SegmentForms$Message"
  | 1 => .object "SegmentForms$ServiceSigns"
  | 2 => .int
  | _ => .int
theorem nm_Reader : ∀ a, a < 4 → ∀ b, b < 4 → a ≠ b → (T_Reader a).2.1 ≠ (T_Reader b).2.1 := by decide +kernel
theorem ty_Reader_ok : ∀ k, k < 4 → parseFieldDescriptor (T_Reader k).2.2.1 = some (ty_Reader k) := by decide +kernel
abbrev c_Reader_init : ByteArray := prog_6_method_1_code
def y_Reader_init : MethodName := ⟨R_Reader, "<init>", "(LSegmentForms$Message;LSegmentForms$ServiceSigns;)V"⟩
abbrev c_Reader_firstWrongPlace : ByteArray := prog_6_method_2_code
def y_Reader_firstWrongPlace : MethodName := ⟨R_Reader, "firstWrongPlace", "(LSegmentForms$SignRow;)I"⟩
abbrev c_Reader_beginsWithUna : ByteArray := prog_6_method_3_code
def y_Reader_beginsWithUna : MethodName := ⟨R_Reader, "beginsWithUna", "(LSegmentForms$SignRow;)Z"⟩
abbrev c_Reader_firstWrongOfUna : ByteArray := prog_6_method_4_code
def y_Reader_firstWrongOfUna : MethodName := ⟨R_Reader, "firstWrongOfUna", "(LSegmentForms$SignRow;)I"⟩
abbrev c_Reader_take : ByteArray := prog_6_method_5_code
def y_Reader_take : MethodName := ⟨R_Reader, "take", "(I)Z"⟩
abbrev c_Reader_takeOfTag : ByteArray := prog_6_method_6_code
def y_Reader_takeOfTag : MethodName := ⟨R_Reader, "takeOfTag", "(II)Z"⟩
abbrev c_Reader_takeBehindTag : ByteArray := prog_6_method_7_code
def y_Reader_takeBehindTag : MethodName := ⟨R_Reader, "takeBehindTag", "(I)Z"⟩
abbrev c_Reader_takeInComponent : ByteArray := prog_6_method_8_code
def y_Reader_takeInComponent : MethodName := ⟨R_Reader, "takeInComponent", "(I)Z"⟩
def R_ServiceSigns : String := "SegmentForms$ServiceSigns"
def T_ServiceSigns : u_T := fun k => match k with
  | _ => ("SegmentForms$ServiceSigns", "signs", "[I", true)
def ty_ServiceSigns : Nat → FieldType := fun k => match k with
  | _ => .array .int
theorem nm_ServiceSigns : ∀ a, a < 1 → ∀ b, b < 1 → a ≠ b → (T_ServiceSigns a).2.1 ≠ (T_ServiceSigns b).2.1 := by decide +kernel
theorem ty_ServiceSigns_ok : ∀ k, k < 1 → parseFieldDescriptor (T_ServiceSigns k).2.2.1 = some (ty_ServiceSigns k) := by decide +kernel
abbrev c_ServiceSigns_init : ByteArray := prog_7_method_1_code
def y_ServiceSigns_init : MethodName := ⟨R_ServiceSigns, "<init>", "()V"⟩
abbrev c_ServiceSigns_setUntold : ByteArray := prog_7_method_2_code
def y_ServiceSigns_setUntold : MethodName := ⟨R_ServiceSigns, "setUntold", "()V"⟩
abbrev c_ServiceSigns_tell : ByteArray := prog_7_method_3_code
def y_ServiceSigns_tell : MethodName := ⟨R_ServiceSigns, "tell", "(II)Z"⟩
abbrev c_ServiceSigns_signOf : ByteArray := prog_7_method_4_code
def y_ServiceSigns_signOf : MethodName := ⟨R_ServiceSigns, "signOf", "(I)I"⟩
abbrev c_ServiceSigns_numberOf : ByteArray := prog_7_method_5_code
def y_ServiceSigns_numberOf : MethodName := ⟨R_ServiceSigns, "numberOf", "(I)I"⟩
abbrev c_ServiceSigns_canServe : ByteArray := prog_7_method_6_code
def y_ServiceSigns_canServe : MethodName := ⟨R_ServiceSigns, "canServe", "(I)Z"⟩
def R_SignRow : String := "SegmentForms$SignRow"
def T_SignRow : u_T := fun k => match k with
  | 0 => ("SegmentForms$SignRow", "signs", "[I", true)
  | _ => ("SegmentForms$SignRow", "length", "I", false)
def ty_SignRow : Nat → FieldType := fun k => match k with
  | 0 => .array .int
  | _ => .int
theorem nm_SignRow : ∀ a, a < 2 → ∀ b, b < 2 → a ≠ b → (T_SignRow a).2.1 ≠ (T_SignRow b).2.1 := by decide +kernel
theorem ty_SignRow_ok : ∀ k, k < 2 → parseFieldDescriptor (T_SignRow k).2.2.1 = some (ty_SignRow k) := by decide +kernel
abbrev c_SignRow_init : ByteArray := prog_8_method_1_code
def y_SignRow_init : MethodName := ⟨R_SignRow, "<init>", "()V"⟩
abbrev c_SignRow_clear : ByteArray := prog_8_method_2_code
def y_SignRow_clear : MethodName := ⟨R_SignRow, "clear", "()V"⟩
abbrev c_SignRow_length : ByteArray := prog_8_method_3_code
def y_SignRow_length : MethodName := ⟨R_SignRow, "length", "()I"⟩
abbrev c_SignRow_append : ByteArray := prog_8_method_4_code
def y_SignRow_append : MethodName := ⟨R_SignRow, "append", "(I)Z"⟩
abbrev c_SignRow_signAt : ByteArray := prog_8_method_5_code
def y_SignRow_signAt : MethodName := ⟨R_SignRow, "signAt", "(I)I"⟩
def R_Tag : String := "SegmentForms$Tag"
def T_Tag : u_T := fun k => match k with
  | _ => ("", "", "", false)
def ty_Tag : Nat → FieldType := fun k => match k with
  | _ => .int
theorem nm_Tag : ∀ a, a < 0 → ∀ b, b < 0 → a ≠ b → (T_Tag a).2.1 ≠ (T_Tag b).2.1 := by decide +kernel
theorem ty_Tag_ok : ∀ k, k < 0 → parseFieldDescriptor (T_Tag k).2.2.1 = some (ty_Tag k) := by decide +kernel
abbrev c_Tag_isCapital : ByteArray := prog_9_method_2_code
def y_Tag_isCapital : MethodName := ⟨R_Tag, "isCapital", "(I)Z"⟩
abbrev c_Tag_isSmall : ByteArray := prog_9_method_3_code
def y_Tag_isSmall : MethodName := ⟨R_Tag, "isSmall", "(I)Z"⟩
abbrev c_Tag_isDigit : ByteArray := prog_9_method_4_code
def y_Tag_isDigit : MethodName := ⟨R_Tag, "isDigit", "(I)Z"⟩
abbrev c_Tag_isLaterSign : ByteArray := prog_9_method_5_code
def y_Tag_isLaterSign : MethodName := ⟨R_Tag, "isLaterSign", "(I)Z"⟩
abbrev c_Tag_isTag : ByteArray := prog_9_method_6_code
def y_Tag_isTag : MethodName := ⟨R_Tag, "isTag", "(I)Z"⟩
abbrev c_Tag_first : ByteArray := prog_9_method_7_code
def y_Tag_first : MethodName := ⟨R_Tag, "first", "(I)I"⟩
abbrev c_Tag_second : ByteArray := prog_9_method_8_code
def y_Tag_second : MethodName := ⟨R_Tag, "second", "(I)I"⟩
abbrev c_Tag_third : ByteArray := prog_9_method_9_code
def y_Tag_third : MethodName := ⟨R_Tag, "third", "(I)I"⟩
def R_Writer : String := "SegmentForms$Writer"
def T_Writer : u_T := fun k => match k with
  | 0 => ("SegmentForms$Writer", "message", "LSegmentForms$Message;", true)
  | 1 => ("SegmentForms$Writer", "signs", "LSegmentForms$ServiceSigns;", true)
  | _ => ("SegmentForms$Writer", "built", "LSegmentForms$SignRow;", true)
def ty_Writer : Nat → FieldType := fun k => match k with
  | 0 => .object "SegmentForms$Message"
  | 1 => .object "SegmentForms$ServiceSigns"
  | _ => .object "SegmentForms$SignRow"
theorem nm_Writer : ∀ a, a < 3 → ∀ b, b < 3 → a ≠ b → (T_Writer a).2.1 ≠ (T_Writer b).2.1 := by decide +kernel
theorem ty_Writer_ok : ∀ k, k < 3 → parseFieldDescriptor (T_Writer k).2.2.1 = some (ty_Writer k) := by decide +kernel
abbrev c_Writer_init : ByteArray := prog_10_method_1_code
def y_Writer_init : MethodName := ⟨R_Writer, "<init>", "(LSegmentForms$Message;LSegmentForms$ServiceSigns;LSegmentForms$SignRow;)V"⟩
abbrev c_Writer_write : ByteArray := prog_10_method_2_code
def y_Writer_write : MethodName := ⟨R_Writer, "write", "()V"⟩
abbrev c_Writer_writeTag : ByteArray := prog_10_method_3_code
def y_Writer_writeTag : MethodName := ⟨R_Writer, "writeTag", "(I)V"⟩
abbrev c_Writer_writeRepeats : ByteArray := prog_10_method_4_code
def y_Writer_writeRepeats : MethodName := ⟨R_Writer, "writeRepeats", "(I)V"⟩
abbrev c_Writer_writeComponents : ByteArray := prog_10_method_5_code
def y_Writer_writeComponents : MethodName := ⟨R_Writer, "writeComponents", "(I)V"⟩
abbrev c_Writer_writeLetters : ByteArray := prog_10_method_6_code
def y_Writer_writeLetters : MethodName := ⟨R_Writer, "writeLetters", "(I)V"⟩
abbrev c_Writer_writeService : ByteArray := prog_10_method_7_code
def y_Writer_writeService : MethodName := ⟨R_Writer, "writeService", "(I)V"⟩
abbrev c_Writer_keptElements : ByteArray := prog_10_method_8_code
def y_Writer_keptElements : MethodName := ⟨R_Writer, "keptElements", "(I)I"⟩
abbrev c_Writer_keptRepeats : ByteArray := prog_10_method_9_code
def y_Writer_keptRepeats : MethodName := ⟨R_Writer, "keptRepeats", "(I)I"⟩
abbrev c_Writer_keptComponents : ByteArray := prog_10_method_10_code
def y_Writer_keptComponents : MethodName := ⟨R_Writer, "keptComponents", "(I)I"⟩
def R_Forms : String := "SegmentForms"
def T_Forms : u_T := fun k => match k with
  | 0 => ("SegmentForms", "text", "LSegmentForms$SignRow;", true)
  | 1 => ("SegmentForms", "built", "LSegmentForms$SignRow;", true)
  | 2 => ("SegmentForms", "signs", "LSegmentForms$ServiceSigns;", true)
  | 3 => ("SegmentForms", "message", "LSegmentForms$Message;", true)
  | 4 => ("SegmentForms", "reader", "LSegmentForms$Reader;", true)
  | 5 => ("SegmentForms", "grammars", "[LSegmentForms$Grammar;", true)
  | 6 => ("SegmentForms", "lastCheck", "LSegmentForms$Check;", true)
  | _ => ("SegmentForms", "writer", "LSegmentForms$Writer;", true)
def ty_Forms : Nat → FieldType := fun k => match k with
  | 0 => .object "SegmentForms$SignRow"
  | 1 => .object "SegmentForms$SignRow"
  | 2 => .object "SegmentForms$ServiceSigns"
  | 3 => .object "SegmentForms$Message"
  | 4 => .object "SegmentForms$Reader"
  | 5 => .array (.object "SegmentForms$Grammar")
  | 6 => .object "SegmentForms$Check"
  | _ => .object "SegmentForms$Writer"
theorem nm_Forms : ∀ a, a < 8 → ∀ b, b < 8 → a ≠ b → (T_Forms a).2.1 ≠ (T_Forms b).2.1 := by decide +kernel
theorem ty_Forms_ok : ∀ k, k < 8 → parseFieldDescriptor (T_Forms k).2.2.1 = some (ty_Forms k) := by decide +kernel
abbrev c_Forms_init : ByteArray := prog_1_method_1_code
def y_Forms_init : MethodName := ⟨R_Forms, "<init>", "()V"⟩
abbrev c_Forms_add : ByteArray := prog_1_method_2_code
def y_Forms_add : MethodName := ⟨R_Forms, "add", "(I)Z"⟩
abbrev c_Forms_read : ByteArray := prog_1_method_3_code
def y_Forms_read : MethodName := ⟨R_Forms, "read", "()I"⟩
abbrev c_Forms_row : ByteArray := prog_1_method_4_code
def y_Forms_row : MethodName := ⟨R_Forms, "row", "(IIIII)I"⟩
abbrev c_Forms_check : ByteArray := prog_1_method_5_code
def y_Forms_check : MethodName := ⟨R_Forms, "check", "()I"⟩
abbrev c_Forms_fault : ByteArray := prog_1_method_6_code
def y_Forms_fault : MethodName := ⟨R_Forms, "fault", "(I)I"⟩
abbrev c_Forms_segment : ByteArray := prog_1_method_7_code
def y_Forms_segment : MethodName := ⟨R_Forms, "segment", "(II)I"⟩
abbrev c_Forms_repeats : ByteArray := prog_1_method_8_code
def y_Forms_repeats : MethodName := ⟨R_Forms, "repeats", "(II)I"⟩
abbrev c_Forms_components : ByteArray := prog_1_method_9_code
def y_Forms_components : MethodName := ⟨R_Forms, "components", "(III)I"⟩
abbrev c_Forms_field : ByteArray := prog_1_method_10_code
def y_Forms_field : MethodName := ⟨R_Forms, "field", "(IIII)I"⟩
abbrev c_Forms_letter : ByteArray := prog_1_method_11_code
def y_Forms_letter : MethodName := ⟨R_Forms, "letter", "(IIIII)I"⟩
abbrev c_Forms_build : ByteArray := prog_1_method_12_code
def y_Forms_build : MethodName := ⟨R_Forms, "build", "()I"⟩
abbrev c_Forms_at : ByteArray := prog_1_method_13_code
def y_Forms_at : MethodName := ⟨R_Forms, "at", "(I)I"⟩
abbrev c_Forms_count : ByteArray := prog_1_method_14_code
def y_Forms_count : MethodName := ⟨R_Forms, "count", "(I)I"⟩
abbrev c_Forms_grammarOf : ByteArray := prog_1_method_15_code
def y_Forms_grammarOf : MethodName := ⟨R_Forms, "grammarOf", "(I)LSegmentForms$Grammar;"⟩
abbrev c_Forms_needMessage : ByteArray := prog_1_method_16_code
def y_Forms_needMessage : MethodName := ⟨R_Forms, "needMessage", "()V"⟩
abbrev c_Forms_needSegment : ByteArray := prog_1_method_17_code
def y_Forms_needSegment : MethodName := ⟨R_Forms, "needSegment", "(I)V"⟩
def R_Model : String := "SegmentFormsModel"
def T_Model : u_T := fun k => match k with
  | 0 => ("SegmentFormsModel", "text", "[I", true)
  | 1 => ("SegmentFormsModel", "length", "I", false)
  | 2 => ("SegmentFormsModel", "p", "I", false)
  | 3 => ("SegmentFormsModel", "bad", "I", false)
  | 4 => ("SegmentFormsModel", "thrown", "I", false)
  | 5 => ("SegmentFormsModel", "service", "[I", true)
  | 6 => ("SegmentFormsModel", "message", "Z", false)
  | 7 => ("SegmentFormsModel", "segments", "I", false)
  | 8 => ("SegmentFormsModel", "elements", "I", false)
  | 9 => ("SegmentFormsModel", "repeats", "I", false)
  | 10 => ("SegmentFormsModel", "components", "I", false)
  | 11 => ("SegmentFormsModel", "signs", "I", false)
  | 12 => ("SegmentFormsModel", "tag", "[I", true)
  | 13 => ("SegmentFormsModel", "elementFrom", "[I", true)
  | 14 => ("SegmentFormsModel", "repeatFrom", "[I", true)
  | 15 => ("SegmentFormsModel", "componentFrom", "[I", true)
  | 16 => ("SegmentFormsModel", "signFrom", "[I", true)
  | 17 => ("SegmentFormsModel", "sign", "[I", true)
  | 18 => ("SegmentFormsModel", "rows", "[I", true)
  | 19 => ("SegmentFormsModel", "rowTag", "[I", true)
  | 20 => ("SegmentFormsModel", "least", "[I", true)
  | 21 => ("SegmentFormsModel", "most", "[I", true)
  | 22 => ("SegmentFormsModel", "level", "[I", true)
  | 23 => ("SegmentFormsModel", "answer", "I", false)
  | 24 => ("SegmentFormsModel", "wrongSegment", "I", false)
  | 25 => ("SegmentFormsModel", "wrongRow", "I", false)
  | 26 => ("SegmentFormsModel", "rowOf", "[I", true)
  | 27 => ("SegmentFormsModel", "above", "[I", true)
  | 28 => ("SegmentFormsModel", "atRow", "[I", true)
  | 29 => ("SegmentFormsModel", "often", "[I", true)
  | 30 => ("SegmentFormsModel", "parent", "[I", true)
  | 31 => ("SegmentFormsModel", "built", "[I", true)
  | _ => ("SegmentFormsModel", "builtLong", "I", false)
def ty_Model : Nat → FieldType := fun k => match k with
  | 0 => .array .int
  | 1 => .int
  | 2 => .int
  | 3 => .int
  | 4 => .int
  | 5 => .array .int
  | 6 => .boolean
  | 7 => .int
  | 8 => .int
  | 9 => .int
  | 10 => .int
  | 11 => .int
  | 12 => .array .int
  | 13 => .array .int
  | 14 => .array .int
  | 15 => .array .int
  | 16 => .array .int
  | 17 => .array .int
  | 18 => .array .int
  | 19 => .array .int
  | 20 => .array .int
  | 21 => .array .int
  | 22 => .array .int
  | 23 => .int
  | 24 => .int
  | 25 => .int
  | 26 => .array .int
  | 27 => .array .int
  | 28 => .array .int
  | 29 => .array .int
  | 30 => .array .int
  | 31 => .array .int
  | _ => .int
theorem nm_Model : ∀ a, a < 33 → ∀ b, b < 33 → a ≠ b → (T_Model a).2.1 ≠ (T_Model b).2.1 := by decide +kernel
theorem ty_Model_ok : ∀ k, k < 33 → parseFieldDescriptor (T_Model k).2.2.1 = some (ty_Model k) := by decide +kernel
abbrev c_Model_init : ByteArray := prog_12_method_1_code
def y_Model_init : MethodName := ⟨R_Model, "<init>", "()V"⟩
abbrev c_Model_thrown : ByteArray := prog_12_method_2_code
def y_Model_thrown : MethodName := ⟨R_Model, "thrown", "()I"⟩
abbrev c_Model_usual : ByteArray := prog_12_method_3_code
def y_Model_usual : MethodName := ⟨R_Model, "usual", "()V"⟩
abbrev c_Model_add : ByteArray := prog_12_method_4_code
def y_Model_add : MethodName := ⟨R_Model, "add", "(I)Z"⟩
abbrev c_Model_look : ByteArray := prog_12_method_5_code
def y_Model_look : MethodName := ⟨R_Model, "look", "()I"⟩
abbrev c_Model_fail : ByteArray := prog_12_method_6_code
def y_Model_fail : MethodName := ⟨R_Model, "fail", "()V"⟩
abbrev c_Model_isLetter : ByteArray := prog_12_method_7_code
def y_Model_isLetter : MethodName := ⟨R_Model, "isLetter", "(I)Z"⟩
abbrev c_Model_isDigit : ByteArray := prog_12_method_8_code
def y_Model_isDigit : MethodName := ⟨R_Model, "isDigit", "(I)Z"⟩
abbrev c_Model_readService : ByteArray := prog_12_method_9_code
def y_Model_readService : MethodName := ⟨R_Model, "readService", "()V"⟩
abbrev c_Model_begins : ByteArray := prog_12_method_10_code
def y_Model_begins : MethodName := ⟨R_Model, "begins", "()Z"⟩
abbrev c_Model_readTag : ByteArray := prog_12_method_11_code
def y_Model_readTag : MethodName := ⟨R_Model, "readTag", "()V"⟩
abbrev c_Model_openComponent : ByteArray := prog_12_method_12_code
def y_Model_openComponent : MethodName := ⟨R_Model, "openComponent", "()V"⟩
abbrev c_Model_openRepeat : ByteArray := prog_12_method_13_code
def y_Model_openRepeat : MethodName := ⟨R_Model, "openRepeat", "()V"⟩
abbrev c_Model_take : ByteArray := prog_12_method_14_code
def y_Model_take : MethodName := ⟨R_Model, "take", "(I)V"⟩
abbrev c_Model_readElement : ByteArray := prog_12_method_15_code
def y_Model_readElement : MethodName := ⟨R_Model, "readElement", "()V"⟩
abbrev c_Model_readSegment : ByteArray := prog_12_method_16_code
def y_Model_readSegment : MethodName := ⟨R_Model, "readSegment", "()V"⟩
abbrev c_Model_read : ByteArray := prog_12_method_17_code
def y_Model_read : MethodName := ⟨R_Model, "read", "()I"⟩
abbrev c_Model_forget : ByteArray := prog_12_method_18_code
def y_Model_forget : MethodName := ⟨R_Model, "forget", "(I)V"⟩
abbrev c_Model_isSegment : ByteArray := prog_12_method_19_code
def y_Model_isSegment : MethodName := ⟨R_Model, "isSegment", "(I)Z"⟩
abbrev c_Model_elementsOf : ByteArray := prog_12_method_20_code
def y_Model_elementsOf : MethodName := ⟨R_Model, "elementsOf", "(I)I"⟩
abbrev c_Model_repeatsOf : ByteArray := prog_12_method_21_code
def y_Model_repeatsOf : MethodName := ⟨R_Model, "repeatsOf", "(II)I"⟩
abbrev c_Model_componentsOf : ByteArray := prog_12_method_22_code
def y_Model_componentsOf : MethodName := ⟨R_Model, "componentsOf", "(III)I"⟩
abbrev c_Model_componentAt : ByteArray := prog_12_method_23_code
def y_Model_componentAt : MethodName := ⟨R_Model, "componentAt", "(IIII)I"⟩
abbrev c_Model_longOf : ByteArray := prog_12_method_24_code
def y_Model_longOf : MethodName := ⟨R_Model, "longOf", "(I)I"⟩
abbrev c_Model_segment : ByteArray := prog_12_method_25_code
def y_Model_segment : MethodName := ⟨R_Model, "segment", "(II)I"⟩
abbrev c_Model_repeats : ByteArray := prog_12_method_26_code
def y_Model_repeats : MethodName := ⟨R_Model, "repeats", "(II)I"⟩
abbrev c_Model_components : ByteArray := prog_12_method_27_code
def y_Model_components : MethodName := ⟨R_Model, "components", "(III)I"⟩
abbrev c_Model_field : ByteArray := prog_12_method_28_code
def y_Model_field : MethodName := ⟨R_Model, "field", "(IIII)I"⟩
abbrev c_Model_letter : ByteArray := prog_12_method_29_code
def y_Model_letter : MethodName := ⟨R_Model, "letter", "(IIIII)I"⟩
abbrev c_Model_isTag : ByteArray := prog_12_method_30_code
def y_Model_isTag : MethodName := ⟨R_Model, "isTag", "(I)Z"⟩
abbrev c_Model_row : ByteArray := prog_12_method_31_code
def y_Model_row : MethodName := ⟨R_Model, "row", "(IIIII)I"⟩
abbrev c_Model_isCount : ByteArray := prog_12_method_32_code
def y_Model_isCount : MethodName := ⟨R_Model, "isCount", "(I)Z"⟩
abbrev c_Model_alike : ByteArray := prog_12_method_33_code
def y_Model_alike : MethodName := ⟨R_Model, "alike", "(II)Z"⟩
abbrev c_Model_kindOf : ByteArray := prog_12_method_34_code
def y_Model_kindOf : MethodName := ⟨R_Model, "kindOf", "()I"⟩
abbrev c_Model_wrong : ByteArray := prog_12_method_35_code
def y_Model_wrong : MethodName := ⟨R_Model, "wrong", "(III)I"⟩
abbrev c_Model_unknown : ByteArray := prog_12_method_36_code
def y_Model_unknown : MethodName := ⟨R_Model, "unknown", "(I)I"⟩
abbrev c_Model_nextRow : ByteArray := prog_12_method_37_code
def y_Model_nextRow : MethodName := ⟨R_Model, "nextRow", "(III)I"⟩
abbrev c_Model_walk : ByteArray := prog_12_method_38_code
def y_Model_walk : MethodName := ⟨R_Model, "walk", "(I)I"⟩
abbrev c_Model_checked : ByteArray := prog_12_method_39_code
def y_Model_checked : MethodName := ⟨R_Model, "checked", "()I"⟩
abbrev c_Model_check : ByteArray := prog_12_method_40_code
def y_Model_check : MethodName := ⟨R_Model, "check", "()I"⟩
abbrev c_Model_fault : ByteArray := prog_12_method_41_code
def y_Model_fault : MethodName := ⟨R_Model, "fault", "(I)I"⟩
abbrev c_Model_put : ByteArray := prog_12_method_42_code
def y_Model_put : MethodName := ⟨R_Model, "put", "(I)V"⟩
abbrev c_Model_isService : ByteArray := prog_12_method_43_code
def y_Model_isService : MethodName := ⟨R_Model, "isService", "(I)Z"⟩
abbrev c_Model_fullComponents : ByteArray := prog_12_method_44_code
def y_Model_fullComponents : MethodName := ⟨R_Model, "fullComponents", "(III)I"⟩
abbrev c_Model_fullRepeats : ByteArray := prog_12_method_45_code
def y_Model_fullRepeats : MethodName := ⟨R_Model, "fullRepeats", "(II)I"⟩
abbrev c_Model_fullElements : ByteArray := prog_12_method_46_code
def y_Model_fullElements : MethodName := ⟨R_Model, "fullElements", "(I)I"⟩
abbrev c_Model_putRepeat : ByteArray := prog_12_method_47_code
def y_Model_putRepeat : MethodName := ⟨R_Model, "putRepeat", "(III)V"⟩
abbrev c_Model_build : ByteArray := prog_12_method_48_code
def y_Model_build : MethodName := ⟨R_Model, "build", "()I"⟩
abbrev c_Model_at : ByteArray := prog_12_method_49_code
def y_Model_at : MethodName := ⟨R_Model, "at", "(I)I"⟩
abbrev c_Model_count : ByteArray := prog_12_method_50_code
def y_Model_count : MethodName := ⟨R_Model, "count", "(I)I"⟩
def R_Law : String := "SegmentFormsLaw"
abbrev c_Law_row : ByteArray := method_3_code
def y_Law_row : MethodName := ⟨R_Law, "row", "(LSegmentForms;IIIII[J)I"⟩
abbrev c_Law_check : ByteArray := method_4_code
def y_Law_check : MethodName := ⟨R_Law, "check", "(LSegmentForms;[J)I"⟩
abbrev c_Law_segment : ByteArray := method_5_code
def y_Law_segment : MethodName := ⟨R_Law, "segment", "(LSegmentForms;II[J)I"⟩
abbrev c_Law_repeats : ByteArray := method_6_code
def y_Law_repeats : MethodName := ⟨R_Law, "repeats", "(LSegmentForms;II[J)I"⟩
abbrev c_Law_components : ByteArray := method_7_code
def y_Law_components : MethodName := ⟨R_Law, "components", "(LSegmentForms;III[J)I"⟩
abbrev c_Law_field : ByteArray := method_8_code
def y_Law_field : MethodName := ⟨R_Law, "field", "(LSegmentForms;IIII[J)I"⟩
abbrev c_Law_letter : ByteArray := method_9_code
def y_Law_letter : MethodName := ⟨R_Law, "letter", "(LSegmentForms;IIIII[J)I"⟩
abbrev c_Law_build : ByteArray := method_10_code
def y_Law_build : MethodName := ⟨R_Law, "build", "(LSegmentForms;[J)I"⟩
abbrev c_Law_at : ByteArray := method_11_code
def y_Law_at : MethodName := ⟨R_Law, "at", "(LSegmentForms;I[J)I"⟩
abbrev c_Law_law : ByteArray := code
def y_Law_law : MethodName := ⟨R_Law, "law", "([I)Z"⟩
end
section
theorem d_Check_init_0 : decode c_Check_init 0 = .ok (.aload_n 0, 1) := by decide +kernel
theorem d_Check_init_1 : decode c_Check_init 1 = .ok (.invokespecial 3, 3) := by decide +kernel
theorem d_Check_init_4 : decode c_Check_init 4 = .ok (.aload_n 0, 1) := by decide +kernel
theorem d_Check_init_5 : decode c_Check_init 5 = .ok (.aload_n 1, 1) := by decide +kernel
theorem d_Check_init_6 : decode c_Check_init 6 = .ok (.putfield 9, 3) := by decide +kernel
theorem d_Check_init_9 : decode c_Check_init 9 = .ok (.aload_n 0, 1) := by decide +kernel
theorem d_Check_init_10 : decode c_Check_init 10 = .ok (.bipush 60, 2) := by decide +kernel
theorem d_Check_init_12 : decode c_Check_init 12 = .ok (.newarray .int, 2) := by decide +kernel
theorem d_Check_init_14 : decode c_Check_init 14 = .ok (.putfield 15, 3) := by decide +kernel
theorem d_Check_init_17 : decode c_Check_init 17 = .ok (.aload_n 0, 1) := by decide +kernel
theorem d_Check_init_18 : decode c_Check_init 18 = .ok (.bipush 60, 2) := by decide +kernel
theorem d_Check_init_20 : decode c_Check_init 20 = .ok (.newarray .int, 2) := by decide +kernel
theorem d_Check_init_22 : decode c_Check_init 22 = .ok (.putfield 19, 3) := by decide +kernel
theorem d_Check_init_25 : decode c_Check_init 25 = .ok (.aload_n 0, 1) := by decide +kernel
theorem d_Check_init_26 : decode c_Check_init 26 = .ok (.iconst 0, 1) := by decide +kernel
theorem d_Check_init_27 : decode c_Check_init 27 = .ok (.putfield 22, 3) := by decide +kernel
theorem d_Check_init_30 : decode c_Check_init 30 = .ok (.aload_n 0, 1) := by decide +kernel
theorem d_Check_init_31 : decode c_Check_init 31 = .ok (.iconst 0, 1) := by decide +kernel
theorem d_Check_init_32 : decode c_Check_init 32 = .ok (.putfield 26, 3) := by decide +kernel
theorem d_Check_init_35 : decode c_Check_init 35 = .ok (.aload_n 0, 1) := by decide +kernel
theorem d_Check_init_36 : decode c_Check_init 36 = .ok (.invokevirtual 29, 3) := by decide +kernel
theorem d_Check_init_39 : decode c_Check_init 39 = .ok (.return_, 1) := by decide +kernel
theorem d_Check_forget_0 : decode c_Check_forget 0 = .ok (.aload_n 0, 1) := by decide +kernel
theorem d_Check_forget_1 : decode c_Check_forget 1 = .ok (.getfield 15, 3) := by decide +kernel
theorem d_Check_forget_4 : decode c_Check_forget 4 = .ok (.iconst (-1), 1) := by decide +kernel
theorem d_Check_forget_5 : decode c_Check_forget 5 = .ok (.invokestatic 32, 3) := by decide +kernel
theorem d_Check_forget_8 : decode c_Check_forget 8 = .ok (.aload_n 0, 1) := by decide +kernel
theorem d_Check_forget_9 : decode c_Check_forget 9 = .ok (.getfield 19, 3) := by decide +kernel
theorem d_Check_forget_12 : decode c_Check_forget 12 = .ok (.iconst (-1), 1) := by decide +kernel
theorem d_Check_forget_13 : decode c_Check_forget 13 = .ok (.invokestatic 32, 3) := by decide +kernel
theorem d_Check_forget_16 : decode c_Check_forget 16 = .ok (.aload_n 0, 1) := by decide +kernel
theorem d_Check_forget_17 : decode c_Check_forget 17 = .ok (.iconst (-1), 1) := by decide +kernel
theorem d_Check_forget_18 : decode c_Check_forget 18 = .ok (.putfield 38, 3) := by decide +kernel
theorem d_Check_forget_21 : decode c_Check_forget 21 = .ok (.aload_n 0, 1) := by decide +kernel
theorem d_Check_forget_22 : decode c_Check_forget 22 = .ok (.iconst (-1), 1) := by decide +kernel
theorem d_Check_forget_23 : decode c_Check_forget 23 = .ok (.putfield 41, 3) := by decide +kernel
theorem d_Check_forget_26 : decode c_Check_forget 26 = .ok (.aload_n 0, 1) := by decide +kernel
theorem d_Check_forget_27 : decode c_Check_forget 27 = .ok (.iconst (-1), 1) := by decide +kernel
theorem d_Check_forget_28 : decode c_Check_forget 28 = .ok (.putfield 44, 3) := by decide +kernel
theorem d_Check_forget_31 : decode c_Check_forget 31 = .ok (.return_, 1) := by decide +kernel
theorem d_Check_answer_0 : decode c_Check_answer 0 = .ok (.aload_n 0, 1) := by decide +kernel
theorem d_Check_answer_1 : decode c_Check_answer 1 = .ok (.getfield 38, 3) := by decide +kernel
theorem d_Check_answer_4 : decode c_Check_answer 4 = .ok (.ireturn, 1) := by decide +kernel
theorem d_Check_faultSegment_0 : decode c_Check_faultSegment 0 = .ok (.aload_n 0, 1) := by decide +kernel
theorem d_Check_faultSegment_1 : decode c_Check_faultSegment 1 = .ok (.getfield 41, 3) := by decide +kernel
theorem d_Check_faultSegment_4 : decode c_Check_faultSegment 4 = .ok (.ireturn, 1) := by decide +kernel
theorem d_Check_faultRow_0 : decode c_Check_faultRow 0 = .ok (.aload_n 0, 1) := by decide +kernel
theorem d_Check_faultRow_1 : decode c_Check_faultRow 1 = .ok (.getfield 44, 3) := by decide +kernel
theorem d_Check_faultRow_4 : decode c_Check_faultRow 4 = .ok (.ireturn, 1) := by decide +kernel
theorem d_Check_rowOf_0 : decode c_Check_rowOf 0 = .ok (.iload_n 1, 1) := by decide +kernel
theorem d_Check_rowOf_1 : decode c_Check_rowOf 1 = .ok (.ifCond .lt 21, 3) := by decide +kernel
theorem d_Check_rowOf_4 : decode c_Check_rowOf 4 = .ok (.iload_n 1, 1) := by decide +kernel
theorem d_Check_rowOf_5 : decode c_Check_rowOf 5 = .ok (.aload_n 0, 1) := by decide +kernel
theorem d_Check_rowOf_6 : decode c_Check_rowOf 6 = .ok (.getfield 15, 3) := by decide +kernel
theorem d_Check_rowOf_9 : decode c_Check_rowOf 9 = .ok (.arraylength, 1) := by decide +kernel
theorem d_Check_rowOf_10 : decode c_Check_rowOf 10 = .ok (.if_icmp .ge 12, 3) := by decide +kernel
theorem d_Check_rowOf_13 : decode c_Check_rowOf 13 = .ok (.aload_n 0, 1) := by decide +kernel
theorem d_Check_rowOf_14 : decode c_Check_rowOf 14 = .ok (.getfield 15, 3) := by decide +kernel
theorem d_Check_rowOf_17 : decode c_Check_rowOf 17 = .ok (.iload_n 1, 1) := by decide +kernel
theorem d_Check_rowOf_18 : decode c_Check_rowOf 18 = .ok (.iaload, 1) := by decide +kernel
theorem d_Check_rowOf_19 : decode c_Check_rowOf 19 = .ok (.goto 4, 3) := by decide +kernel
theorem d_Check_rowOf_22 : decode c_Check_rowOf 22 = .ok (.iconst (-1), 1) := by decide +kernel
theorem d_Check_rowOf_23 : decode c_Check_rowOf 23 = .ok (.ireturn, 1) := by decide +kernel
theorem d_Check_aboveOf_0 : decode c_Check_aboveOf 0 = .ok (.iload_n 1, 1) := by decide +kernel
theorem d_Check_aboveOf_1 : decode c_Check_aboveOf 1 = .ok (.ifCond .lt 21, 3) := by decide +kernel
theorem d_Check_aboveOf_4 : decode c_Check_aboveOf 4 = .ok (.iload_n 1, 1) := by decide +kernel
theorem d_Check_aboveOf_5 : decode c_Check_aboveOf 5 = .ok (.aload_n 0, 1) := by decide +kernel
theorem d_Check_aboveOf_6 : decode c_Check_aboveOf 6 = .ok (.getfield 19, 3) := by decide +kernel
theorem d_Check_aboveOf_9 : decode c_Check_aboveOf 9 = .ok (.arraylength, 1) := by decide +kernel
theorem d_Check_aboveOf_10 : decode c_Check_aboveOf 10 = .ok (.if_icmp .ge 12, 3) := by decide +kernel
theorem d_Check_aboveOf_13 : decode c_Check_aboveOf 13 = .ok (.aload_n 0, 1) := by decide +kernel
theorem d_Check_aboveOf_14 : decode c_Check_aboveOf 14 = .ok (.getfield 19, 3) := by decide +kernel
theorem d_Check_aboveOf_17 : decode c_Check_aboveOf 17 = .ok (.iload_n 1, 1) := by decide +kernel
theorem d_Check_aboveOf_18 : decode c_Check_aboveOf 18 = .ok (.iaload, 1) := by decide +kernel
theorem d_Check_aboveOf_19 : decode c_Check_aboveOf 19 = .ok (.goto 4, 3) := by decide +kernel
theorem d_Check_aboveOf_22 : decode c_Check_aboveOf 22 = .ok (.iconst (-1), 1) := by decide +kernel
theorem d_Check_aboveOf_23 : decode c_Check_aboveOf 23 = .ok (.ireturn, 1) := by decide +kernel
theorem d_Check_toldKind_0 : decode c_Check_toldKind 0 = .ok (.aload_n 0, 1) := by decide +kernel
theorem d_Check_toldKind_1 : decode c_Check_toldKind 1 = .ok (.getfield 9, 3) := by decide +kernel
theorem d_Check_toldKind_4 : decode c_Check_toldKind 4 = .ok (.iconst 0, 1) := by decide +kernel
theorem d_Check_toldKind_5 : decode c_Check_toldKind 5 = .ok (.iconst 1, 1) := by decide +kernel
theorem d_Check_toldKind_6 : decode c_Check_toldKind 6 = .ok (.iconst 0, 1) := by decide +kernel
theorem d_Check_toldKind_7 : decode c_Check_toldKind 7 = .ok (.iconst 0, 1) := by decide +kernel
theorem d_Check_toldKind_8 : decode c_Check_toldKind 8 = .ok (.invokevirtual 47, 3) := by decide +kernel
theorem d_Check_toldKind_11 : decode c_Check_toldKind 11 = .ok (.istore_n 1, 1) := by decide +kernel
theorem d_Check_toldKind_12 : decode c_Check_toldKind 12 = .ok (.aload_n 0, 1) := by decide +kernel
theorem d_Check_toldKind_13 : decode c_Check_toldKind 13 = .ok (.getfield 9, 3) := by decide +kernel
theorem d_Check_toldKind_16 : decode c_Check_toldKind 16 = .ok (.iload_n 1, 1) := by decide +kernel
theorem d_Check_toldKind_17 : decode c_Check_toldKind 17 = .ok (.invokevirtual 53, 3) := by decide +kernel
theorem d_Check_toldKind_20 : decode c_Check_toldKind 20 = .ok (.iconst 1, 1) := by decide +kernel
theorem d_Check_toldKind_21 : decode c_Check_toldKind 21 = .ok (.if_icmp .ne 18, 3) := by decide +kernel
theorem d_Check_toldKind_24 : decode c_Check_toldKind 24 = .ok (.aload_n 0, 1) := by decide +kernel
theorem d_Check_toldKind_25 : decode c_Check_toldKind 25 = .ok (.getfield 9, 3) := by decide +kernel
theorem d_Check_toldKind_28 : decode c_Check_toldKind 28 = .ok (.iload_n 1, 1) := by decide +kernel
theorem d_Check_toldKind_29 : decode c_Check_toldKind 29 = .ok (.iconst 0, 1) := by decide +kernel
theorem d_Check_toldKind_30 : decode c_Check_toldKind 30 = .ok (.invokevirtual 57, 3) := by decide +kernel
theorem d_Check_toldKind_33 : decode c_Check_toldKind 33 = .ok (.bipush 48, 2) := by decide +kernel
theorem d_Check_toldKind_35 : decode c_Check_toldKind 35 = .ok (.isub, 1) := by decide +kernel
theorem d_Check_toldKind_36 : decode c_Check_toldKind 36 = .ok (.goto 4, 3) := by decide +kernel
theorem d_Check_toldKind_39 : decode c_Check_toldKind 39 = .ok (.iconst (-1), 1) := by decide +kernel
theorem d_Check_toldKind_40 : decode c_Check_toldKind 40 = .ok (.ireturn, 1) := by decide +kernel
theorem d_Check_run_0 : decode c_Check_run 0 = .ok (.aload_n 0, 1) := by decide +kernel
theorem d_Check_run_1 : decode c_Check_run 1 = .ok (.invokevirtual 29, 3) := by decide +kernel
theorem d_Check_run_4 : decode c_Check_run 4 = .ok (.aload_n 0, 1) := by decide +kernel
theorem d_Check_run_5 : decode c_Check_run 5 = .ok (.aload_n 0, 1) := by decide +kernel
theorem d_Check_run_6 : decode c_Check_run 6 = .ok (.getfield 9, 3) := by decide +kernel
theorem d_Check_run_9 : decode c_Check_run 9 = .ok (.invokevirtual 61, 3) := by decide +kernel
theorem d_Check_run_12 : decode c_Check_run 12 = .ok (.iconst 1, 1) := by decide +kernel
theorem d_Check_run_13 : decode c_Check_run 13 = .ok (.isub, 1) := by decide +kernel
theorem d_Check_run_14 : decode c_Check_run 14 = .ok (.putfield 26, 3) := by decide +kernel
theorem d_Check_run_17 : decode c_Check_run 17 = .ok (.aload_n 0, 1) := by decide +kernel
theorem d_Check_run_18 : decode c_Check_run 18 = .ok (.aload_n 0, 1) := by decide +kernel
theorem d_Check_run_19 : decode c_Check_run 19 = .ok (.invokevirtual 65, 3) := by decide +kernel
theorem d_Check_run_22 : decode c_Check_run 22 = .ok (.putfield 38, 3) := by decide +kernel
theorem d_Check_run_25 : decode c_Check_run 25 = .ok (.aload_n 0, 1) := by decide +kernel
theorem d_Check_run_26 : decode c_Check_run 26 = .ok (.getfield 38, 3) := by decide +kernel
theorem d_Check_run_29 : decode c_Check_run 29 = .ok (.ifCond .ne 37, 3) := by decide +kernel
theorem d_Check_run_32 : decode c_Check_run 32 = .ok (.aload_n 1, 1) := by decide +kernel
theorem d_Check_run_33 : decode c_Check_run 33 = .ok (.ifnull 14, 3) := by decide +kernel
theorem d_Check_run_36 : decode c_Check_run 36 = .ok (.aload_n 1, 1) := by decide +kernel
theorem d_Check_run_37 : decode c_Check_run 37 = .ok (.invokevirtual 68, 3) := by decide +kernel
theorem d_Check_run_40 : decode c_Check_run 40 = .ok (.ifCond .le 7, 3) := by decide +kernel
theorem d_Check_run_43 : decode c_Check_run 43 = .ok (.iconst 1, 1) := by decide +kernel
theorem d_Check_run_44 : decode c_Check_run 44 = .ok (.goto 4, 3) := by decide +kernel
theorem d_Check_run_47 : decode c_Check_run 47 = .ok (.iconst 0, 1) := by decide +kernel
theorem d_Check_run_48 : decode c_Check_run 48 = .ok (.istore_n 2, 1) := by decide +kernel
theorem d_Check_run_49 : decode c_Check_run 49 = .ok (.aload_n 0, 1) := by decide +kernel
theorem d_Check_run_50 : decode c_Check_run 50 = .ok (.iload_n 2, 1) := by decide +kernel
theorem d_Check_run_51 : decode c_Check_run 51 = .ok (.ifCond .eq 11, 3) := by decide +kernel
theorem d_Check_run_54 : decode c_Check_run 54 = .ok (.aload_n 0, 1) := by decide +kernel
theorem d_Check_run_55 : decode c_Check_run 55 = .ok (.aload_n 1, 1) := by decide +kernel
theorem d_Check_run_56 : decode c_Check_run 56 = .ok (.invokevirtual 71, 3) := by decide +kernel
theorem d_Check_run_59 : decode c_Check_run 59 = .ok (.goto 4, 3) := by decide +kernel
theorem d_Check_run_62 : decode c_Check_run 62 = .ok (.iconst 5, 1) := by decide +kernel
theorem d_Check_run_63 : decode c_Check_run 63 = .ok (.putfield 38, 3) := by decide +kernel
theorem d_Check_run_66 : decode c_Check_run 66 = .ok (.aload_n 0, 1) := by decide +kernel
theorem d_Check_run_67 : decode c_Check_run 67 = .ok (.getfield 38, 3) := by decide +kernel
theorem d_Check_run_70 : decode c_Check_run 70 = .ok (.ireturn, 1) := by decide +kernel
theorem d_Check_faultOfFrame_0 : decode c_Check_faultOfFrame 0 = .ok (.aload_n 0, 1) := by decide +kernel
theorem d_Check_faultOfFrame_1 : decode c_Check_faultOfFrame 1 = .ok (.getfield 9, 3) := by decide +kernel
theorem d_Check_faultOfFrame_4 : decode c_Check_faultOfFrame 4 = .ok (.iconst 0, 1) := by decide +kernel
theorem d_Check_faultOfFrame_5 : decode c_Check_faultOfFrame 5 = .ok (.invokevirtual 75, 3) := by decide +kernel
theorem d_Check_faultOfFrame_8 : decode c_Check_faultOfFrame 8 = .ok (.ldc 80, 2) := by decide +kernel
theorem d_Check_faultOfFrame_10 : decode c_Check_faultOfFrame 10 = .ok (.if_icmp .eq 5, 3) := by decide +kernel
theorem d_Check_faultOfFrame_13 : decode c_Check_faultOfFrame 13 = .ok (.iconst 1, 1) := by decide +kernel
theorem d_Check_faultOfFrame_14 : decode c_Check_faultOfFrame 14 = .ok (.ireturn, 1) := by decide +kernel
theorem d_Check_faultOfFrame_15 : decode c_Check_faultOfFrame 15 = .ok (.aload_n 0, 1) := by decide +kernel
theorem d_Check_faultOfFrame_16 : decode c_Check_faultOfFrame 16 = .ok (.getfield 26, 3) := by decide +kernel
theorem d_Check_faultOfFrame_19 : decode c_Check_faultOfFrame 19 = .ok (.iconst 1, 1) := by decide +kernel
theorem d_Check_faultOfFrame_20 : decode c_Check_faultOfFrame 20 = .ok (.if_icmp .lt 19, 3) := by decide +kernel
theorem d_Check_faultOfFrame_23 : decode c_Check_faultOfFrame 23 = .ok (.aload_n 0, 1) := by decide +kernel
theorem d_Check_faultOfFrame_24 : decode c_Check_faultOfFrame 24 = .ok (.getfield 9, 3) := by decide +kernel
theorem d_Check_faultOfFrame_27 : decode c_Check_faultOfFrame 27 = .ok (.aload_n 0, 1) := by decide +kernel
theorem d_Check_faultOfFrame_28 : decode c_Check_faultOfFrame 28 = .ok (.getfield 26, 3) := by decide +kernel
theorem d_Check_faultOfFrame_31 : decode c_Check_faultOfFrame 31 = .ok (.invokevirtual 75, 3) := by decide +kernel
theorem d_Check_faultOfFrame_34 : decode c_Check_faultOfFrame 34 = .ok (.ldc 81, 2) := by decide +kernel
theorem d_Check_faultOfFrame_36 : decode c_Check_faultOfFrame 36 = .ok (.if_icmp .eq 5, 3) := by decide +kernel
theorem d_Check_faultOfFrame_39 : decode c_Check_faultOfFrame 39 = .ok (.iconst 2, 1) := by decide +kernel
theorem d_Check_faultOfFrame_40 : decode c_Check_faultOfFrame 40 = .ok (.ireturn, 1) := by decide +kernel
theorem d_Check_faultOfFrame_41 : decode c_Check_faultOfFrame 41 = .ok (.aload_n 0, 1) := by decide +kernel
theorem d_Check_faultOfFrame_42 : decode c_Check_faultOfFrame 42 = .ok (.getfield 9, 3) := by decide +kernel
theorem d_Check_faultOfFrame_45 : decode c_Check_faultOfFrame 45 = .ok (.aload_n 0, 1) := by decide +kernel
theorem d_Check_faultOfFrame_46 : decode c_Check_faultOfFrame 46 = .ok (.getfield 9, 3) := by decide +kernel
theorem d_Check_faultOfFrame_49 : decode c_Check_faultOfFrame 49 = .ok (.aload_n 0, 1) := by decide +kernel
theorem d_Check_faultOfFrame_50 : decode c_Check_faultOfFrame 50 = .ok (.getfield 26, 3) := by decide +kernel
theorem d_Check_faultOfFrame_53 : decode c_Check_faultOfFrame 53 = .ok (.iconst 0, 1) := by decide +kernel
theorem d_Check_faultOfFrame_54 : decode c_Check_faultOfFrame 54 = .ok (.iconst 0, 1) := by decide +kernel
theorem d_Check_faultOfFrame_55 : decode c_Check_faultOfFrame 55 = .ok (.iconst 0, 1) := by decide +kernel
theorem d_Check_faultOfFrame_56 : decode c_Check_faultOfFrame 56 = .ok (.invokevirtual 47, 3) := by decide +kernel
theorem d_Check_faultOfFrame_59 : decode c_Check_faultOfFrame 59 = .ok (.aload_n 0, 1) := by decide +kernel
theorem d_Check_faultOfFrame_60 : decode c_Check_faultOfFrame 60 = .ok (.getfield 9, 3) := by decide +kernel
theorem d_Check_faultOfFrame_63 : decode c_Check_faultOfFrame 63 = .ok (.invokevirtual 61, 3) := by decide +kernel
theorem d_Check_faultOfFrame_66 : decode c_Check_faultOfFrame 66 = .ok (.invokevirtual 82, 3) := by decide +kernel
theorem d_Check_faultOfFrame_69 : decode c_Check_faultOfFrame 69 = .ok (.ifCond .ne 5, 3) := by decide +kernel
theorem d_Check_faultOfFrame_72 : decode c_Check_faultOfFrame 72 = .ok (.iconst 3, 1) := by decide +kernel
theorem d_Check_faultOfFrame_73 : decode c_Check_faultOfFrame 73 = .ok (.ireturn, 1) := by decide +kernel
theorem d_Check_faultOfFrame_74 : decode c_Check_faultOfFrame 74 = .ok (.aload_n 0, 1) := by decide +kernel
theorem d_Check_faultOfFrame_75 : decode c_Check_faultOfFrame 75 = .ok (.getfield 9, 3) := by decide +kernel
theorem d_Check_faultOfFrame_78 : decode c_Check_faultOfFrame 78 = .ok (.aload_n 0, 1) := by decide +kernel
theorem d_Check_faultOfFrame_79 : decode c_Check_faultOfFrame 79 = .ok (.getfield 26, 3) := by decide +kernel
theorem d_Check_faultOfFrame_82 : decode c_Check_faultOfFrame 82 = .ok (.iconst 1, 1) := by decide +kernel
theorem d_Check_faultOfFrame_83 : decode c_Check_faultOfFrame 83 = .ok (.iconst 0, 1) := by decide +kernel
theorem d_Check_faultOfFrame_84 : decode c_Check_faultOfFrame 84 = .ok (.iconst 0, 1) := by decide +kernel
theorem d_Check_faultOfFrame_85 : decode c_Check_faultOfFrame 85 = .ok (.invokevirtual 47, 3) := by decide +kernel
theorem d_Check_faultOfFrame_88 : decode c_Check_faultOfFrame 88 = .ok (.istore_n 1, 1) := by decide +kernel
theorem d_Check_faultOfFrame_89 : decode c_Check_faultOfFrame 89 = .ok (.aload_n 0, 1) := by decide +kernel
theorem d_Check_faultOfFrame_90 : decode c_Check_faultOfFrame 90 = .ok (.getfield 9, 3) := by decide +kernel
theorem d_Check_faultOfFrame_93 : decode c_Check_faultOfFrame 93 = .ok (.iconst 0, 1) := by decide +kernel
theorem d_Check_faultOfFrame_94 : decode c_Check_faultOfFrame 94 = .ok (.iconst 0, 1) := by decide +kernel
theorem d_Check_faultOfFrame_95 : decode c_Check_faultOfFrame 95 = .ok (.iconst 0, 1) := by decide +kernel
theorem d_Check_faultOfFrame_96 : decode c_Check_faultOfFrame 96 = .ok (.iconst 0, 1) := by decide +kernel
theorem d_Check_faultOfFrame_97 : decode c_Check_faultOfFrame 97 = .ok (.invokevirtual 47, 3) := by decide +kernel
theorem d_Check_faultOfFrame_100 : decode c_Check_faultOfFrame 100 = .ok (.istore_n 2, 1) := by decide +kernel
theorem d_Check_faultOfFrame_101 : decode c_Check_faultOfFrame 101 = .ok (.aload_n 0, 1) := by decide +kernel
theorem d_Check_faultOfFrame_102 : decode c_Check_faultOfFrame 102 = .ok (.getfield 9, 3) := by decide +kernel
theorem d_Check_faultOfFrame_105 : decode c_Check_faultOfFrame 105 = .ok (.iload_n 1, 1) := by decide +kernel
theorem d_Check_faultOfFrame_106 : decode c_Check_faultOfFrame 106 = .ok (.iload_n 2, 1) := by decide +kernel
theorem d_Check_faultOfFrame_107 : decode c_Check_faultOfFrame 107 = .ok (.invokevirtual 86, 3) := by decide +kernel
theorem d_Check_faultOfFrame_110 : decode c_Check_faultOfFrame 110 = .ok (.ifCond .eq 7, 3) := by decide +kernel
theorem d_Check_faultOfFrame_113 : decode c_Check_faultOfFrame 113 = .ok (.iconst 0, 1) := by decide +kernel
theorem d_Check_faultOfFrame_114 : decode c_Check_faultOfFrame 114 = .ok (.goto 4, 3) := by decide +kernel
theorem d_Check_faultOfFrame_117 : decode c_Check_faultOfFrame 117 = .ok (.iconst 4, 1) := by decide +kernel
theorem d_Check_faultOfFrame_118 : decode c_Check_faultOfFrame 118 = .ok (.ireturn, 1) := by decide +kernel
theorem d_Check_faultBetween_0 : decode c_Check_faultBetween 0 = .ok (.iconst 1, 1) := by decide +kernel
theorem d_Check_faultBetween_1 : decode c_Check_faultBetween 1 = .ok (.istore_n 2, 1) := by decide +kernel
theorem d_Check_faultBetween_2 : decode c_Check_faultBetween 2 = .ok (.iload_n 2, 1) := by decide +kernel
theorem d_Check_faultBetween_3 : decode c_Check_faultBetween 3 = .ok (.aload_n 0, 1) := by decide +kernel
theorem d_Check_faultBetween_4 : decode c_Check_faultBetween 4 = .ok (.getfield 26, 3) := by decide +kernel
theorem d_Check_faultBetween_7 : decode c_Check_faultBetween 7 = .ok (.if_icmp .ge 32, 3) := by decide +kernel
theorem d_Check_faultBetween_10 : decode c_Check_faultBetween 10 = .ok (.aload_n 1, 1) := by decide +kernel
theorem d_Check_faultBetween_11 : decode c_Check_faultBetween 11 = .ok (.aload_n 0, 1) := by decide +kernel
theorem d_Check_faultBetween_12 : decode c_Check_faultBetween 12 = .ok (.getfield 9, 3) := by decide +kernel
theorem d_Check_faultBetween_15 : decode c_Check_faultBetween 15 = .ok (.iload_n 2, 1) := by decide +kernel
theorem d_Check_faultBetween_16 : decode c_Check_faultBetween 16 = .ok (.invokevirtual 75, 3) := by decide +kernel
theorem d_Check_faultBetween_19 : decode c_Check_faultBetween 19 = .ok (.invokevirtual 89, 3) := by decide +kernel
theorem d_Check_faultBetween_22 : decode c_Check_faultBetween 22 = .ok (.ifCond .ne 11, 3) := by decide +kernel
theorem d_Check_faultBetween_25 : decode c_Check_faultBetween 25 = .ok (.aload_n 0, 1) := by decide +kernel
theorem d_Check_faultBetween_26 : decode c_Check_faultBetween 26 = .ok (.iload_n 2, 1) := by decide +kernel
theorem d_Check_faultBetween_27 : decode c_Check_faultBetween 27 = .ok (.putfield 41, 3) := by decide +kernel
theorem d_Check_faultBetween_30 : decode c_Check_faultBetween 30 = .ok (.bipush 6, 2) := by decide +kernel
theorem d_Check_faultBetween_32 : decode c_Check_faultBetween 32 = .ok (.ireturn, 1) := by decide +kernel
theorem d_Check_faultBetween_33 : decode c_Check_faultBetween 33 = .ok (.iinc 2 1, 3) := by decide +kernel
theorem d_Check_faultBetween_36 : decode c_Check_faultBetween 36 = .ok (.goto (-34), 3) := by decide +kernel
theorem d_Check_faultBetween_39 : decode c_Check_faultBetween 39 = .ok (.aload_n 0, 1) := by decide +kernel
theorem d_Check_faultBetween_40 : decode c_Check_faultBetween 40 = .ok (.iconst 1, 1) := by decide +kernel
theorem d_Check_faultBetween_41 : decode c_Check_faultBetween 41 = .ok (.putfield 22, 3) := by decide +kernel
theorem d_Check_faultBetween_44 : decode c_Check_faultBetween 44 = .ok (.aload_n 0, 1) := by decide +kernel
theorem d_Check_faultBetween_45 : decode c_Check_faultBetween 45 = .ok (.aload_n 1, 1) := by decide +kernel
theorem d_Check_faultBetween_46 : decode c_Check_faultBetween 46 = .ok (.iconst 0, 1) := by decide +kernel
theorem d_Check_faultBetween_47 : decode c_Check_faultBetween 47 = .ok (.aload_n 1, 1) := by decide +kernel
theorem d_Check_faultBetween_48 : decode c_Check_faultBetween 48 = .ok (.invokevirtual 68, 3) := by decide +kernel
theorem d_Check_faultBetween_51 : decode c_Check_faultBetween 51 = .ok (.iconst 0, 1) := by decide +kernel
theorem d_Check_faultBetween_52 : decode c_Check_faultBetween 52 = .ok (.iconst (-1), 1) := by decide +kernel
theorem d_Check_faultBetween_53 : decode c_Check_faultBetween 53 = .ok (.invokevirtual 93, 3) := by decide +kernel
theorem d_Check_faultBetween_56 : decode c_Check_faultBetween 56 = .ok (.ifCond .ne 6, 3) := by decide +kernel
theorem d_Check_faultBetween_59 : decode c_Check_faultBetween 59 = .ok (.bipush 7, 2) := by decide +kernel
theorem d_Check_faultBetween_61 : decode c_Check_faultBetween 61 = .ok (.ireturn, 1) := by decide +kernel
theorem d_Check_faultBetween_62 : decode c_Check_faultBetween 62 = .ok (.aload_n 0, 1) := by decide +kernel
theorem d_Check_faultBetween_63 : decode c_Check_faultBetween 63 = .ok (.getfield 22, 3) := by decide +kernel
theorem d_Check_faultBetween_66 : decode c_Check_faultBetween 66 = .ok (.aload_n 0, 1) := by decide +kernel
theorem d_Check_faultBetween_67 : decode c_Check_faultBetween 67 = .ok (.getfield 26, 3) := by decide +kernel
theorem d_Check_faultBetween_70 : decode c_Check_faultBetween 70 = .ok (.if_icmp .ge 14, 3) := by decide +kernel
theorem d_Check_faultBetween_73 : decode c_Check_faultBetween 73 = .ok (.aload_n 0, 1) := by decide +kernel
theorem d_Check_faultBetween_74 : decode c_Check_faultBetween 74 = .ok (.aload_n 0, 1) := by decide +kernel
theorem d_Check_faultBetween_75 : decode c_Check_faultBetween 75 = .ok (.getfield 22, 3) := by decide +kernel
theorem d_Check_faultBetween_78 : decode c_Check_faultBetween 78 = .ok (.putfield 41, 3) := by decide +kernel
theorem d_Check_faultBetween_81 : decode c_Check_faultBetween 81 = .ok (.bipush 8, 2) := by decide +kernel
theorem d_Check_faultBetween_83 : decode c_Check_faultBetween 83 = .ok (.ireturn, 1) := by decide +kernel
theorem d_Check_faultBetween_84 : decode c_Check_faultBetween 84 = .ok (.iconst 0, 1) := by decide +kernel
theorem d_Check_faultBetween_85 : decode c_Check_faultBetween 85 = .ok (.ireturn, 1) := by decide +kernel
theorem d_Check_walkRows_0 : decode c_Check_walkRows 0 = .ok (.iload 4, 2) := by decide +kernel
theorem d_Check_walkRows_2 : decode c_Check_walkRows 2 = .ok (.iconst 3, 1) := by decide +kernel
theorem d_Check_walkRows_3 : decode c_Check_walkRows 3 = .ok (.if_icmp .le 5, 3) := by decide +kernel
theorem d_Check_walkRows_6 : decode c_Check_walkRows 6 = .ok (.iconst 1, 1) := by decide +kernel
theorem d_Check_walkRows_7 : decode c_Check_walkRows 7 = .ok (.ireturn, 1) := by decide +kernel
theorem d_Check_walkRows_8 : decode c_Check_walkRows 8 = .ok (.iload_n 2, 1) := by decide +kernel
theorem d_Check_walkRows_9 : decode c_Check_walkRows 9 = .ok (.istore 6, 2) := by decide +kernel
theorem d_Check_walkRows_11 : decode c_Check_walkRows 11 = .ok (.iload 6, 2) := by decide +kernel
theorem d_Check_walkRows_13 : decode c_Check_walkRows 13 = .ok (.iload_n 3, 1) := by decide +kernel
theorem d_Check_walkRows_14 : decode c_Check_walkRows 14 = .ok (.if_icmp .ge 36, 3) := by decide +kernel
theorem d_Check_walkRows_17 : decode c_Check_walkRows 17 = .ok (.aload_n 1, 1) := by decide +kernel
theorem d_Check_walkRows_18 : decode c_Check_walkRows 18 = .ok (.iload 6, 2) := by decide +kernel
theorem d_Check_walkRows_20 : decode c_Check_walkRows 20 = .ok (.invokevirtual 97, 3) := by decide +kernel
theorem d_Check_walkRows_23 : decode c_Check_walkRows 23 = .ok (.iload 4, 2) := by decide +kernel
theorem d_Check_walkRows_25 : decode c_Check_walkRows 25 = .ok (.if_icmp .ne 19, 3) := by decide +kernel
theorem d_Check_walkRows_28 : decode c_Check_walkRows 28 = .ok (.aload_n 0, 1) := by decide +kernel
theorem d_Check_walkRows_29 : decode c_Check_walkRows 29 = .ok (.aload_n 1, 1) := by decide +kernel
theorem d_Check_walkRows_30 : decode c_Check_walkRows 30 = .ok (.iload 6, 2) := by decide +kernel
theorem d_Check_walkRows_32 : decode c_Check_walkRows 32 = .ok (.iload 4, 2) := by decide +kernel
theorem d_Check_walkRows_34 : decode c_Check_walkRows 34 = .ok (.iload 5, 2) := by decide +kernel
theorem d_Check_walkRows_36 : decode c_Check_walkRows 36 = .ok (.invokevirtual 100, 3) := by decide +kernel
theorem d_Check_walkRows_39 : decode c_Check_walkRows 39 = .ok (.ifCond .ne 5, 3) := by decide +kernel
theorem d_Check_walkRows_42 : decode c_Check_walkRows 42 = .ok (.iconst 0, 1) := by decide +kernel
theorem d_Check_walkRows_43 : decode c_Check_walkRows 43 = .ok (.ireturn, 1) := by decide +kernel
theorem d_Check_walkRows_44 : decode c_Check_walkRows 44 = .ok (.iinc 6 1, 3) := by decide +kernel
theorem d_Check_walkRows_47 : decode c_Check_walkRows 47 = .ok (.goto (-36), 3) := by decide +kernel
theorem d_Check_walkRows_50 : decode c_Check_walkRows 50 = .ok (.iconst 1, 1) := by decide +kernel
theorem d_Check_walkRows_51 : decode c_Check_walkRows 51 = .ok (.ireturn, 1) := by decide +kernel
theorem d_Check_walkRow_0 : decode c_Check_walkRow 0 = .ok (.aload_n 1, 1) := by decide +kernel
theorem d_Check_walkRow_1 : decode c_Check_walkRow 1 = .ok (.iload_n 2, 1) := by decide +kernel
theorem d_Check_walkRow_2 : decode c_Check_walkRow 2 = .ok (.invokevirtual 104, 3) := by decide +kernel
theorem d_Check_walkRow_5 : decode c_Check_walkRow 5 = .ok (.istore 5, 2) := by decide +kernel
theorem d_Check_walkRow_7 : decode c_Check_walkRow 7 = .ok (.aload_n 1, 1) := by decide +kernel
theorem d_Check_walkRow_8 : decode c_Check_walkRow 8 = .ok (.iload_n 2, 1) := by decide +kernel
theorem d_Check_walkRow_9 : decode c_Check_walkRow 9 = .ok (.invokevirtual 105, 3) := by decide +kernel
theorem d_Check_walkRow_12 : decode c_Check_walkRow 12 = .ok (.istore 6, 2) := by decide +kernel
theorem d_Check_walkRow_14 : decode c_Check_walkRow 14 = .ok (.aload_n 1, 1) := by decide +kernel
theorem d_Check_walkRow_15 : decode c_Check_walkRow 15 = .ok (.iload_n 2, 1) := by decide +kernel
theorem d_Check_walkRow_16 : decode c_Check_walkRow 16 = .ok (.invokevirtual 108, 3) := by decide +kernel
theorem d_Check_walkRow_19 : decode c_Check_walkRow 19 = .ok (.istore 7, 2) := by decide +kernel
theorem d_Check_walkRow_21 : decode c_Check_walkRow 21 = .ok (.iconst 0, 1) := by decide +kernel
theorem d_Check_walkRow_22 : decode c_Check_walkRow 22 = .ok (.istore 8, 2) := by decide +kernel
theorem d_Check_walkRow_24 : decode c_Check_walkRow 24 = .ok (.iload 8, 2) := by decide +kernel
theorem d_Check_walkRow_26 : decode c_Check_walkRow 26 = .ok (.iload 6, 2) := by decide +kernel
theorem d_Check_walkRow_28 : decode c_Check_walkRow 28 = .ok (.if_icmp .ge 71, 3) := by decide +kernel
theorem d_Check_walkRow_31 : decode c_Check_walkRow 31 = .ok (.aload_n 0, 1) := by decide +kernel
theorem d_Check_walkRow_32 : decode c_Check_walkRow 32 = .ok (.getfield 22, 3) := by decide +kernel
theorem d_Check_walkRow_35 : decode c_Check_walkRow 35 = .ok (.aload_n 0, 1) := by decide +kernel
theorem d_Check_walkRow_36 : decode c_Check_walkRow 36 = .ok (.getfield 26, 3) := by decide +kernel
theorem d_Check_walkRow_39 : decode c_Check_walkRow 39 = .ok (.if_icmp .ge 60, 3) := by decide +kernel
theorem d_Check_walkRow_42 : decode c_Check_walkRow 42 = .ok (.aload_n 0, 1) := by decide +kernel
theorem d_Check_walkRow_43 : decode c_Check_walkRow 43 = .ok (.getfield 9, 3) := by decide +kernel
theorem d_Check_walkRow_46 : decode c_Check_walkRow 46 = .ok (.aload_n 0, 1) := by decide +kernel
theorem d_Check_walkRow_47 : decode c_Check_walkRow 47 = .ok (.getfield 22, 3) := by decide +kernel
theorem d_Check_walkRow_50 : decode c_Check_walkRow 50 = .ok (.invokevirtual 75, 3) := by decide +kernel
theorem d_Check_walkRow_53 : decode c_Check_walkRow 53 = .ok (.iload 5, 2) := by decide +kernel
theorem d_Check_walkRow_55 : decode c_Check_walkRow 55 = .ok (.if_icmp .ne 44, 3) := by decide +kernel
theorem d_Check_walkRow_58 : decode c_Check_walkRow 58 = .ok (.aload_n 0, 1) := by decide +kernel
theorem d_Check_walkRow_59 : decode c_Check_walkRow 59 = .ok (.getfield 22, 3) := by decide +kernel
theorem d_Check_walkRow_62 : decode c_Check_walkRow 62 = .ok (.istore 9, 2) := by decide +kernel
theorem d_Check_walkRow_64 : decode c_Check_walkRow 64 = .ok (.aload_n 0, 1) := by decide +kernel
theorem d_Check_walkRow_65 : decode c_Check_walkRow 65 = .ok (.iload 9, 2) := by decide +kernel
theorem d_Check_walkRow_67 : decode c_Check_walkRow 67 = .ok (.iload_n 2, 1) := by decide +kernel
theorem d_Check_walkRow_68 : decode c_Check_walkRow 68 = .ok (.iload 4, 2) := by decide +kernel
theorem d_Check_walkRow_70 : decode c_Check_walkRow 70 = .ok (.invokevirtual 111, 3) := by decide +kernel
theorem d_Check_walkRow_73 : decode c_Check_walkRow 73 = .ok (.iinc 8 1, 3) := by decide +kernel
theorem d_Check_walkRow_76 : decode c_Check_walkRow 76 = .ok (.aload_n 0, 1) := by decide +kernel
theorem d_Check_walkRow_77 : decode c_Check_walkRow 77 = .ok (.aload_n 1, 1) := by decide +kernel
theorem d_Check_walkRow_78 : decode c_Check_walkRow 78 = .ok (.iload_n 2, 1) := by decide +kernel
theorem d_Check_walkRow_79 : decode c_Check_walkRow 79 = .ok (.iconst 1, 1) := by decide +kernel
theorem d_Check_walkRow_80 : decode c_Check_walkRow 80 = .ok (.iadd, 1) := by decide +kernel
theorem d_Check_walkRow_81 : decode c_Check_walkRow 81 = .ok (.iload 7, 2) := by decide +kernel
theorem d_Check_walkRow_83 : decode c_Check_walkRow 83 = .ok (.iload_n 3, 1) := by decide +kernel
theorem d_Check_walkRow_84 : decode c_Check_walkRow 84 = .ok (.iconst 1, 1) := by decide +kernel
theorem d_Check_walkRow_85 : decode c_Check_walkRow 85 = .ok (.iadd, 1) := by decide +kernel
theorem d_Check_walkRow_86 : decode c_Check_walkRow 86 = .ok (.iload 9, 2) := by decide +kernel
theorem d_Check_walkRow_88 : decode c_Check_walkRow 88 = .ok (.invokevirtual 93, 3) := by decide +kernel
theorem d_Check_walkRow_91 : decode c_Check_walkRow 91 = .ok (.ifCond .ne 5, 3) := by decide +kernel
theorem d_Check_walkRow_94 : decode c_Check_walkRow 94 = .ok (.iconst 0, 1) := by decide +kernel
theorem d_Check_walkRow_95 : decode c_Check_walkRow 95 = .ok (.ireturn, 1) := by decide +kernel
theorem d_Check_walkRow_96 : decode c_Check_walkRow 96 = .ok (.goto (-72), 3) := by decide +kernel
theorem d_Check_walkRow_99 : decode c_Check_walkRow 99 = .ok (.iload 8, 2) := by decide +kernel
theorem d_Check_walkRow_101 : decode c_Check_walkRow 101 = .ok (.aload_n 1, 1) := by decide +kernel
theorem d_Check_walkRow_102 : decode c_Check_walkRow 102 = .ok (.iload_n 2, 1) := by decide +kernel
theorem d_Check_walkRow_103 : decode c_Check_walkRow 103 = .ok (.invokevirtual 115, 3) := by decide +kernel
theorem d_Check_walkRow_106 : decode c_Check_walkRow 106 = .ok (.if_icmp .ge 18, 3) := by decide +kernel
theorem d_Check_walkRow_109 : decode c_Check_walkRow 109 = .ok (.aload_n 0, 1) := by decide +kernel
theorem d_Check_walkRow_110 : decode c_Check_walkRow 110 = .ok (.aload_n 0, 1) := by decide +kernel
theorem d_Check_walkRow_111 : decode c_Check_walkRow 111 = .ok (.getfield 22, 3) := by decide +kernel
theorem d_Check_walkRow_114 : decode c_Check_walkRow 114 = .ok (.putfield 41, 3) := by decide +kernel
theorem d_Check_walkRow_117 : decode c_Check_walkRow 117 = .ok (.aload_n 0, 1) := by decide +kernel
theorem d_Check_walkRow_118 : decode c_Check_walkRow 118 = .ok (.iload_n 2, 1) := by decide +kernel
theorem d_Check_walkRow_119 : decode c_Check_walkRow 119 = .ok (.putfield 44, 3) := by decide +kernel
theorem d_Check_walkRow_122 : decode c_Check_walkRow 122 = .ok (.iconst 0, 1) := by decide +kernel
theorem d_Check_walkRow_123 : decode c_Check_walkRow 123 = .ok (.ireturn, 1) := by decide +kernel
theorem d_Check_walkRow_124 : decode c_Check_walkRow 124 = .ok (.iconst 1, 1) := by decide +kernel
theorem d_Check_walkRow_125 : decode c_Check_walkRow 125 = .ok (.ireturn, 1) := by decide +kernel
theorem d_Check_walkOver_0 : decode c_Check_walkOver 0 = .ok (.iload_n 1, 1) := by decide +kernel
theorem d_Check_walkOver_1 : decode c_Check_walkOver 1 = .ok (.ifCond .lt 35, 3) := by decide +kernel
theorem d_Check_walkOver_4 : decode c_Check_walkOver 4 = .ok (.iload_n 1, 1) := by decide +kernel
theorem d_Check_walkOver_5 : decode c_Check_walkOver 5 = .ok (.aload_n 0, 1) := by decide +kernel
theorem d_Check_walkOver_6 : decode c_Check_walkOver 6 = .ok (.getfield 15, 3) := by decide +kernel
theorem d_Check_walkOver_9 : decode c_Check_walkOver 9 = .ok (.arraylength, 1) := by decide +kernel
theorem d_Check_walkOver_10 : decode c_Check_walkOver 10 = .ok (.if_icmp .ge 26, 3) := by decide +kernel
theorem d_Check_walkOver_13 : decode c_Check_walkOver 13 = .ok (.iload_n 1, 1) := by decide +kernel
theorem d_Check_walkOver_14 : decode c_Check_walkOver 14 = .ok (.aload_n 0, 1) := by decide +kernel
theorem d_Check_walkOver_15 : decode c_Check_walkOver 15 = .ok (.getfield 19, 3) := by decide +kernel
theorem d_Check_walkOver_18 : decode c_Check_walkOver 18 = .ok (.arraylength, 1) := by decide +kernel
theorem d_Check_walkOver_19 : decode c_Check_walkOver 19 = .ok (.if_icmp .ge 17, 3) := by decide +kernel
theorem d_Check_walkOver_22 : decode c_Check_walkOver 22 = .ok (.aload_n 0, 1) := by decide +kernel
theorem d_Check_walkOver_23 : decode c_Check_walkOver 23 = .ok (.getfield 15, 3) := by decide +kernel
theorem d_Check_walkOver_26 : decode c_Check_walkOver 26 = .ok (.iload_n 1, 1) := by decide +kernel
theorem d_Check_walkOver_27 : decode c_Check_walkOver 27 = .ok (.iload_n 2, 1) := by decide +kernel
theorem d_Check_walkOver_28 : decode c_Check_walkOver 28 = .ok (.iastore, 1) := by decide +kernel
theorem d_Check_walkOver_29 : decode c_Check_walkOver 29 = .ok (.aload_n 0, 1) := by decide +kernel
theorem d_Check_walkOver_30 : decode c_Check_walkOver 30 = .ok (.getfield 19, 3) := by decide +kernel
theorem d_Check_walkOver_33 : decode c_Check_walkOver 33 = .ok (.iload_n 1, 1) := by decide +kernel
theorem d_Check_walkOver_34 : decode c_Check_walkOver 34 = .ok (.iload_n 3, 1) := by decide +kernel
theorem d_Check_walkOver_35 : decode c_Check_walkOver 35 = .ok (.iastore, 1) := by decide +kernel
theorem d_Check_walkOver_36 : decode c_Check_walkOver 36 = .ok (.aload_n 0, 1) := by decide +kernel
theorem d_Check_walkOver_37 : decode c_Check_walkOver 37 = .ok (.dup, 1) := by decide +kernel
theorem d_Check_walkOver_38 : decode c_Check_walkOver 38 = .ok (.getfield 22, 3) := by decide +kernel
theorem d_Check_walkOver_41 : decode c_Check_walkOver 41 = .ok (.iconst 1, 1) := by decide +kernel
theorem d_Check_walkOver_42 : decode c_Check_walkOver 42 = .ok (.iadd, 1) := by decide +kernel
theorem d_Check_walkOver_43 : decode c_Check_walkOver 43 = .ok (.putfield 22, 3) := by decide +kernel
theorem d_Check_walkOver_46 : decode c_Check_walkOver 46 = .ok (.return_, 1) := by decide +kernel
theorem d_Grammar_init_0 : decode c_Grammar_init 0 = .ok (.aload_n 0, 1) := by decide +kernel
theorem d_Grammar_init_1 : decode c_Grammar_init 1 = .ok (.invokespecial 3, 3) := by decide +kernel
theorem d_Grammar_init_4 : decode c_Grammar_init 4 = .ok (.aload_n 0, 1) := by decide +kernel
theorem d_Grammar_init_5 : decode c_Grammar_init 5 = .ok (.bipush 20, 2) := by decide +kernel
theorem d_Grammar_init_7 : decode c_Grammar_init 7 = .ok (.newarray .int, 2) := by decide +kernel
theorem d_Grammar_init_9 : decode c_Grammar_init 9 = .ok (.putfield 9, 3) := by decide +kernel
theorem d_Grammar_init_12 : decode c_Grammar_init 12 = .ok (.aload_n 0, 1) := by decide +kernel
theorem d_Grammar_init_13 : decode c_Grammar_init 13 = .ok (.bipush 20, 2) := by decide +kernel
theorem d_Grammar_init_15 : decode c_Grammar_init 15 = .ok (.newarray .int, 2) := by decide +kernel
theorem d_Grammar_init_17 : decode c_Grammar_init 17 = .ok (.putfield 15, 3) := by decide +kernel
theorem d_Grammar_init_20 : decode c_Grammar_init 20 = .ok (.aload_n 0, 1) := by decide +kernel
theorem d_Grammar_init_21 : decode c_Grammar_init 21 = .ok (.bipush 20, 2) := by decide +kernel
theorem d_Grammar_init_23 : decode c_Grammar_init 23 = .ok (.newarray .int, 2) := by decide +kernel
theorem d_Grammar_init_25 : decode c_Grammar_init 25 = .ok (.putfield 18, 3) := by decide +kernel
theorem d_Grammar_init_28 : decode c_Grammar_init 28 = .ok (.aload_n 0, 1) := by decide +kernel
theorem d_Grammar_init_29 : decode c_Grammar_init 29 = .ok (.bipush 20, 2) := by decide +kernel
theorem d_Grammar_init_31 : decode c_Grammar_init 31 = .ok (.newarray .int, 2) := by decide +kernel
theorem d_Grammar_init_33 : decode c_Grammar_init 33 = .ok (.putfield 21, 3) := by decide +kernel
theorem d_Grammar_init_36 : decode c_Grammar_init 36 = .ok (.aload_n 0, 1) := by decide +kernel
theorem d_Grammar_init_37 : decode c_Grammar_init 37 = .ok (.iconst 0, 1) := by decide +kernel
theorem d_Grammar_init_38 : decode c_Grammar_init 38 = .ok (.putfield 24, 3) := by decide +kernel
theorem d_Grammar_init_41 : decode c_Grammar_init 41 = .ok (.return_, 1) := by decide +kernel
theorem d_Grammar_size_0 : decode c_Grammar_size 0 = .ok (.aload_n 0, 1) := by decide +kernel
theorem d_Grammar_size_1 : decode c_Grammar_size 1 = .ok (.getfield 24, 3) := by decide +kernel
theorem d_Grammar_size_4 : decode c_Grammar_size 4 = .ok (.ireturn, 1) := by decide +kernel
theorem d_Grammar_isFull_0 : decode c_Grammar_isFull 0 = .ok (.aload_n 0, 1) := by decide +kernel
theorem d_Grammar_isFull_1 : decode c_Grammar_isFull 1 = .ok (.getfield 24, 3) := by decide +kernel
theorem d_Grammar_isFull_4 : decode c_Grammar_isFull 4 = .ok (.bipush 20, 2) := by decide +kernel
theorem d_Grammar_isFull_6 : decode c_Grammar_isFull 6 = .ok (.if_icmp .lt 7, 3) := by decide +kernel
theorem d_Grammar_isFull_9 : decode c_Grammar_isFull 9 = .ok (.iconst 1, 1) := by decide +kernel
theorem d_Grammar_isFull_10 : decode c_Grammar_isFull 10 = .ok (.goto 4, 3) := by decide +kernel
theorem d_Grammar_isFull_13 : decode c_Grammar_isFull 13 = .ok (.iconst 0, 1) := by decide +kernel
theorem d_Grammar_isFull_14 : decode c_Grammar_isFull 14 = .ok (.ireturn, 1) := by decide +kernel
theorem d_Grammar_canTakeLevel_0 : decode c_Grammar_canTakeLevel 0 = .ok (.aload_n 0, 1) := by decide +kernel
theorem d_Grammar_canTakeLevel_1 : decode c_Grammar_canTakeLevel 1 = .ok (.getfield 24, 3) := by decide +kernel
theorem d_Grammar_canTakeLevel_4 : decode c_Grammar_canTakeLevel 4 = .ok (.ifCond .ne 7, 3) := by decide +kernel
theorem d_Grammar_canTakeLevel_7 : decode c_Grammar_canTakeLevel 7 = .ok (.iconst 0, 1) := by decide +kernel
theorem d_Grammar_canTakeLevel_8 : decode c_Grammar_canTakeLevel 8 = .ok (.goto 19, 3) := by decide +kernel
theorem d_Grammar_canTakeLevel_11 : decode c_Grammar_canTakeLevel 11 = .ok (.aload_n 0, 1) := by decide +kernel
theorem d_Grammar_canTakeLevel_12 : decode c_Grammar_canTakeLevel 12 = .ok (.aload_n 0, 1) := by decide +kernel
theorem d_Grammar_canTakeLevel_13 : decode c_Grammar_canTakeLevel 13 = .ok (.getfield 24, 3) := by decide +kernel
theorem d_Grammar_canTakeLevel_16 : decode c_Grammar_canTakeLevel 16 = .ok (.iconst 1, 1) := by decide +kernel
theorem d_Grammar_canTakeLevel_17 : decode c_Grammar_canTakeLevel 17 = .ok (.isub, 1) := by decide +kernel
theorem d_Grammar_canTakeLevel_18 : decode c_Grammar_canTakeLevel 18 = .ok (.invokevirtual 28, 3) := by decide +kernel
theorem d_Grammar_canTakeLevel_21 : decode c_Grammar_canTakeLevel 21 = .ok (.iconst 1, 1) := by decide +kernel
theorem d_Grammar_canTakeLevel_22 : decode c_Grammar_canTakeLevel 22 = .ok (.iadd, 1) := by decide +kernel
theorem d_Grammar_canTakeLevel_23 : decode c_Grammar_canTakeLevel 23 = .ok (.iconst 3, 1) := by decide +kernel
theorem d_Grammar_canTakeLevel_24 : decode c_Grammar_canTakeLevel 24 = .ok (.invokestatic 32, 3) := by decide +kernel
theorem d_Grammar_canTakeLevel_27 : decode c_Grammar_canTakeLevel 27 = .ok (.istore_n 2, 1) := by decide +kernel
theorem d_Grammar_canTakeLevel_28 : decode c_Grammar_canTakeLevel 28 = .ok (.iload_n 1, 1) := by decide +kernel
theorem d_Grammar_canTakeLevel_29 : decode c_Grammar_canTakeLevel 29 = .ok (.ifCond .lt 12, 3) := by decide +kernel
theorem d_Grammar_canTakeLevel_32 : decode c_Grammar_canTakeLevel 32 = .ok (.iload_n 1, 1) := by decide +kernel
theorem d_Grammar_canTakeLevel_33 : decode c_Grammar_canTakeLevel 33 = .ok (.iload_n 2, 1) := by decide +kernel
theorem d_Grammar_canTakeLevel_34 : decode c_Grammar_canTakeLevel 34 = .ok (.if_icmp .gt 7, 3) := by decide +kernel
theorem d_Grammar_canTakeLevel_37 : decode c_Grammar_canTakeLevel 37 = .ok (.iconst 1, 1) := by decide +kernel
theorem d_Grammar_canTakeLevel_38 : decode c_Grammar_canTakeLevel 38 = .ok (.goto 4, 3) := by decide +kernel
theorem d_Grammar_canTakeLevel_41 : decode c_Grammar_canTakeLevel 41 = .ok (.iconst 0, 1) := by decide +kernel
theorem d_Grammar_canTakeLevel_42 : decode c_Grammar_canTakeLevel 42 = .ok (.ireturn, 1) := by decide +kernel
theorem d_Grammar_append_0 : decode c_Grammar_append 0 = .ok (.aload_n 0, 1) := by decide +kernel
theorem d_Grammar_append_1 : decode c_Grammar_append 1 = .ok (.getfield 24, 3) := by decide +kernel
theorem d_Grammar_append_4 : decode c_Grammar_append 4 = .ok (.ifCond .lt 12, 3) := by decide +kernel
theorem d_Grammar_append_7 : decode c_Grammar_append 7 = .ok (.aload_n 0, 1) := by decide +kernel
theorem d_Grammar_append_8 : decode c_Grammar_append 8 = .ok (.getfield 24, 3) := by decide +kernel
theorem d_Grammar_append_11 : decode c_Grammar_append 11 = .ok (.bipush 20, 2) := by decide +kernel
theorem d_Grammar_append_13 : decode c_Grammar_append 13 = .ok (.if_icmp .lt 4, 3) := by decide +kernel
theorem d_Grammar_append_16 : decode c_Grammar_append 16 = .ok (.return_, 1) := by decide +kernel
theorem d_Grammar_append_17 : decode c_Grammar_append 17 = .ok (.aload_n 0, 1) := by decide +kernel
theorem d_Grammar_append_18 : decode c_Grammar_append 18 = .ok (.getfield 9, 3) := by decide +kernel
theorem d_Grammar_append_21 : decode c_Grammar_append 21 = .ok (.aload_n 0, 1) := by decide +kernel
theorem d_Grammar_append_22 : decode c_Grammar_append 22 = .ok (.getfield 24, 3) := by decide +kernel
theorem d_Grammar_append_25 : decode c_Grammar_append 25 = .ok (.iload_n 1, 1) := by decide +kernel
theorem d_Grammar_append_26 : decode c_Grammar_append 26 = .ok (.iastore, 1) := by decide +kernel
theorem d_Grammar_append_27 : decode c_Grammar_append 27 = .ok (.aload_n 0, 1) := by decide +kernel
theorem d_Grammar_append_28 : decode c_Grammar_append 28 = .ok (.getfield 15, 3) := by decide +kernel
theorem d_Grammar_append_31 : decode c_Grammar_append 31 = .ok (.aload_n 0, 1) := by decide +kernel
theorem d_Grammar_append_32 : decode c_Grammar_append 32 = .ok (.getfield 24, 3) := by decide +kernel
theorem d_Grammar_append_35 : decode c_Grammar_append 35 = .ok (.iload_n 2, 1) := by decide +kernel
theorem d_Grammar_append_36 : decode c_Grammar_append 36 = .ok (.iastore, 1) := by decide +kernel
theorem d_Grammar_append_37 : decode c_Grammar_append 37 = .ok (.aload_n 0, 1) := by decide +kernel
theorem d_Grammar_append_38 : decode c_Grammar_append 38 = .ok (.getfield 18, 3) := by decide +kernel
theorem d_Grammar_append_41 : decode c_Grammar_append 41 = .ok (.aload_n 0, 1) := by decide +kernel
theorem d_Grammar_append_42 : decode c_Grammar_append 42 = .ok (.getfield 24, 3) := by decide +kernel
theorem d_Grammar_append_45 : decode c_Grammar_append 45 = .ok (.iload_n 3, 1) := by decide +kernel
theorem d_Grammar_append_46 : decode c_Grammar_append 46 = .ok (.iastore, 1) := by decide +kernel
theorem d_Grammar_append_47 : decode c_Grammar_append 47 = .ok (.aload_n 0, 1) := by decide +kernel
theorem d_Grammar_append_48 : decode c_Grammar_append 48 = .ok (.getfield 21, 3) := by decide +kernel
theorem d_Grammar_append_51 : decode c_Grammar_append 51 = .ok (.aload_n 0, 1) := by decide +kernel
theorem d_Grammar_append_52 : decode c_Grammar_append 52 = .ok (.getfield 24, 3) := by decide +kernel
theorem d_Grammar_append_55 : decode c_Grammar_append 55 = .ok (.iload 4, 2) := by decide +kernel
theorem d_Grammar_append_57 : decode c_Grammar_append 57 = .ok (.iastore, 1) := by decide +kernel
theorem d_Grammar_append_58 : decode c_Grammar_append 58 = .ok (.aload_n 0, 1) := by decide +kernel
theorem d_Grammar_append_59 : decode c_Grammar_append 59 = .ok (.dup, 1) := by decide +kernel
theorem d_Grammar_append_60 : decode c_Grammar_append 60 = .ok (.getfield 24, 3) := by decide +kernel
theorem d_Grammar_append_63 : decode c_Grammar_append 63 = .ok (.iconst 1, 1) := by decide +kernel
theorem d_Grammar_append_64 : decode c_Grammar_append 64 = .ok (.iadd, 1) := by decide +kernel
theorem d_Grammar_append_65 : decode c_Grammar_append 65 = .ok (.putfield 24, 3) := by decide +kernel
theorem d_Grammar_append_68 : decode c_Grammar_append 68 = .ok (.return_, 1) := by decide +kernel
theorem d_Grammar_tagOf_0 : decode c_Grammar_tagOf 0 = .ok (.iload_n 1, 1) := by decide +kernel
theorem d_Grammar_tagOf_1 : decode c_Grammar_tagOf 1 = .ok (.ifCond .lt 20, 3) := by decide +kernel
theorem d_Grammar_tagOf_4 : decode c_Grammar_tagOf 4 = .ok (.iload_n 1, 1) := by decide +kernel
theorem d_Grammar_tagOf_5 : decode c_Grammar_tagOf 5 = .ok (.aload_n 0, 1) := by decide +kernel
theorem d_Grammar_tagOf_6 : decode c_Grammar_tagOf 6 = .ok (.getfield 24, 3) := by decide +kernel
theorem d_Grammar_tagOf_9 : decode c_Grammar_tagOf 9 = .ok (.if_icmp .ge 12, 3) := by decide +kernel
theorem d_Grammar_tagOf_12 : decode c_Grammar_tagOf 12 = .ok (.aload_n 0, 1) := by decide +kernel
theorem d_Grammar_tagOf_13 : decode c_Grammar_tagOf 13 = .ok (.getfield 9, 3) := by decide +kernel
theorem d_Grammar_tagOf_16 : decode c_Grammar_tagOf 16 = .ok (.iload_n 1, 1) := by decide +kernel
theorem d_Grammar_tagOf_17 : decode c_Grammar_tagOf 17 = .ok (.iaload, 1) := by decide +kernel
theorem d_Grammar_tagOf_18 : decode c_Grammar_tagOf 18 = .ok (.goto 4, 3) := by decide +kernel
theorem d_Grammar_tagOf_21 : decode c_Grammar_tagOf 21 = .ok (.iconst (-1), 1) := by decide +kernel
theorem d_Grammar_tagOf_22 : decode c_Grammar_tagOf 22 = .ok (.ireturn, 1) := by decide +kernel
theorem d_Grammar_leastOf_0 : decode c_Grammar_leastOf 0 = .ok (.iload_n 1, 1) := by decide +kernel
theorem d_Grammar_leastOf_1 : decode c_Grammar_leastOf 1 = .ok (.ifCond .lt 20, 3) := by decide +kernel
theorem d_Grammar_leastOf_4 : decode c_Grammar_leastOf 4 = .ok (.iload_n 1, 1) := by decide +kernel
theorem d_Grammar_leastOf_5 : decode c_Grammar_leastOf 5 = .ok (.aload_n 0, 1) := by decide +kernel
theorem d_Grammar_leastOf_6 : decode c_Grammar_leastOf 6 = .ok (.getfield 24, 3) := by decide +kernel
theorem d_Grammar_leastOf_9 : decode c_Grammar_leastOf 9 = .ok (.if_icmp .ge 12, 3) := by decide +kernel
theorem d_Grammar_leastOf_12 : decode c_Grammar_leastOf 12 = .ok (.aload_n 0, 1) := by decide +kernel
theorem d_Grammar_leastOf_13 : decode c_Grammar_leastOf 13 = .ok (.getfield 15, 3) := by decide +kernel
theorem d_Grammar_leastOf_16 : decode c_Grammar_leastOf 16 = .ok (.iload_n 1, 1) := by decide +kernel
theorem d_Grammar_leastOf_17 : decode c_Grammar_leastOf 17 = .ok (.iaload, 1) := by decide +kernel
theorem d_Grammar_leastOf_18 : decode c_Grammar_leastOf 18 = .ok (.goto 4, 3) := by decide +kernel
theorem d_Grammar_leastOf_21 : decode c_Grammar_leastOf 21 = .ok (.iconst 0, 1) := by decide +kernel
theorem d_Grammar_leastOf_22 : decode c_Grammar_leastOf 22 = .ok (.ireturn, 1) := by decide +kernel
theorem d_Grammar_mostOf_0 : decode c_Grammar_mostOf 0 = .ok (.iload_n 1, 1) := by decide +kernel
theorem d_Grammar_mostOf_1 : decode c_Grammar_mostOf 1 = .ok (.ifCond .lt 20, 3) := by decide +kernel
theorem d_Grammar_mostOf_4 : decode c_Grammar_mostOf 4 = .ok (.iload_n 1, 1) := by decide +kernel
theorem d_Grammar_mostOf_5 : decode c_Grammar_mostOf 5 = .ok (.aload_n 0, 1) := by decide +kernel
theorem d_Grammar_mostOf_6 : decode c_Grammar_mostOf 6 = .ok (.getfield 24, 3) := by decide +kernel
theorem d_Grammar_mostOf_9 : decode c_Grammar_mostOf 9 = .ok (.if_icmp .ge 12, 3) := by decide +kernel
theorem d_Grammar_mostOf_12 : decode c_Grammar_mostOf 12 = .ok (.aload_n 0, 1) := by decide +kernel
theorem d_Grammar_mostOf_13 : decode c_Grammar_mostOf 13 = .ok (.getfield 18, 3) := by decide +kernel
theorem d_Grammar_mostOf_16 : decode c_Grammar_mostOf 16 = .ok (.iload_n 1, 1) := by decide +kernel
theorem d_Grammar_mostOf_17 : decode c_Grammar_mostOf 17 = .ok (.iaload, 1) := by decide +kernel
theorem d_Grammar_mostOf_18 : decode c_Grammar_mostOf 18 = .ok (.goto 4, 3) := by decide +kernel
theorem d_Grammar_mostOf_21 : decode c_Grammar_mostOf 21 = .ok (.iconst 0, 1) := by decide +kernel
theorem d_Grammar_mostOf_22 : decode c_Grammar_mostOf 22 = .ok (.ireturn, 1) := by decide +kernel
theorem d_Grammar_levelOf_0 : decode c_Grammar_levelOf 0 = .ok (.iload_n 1, 1) := by decide +kernel
theorem d_Grammar_levelOf_1 : decode c_Grammar_levelOf 1 = .ok (.ifCond .lt 20, 3) := by decide +kernel
theorem d_Grammar_levelOf_4 : decode c_Grammar_levelOf 4 = .ok (.iload_n 1, 1) := by decide +kernel
theorem d_Grammar_levelOf_5 : decode c_Grammar_levelOf 5 = .ok (.aload_n 0, 1) := by decide +kernel
theorem d_Grammar_levelOf_6 : decode c_Grammar_levelOf 6 = .ok (.getfield 24, 3) := by decide +kernel
theorem d_Grammar_levelOf_9 : decode c_Grammar_levelOf 9 = .ok (.if_icmp .ge 12, 3) := by decide +kernel
theorem d_Grammar_levelOf_12 : decode c_Grammar_levelOf 12 = .ok (.aload_n 0, 1) := by decide +kernel
theorem d_Grammar_levelOf_13 : decode c_Grammar_levelOf 13 = .ok (.getfield 21, 3) := by decide +kernel
theorem d_Grammar_levelOf_16 : decode c_Grammar_levelOf 16 = .ok (.iload_n 1, 1) := by decide +kernel
theorem d_Grammar_levelOf_17 : decode c_Grammar_levelOf 17 = .ok (.iaload, 1) := by decide +kernel
theorem d_Grammar_levelOf_18 : decode c_Grammar_levelOf 18 = .ok (.goto 4, 3) := by decide +kernel
theorem d_Grammar_levelOf_21 : decode c_Grammar_levelOf 21 = .ok (.iconst (-1), 1) := by decide +kernel
theorem d_Grammar_levelOf_22 : decode c_Grammar_levelOf 22 = .ok (.ireturn, 1) := by decide +kernel
theorem d_Grammar_knows_0 : decode c_Grammar_knows 0 = .ok (.iconst 0, 1) := by decide +kernel
theorem d_Grammar_knows_1 : decode c_Grammar_knows 1 = .ok (.istore_n 2, 1) := by decide +kernel
theorem d_Grammar_knows_2 : decode c_Grammar_knows 2 = .ok (.iload_n 2, 1) := by decide +kernel
theorem d_Grammar_knows_3 : decode c_Grammar_knows 3 = .ok (.aload_n 0, 1) := by decide +kernel
theorem d_Grammar_knows_4 : decode c_Grammar_knows 4 = .ok (.getfield 24, 3) := by decide +kernel
theorem d_Grammar_knows_7 : decode c_Grammar_knows 7 = .ok (.if_icmp .ge 20, 3) := by decide +kernel
theorem d_Grammar_knows_10 : decode c_Grammar_knows 10 = .ok (.aload_n 0, 1) := by decide +kernel
theorem d_Grammar_knows_11 : decode c_Grammar_knows 11 = .ok (.iload_n 2, 1) := by decide +kernel
theorem d_Grammar_knows_12 : decode c_Grammar_knows 12 = .ok (.invokevirtual 38, 3) := by decide +kernel
theorem d_Grammar_knows_15 : decode c_Grammar_knows 15 = .ok (.iload_n 1, 1) := by decide +kernel
theorem d_Grammar_knows_16 : decode c_Grammar_knows 16 = .ok (.if_icmp .ne 5, 3) := by decide +kernel
theorem d_Grammar_knows_19 : decode c_Grammar_knows 19 = .ok (.iconst 1, 1) := by decide +kernel
theorem d_Grammar_knows_20 : decode c_Grammar_knows 20 = .ok (.ireturn, 1) := by decide +kernel
theorem d_Grammar_knows_21 : decode c_Grammar_knows 21 = .ok (.iinc 2 1, 3) := by decide +kernel
theorem d_Grammar_knows_24 : decode c_Grammar_knows 24 = .ok (.goto (-22), 3) := by decide +kernel
theorem d_Grammar_knows_27 : decode c_Grammar_knows 27 = .ok (.iconst 0, 1) := by decide +kernel
theorem d_Grammar_knows_28 : decode c_Grammar_knows 28 = .ok (.ireturn, 1) := by decide +kernel
theorem d_Grammar_endOfGroup_0 : decode c_Grammar_endOfGroup 0 = .ok (.iload_n 1, 1) := by decide +kernel
theorem d_Grammar_endOfGroup_1 : decode c_Grammar_endOfGroup 1 = .ok (.iconst 1, 1) := by decide +kernel
theorem d_Grammar_endOfGroup_2 : decode c_Grammar_endOfGroup 2 = .ok (.iadd, 1) := by decide +kernel
theorem d_Grammar_endOfGroup_3 : decode c_Grammar_endOfGroup 3 = .ok (.istore_n 2, 1) := by decide +kernel
theorem d_Grammar_endOfGroup_4 : decode c_Grammar_endOfGroup 4 = .ok (.iload_n 2, 1) := by decide +kernel
theorem d_Grammar_endOfGroup_5 : decode c_Grammar_endOfGroup 5 = .ok (.aload_n 0, 1) := by decide +kernel
theorem d_Grammar_endOfGroup_6 : decode c_Grammar_endOfGroup 6 = .ok (.getfield 24, 3) := by decide +kernel
theorem d_Grammar_endOfGroup_9 : decode c_Grammar_endOfGroup 9 = .ok (.if_icmp .ge 24, 3) := by decide +kernel
theorem d_Grammar_endOfGroup_12 : decode c_Grammar_endOfGroup 12 = .ok (.aload_n 0, 1) := by decide +kernel
theorem d_Grammar_endOfGroup_13 : decode c_Grammar_endOfGroup 13 = .ok (.iload_n 2, 1) := by decide +kernel
theorem d_Grammar_endOfGroup_14 : decode c_Grammar_endOfGroup 14 = .ok (.invokevirtual 28, 3) := by decide +kernel
theorem d_Grammar_endOfGroup_17 : decode c_Grammar_endOfGroup 17 = .ok (.aload_n 0, 1) := by decide +kernel
theorem d_Grammar_endOfGroup_18 : decode c_Grammar_endOfGroup 18 = .ok (.iload_n 1, 1) := by decide +kernel
theorem d_Grammar_endOfGroup_19 : decode c_Grammar_endOfGroup 19 = .ok (.invokevirtual 28, 3) := by decide +kernel
theorem d_Grammar_endOfGroup_22 : decode c_Grammar_endOfGroup 22 = .ok (.if_icmp .gt 5, 3) := by decide +kernel
theorem d_Grammar_endOfGroup_25 : decode c_Grammar_endOfGroup 25 = .ok (.iload_n 2, 1) := by decide +kernel
theorem d_Grammar_endOfGroup_26 : decode c_Grammar_endOfGroup 26 = .ok (.ireturn, 1) := by decide +kernel
theorem d_Grammar_endOfGroup_27 : decode c_Grammar_endOfGroup 27 = .ok (.iinc 2 1, 3) := by decide +kernel
theorem d_Grammar_endOfGroup_30 : decode c_Grammar_endOfGroup 30 = .ok (.goto (-26), 3) := by decide +kernel
theorem d_Grammar_endOfGroup_33 : decode c_Grammar_endOfGroup 33 = .ok (.aload_n 0, 1) := by decide +kernel
theorem d_Grammar_endOfGroup_34 : decode c_Grammar_endOfGroup 34 = .ok (.getfield 24, 3) := by decide +kernel
theorem d_Grammar_endOfGroup_37 : decode c_Grammar_endOfGroup 37 = .ok (.ireturn, 1) := by decide +kernel
theorem d_Layer_init_0 : decode c_Layer_init 0 = .ok (.aload_n 0, 1) := by decide +kernel
theorem d_Layer_init_1 : decode c_Layer_init 1 = .ok (.invokespecial 3, 3) := by decide +kernel
theorem d_Layer_init_4 : decode c_Layer_init 4 = .ok (.aload_n 0, 1) := by decide +kernel
theorem d_Layer_init_5 : decode c_Layer_init 5 = .ok (.iload_n 1, 1) := by decide +kernel
theorem d_Layer_init_6 : decode c_Layer_init 6 = .ok (.ifCond .lt 9, 3) := by decide +kernel
theorem d_Layer_init_9 : decode c_Layer_init 9 = .ok (.iload_n 1, 1) := by decide +kernel
theorem d_Layer_init_10 : decode c_Layer_init 10 = .ok (.iconst 1, 1) := by decide +kernel
theorem d_Layer_init_11 : decode c_Layer_init 11 = .ok (.iadd, 1) := by decide +kernel
theorem d_Layer_init_12 : decode c_Layer_init 12 = .ok (.goto 4, 3) := by decide +kernel
theorem d_Layer_init_15 : decode c_Layer_init 15 = .ok (.iconst 1, 1) := by decide +kernel
theorem d_Layer_init_16 : decode c_Layer_init 16 = .ok (.newarray .int, 2) := by decide +kernel
theorem d_Layer_init_18 : decode c_Layer_init 18 = .ok (.putfield 9, 3) := by decide +kernel
theorem d_Layer_init_21 : decode c_Layer_init 21 = .ok (.aload_n 0, 1) := by decide +kernel
theorem d_Layer_init_22 : decode c_Layer_init 22 = .ok (.iconst 0, 1) := by decide +kernel
theorem d_Layer_init_23 : decode c_Layer_init 23 = .ok (.putfield 15, 3) := by decide +kernel
theorem d_Layer_init_26 : decode c_Layer_init 26 = .ok (.return_, 1) := by decide +kernel
theorem d_Layer_clear_0 : decode c_Layer_clear 0 = .ok (.aload_n 0, 1) := by decide +kernel
theorem d_Layer_clear_1 : decode c_Layer_clear 1 = .ok (.iconst 0, 1) := by decide +kernel
theorem d_Layer_clear_2 : decode c_Layer_clear 2 = .ok (.putfield 15, 3) := by decide +kernel
theorem d_Layer_clear_5 : decode c_Layer_clear 5 = .ok (.return_, 1) := by decide +kernel
theorem d_Layer_size_0 : decode c_Layer_size 0 = .ok (.aload_n 0, 1) := by decide +kernel
theorem d_Layer_size_1 : decode c_Layer_size 1 = .ok (.getfield 15, 3) := by decide +kernel
theorem d_Layer_size_4 : decode c_Layer_size 4 = .ok (.ireturn, 1) := by decide +kernel
theorem d_Layer_open_0 : decode c_Layer_open 0 = .ok (.aload_n 0, 1) := by decide +kernel
theorem d_Layer_open_1 : decode c_Layer_open 1 = .ok (.getfield 15, 3) := by decide +kernel
theorem d_Layer_open_4 : decode c_Layer_open 4 = .ok (.ifCond .lt 17, 3) := by decide +kernel
theorem d_Layer_open_7 : decode c_Layer_open 7 = .ok (.aload_n 0, 1) := by decide +kernel
theorem d_Layer_open_8 : decode c_Layer_open 8 = .ok (.getfield 15, 3) := by decide +kernel
theorem d_Layer_open_11 : decode c_Layer_open 11 = .ok (.iconst 1, 1) := by decide +kernel
theorem d_Layer_open_12 : decode c_Layer_open 12 = .ok (.iadd, 1) := by decide +kernel
theorem d_Layer_open_13 : decode c_Layer_open 13 = .ok (.aload_n 0, 1) := by decide +kernel
theorem d_Layer_open_14 : decode c_Layer_open 14 = .ok (.getfield 9, 3) := by decide +kernel
theorem d_Layer_open_17 : decode c_Layer_open 17 = .ok (.arraylength, 1) := by decide +kernel
theorem d_Layer_open_18 : decode c_Layer_open 18 = .ok (.if_icmp .lt 5, 3) := by decide +kernel
theorem d_Layer_open_21 : decode c_Layer_open 21 = .ok (.iconst 0, 1) := by decide +kernel
theorem d_Layer_open_22 : decode c_Layer_open 22 = .ok (.ireturn, 1) := by decide +kernel
theorem d_Layer_open_23 : decode c_Layer_open 23 = .ok (.aload_n 0, 1) := by decide +kernel
theorem d_Layer_open_24 : decode c_Layer_open 24 = .ok (.getfield 9, 3) := by decide +kernel
theorem d_Layer_open_27 : decode c_Layer_open 27 = .ok (.aload_n 0, 1) := by decide +kernel
theorem d_Layer_open_28 : decode c_Layer_open 28 = .ok (.getfield 15, 3) := by decide +kernel
theorem d_Layer_open_31 : decode c_Layer_open 31 = .ok (.iconst 1, 1) := by decide +kernel
theorem d_Layer_open_32 : decode c_Layer_open 32 = .ok (.iadd, 1) := by decide +kernel
theorem d_Layer_open_33 : decode c_Layer_open 33 = .ok (.aload_n 0, 1) := by decide +kernel
theorem d_Layer_open_34 : decode c_Layer_open 34 = .ok (.getfield 9, 3) := by decide +kernel
theorem d_Layer_open_37 : decode c_Layer_open 37 = .ok (.aload_n 0, 1) := by decide +kernel
theorem d_Layer_open_38 : decode c_Layer_open 38 = .ok (.getfield 15, 3) := by decide +kernel
theorem d_Layer_open_41 : decode c_Layer_open 41 = .ok (.iaload, 1) := by decide +kernel
theorem d_Layer_open_42 : decode c_Layer_open 42 = .ok (.iastore, 1) := by decide +kernel
theorem d_Layer_open_43 : decode c_Layer_open 43 = .ok (.aload_n 0, 1) := by decide +kernel
theorem d_Layer_open_44 : decode c_Layer_open 44 = .ok (.dup, 1) := by decide +kernel
theorem d_Layer_open_45 : decode c_Layer_open 45 = .ok (.getfield 15, 3) := by decide +kernel
theorem d_Layer_open_48 : decode c_Layer_open 48 = .ok (.iconst 1, 1) := by decide +kernel
theorem d_Layer_open_49 : decode c_Layer_open 49 = .ok (.iadd, 1) := by decide +kernel
theorem d_Layer_open_50 : decode c_Layer_open 50 = .ok (.putfield 15, 3) := by decide +kernel
theorem d_Layer_open_53 : decode c_Layer_open 53 = .ok (.iconst 1, 1) := by decide +kernel
theorem d_Layer_open_54 : decode c_Layer_open 54 = .ok (.ireturn, 1) := by decide +kernel
theorem d_Layer_grow_0 : decode c_Layer_grow 0 = .ok (.aload_n 0, 1) := by decide +kernel
theorem d_Layer_grow_1 : decode c_Layer_grow 1 = .ok (.getfield 15, 3) := by decide +kernel
theorem d_Layer_grow_4 : decode c_Layer_grow 4 = .ok (.iconst 1, 1) := by decide +kernel
theorem d_Layer_grow_5 : decode c_Layer_grow 5 = .ok (.if_icmp .lt 28, 3) := by decide +kernel
theorem d_Layer_grow_8 : decode c_Layer_grow 8 = .ok (.aload_n 0, 1) := by decide +kernel
theorem d_Layer_grow_9 : decode c_Layer_grow 9 = .ok (.getfield 15, 3) := by decide +kernel
theorem d_Layer_grow_12 : decode c_Layer_grow 12 = .ok (.aload_n 0, 1) := by decide +kernel
theorem d_Layer_grow_13 : decode c_Layer_grow 13 = .ok (.getfield 9, 3) := by decide +kernel
theorem d_Layer_grow_16 : decode c_Layer_grow 16 = .ok (.arraylength, 1) := by decide +kernel
theorem d_Layer_grow_17 : decode c_Layer_grow 17 = .ok (.if_icmp .ge 16, 3) := by decide +kernel
theorem d_Layer_grow_20 : decode c_Layer_grow 20 = .ok (.aload_n 0, 1) := by decide +kernel
theorem d_Layer_grow_21 : decode c_Layer_grow 21 = .ok (.getfield 9, 3) := by decide +kernel
theorem d_Layer_grow_24 : decode c_Layer_grow 24 = .ok (.aload_n 0, 1) := by decide +kernel
theorem d_Layer_grow_25 : decode c_Layer_grow 25 = .ok (.getfield 15, 3) := by decide +kernel
theorem d_Layer_grow_28 : decode c_Layer_grow 28 = .ok (.dup2, 1) := by decide +kernel
theorem d_Layer_grow_29 : decode c_Layer_grow 29 = .ok (.iaload, 1) := by decide +kernel
theorem d_Layer_grow_30 : decode c_Layer_grow 30 = .ok (.iconst 1, 1) := by decide +kernel
theorem d_Layer_grow_31 : decode c_Layer_grow 31 = .ok (.iadd, 1) := by decide +kernel
theorem d_Layer_grow_32 : decode c_Layer_grow 32 = .ok (.iastore, 1) := by decide +kernel
theorem d_Layer_grow_33 : decode c_Layer_grow 33 = .ok (.return_, 1) := by decide +kernel
theorem d_Layer_childrenOf_0 : decode c_Layer_childrenOf 0 = .ok (.iload_n 1, 1) := by decide +kernel
theorem d_Layer_childrenOf_1 : decode c_Layer_childrenOf 1 = .ok (.ifCond .lt 40, 3) := by decide +kernel
theorem d_Layer_childrenOf_4 : decode c_Layer_childrenOf 4 = .ok (.iload_n 1, 1) := by decide +kernel
theorem d_Layer_childrenOf_5 : decode c_Layer_childrenOf 5 = .ok (.aload_n 0, 1) := by decide +kernel
theorem d_Layer_childrenOf_6 : decode c_Layer_childrenOf 6 = .ok (.getfield 15, 3) := by decide +kernel
theorem d_Layer_childrenOf_9 : decode c_Layer_childrenOf 9 = .ok (.if_icmp .ge 32, 3) := by decide +kernel
theorem d_Layer_childrenOf_12 : decode c_Layer_childrenOf 12 = .ok (.iload_n 1, 1) := by decide +kernel
theorem d_Layer_childrenOf_13 : decode c_Layer_childrenOf 13 = .ok (.iconst 1, 1) := by decide +kernel
theorem d_Layer_childrenOf_14 : decode c_Layer_childrenOf 14 = .ok (.iadd, 1) := by decide +kernel
theorem d_Layer_childrenOf_15 : decode c_Layer_childrenOf 15 = .ok (.aload_n 0, 1) := by decide +kernel
theorem d_Layer_childrenOf_16 : decode c_Layer_childrenOf 16 = .ok (.getfield 9, 3) := by decide +kernel
theorem d_Layer_childrenOf_19 : decode c_Layer_childrenOf 19 = .ok (.arraylength, 1) := by decide +kernel
theorem d_Layer_childrenOf_20 : decode c_Layer_childrenOf 20 = .ok (.if_icmp .ge 21, 3) := by decide +kernel
theorem d_Layer_childrenOf_23 : decode c_Layer_childrenOf 23 = .ok (.aload_n 0, 1) := by decide +kernel
theorem d_Layer_childrenOf_24 : decode c_Layer_childrenOf 24 = .ok (.getfield 9, 3) := by decide +kernel
theorem d_Layer_childrenOf_27 : decode c_Layer_childrenOf 27 = .ok (.iload_n 1, 1) := by decide +kernel
theorem d_Layer_childrenOf_28 : decode c_Layer_childrenOf 28 = .ok (.iconst 1, 1) := by decide +kernel
theorem d_Layer_childrenOf_29 : decode c_Layer_childrenOf 29 = .ok (.iadd, 1) := by decide +kernel
theorem d_Layer_childrenOf_30 : decode c_Layer_childrenOf 30 = .ok (.iaload, 1) := by decide +kernel
theorem d_Layer_childrenOf_31 : decode c_Layer_childrenOf 31 = .ok (.aload_n 0, 1) := by decide +kernel
theorem d_Layer_childrenOf_32 : decode c_Layer_childrenOf 32 = .ok (.getfield 9, 3) := by decide +kernel
theorem d_Layer_childrenOf_35 : decode c_Layer_childrenOf 35 = .ok (.iload_n 1, 1) := by decide +kernel
theorem d_Layer_childrenOf_36 : decode c_Layer_childrenOf 36 = .ok (.iaload, 1) := by decide +kernel
theorem d_Layer_childrenOf_37 : decode c_Layer_childrenOf 37 = .ok (.isub, 1) := by decide +kernel
theorem d_Layer_childrenOf_38 : decode c_Layer_childrenOf 38 = .ok (.goto 4, 3) := by decide +kernel
theorem d_Layer_childrenOf_41 : decode c_Layer_childrenOf 41 = .ok (.iconst 0, 1) := by decide +kernel
theorem d_Layer_childrenOf_42 : decode c_Layer_childrenOf 42 = .ok (.ireturn, 1) := by decide +kernel
theorem d_Layer_childrenOfLast_0 : decode c_Layer_childrenOfLast 0 = .ok (.aload_n 0, 1) := by decide +kernel
theorem d_Layer_childrenOfLast_1 : decode c_Layer_childrenOfLast 1 = .ok (.getfield 15, 3) := by decide +kernel
theorem d_Layer_childrenOfLast_4 : decode c_Layer_childrenOfLast 4 = .ok (.iconst 1, 1) := by decide +kernel
theorem d_Layer_childrenOfLast_5 : decode c_Layer_childrenOfLast 5 = .ok (.if_icmp .lt 39, 3) := by decide +kernel
theorem d_Layer_childrenOfLast_8 : decode c_Layer_childrenOfLast 8 = .ok (.aload_n 0, 1) := by decide +kernel
theorem d_Layer_childrenOfLast_9 : decode c_Layer_childrenOfLast 9 = .ok (.getfield 15, 3) := by decide +kernel
theorem d_Layer_childrenOfLast_12 : decode c_Layer_childrenOfLast 12 = .ok (.aload_n 0, 1) := by decide +kernel
theorem d_Layer_childrenOfLast_13 : decode c_Layer_childrenOfLast 13 = .ok (.getfield 9, 3) := by decide +kernel
theorem d_Layer_childrenOfLast_16 : decode c_Layer_childrenOfLast 16 = .ok (.arraylength, 1) := by decide +kernel
theorem d_Layer_childrenOfLast_17 : decode c_Layer_childrenOfLast 17 = .ok (.if_icmp .ge 27, 3) := by decide +kernel
theorem d_Layer_childrenOfLast_20 : decode c_Layer_childrenOfLast 20 = .ok (.aload_n 0, 1) := by decide +kernel
theorem d_Layer_childrenOfLast_21 : decode c_Layer_childrenOfLast 21 = .ok (.getfield 9, 3) := by decide +kernel
theorem d_Layer_childrenOfLast_24 : decode c_Layer_childrenOfLast 24 = .ok (.aload_n 0, 1) := by decide +kernel
theorem d_Layer_childrenOfLast_25 : decode c_Layer_childrenOfLast 25 = .ok (.getfield 15, 3) := by decide +kernel
theorem d_Layer_childrenOfLast_28 : decode c_Layer_childrenOfLast 28 = .ok (.iaload, 1) := by decide +kernel
theorem d_Layer_childrenOfLast_29 : decode c_Layer_childrenOfLast 29 = .ok (.aload_n 0, 1) := by decide +kernel
theorem d_Layer_childrenOfLast_30 : decode c_Layer_childrenOfLast 30 = .ok (.getfield 9, 3) := by decide +kernel
theorem d_Layer_childrenOfLast_33 : decode c_Layer_childrenOfLast 33 = .ok (.aload_n 0, 1) := by decide +kernel
theorem d_Layer_childrenOfLast_34 : decode c_Layer_childrenOfLast 34 = .ok (.getfield 15, 3) := by decide +kernel
theorem d_Layer_childrenOfLast_37 : decode c_Layer_childrenOfLast 37 = .ok (.iconst 1, 1) := by decide +kernel
theorem d_Layer_childrenOfLast_38 : decode c_Layer_childrenOfLast 38 = .ok (.isub, 1) := by decide +kernel
theorem d_Layer_childrenOfLast_39 : decode c_Layer_childrenOfLast 39 = .ok (.iaload, 1) := by decide +kernel
theorem d_Layer_childrenOfLast_40 : decode c_Layer_childrenOfLast 40 = .ok (.isub, 1) := by decide +kernel
theorem d_Layer_childrenOfLast_41 : decode c_Layer_childrenOfLast 41 = .ok (.goto 4, 3) := by decide +kernel
theorem d_Layer_childrenOfLast_44 : decode c_Layer_childrenOfLast 44 = .ok (.iconst 0, 1) := by decide +kernel
theorem d_Layer_childrenOfLast_45 : decode c_Layer_childrenOfLast 45 = .ok (.ireturn, 1) := by decide +kernel
theorem d_Layer_childAt_0 : decode c_Layer_childAt 0 = .ok (.iload_n 1, 1) := by decide +kernel
theorem d_Layer_childAt_1 : decode c_Layer_childAt 1 = .ok (.ifCond .lt 22, 3) := by decide +kernel
theorem d_Layer_childAt_4 : decode c_Layer_childAt 4 = .ok (.iload_n 1, 1) := by decide +kernel
theorem d_Layer_childAt_5 : decode c_Layer_childAt 5 = .ok (.aload_n 0, 1) := by decide +kernel
theorem d_Layer_childAt_6 : decode c_Layer_childAt 6 = .ok (.getfield 15, 3) := by decide +kernel
theorem d_Layer_childAt_9 : decode c_Layer_childAt 9 = .ok (.if_icmp .ge 14, 3) := by decide +kernel
theorem d_Layer_childAt_12 : decode c_Layer_childAt 12 = .ok (.iload_n 1, 1) := by decide +kernel
theorem d_Layer_childAt_13 : decode c_Layer_childAt 13 = .ok (.iconst 1, 1) := by decide +kernel
theorem d_Layer_childAt_14 : decode c_Layer_childAt 14 = .ok (.iadd, 1) := by decide +kernel
theorem d_Layer_childAt_15 : decode c_Layer_childAt 15 = .ok (.aload_n 0, 1) := by decide +kernel
theorem d_Layer_childAt_16 : decode c_Layer_childAt 16 = .ok (.getfield 9, 3) := by decide +kernel
theorem d_Layer_childAt_19 : decode c_Layer_childAt 19 = .ok (.arraylength, 1) := by decide +kernel
theorem d_Layer_childAt_20 : decode c_Layer_childAt 20 = .ok (.if_icmp .lt 5, 3) := by decide +kernel
theorem d_Layer_childAt_23 : decode c_Layer_childAt 23 = .ok (.iconst (-1), 1) := by decide +kernel
theorem d_Layer_childAt_24 : decode c_Layer_childAt 24 = .ok (.ireturn, 1) := by decide +kernel
theorem d_Layer_childAt_25 : decode c_Layer_childAt 25 = .ok (.iload_n 2, 1) := by decide +kernel
theorem d_Layer_childAt_26 : decode c_Layer_childAt 26 = .ok (.ifCond .lt 33, 3) := by decide +kernel
theorem d_Layer_childAt_29 : decode c_Layer_childAt 29 = .ok (.iload_n 2, 1) := by decide +kernel
theorem d_Layer_childAt_30 : decode c_Layer_childAt 30 = .ok (.aload_n 0, 1) := by decide +kernel
theorem d_Layer_childAt_31 : decode c_Layer_childAt 31 = .ok (.getfield 9, 3) := by decide +kernel
theorem d_Layer_childAt_34 : decode c_Layer_childAt 34 = .ok (.iload_n 1, 1) := by decide +kernel
theorem d_Layer_childAt_35 : decode c_Layer_childAt 35 = .ok (.iconst 1, 1) := by decide +kernel
theorem d_Layer_childAt_36 : decode c_Layer_childAt 36 = .ok (.iadd, 1) := by decide +kernel
theorem d_Layer_childAt_37 : decode c_Layer_childAt 37 = .ok (.iaload, 1) := by decide +kernel
theorem d_Layer_childAt_38 : decode c_Layer_childAt 38 = .ok (.aload_n 0, 1) := by decide +kernel
theorem d_Layer_childAt_39 : decode c_Layer_childAt 39 = .ok (.getfield 9, 3) := by decide +kernel
theorem d_Layer_childAt_42 : decode c_Layer_childAt 42 = .ok (.iload_n 1, 1) := by decide +kernel
theorem d_Layer_childAt_43 : decode c_Layer_childAt 43 = .ok (.iaload, 1) := by decide +kernel
theorem d_Layer_childAt_44 : decode c_Layer_childAt 44 = .ok (.isub, 1) := by decide +kernel
theorem d_Layer_childAt_45 : decode c_Layer_childAt 45 = .ok (.if_icmp .ge 14, 3) := by decide +kernel
theorem d_Layer_childAt_48 : decode c_Layer_childAt 48 = .ok (.aload_n 0, 1) := by decide +kernel
theorem d_Layer_childAt_49 : decode c_Layer_childAt 49 = .ok (.getfield 9, 3) := by decide +kernel
theorem d_Layer_childAt_52 : decode c_Layer_childAt 52 = .ok (.iload_n 1, 1) := by decide +kernel
theorem d_Layer_childAt_53 : decode c_Layer_childAt 53 = .ok (.iaload, 1) := by decide +kernel
theorem d_Layer_childAt_54 : decode c_Layer_childAt 54 = .ok (.iload_n 2, 1) := by decide +kernel
theorem d_Layer_childAt_55 : decode c_Layer_childAt 55 = .ok (.iadd, 1) := by decide +kernel
theorem d_Layer_childAt_56 : decode c_Layer_childAt 56 = .ok (.goto 4, 3) := by decide +kernel
theorem d_Layer_childAt_59 : decode c_Layer_childAt 59 = .ok (.iconst (-1), 1) := by decide +kernel
theorem d_Layer_childAt_60 : decode c_Layer_childAt 60 = .ok (.ireturn, 1) := by decide +kernel
theorem d_Message_init_0 : decode c_Message_init 0 = .ok (.aload_n 0, 1) := by decide +kernel
theorem d_Message_init_1 : decode c_Message_init 1 = .ok (.invokespecial 3, 3) := by decide +kernel
theorem d_Message_init_4 : decode c_Message_init 4 = .ok (.aload_n 0, 1) := by decide +kernel
theorem d_Message_init_5 : decode c_Message_init 5 = .ok (.bipush 60, 2) := by decide +kernel
theorem d_Message_init_7 : decode c_Message_init 7 = .ok (.newarray .int, 2) := by decide +kernel
theorem d_Message_init_9 : decode c_Message_init 9 = .ok (.putfield 9, 3) := by decide +kernel
theorem d_Message_init_12 : decode c_Message_init 12 = .ok (.aload_n 0, 1) := by decide +kernel
theorem d_Message_init_13 : decode c_Message_init 13 = .ok (.new 15, 3) := by decide +kernel
theorem d_Message_init_16 : decode c_Message_init 16 = .ok (.dup, 1) := by decide +kernel
theorem d_Message_init_17 : decode c_Message_init 17 = .ok (.bipush 60, 2) := by decide +kernel
theorem d_Message_init_19 : decode c_Message_init 19 = .ok (.invokespecial 17, 3) := by decide +kernel
theorem d_Message_init_22 : decode c_Message_init 22 = .ok (.putfield 20, 3) := by decide +kernel
theorem d_Message_init_25 : decode c_Message_init 25 = .ok (.aload_n 0, 1) := by decide +kernel
theorem d_Message_init_26 : decode c_Message_init 26 = .ok (.new 15, 3) := by decide +kernel
theorem d_Message_init_29 : decode c_Message_init 29 = .ok (.dup, 1) := by decide +kernel
theorem d_Message_init_30 : decode c_Message_init 30 = .ok (.sipush 1200, 3) := by decide +kernel
theorem d_Message_init_33 : decode c_Message_init 33 = .ok (.invokespecial 17, 3) := by decide +kernel
theorem d_Message_init_36 : decode c_Message_init 36 = .ok (.putfield 24, 3) := by decide +kernel
theorem d_Message_init_39 : decode c_Message_init 39 = .ok (.aload_n 0, 1) := by decide +kernel
theorem d_Message_init_40 : decode c_Message_init 40 = .ok (.new 15, 3) := by decide +kernel
theorem d_Message_init_43 : decode c_Message_init 43 = .ok (.dup, 1) := by decide +kernel
theorem d_Message_init_44 : decode c_Message_init 44 = .ok (.sipush 1500, 3) := by decide +kernel
theorem d_Message_init_47 : decode c_Message_init 47 = .ok (.invokespecial 17, 3) := by decide +kernel
theorem d_Message_init_50 : decode c_Message_init 50 = .ok (.putfield 27, 3) := by decide +kernel
theorem d_Message_init_53 : decode c_Message_init 53 = .ok (.aload_n 0, 1) := by decide +kernel
theorem d_Message_init_54 : decode c_Message_init 54 = .ok (.new 15, 3) := by decide +kernel
theorem d_Message_init_57 : decode c_Message_init 57 = .ok (.dup, 1) := by decide +kernel
theorem d_Message_init_58 : decode c_Message_init 58 = .ok (.sipush 1500, 3) := by decide +kernel
theorem d_Message_init_61 : decode c_Message_init 61 = .ok (.invokespecial 17, 3) := by decide +kernel
theorem d_Message_init_64 : decode c_Message_init 64 = .ok (.putfield 30, 3) := by decide +kernel
theorem d_Message_init_67 : decode c_Message_init 67 = .ok (.aload_n 0, 1) := by decide +kernel
theorem d_Message_init_68 : decode c_Message_init 68 = .ok (.new 33, 3) := by decide +kernel
theorem d_Message_init_71 : decode c_Message_init 71 = .ok (.dup, 1) := by decide +kernel
theorem d_Message_init_72 : decode c_Message_init 72 = .ok (.invokespecial 35, 3) := by decide +kernel
theorem d_Message_init_75 : decode c_Message_init 75 = .ok (.putfield 36, 3) := by decide +kernel
theorem d_Message_init_78 : decode c_Message_init 78 = .ok (.return_, 1) := by decide +kernel
theorem d_Message_clear_0 : decode c_Message_clear 0 = .ok (.aload_n 0, 1) := by decide +kernel
theorem d_Message_clear_1 : decode c_Message_clear 1 = .ok (.getfield 20, 3) := by decide +kernel
theorem d_Message_clear_4 : decode c_Message_clear 4 = .ok (.invokevirtual 40, 3) := by decide +kernel
theorem d_Message_clear_7 : decode c_Message_clear 7 = .ok (.aload_n 0, 1) := by decide +kernel
theorem d_Message_clear_8 : decode c_Message_clear 8 = .ok (.getfield 24, 3) := by decide +kernel
theorem d_Message_clear_11 : decode c_Message_clear 11 = .ok (.invokevirtual 40, 3) := by decide +kernel
theorem d_Message_clear_14 : decode c_Message_clear 14 = .ok (.aload_n 0, 1) := by decide +kernel
theorem d_Message_clear_15 : decode c_Message_clear 15 = .ok (.getfield 27, 3) := by decide +kernel
theorem d_Message_clear_18 : decode c_Message_clear 18 = .ok (.invokevirtual 40, 3) := by decide +kernel
theorem d_Message_clear_21 : decode c_Message_clear 21 = .ok (.aload_n 0, 1) := by decide +kernel
theorem d_Message_clear_22 : decode c_Message_clear 22 = .ok (.getfield 30, 3) := by decide +kernel
theorem d_Message_clear_25 : decode c_Message_clear 25 = .ok (.invokevirtual 40, 3) := by decide +kernel
theorem d_Message_clear_28 : decode c_Message_clear 28 = .ok (.aload_n 0, 1) := by decide +kernel
theorem d_Message_clear_29 : decode c_Message_clear 29 = .ok (.getfield 36, 3) := by decide +kernel
theorem d_Message_clear_32 : decode c_Message_clear 32 = .ok (.invokevirtual 43, 3) := by decide +kernel
theorem d_Message_clear_35 : decode c_Message_clear 35 = .ok (.return_, 1) := by decide +kernel
theorem d_Message_isThere_0 : decode c_Message_isThere 0 = .ok (.aload_n 0, 1) := by decide +kernel
theorem d_Message_isThere_1 : decode c_Message_isThere 1 = .ok (.getfield 20, 3) := by decide +kernel
theorem d_Message_isThere_4 : decode c_Message_isThere 4 = .ok (.invokevirtual 44, 3) := by decide +kernel
theorem d_Message_isThere_7 : decode c_Message_isThere 7 = .ok (.ifCond .le 7, 3) := by decide +kernel
theorem d_Message_isThere_10 : decode c_Message_isThere 10 = .ok (.iconst 1, 1) := by decide +kernel
theorem d_Message_isThere_11 : decode c_Message_isThere 11 = .ok (.goto 4, 3) := by decide +kernel
theorem d_Message_isThere_14 : decode c_Message_isThere 14 = .ok (.iconst 0, 1) := by decide +kernel
theorem d_Message_isThere_15 : decode c_Message_isThere 15 = .ok (.ireturn, 1) := by decide +kernel
theorem d_Message_isFull_0 : decode c_Message_isFull 0 = .ok (.aload_n 0, 1) := by decide +kernel
theorem d_Message_isFull_1 : decode c_Message_isFull 1 = .ok (.getfield 20, 3) := by decide +kernel
theorem d_Message_isFull_4 : decode c_Message_isFull 4 = .ok (.invokevirtual 44, 3) := by decide +kernel
theorem d_Message_isFull_7 : decode c_Message_isFull 7 = .ok (.bipush 60, 2) := by decide +kernel
theorem d_Message_isFull_9 : decode c_Message_isFull 9 = .ok (.if_icmp .lt 7, 3) := by decide +kernel
theorem d_Message_isFull_12 : decode c_Message_isFull 12 = .ok (.iconst 1, 1) := by decide +kernel
theorem d_Message_isFull_13 : decode c_Message_isFull 13 = .ok (.goto 4, 3) := by decide +kernel
theorem d_Message_isFull_16 : decode c_Message_isFull 16 = .ok (.iconst 0, 1) := by decide +kernel
theorem d_Message_isFull_17 : decode c_Message_isFull 17 = .ok (.ireturn, 1) := by decide +kernel
theorem d_Message_size_0 : decode c_Message_size 0 = .ok (.aload_n 0, 1) := by decide +kernel
theorem d_Message_size_1 : decode c_Message_size 1 = .ok (.getfield 20, 3) := by decide +kernel
theorem d_Message_size_4 : decode c_Message_size 4 = .ok (.invokevirtual 44, 3) := by decide +kernel
theorem d_Message_size_7 : decode c_Message_size 7 = .ok (.ireturn, 1) := by decide +kernel
theorem d_Message_openSegment_0 : decode c_Message_openSegment 0 = .ok (.aload_n 0, 1) := by decide +kernel
theorem d_Message_openSegment_1 : decode c_Message_openSegment 1 = .ok (.getfield 20, 3) := by decide +kernel
theorem d_Message_openSegment_4 : decode c_Message_openSegment 4 = .ok (.invokevirtual 44, 3) := by decide +kernel
theorem d_Message_openSegment_7 : decode c_Message_openSegment 7 = .ok (.istore_n 2, 1) := by decide +kernel
theorem d_Message_openSegment_8 : decode c_Message_openSegment 8 = .ok (.iload_n 2, 1) := by decide +kernel
theorem d_Message_openSegment_9 : decode c_Message_openSegment 9 = .ok (.ifCond .lt 22, 3) := by decide +kernel
theorem d_Message_openSegment_12 : decode c_Message_openSegment 12 = .ok (.iload_n 2, 1) := by decide +kernel
theorem d_Message_openSegment_13 : decode c_Message_openSegment 13 = .ok (.aload_n 0, 1) := by decide +kernel
theorem d_Message_openSegment_14 : decode c_Message_openSegment 14 = .ok (.getfield 9, 3) := by decide +kernel
theorem d_Message_openSegment_17 : decode c_Message_openSegment 17 = .ok (.arraylength, 1) := by decide +kernel
theorem d_Message_openSegment_18 : decode c_Message_openSegment 18 = .ok (.if_icmp .ge 13, 3) := by decide +kernel
theorem d_Message_openSegment_21 : decode c_Message_openSegment 21 = .ok (.aload_n 0, 1) := by decide +kernel
theorem d_Message_openSegment_22 : decode c_Message_openSegment 22 = .ok (.getfield 20, 3) := by decide +kernel
theorem d_Message_openSegment_25 : decode c_Message_openSegment 25 = .ok (.invokevirtual 48, 3) := by decide +kernel
theorem d_Message_openSegment_28 : decode c_Message_openSegment 28 = .ok (.ifCond .ne 5, 3) := by decide +kernel
theorem d_Message_openSegment_31 : decode c_Message_openSegment 31 = .ok (.iconst 0, 1) := by decide +kernel
theorem d_Message_openSegment_32 : decode c_Message_openSegment 32 = .ok (.ireturn, 1) := by decide +kernel
theorem d_Message_openSegment_33 : decode c_Message_openSegment 33 = .ok (.aload_n 0, 1) := by decide +kernel
theorem d_Message_openSegment_34 : decode c_Message_openSegment 34 = .ok (.getfield 9, 3) := by decide +kernel
theorem d_Message_openSegment_37 : decode c_Message_openSegment 37 = .ok (.iload_n 2, 1) := by decide +kernel
theorem d_Message_openSegment_38 : decode c_Message_openSegment 38 = .ok (.iload_n 1, 1) := by decide +kernel
theorem d_Message_openSegment_39 : decode c_Message_openSegment 39 = .ok (.iastore, 1) := by decide +kernel
theorem d_Message_openSegment_40 : decode c_Message_openSegment 40 = .ok (.iconst 1, 1) := by decide +kernel
theorem d_Message_openSegment_41 : decode c_Message_openSegment 41 = .ok (.ireturn, 1) := by decide +kernel
theorem d_Message_openElement_0 : decode c_Message_openElement 0 = .ok (.aload_n 0, 1) := by decide +kernel
theorem d_Message_openElement_1 : decode c_Message_openElement 1 = .ok (.getfield 20, 3) := by decide +kernel
theorem d_Message_openElement_4 : decode c_Message_openElement 4 = .ok (.bipush 20, 2) := by decide +kernel
theorem d_Message_openElement_6 : decode c_Message_openElement 6 = .ok (.aload_n 0, 1) := by decide +kernel
theorem d_Message_openElement_7 : decode c_Message_openElement 7 = .ok (.getfield 24, 3) := by decide +kernel
theorem d_Message_openElement_10 : decode c_Message_openElement 10 = .ok (.invokestatic 52, 3) := by decide +kernel
theorem d_Message_openElement_13 : decode c_Message_openElement 13 = .ok (.ifCond .eq 38, 3) := by decide +kernel
theorem d_Message_openElement_16 : decode c_Message_openElement 16 = .ok (.aload_n 0, 1) := by decide +kernel
theorem d_Message_openElement_17 : decode c_Message_openElement 17 = .ok (.getfield 24, 3) := by decide +kernel
theorem d_Message_openElement_20 : decode c_Message_openElement 20 = .ok (.iconst 4, 1) := by decide +kernel
theorem d_Message_openElement_21 : decode c_Message_openElement 21 = .ok (.aload_n 0, 1) := by decide +kernel
theorem d_Message_openElement_22 : decode c_Message_openElement 22 = .ok (.getfield 27, 3) := by decide +kernel
theorem d_Message_openElement_25 : decode c_Message_openElement 25 = .ok (.invokestatic 52, 3) := by decide +kernel
theorem d_Message_openElement_28 : decode c_Message_openElement 28 = .ok (.ifCond .eq 23, 3) := by decide +kernel
theorem d_Message_openElement_31 : decode c_Message_openElement 31 = .ok (.aload_n 0, 1) := by decide +kernel
theorem d_Message_openElement_32 : decode c_Message_openElement 32 = .ok (.getfield 27, 3) := by decide +kernel
theorem d_Message_openElement_35 : decode c_Message_openElement 35 = .ok (.bipush 8, 2) := by decide +kernel
theorem d_Message_openElement_37 : decode c_Message_openElement 37 = .ok (.aload_n 0, 1) := by decide +kernel
theorem d_Message_openElement_38 : decode c_Message_openElement 38 = .ok (.getfield 30, 3) := by decide +kernel
theorem d_Message_openElement_41 : decode c_Message_openElement 41 = .ok (.invokestatic 52, 3) := by decide +kernel
theorem d_Message_openElement_44 : decode c_Message_openElement 44 = .ok (.ifCond .eq 7, 3) := by decide +kernel
theorem d_Message_openElement_47 : decode c_Message_openElement 47 = .ok (.iconst 1, 1) := by decide +kernel
theorem d_Message_openElement_48 : decode c_Message_openElement 48 = .ok (.goto 4, 3) := by decide +kernel
theorem d_Message_openElement_51 : decode c_Message_openElement 51 = .ok (.iconst 0, 1) := by decide +kernel
theorem d_Message_openElement_52 : decode c_Message_openElement 52 = .ok (.ireturn, 1) := by decide +kernel
theorem d_Message_openRepeat_0 : decode c_Message_openRepeat 0 = .ok (.aload_n 0, 1) := by decide +kernel
theorem d_Message_openRepeat_1 : decode c_Message_openRepeat 1 = .ok (.getfield 24, 3) := by decide +kernel
theorem d_Message_openRepeat_4 : decode c_Message_openRepeat 4 = .ok (.iconst 4, 1) := by decide +kernel
theorem d_Message_openRepeat_5 : decode c_Message_openRepeat 5 = .ok (.aload_n 0, 1) := by decide +kernel
theorem d_Message_openRepeat_6 : decode c_Message_openRepeat 6 = .ok (.getfield 27, 3) := by decide +kernel
theorem d_Message_openRepeat_9 : decode c_Message_openRepeat 9 = .ok (.invokestatic 52, 3) := by decide +kernel
theorem d_Message_openRepeat_12 : decode c_Message_openRepeat 12 = .ok (.ifCond .eq 23, 3) := by decide +kernel
theorem d_Message_openRepeat_15 : decode c_Message_openRepeat 15 = .ok (.aload_n 0, 1) := by decide +kernel
theorem d_Message_openRepeat_16 : decode c_Message_openRepeat 16 = .ok (.getfield 27, 3) := by decide +kernel
theorem d_Message_openRepeat_19 : decode c_Message_openRepeat 19 = .ok (.bipush 8, 2) := by decide +kernel
theorem d_Message_openRepeat_21 : decode c_Message_openRepeat 21 = .ok (.aload_n 0, 1) := by decide +kernel
theorem d_Message_openRepeat_22 : decode c_Message_openRepeat 22 = .ok (.getfield 30, 3) := by decide +kernel
theorem d_Message_openRepeat_25 : decode c_Message_openRepeat 25 = .ok (.invokestatic 52, 3) := by decide +kernel
theorem d_Message_openRepeat_28 : decode c_Message_openRepeat 28 = .ok (.ifCond .eq 7, 3) := by decide +kernel
theorem d_Message_openRepeat_31 : decode c_Message_openRepeat 31 = .ok (.iconst 1, 1) := by decide +kernel
theorem d_Message_openRepeat_32 : decode c_Message_openRepeat 32 = .ok (.goto 4, 3) := by decide +kernel
theorem d_Message_openRepeat_35 : decode c_Message_openRepeat 35 = .ok (.iconst 0, 1) := by decide +kernel
theorem d_Message_openRepeat_36 : decode c_Message_openRepeat 36 = .ok (.ireturn, 1) := by decide +kernel
theorem d_Message_openComponent_0 : decode c_Message_openComponent 0 = .ok (.aload_n 0, 1) := by decide +kernel
theorem d_Message_openComponent_1 : decode c_Message_openComponent 1 = .ok (.getfield 27, 3) := by decide +kernel
theorem d_Message_openComponent_4 : decode c_Message_openComponent 4 = .ok (.bipush 8, 2) := by decide +kernel
theorem d_Message_openComponent_6 : decode c_Message_openComponent 6 = .ok (.aload_n 0, 1) := by decide +kernel
theorem d_Message_openComponent_7 : decode c_Message_openComponent 7 = .ok (.getfield 30, 3) := by decide +kernel
theorem d_Message_openComponent_10 : decode c_Message_openComponent 10 = .ok (.invokestatic 52, 3) := by decide +kernel
theorem d_Message_openComponent_13 : decode c_Message_openComponent 13 = .ok (.ireturn, 1) := by decide +kernel
theorem d_Message_openBelow_0 : decode c_Message_openBelow 0 = .ok (.aload_n 0, 1) := by decide +kernel
theorem d_Message_openBelow_1 : decode c_Message_openBelow 1 = .ok (.invokevirtual 56, 3) := by decide +kernel
theorem d_Message_openBelow_4 : decode c_Message_openBelow 4 = .ok (.iload_n 1, 1) := by decide +kernel
theorem d_Message_openBelow_5 : decode c_Message_openBelow 5 = .ok (.if_icmp .ge 10, 3) := by decide +kernel
theorem d_Message_openBelow_8 : decode c_Message_openBelow 8 = .ok (.aload_n 2, 1) := by decide +kernel
theorem d_Message_openBelow_9 : decode c_Message_openBelow 9 = .ok (.invokevirtual 48, 3) := by decide +kernel
theorem d_Message_openBelow_12 : decode c_Message_openBelow 12 = .ok (.ifCond .ne 5, 3) := by decide +kernel
theorem d_Message_openBelow_15 : decode c_Message_openBelow 15 = .ok (.iconst 0, 1) := by decide +kernel
theorem d_Message_openBelow_16 : decode c_Message_openBelow 16 = .ok (.ireturn, 1) := by decide +kernel
theorem d_Message_openBelow_17 : decode c_Message_openBelow 17 = .ok (.aload_n 0, 1) := by decide +kernel
theorem d_Message_openBelow_18 : decode c_Message_openBelow 18 = .ok (.invokevirtual 59, 3) := by decide +kernel
theorem d_Message_openBelow_21 : decode c_Message_openBelow 21 = .ok (.iconst 1, 1) := by decide +kernel
theorem d_Message_openBelow_22 : decode c_Message_openBelow 22 = .ok (.ireturn, 1) := by decide +kernel
theorem d_Message_appendLetter_0 : decode c_Message_appendLetter 0 = .ok (.aload_n 0, 1) := by decide +kernel
theorem d_Message_appendLetter_1 : decode c_Message_appendLetter 1 = .ok (.getfield 36, 3) := by decide +kernel
theorem d_Message_appendLetter_4 : decode c_Message_appendLetter 4 = .ok (.iload_n 1, 1) := by decide +kernel
theorem d_Message_appendLetter_5 : decode c_Message_appendLetter 5 = .ok (.invokevirtual 62, 3) := by decide +kernel
theorem d_Message_appendLetter_8 : decode c_Message_appendLetter 8 = .ok (.ifCond .ne 5, 3) := by decide +kernel
theorem d_Message_appendLetter_11 : decode c_Message_appendLetter 11 = .ok (.iconst 0, 1) := by decide +kernel
theorem d_Message_appendLetter_12 : decode c_Message_appendLetter 12 = .ok (.ireturn, 1) := by decide +kernel
theorem d_Message_appendLetter_13 : decode c_Message_appendLetter 13 = .ok (.aload_n 0, 1) := by decide +kernel
end
section
theorem d_Message_appendLetter_14 : decode c_Message_appendLetter 14 = .ok (.getfield 30, 3) := by decide +kernel
theorem d_Message_appendLetter_17 : decode c_Message_appendLetter 17 = .ok (.invokevirtual 59, 3) := by decide +kernel
theorem d_Message_appendLetter_20 : decode c_Message_appendLetter 20 = .ok (.iconst 1, 1) := by decide +kernel
theorem d_Message_appendLetter_21 : decode c_Message_appendLetter 21 = .ok (.ireturn, 1) := by decide +kernel
theorem d_Message_tagOf_0 : decode c_Message_tagOf 0 = .ok (.iload_n 1, 1) := by decide +kernel
theorem d_Message_tagOf_1 : decode c_Message_tagOf 1 = .ok (.ifCond .lt 32, 3) := by decide +kernel
theorem d_Message_tagOf_4 : decode c_Message_tagOf 4 = .ok (.iload_n 1, 1) := by decide +kernel
theorem d_Message_tagOf_5 : decode c_Message_tagOf 5 = .ok (.aload_n 0, 1) := by decide +kernel
theorem d_Message_tagOf_6 : decode c_Message_tagOf 6 = .ok (.getfield 20, 3) := by decide +kernel
theorem d_Message_tagOf_9 : decode c_Message_tagOf 9 = .ok (.invokevirtual 44, 3) := by decide +kernel
theorem d_Message_tagOf_12 : decode c_Message_tagOf 12 = .ok (.if_icmp .ge 21, 3) := by decide +kernel
theorem d_Message_tagOf_15 : decode c_Message_tagOf 15 = .ok (.iload_n 1, 1) := by decide +kernel
theorem d_Message_tagOf_16 : decode c_Message_tagOf 16 = .ok (.aload_n 0, 1) := by decide +kernel
theorem d_Message_tagOf_17 : decode c_Message_tagOf 17 = .ok (.getfield 9, 3) := by decide +kernel
theorem d_Message_tagOf_20 : decode c_Message_tagOf 20 = .ok (.arraylength, 1) := by decide +kernel
theorem d_Message_tagOf_21 : decode c_Message_tagOf 21 = .ok (.if_icmp .ge 12, 3) := by decide +kernel
theorem d_Message_tagOf_24 : decode c_Message_tagOf 24 = .ok (.aload_n 0, 1) := by decide +kernel
theorem d_Message_tagOf_25 : decode c_Message_tagOf 25 = .ok (.getfield 9, 3) := by decide +kernel
theorem d_Message_tagOf_28 : decode c_Message_tagOf 28 = .ok (.iload_n 1, 1) := by decide +kernel
theorem d_Message_tagOf_29 : decode c_Message_tagOf 29 = .ok (.iaload, 1) := by decide +kernel
theorem d_Message_tagOf_30 : decode c_Message_tagOf 30 = .ok (.goto 4, 3) := by decide +kernel
theorem d_Message_tagOf_33 : decode c_Message_tagOf 33 = .ok (.iconst (-1), 1) := by decide +kernel
theorem d_Message_tagOf_34 : decode c_Message_tagOf 34 = .ok (.ireturn, 1) := by decide +kernel
theorem d_Message_elementsOf_0 : decode c_Message_elementsOf 0 = .ok (.aload_n 0, 1) := by decide +kernel
theorem d_Message_elementsOf_1 : decode c_Message_elementsOf 1 = .ok (.getfield 20, 3) := by decide +kernel
theorem d_Message_elementsOf_4 : decode c_Message_elementsOf 4 = .ok (.iload_n 1, 1) := by decide +kernel
theorem d_Message_elementsOf_5 : decode c_Message_elementsOf 5 = .ok (.invokevirtual 66, 3) := by decide +kernel
theorem d_Message_elementsOf_8 : decode c_Message_elementsOf 8 = .ok (.ireturn, 1) := by decide +kernel
theorem d_Message_elementAt_0 : decode c_Message_elementAt 0 = .ok (.aload_n 0, 1) := by decide +kernel
theorem d_Message_elementAt_1 : decode c_Message_elementAt 1 = .ok (.getfield 20, 3) := by decide +kernel
theorem d_Message_elementAt_4 : decode c_Message_elementAt 4 = .ok (.iload_n 1, 1) := by decide +kernel
theorem d_Message_elementAt_5 : decode c_Message_elementAt 5 = .ok (.iload_n 2, 1) := by decide +kernel
theorem d_Message_elementAt_6 : decode c_Message_elementAt 6 = .ok (.invokevirtual 70, 3) := by decide +kernel
theorem d_Message_elementAt_9 : decode c_Message_elementAt 9 = .ok (.ireturn, 1) := by decide +kernel
theorem d_Message_repeatsOf_0 : decode c_Message_repeatsOf 0 = .ok (.aload_n 0, 1) := by decide +kernel
theorem d_Message_repeatsOf_1 : decode c_Message_repeatsOf 1 = .ok (.getfield 24, 3) := by decide +kernel
theorem d_Message_repeatsOf_4 : decode c_Message_repeatsOf 4 = .ok (.iload_n 1, 1) := by decide +kernel
theorem d_Message_repeatsOf_5 : decode c_Message_repeatsOf 5 = .ok (.invokevirtual 66, 3) := by decide +kernel
theorem d_Message_repeatsOf_8 : decode c_Message_repeatsOf 8 = .ok (.ireturn, 1) := by decide +kernel
theorem d_Message_repeatAt_0 : decode c_Message_repeatAt 0 = .ok (.aload_n 0, 1) := by decide +kernel
theorem d_Message_repeatAt_1 : decode c_Message_repeatAt 1 = .ok (.getfield 24, 3) := by decide +kernel
theorem d_Message_repeatAt_4 : decode c_Message_repeatAt 4 = .ok (.iload_n 1, 1) := by decide +kernel
theorem d_Message_repeatAt_5 : decode c_Message_repeatAt 5 = .ok (.iload_n 2, 1) := by decide +kernel
theorem d_Message_repeatAt_6 : decode c_Message_repeatAt 6 = .ok (.invokevirtual 70, 3) := by decide +kernel
theorem d_Message_repeatAt_9 : decode c_Message_repeatAt 9 = .ok (.ireturn, 1) := by decide +kernel
theorem d_Message_componentsOf_0 : decode c_Message_componentsOf 0 = .ok (.aload_n 0, 1) := by decide +kernel
theorem d_Message_componentsOf_1 : decode c_Message_componentsOf 1 = .ok (.getfield 27, 3) := by decide +kernel
theorem d_Message_componentsOf_4 : decode c_Message_componentsOf 4 = .ok (.iload_n 1, 1) := by decide +kernel
theorem d_Message_componentsOf_5 : decode c_Message_componentsOf 5 = .ok (.invokevirtual 66, 3) := by decide +kernel
theorem d_Message_componentsOf_8 : decode c_Message_componentsOf 8 = .ok (.ireturn, 1) := by decide +kernel
theorem d_Message_componentAt_0 : decode c_Message_componentAt 0 = .ok (.aload_n 0, 1) := by decide +kernel
theorem d_Message_componentAt_1 : decode c_Message_componentAt 1 = .ok (.getfield 27, 3) := by decide +kernel
theorem d_Message_componentAt_4 : decode c_Message_componentAt 4 = .ok (.iload_n 1, 1) := by decide +kernel
theorem d_Message_componentAt_5 : decode c_Message_componentAt 5 = .ok (.iload_n 2, 1) := by decide +kernel
theorem d_Message_componentAt_6 : decode c_Message_componentAt 6 = .ok (.invokevirtual 70, 3) := by decide +kernel
theorem d_Message_componentAt_9 : decode c_Message_componentAt 9 = .ok (.ireturn, 1) := by decide +kernel
theorem d_Message_lettersOf_0 : decode c_Message_lettersOf 0 = .ok (.aload_n 0, 1) := by decide +kernel
theorem d_Message_lettersOf_1 : decode c_Message_lettersOf 1 = .ok (.getfield 30, 3) := by decide +kernel
theorem d_Message_lettersOf_4 : decode c_Message_lettersOf 4 = .ok (.iload_n 1, 1) := by decide +kernel
theorem d_Message_lettersOf_5 : decode c_Message_lettersOf 5 = .ok (.invokevirtual 66, 3) := by decide +kernel
theorem d_Message_lettersOf_8 : decode c_Message_lettersOf 8 = .ok (.ireturn, 1) := by decide +kernel
theorem d_Message_letterAt_0 : decode c_Message_letterAt 0 = .ok (.aload_n 0, 1) := by decide +kernel
theorem d_Message_letterAt_1 : decode c_Message_letterAt 1 = .ok (.getfield 30, 3) := by decide +kernel
theorem d_Message_letterAt_4 : decode c_Message_letterAt 4 = .ok (.iload_n 1, 1) := by decide +kernel
theorem d_Message_letterAt_5 : decode c_Message_letterAt 5 = .ok (.iload_n 2, 1) := by decide +kernel
theorem d_Message_letterAt_6 : decode c_Message_letterAt 6 = .ok (.invokevirtual 70, 3) := by decide +kernel
theorem d_Message_letterAt_9 : decode c_Message_letterAt 9 = .ok (.istore_n 3, 1) := by decide +kernel
theorem d_Message_letterAt_10 : decode c_Message_letterAt 10 = .ok (.iload_n 3, 1) := by decide +kernel
theorem d_Message_letterAt_11 : decode c_Message_letterAt 11 = .ok (.iconst (-1), 1) := by decide +kernel
theorem d_Message_letterAt_12 : decode c_Message_letterAt 12 = .ok (.if_icmp .ne 7, 3) := by decide +kernel
theorem d_Message_letterAt_15 : decode c_Message_letterAt 15 = .ok (.iconst (-1), 1) := by decide +kernel
theorem d_Message_letterAt_16 : decode c_Message_letterAt 16 = .ok (.goto 11, 3) := by decide +kernel
theorem d_Message_letterAt_19 : decode c_Message_letterAt 19 = .ok (.aload_n 0, 1) := by decide +kernel
theorem d_Message_letterAt_20 : decode c_Message_letterAt 20 = .ok (.getfield 36, 3) := by decide +kernel
theorem d_Message_letterAt_23 : decode c_Message_letterAt 23 = .ok (.iload_n 3, 1) := by decide +kernel
theorem d_Message_letterAt_24 : decode c_Message_letterAt 24 = .ok (.invokevirtual 74, 3) := by decide +kernel
theorem d_Message_letterAt_27 : decode c_Message_letterAt 27 = .ok (.ireturn, 1) := by decide +kernel
theorem d_Message_findComponent_0 : decode c_Message_findComponent 0 = .ok (.aload_n 0, 1) := by decide +kernel
theorem d_Message_findComponent_1 : decode c_Message_findComponent 1 = .ok (.aload_n 0, 1) := by decide +kernel
theorem d_Message_findComponent_2 : decode c_Message_findComponent 2 = .ok (.aload_n 0, 1) := by decide +kernel
theorem d_Message_findComponent_3 : decode c_Message_findComponent 3 = .ok (.iload_n 1, 1) := by decide +kernel
theorem d_Message_findComponent_4 : decode c_Message_findComponent 4 = .ok (.iload_n 2, 1) := by decide +kernel
theorem d_Message_findComponent_5 : decode c_Message_findComponent 5 = .ok (.invokevirtual 77, 3) := by decide +kernel
theorem d_Message_findComponent_8 : decode c_Message_findComponent 8 = .ok (.iload_n 3, 1) := by decide +kernel
theorem d_Message_findComponent_9 : decode c_Message_findComponent 9 = .ok (.invokevirtual 80, 3) := by decide +kernel
theorem d_Message_findComponent_12 : decode c_Message_findComponent 12 = .ok (.iload 4, 2) := by decide +kernel
theorem d_Message_findComponent_14 : decode c_Message_findComponent 14 = .ok (.invokevirtual 83, 3) := by decide +kernel
theorem d_Message_findComponent_17 : decode c_Message_findComponent 17 = .ok (.ireturn, 1) := by decide +kernel
theorem d_Message_areSame_0 : decode c_Message_areSame 0 = .ok (.aload_n 0, 1) := by decide +kernel
theorem d_Message_areSame_1 : decode c_Message_areSame 1 = .ok (.iload_n 1, 1) := by decide +kernel
theorem d_Message_areSame_2 : decode c_Message_areSame 2 = .ok (.invokevirtual 86, 3) := by decide +kernel
theorem d_Message_areSame_5 : decode c_Message_areSame 5 = .ok (.istore_n 3, 1) := by decide +kernel
theorem d_Message_areSame_6 : decode c_Message_areSame 6 = .ok (.iload_n 1, 1) := by decide +kernel
theorem d_Message_areSame_7 : decode c_Message_areSame 7 = .ok (.iconst (-1), 1) := by decide +kernel
theorem d_Message_areSame_8 : decode c_Message_areSame 8 = .ok (.if_icmp .eq 17, 3) := by decide +kernel
theorem d_Message_areSame_11 : decode c_Message_areSame 11 = .ok (.iload_n 2, 1) := by decide +kernel
theorem d_Message_areSame_12 : decode c_Message_areSame 12 = .ok (.iconst (-1), 1) := by decide +kernel
theorem d_Message_areSame_13 : decode c_Message_areSame 13 = .ok (.if_icmp .eq 12, 3) := by decide +kernel
theorem d_Message_areSame_16 : decode c_Message_areSame 16 = .ok (.iload_n 3, 1) := by decide +kernel
theorem d_Message_areSame_17 : decode c_Message_areSame 17 = .ok (.aload_n 0, 1) := by decide +kernel
theorem d_Message_areSame_18 : decode c_Message_areSame 18 = .ok (.iload_n 2, 1) := by decide +kernel
theorem d_Message_areSame_19 : decode c_Message_areSame 19 = .ok (.invokevirtual 86, 3) := by decide +kernel
theorem d_Message_areSame_22 : decode c_Message_areSame 22 = .ok (.if_icmp .eq 5, 3) := by decide +kernel
theorem d_Message_areSame_25 : decode c_Message_areSame 25 = .ok (.iconst 0, 1) := by decide +kernel
theorem d_Message_areSame_26 : decode c_Message_areSame 26 = .ok (.ireturn, 1) := by decide +kernel
theorem d_Message_areSame_27 : decode c_Message_areSame 27 = .ok (.iconst 0, 1) := by decide +kernel
theorem d_Message_areSame_28 : decode c_Message_areSame 28 = .ok (.istore 4, 2) := by decide +kernel
theorem d_Message_areSame_30 : decode c_Message_areSame 30 = .ok (.iload 4, 2) := by decide +kernel
theorem d_Message_areSame_32 : decode c_Message_areSame 32 = .ok (.iload_n 3, 1) := by decide +kernel
theorem d_Message_areSame_33 : decode c_Message_areSame 33 = .ok (.if_icmp .ge 28, 3) := by decide +kernel
theorem d_Message_areSame_36 : decode c_Message_areSame 36 = .ok (.aload_n 0, 1) := by decide +kernel
theorem d_Message_areSame_37 : decode c_Message_areSame 37 = .ok (.iload_n 1, 1) := by decide +kernel
theorem d_Message_areSame_38 : decode c_Message_areSame 38 = .ok (.iload 4, 2) := by decide +kernel
theorem d_Message_areSame_40 : decode c_Message_areSame 40 = .ok (.invokevirtual 89, 3) := by decide +kernel
theorem d_Message_areSame_43 : decode c_Message_areSame 43 = .ok (.aload_n 0, 1) := by decide +kernel
theorem d_Message_areSame_44 : decode c_Message_areSame 44 = .ok (.iload_n 2, 1) := by decide +kernel
theorem d_Message_areSame_45 : decode c_Message_areSame 45 = .ok (.iload 4, 2) := by decide +kernel
theorem d_Message_areSame_47 : decode c_Message_areSame 47 = .ok (.invokevirtual 89, 3) := by decide +kernel
theorem d_Message_areSame_50 : decode c_Message_areSame 50 = .ok (.if_icmp .eq 5, 3) := by decide +kernel
theorem d_Message_areSame_53 : decode c_Message_areSame 53 = .ok (.iconst 0, 1) := by decide +kernel
theorem d_Message_areSame_54 : decode c_Message_areSame 54 = .ok (.ireturn, 1) := by decide +kernel
theorem d_Message_areSame_55 : decode c_Message_areSame 55 = .ok (.iinc 4 1, 3) := by decide +kernel
theorem d_Message_areSame_58 : decode c_Message_areSame 58 = .ok (.goto (-28), 3) := by decide +kernel
theorem d_Message_areSame_61 : decode c_Message_areSame 61 = .ok (.iconst 1, 1) := by decide +kernel
theorem d_Message_areSame_62 : decode c_Message_areSame 62 = .ok (.ireturn, 1) := by decide +kernel
theorem d_Message_spells_0 : decode c_Message_spells 0 = .ok (.iload_n 2, 1) := by decide +kernel
theorem d_Message_spells_1 : decode c_Message_spells 1 = .ok (.istore_n 3, 1) := by decide +kernel
theorem d_Message_spells_2 : decode c_Message_spells 2 = .ok (.aload_n 0, 1) := by decide +kernel
theorem d_Message_spells_3 : decode c_Message_spells 3 = .ok (.iload_n 1, 1) := by decide +kernel
theorem d_Message_spells_4 : decode c_Message_spells 4 = .ok (.invokevirtual 86, 3) := by decide +kernel
theorem d_Message_spells_7 : decode c_Message_spells 7 = .ok (.iconst 1, 1) := by decide +kernel
theorem d_Message_spells_8 : decode c_Message_spells 8 = .ok (.isub, 1) := by decide +kernel
theorem d_Message_spells_9 : decode c_Message_spells 9 = .ok (.istore 4, 2) := by decide +kernel
theorem d_Message_spells_11 : decode c_Message_spells 11 = .ok (.iload 4, 2) := by decide +kernel
theorem d_Message_spells_13 : decode c_Message_spells 13 = .ok (.ifCond .lt 37, 3) := by decide +kernel
theorem d_Message_spells_16 : decode c_Message_spells 16 = .ok (.iload_n 3, 1) := by decide +kernel
theorem d_Message_spells_17 : decode c_Message_spells 17 = .ok (.ifCond .eq 20, 3) := by decide +kernel
theorem d_Message_spells_20 : decode c_Message_spells 20 = .ok (.aload_n 0, 1) := by decide +kernel
theorem d_Message_spells_21 : decode c_Message_spells 21 = .ok (.iload_n 1, 1) := by decide +kernel
theorem d_Message_spells_22 : decode c_Message_spells 22 = .ok (.iload 4, 2) := by decide +kernel
theorem d_Message_spells_24 : decode c_Message_spells 24 = .ok (.invokevirtual 89, 3) := by decide +kernel
theorem d_Message_spells_27 : decode c_Message_spells 27 = .ok (.bipush 48, 2) := by decide +kernel
theorem d_Message_spells_29 : decode c_Message_spells 29 = .ok (.iload_n 3, 1) := by decide +kernel
theorem d_Message_spells_30 : decode c_Message_spells 30 = .ok (.bipush 10, 2) := by decide +kernel
theorem d_Message_spells_32 : decode c_Message_spells 32 = .ok (.irem, 1) := by decide +kernel
theorem d_Message_spells_33 : decode c_Message_spells 33 = .ok (.iadd, 1) := by decide +kernel
theorem d_Message_spells_34 : decode c_Message_spells 34 = .ok (.if_icmp .eq 5, 3) := by decide +kernel
theorem d_Message_spells_37 : decode c_Message_spells 37 = .ok (.iconst 0, 1) := by decide +kernel
theorem d_Message_spells_38 : decode c_Message_spells 38 = .ok (.ireturn, 1) := by decide +kernel
theorem d_Message_spells_39 : decode c_Message_spells 39 = .ok (.iload_n 3, 1) := by decide +kernel
theorem d_Message_spells_40 : decode c_Message_spells 40 = .ok (.bipush 10, 2) := by decide +kernel
theorem d_Message_spells_42 : decode c_Message_spells 42 = .ok (.idiv, 1) := by decide +kernel
theorem d_Message_spells_43 : decode c_Message_spells 43 = .ok (.istore_n 3, 1) := by decide +kernel
theorem d_Message_spells_44 : decode c_Message_spells 44 = .ok (.iinc 4 (-1), 3) := by decide +kernel
theorem d_Message_spells_47 : decode c_Message_spells 47 = .ok (.goto (-36), 3) := by decide +kernel
theorem d_Message_spells_50 : decode c_Message_spells 50 = .ok (.iload_n 3, 1) := by decide +kernel
theorem d_Message_spells_51 : decode c_Message_spells 51 = .ok (.ifCond .ne 7, 3) := by decide +kernel
theorem d_Message_spells_54 : decode c_Message_spells 54 = .ok (.iconst 1, 1) := by decide +kernel
theorem d_Message_spells_55 : decode c_Message_spells 55 = .ok (.goto 4, 3) := by decide +kernel
theorem d_Message_spells_58 : decode c_Message_spells 58 = .ok (.iconst 0, 1) := by decide +kernel
theorem d_Message_spells_59 : decode c_Message_spells 59 = .ok (.ireturn, 1) := by decide +kernel
theorem d_Reader_init_0 : decode c_Reader_init 0 = .ok (.aload_n 0, 1) := by decide +kernel
theorem d_Reader_init_1 : decode c_Reader_init 1 = .ok (.invokespecial 3, 3) := by decide +kernel
theorem d_Reader_init_4 : decode c_Reader_init 4 = .ok (.aload_n 0, 1) := by decide +kernel
theorem d_Reader_init_5 : decode c_Reader_init 5 = .ok (.aload_n 1, 1) := by decide +kernel
theorem d_Reader_init_6 : decode c_Reader_init 6 = .ok (.putfield 9, 3) := by decide +kernel
theorem d_Reader_init_9 : decode c_Reader_init 9 = .ok (.aload_n 0, 1) := by decide +kernel
theorem d_Reader_init_10 : decode c_Reader_init 10 = .ok (.aload_n 2, 1) := by decide +kernel
theorem d_Reader_init_11 : decode c_Reader_init 11 = .ok (.putfield 15, 3) := by decide +kernel
theorem d_Reader_init_14 : decode c_Reader_init 14 = .ok (.aload_n 0, 1) := by decide +kernel
theorem d_Reader_init_15 : decode c_Reader_init 15 = .ok (.iconst 0, 1) := by decide +kernel
theorem d_Reader_init_16 : decode c_Reader_init 16 = .ok (.putfield 19, 3) := by decide +kernel
theorem d_Reader_init_19 : decode c_Reader_init 19 = .ok (.aload_n 0, 1) := by decide +kernel
theorem d_Reader_init_20 : decode c_Reader_init 20 = .ok (.iconst 0, 1) := by decide +kernel
theorem d_Reader_init_21 : decode c_Reader_init 21 = .ok (.putfield 23, 3) := by decide +kernel
theorem d_Reader_init_24 : decode c_Reader_init 24 = .ok (.return_, 1) := by decide +kernel
theorem d_Reader_firstWrongPlace_0 : decode c_Reader_firstWrongPlace 0 = .ok (.iconst 0, 1) := by decide +kernel
theorem d_Reader_firstWrongPlace_1 : decode c_Reader_firstWrongPlace 1 = .ok (.istore_n 2, 1) := by decide +kernel
theorem d_Reader_firstWrongPlace_2 : decode c_Reader_firstWrongPlace 2 = .ok (.aload_n 1, 1) := by decide +kernel
theorem d_Reader_firstWrongPlace_3 : decode c_Reader_firstWrongPlace 3 = .ok (.invokestatic 26, 3) := by decide +kernel
theorem d_Reader_firstWrongPlace_6 : decode c_Reader_firstWrongPlace 6 = .ok (.ifCond .eq 19, 3) := by decide +kernel
theorem d_Reader_firstWrongPlace_9 : decode c_Reader_firstWrongPlace 9 = .ok (.aload_n 0, 1) := by decide +kernel
theorem d_Reader_firstWrongPlace_10 : decode c_Reader_firstWrongPlace 10 = .ok (.aload_n 1, 1) := by decide +kernel
theorem d_Reader_firstWrongPlace_11 : decode c_Reader_firstWrongPlace 11 = .ok (.invokevirtual 30, 3) := by decide +kernel
theorem d_Reader_firstWrongPlace_14 : decode c_Reader_firstWrongPlace 14 = .ok (.istore_n 3, 1) := by decide +kernel
theorem d_Reader_firstWrongPlace_15 : decode c_Reader_firstWrongPlace 15 = .ok (.iload_n 3, 1) := by decide +kernel
theorem d_Reader_firstWrongPlace_16 : decode c_Reader_firstWrongPlace 16 = .ok (.iconst (-1), 1) := by decide +kernel
theorem d_Reader_firstWrongPlace_17 : decode c_Reader_firstWrongPlace 17 = .ok (.if_icmp .eq 5, 3) := by decide +kernel
theorem d_Reader_firstWrongPlace_20 : decode c_Reader_firstWrongPlace 20 = .ok (.iload_n 3, 1) := by decide +kernel
theorem d_Reader_firstWrongPlace_21 : decode c_Reader_firstWrongPlace 21 = .ok (.ireturn, 1) := by decide +kernel
theorem d_Reader_firstWrongPlace_22 : decode c_Reader_firstWrongPlace 22 = .ok (.bipush 8, 2) := by decide +kernel
theorem d_Reader_firstWrongPlace_24 : decode c_Reader_firstWrongPlace 24 = .ok (.istore_n 2, 1) := by decide +kernel
theorem d_Reader_firstWrongPlace_25 : decode c_Reader_firstWrongPlace 25 = .ok (.aload_n 0, 1) := by decide +kernel
theorem d_Reader_firstWrongPlace_26 : decode c_Reader_firstWrongPlace 26 = .ok (.iconst 0, 1) := by decide +kernel
theorem d_Reader_firstWrongPlace_27 : decode c_Reader_firstWrongPlace 27 = .ok (.putfield 19, 3) := by decide +kernel
theorem d_Reader_firstWrongPlace_30 : decode c_Reader_firstWrongPlace 30 = .ok (.iload_n 2, 1) := by decide +kernel
theorem d_Reader_firstWrongPlace_31 : decode c_Reader_firstWrongPlace 31 = .ok (.istore_n 3, 1) := by decide +kernel
theorem d_Reader_firstWrongPlace_32 : decode c_Reader_firstWrongPlace 32 = .ok (.iload_n 3, 1) := by decide +kernel
theorem d_Reader_firstWrongPlace_33 : decode c_Reader_firstWrongPlace 33 = .ok (.aload_n 1, 1) := by decide +kernel
theorem d_Reader_firstWrongPlace_34 : decode c_Reader_firstWrongPlace 34 = .ok (.invokevirtual 36, 3) := by decide +kernel
theorem d_Reader_firstWrongPlace_37 : decode c_Reader_firstWrongPlace 37 = .ok (.if_icmp .ge 23, 3) := by decide +kernel
theorem d_Reader_firstWrongPlace_40 : decode c_Reader_firstWrongPlace 40 = .ok (.aload_n 0, 1) := by decide +kernel
theorem d_Reader_firstWrongPlace_41 : decode c_Reader_firstWrongPlace 41 = .ok (.aload_n 1, 1) := by decide +kernel
theorem d_Reader_firstWrongPlace_42 : decode c_Reader_firstWrongPlace 42 = .ok (.iload_n 3, 1) := by decide +kernel
theorem d_Reader_firstWrongPlace_43 : decode c_Reader_firstWrongPlace 43 = .ok (.invokevirtual 42, 3) := by decide +kernel
theorem d_Reader_firstWrongPlace_46 : decode c_Reader_firstWrongPlace 46 = .ok (.invokevirtual 46, 3) := by decide +kernel
theorem d_Reader_firstWrongPlace_49 : decode c_Reader_firstWrongPlace 49 = .ok (.ifCond .ne 5, 3) := by decide +kernel
theorem d_Reader_firstWrongPlace_52 : decode c_Reader_firstWrongPlace 52 = .ok (.iload_n 3, 1) := by decide +kernel
theorem d_Reader_firstWrongPlace_53 : decode c_Reader_firstWrongPlace 53 = .ok (.ireturn, 1) := by decide +kernel
theorem d_Reader_firstWrongPlace_54 : decode c_Reader_firstWrongPlace 54 = .ok (.iinc 3 1, 3) := by decide +kernel
theorem d_Reader_firstWrongPlace_57 : decode c_Reader_firstWrongPlace 57 = .ok (.goto (-25), 3) := by decide +kernel
theorem d_Reader_firstWrongPlace_60 : decode c_Reader_firstWrongPlace 60 = .ok (.aload_n 0, 1) := by decide +kernel
theorem d_Reader_firstWrongPlace_61 : decode c_Reader_firstWrongPlace 61 = .ok (.getfield 19, 3) := by decide +kernel
theorem d_Reader_firstWrongPlace_64 : decode c_Reader_firstWrongPlace 64 = .ok (.ifCond .ne 17, 3) := by decide +kernel
theorem d_Reader_firstWrongPlace_67 : decode c_Reader_firstWrongPlace 67 = .ok (.aload_n 0, 1) := by decide +kernel
theorem d_Reader_firstWrongPlace_68 : decode c_Reader_firstWrongPlace 68 = .ok (.getfield 9, 3) := by decide +kernel
theorem d_Reader_firstWrongPlace_71 : decode c_Reader_firstWrongPlace 71 = .ok (.invokevirtual 50, 3) := by decide +kernel
theorem d_Reader_firstWrongPlace_74 : decode c_Reader_firstWrongPlace 74 = .ok (.ifCond .eq 7, 3) := by decide +kernel
theorem d_Reader_firstWrongPlace_77 : decode c_Reader_firstWrongPlace 77 = .ok (.iconst 1, 1) := by decide +kernel
theorem d_Reader_firstWrongPlace_78 : decode c_Reader_firstWrongPlace 78 = .ok (.goto 4, 3) := by decide +kernel
theorem d_Reader_firstWrongPlace_81 : decode c_Reader_firstWrongPlace 81 = .ok (.iconst 0, 1) := by decide +kernel
theorem d_Reader_firstWrongPlace_82 : decode c_Reader_firstWrongPlace 82 = .ok (.istore_n 3, 1) := by decide +kernel
theorem d_Reader_firstWrongPlace_83 : decode c_Reader_firstWrongPlace 83 = .ok (.iload_n 3, 1) := by decide +kernel
theorem d_Reader_firstWrongPlace_84 : decode c_Reader_firstWrongPlace 84 = .ok (.ifCond .eq 7, 3) := by decide +kernel
theorem d_Reader_firstWrongPlace_87 : decode c_Reader_firstWrongPlace 87 = .ok (.iconst (-1), 1) := by decide +kernel
theorem d_Reader_firstWrongPlace_88 : decode c_Reader_firstWrongPlace 88 = .ok (.goto 7, 3) := by decide +kernel
theorem d_Reader_firstWrongPlace_91 : decode c_Reader_firstWrongPlace 91 = .ok (.aload_n 1, 1) := by decide +kernel
theorem d_Reader_firstWrongPlace_92 : decode c_Reader_firstWrongPlace 92 = .ok (.invokevirtual 36, 3) := by decide +kernel
theorem d_Reader_firstWrongPlace_95 : decode c_Reader_firstWrongPlace 95 = .ok (.ireturn, 1) := by decide +kernel
theorem d_Reader_beginsWithUna_0 : decode c_Reader_beginsWithUna 0 = .ok (.aload_n 0, 1) := by decide +kernel
theorem d_Reader_beginsWithUna_1 : decode c_Reader_beginsWithUna 1 = .ok (.iconst 0, 1) := by decide +kernel
theorem d_Reader_beginsWithUna_2 : decode c_Reader_beginsWithUna 2 = .ok (.invokevirtual 42, 3) := by decide +kernel
theorem d_Reader_beginsWithUna_5 : decode c_Reader_beginsWithUna 5 = .ok (.bipush 85, 2) := by decide +kernel
theorem d_Reader_beginsWithUna_7 : decode c_Reader_beginsWithUna 7 = .ok (.if_icmp .ne 27, 3) := by decide +kernel
theorem d_Reader_beginsWithUna_10 : decode c_Reader_beginsWithUna 10 = .ok (.aload_n 0, 1) := by decide +kernel
theorem d_Reader_beginsWithUna_11 : decode c_Reader_beginsWithUna 11 = .ok (.iconst 1, 1) := by decide +kernel
theorem d_Reader_beginsWithUna_12 : decode c_Reader_beginsWithUna 12 = .ok (.invokevirtual 42, 3) := by decide +kernel
theorem d_Reader_beginsWithUna_15 : decode c_Reader_beginsWithUna 15 = .ok (.bipush 78, 2) := by decide +kernel
theorem d_Reader_beginsWithUna_17 : decode c_Reader_beginsWithUna 17 = .ok (.if_icmp .ne 17, 3) := by decide +kernel
theorem d_Reader_beginsWithUna_20 : decode c_Reader_beginsWithUna 20 = .ok (.aload_n 0, 1) := by decide +kernel
theorem d_Reader_beginsWithUna_21 : decode c_Reader_beginsWithUna 21 = .ok (.iconst 2, 1) := by decide +kernel
theorem d_Reader_beginsWithUna_22 : decode c_Reader_beginsWithUna 22 = .ok (.invokevirtual 42, 3) := by decide +kernel
theorem d_Reader_beginsWithUna_25 : decode c_Reader_beginsWithUna 25 = .ok (.bipush 65, 2) := by decide +kernel
theorem d_Reader_beginsWithUna_27 : decode c_Reader_beginsWithUna 27 = .ok (.if_icmp .ne 7, 3) := by decide +kernel
theorem d_Reader_beginsWithUna_30 : decode c_Reader_beginsWithUna 30 = .ok (.iconst 1, 1) := by decide +kernel
theorem d_Reader_beginsWithUna_31 : decode c_Reader_beginsWithUna 31 = .ok (.goto 4, 3) := by decide +kernel
theorem d_Reader_beginsWithUna_34 : decode c_Reader_beginsWithUna 34 = .ok (.iconst 0, 1) := by decide +kernel
theorem d_Reader_beginsWithUna_35 : decode c_Reader_beginsWithUna 35 = .ok (.ireturn, 1) := by decide +kernel
theorem d_Reader_firstWrongOfUna_0 : decode c_Reader_firstWrongOfUna 0 = .ok (.iconst 0, 1) := by decide +kernel
theorem d_Reader_firstWrongOfUna_1 : decode c_Reader_firstWrongOfUna 1 = .ok (.istore_n 2, 1) := by decide +kernel
theorem d_Reader_firstWrongOfUna_2 : decode c_Reader_firstWrongOfUna 2 = .ok (.iload_n 2, 1) := by decide +kernel
theorem d_Reader_firstWrongOfUna_3 : decode c_Reader_firstWrongOfUna 3 = .ok (.iconst 5, 1) := by decide +kernel
theorem d_Reader_firstWrongOfUna_4 : decode c_Reader_firstWrongOfUna 4 = .ok (.if_icmp .ge 39, 3) := by decide +kernel
theorem d_Reader_firstWrongOfUna_7 : decode c_Reader_firstWrongOfUna 7 = .ok (.iconst 3, 1) := by decide +kernel
theorem d_Reader_firstWrongOfUna_8 : decode c_Reader_firstWrongOfUna 8 = .ok (.iload_n 2, 1) := by decide +kernel
theorem d_Reader_firstWrongOfUna_9 : decode c_Reader_firstWrongOfUna 9 = .ok (.iadd, 1) := by decide +kernel
theorem d_Reader_firstWrongOfUna_10 : decode c_Reader_firstWrongOfUna 10 = .ok (.istore_n 3, 1) := by decide +kernel
theorem d_Reader_firstWrongOfUna_11 : decode c_Reader_firstWrongOfUna 11 = .ok (.iload_n 3, 1) := by decide +kernel
theorem d_Reader_firstWrongOfUna_12 : decode c_Reader_firstWrongOfUna 12 = .ok (.aload_n 1, 1) := by decide +kernel
theorem d_Reader_firstWrongOfUna_13 : decode c_Reader_firstWrongOfUna 13 = .ok (.invokevirtual 36, 3) := by decide +kernel
theorem d_Reader_firstWrongOfUna_16 : decode c_Reader_firstWrongOfUna 16 = .ok (.if_icmp .ge 19, 3) := by decide +kernel
theorem d_Reader_firstWrongOfUna_19 : decode c_Reader_firstWrongOfUna 19 = .ok (.aload_n 0, 1) := by decide +kernel
theorem d_Reader_firstWrongOfUna_20 : decode c_Reader_firstWrongOfUna 20 = .ok (.getfield 15, 3) := by decide +kernel
theorem d_Reader_firstWrongOfUna_23 : decode c_Reader_firstWrongOfUna 23 = .ok (.iload_n 2, 1) := by decide +kernel
theorem d_Reader_firstWrongOfUna_24 : decode c_Reader_firstWrongOfUna 24 = .ok (.aload_n 1, 1) := by decide +kernel
theorem d_Reader_firstWrongOfUna_25 : decode c_Reader_firstWrongOfUna 25 = .ok (.iload_n 3, 1) := by decide +kernel
theorem d_Reader_firstWrongOfUna_26 : decode c_Reader_firstWrongOfUna 26 = .ok (.invokevirtual 42, 3) := by decide +kernel
theorem d_Reader_firstWrongOfUna_29 : decode c_Reader_firstWrongOfUna 29 = .ok (.invokevirtual 56, 3) := by decide +kernel
theorem d_Reader_firstWrongOfUna_32 : decode c_Reader_firstWrongOfUna 32 = .ok (.ifCond .ne 5, 3) := by decide +kernel
theorem d_Reader_firstWrongOfUna_35 : decode c_Reader_firstWrongOfUna 35 = .ok (.iload_n 3, 1) := by decide +kernel
theorem d_Reader_firstWrongOfUna_36 : decode c_Reader_firstWrongOfUna 36 = .ok (.ireturn, 1) := by decide +kernel
theorem d_Reader_firstWrongOfUna_37 : decode c_Reader_firstWrongOfUna 37 = .ok (.iinc 2 1, 3) := by decide +kernel
theorem d_Reader_firstWrongOfUna_40 : decode c_Reader_firstWrongOfUna 40 = .ok (.goto (-38), 3) := by decide +kernel
theorem d_Reader_firstWrongOfUna_43 : decode c_Reader_firstWrongOfUna 43 = .ok (.iconst (-1), 1) := by decide +kernel
theorem d_Reader_firstWrongOfUna_44 : decode c_Reader_firstWrongOfUna 44 = .ok (.ireturn, 1) := by decide +kernel
theorem d_Reader_take_0 : decode c_Reader_take 0 = .ok (.aload_n 0, 1) := by decide +kernel
theorem d_Reader_take_1 : decode c_Reader_take 1 = .ok (.getfield 19, 3) := by decide +kernel
theorem d_Reader_take_4 : decode c_Reader_take 4 = .ok (.tableswitch 163 0 5 #[40, 72, 97, 136, 163, 149], 40) := by decide +kernel
theorem d_Reader_take_44 : decode c_Reader_take 44 = .ok (.aload_n 0, 1) := by decide +kernel
theorem d_Reader_take_45 : decode c_Reader_take 45 = .ok (.getfield 9, 3) := by decide +kernel
theorem d_Reader_take_48 : decode c_Reader_take 48 = .ok (.invokevirtual 60, 3) := by decide +kernel
theorem d_Reader_take_51 : decode c_Reader_take 51 = .ok (.ifCond .ne 23, 3) := by decide +kernel
theorem d_Reader_take_54 : decode c_Reader_take 54 = .ok (.iload_n 1, 1) := by decide +kernel
theorem d_Reader_take_55 : decode c_Reader_take 55 = .ok (.invokestatic 63, 3) := by decide +kernel
theorem d_Reader_take_58 : decode c_Reader_take 58 = .ok (.ifCond .eq 16, 3) := by decide +kernel
theorem d_Reader_take_61 : decode c_Reader_take 61 = .ok (.aload_n 0, 1) := by decide +kernel
theorem d_Reader_take_62 : decode c_Reader_take 62 = .ok (.iconst 0, 1) := by decide +kernel
theorem d_Reader_take_63 : decode c_Reader_take 63 = .ok (.iload_n 1, 1) := by decide +kernel
theorem d_Reader_take_64 : decode c_Reader_take 64 = .ok (.invokevirtual 68, 3) := by decide +kernel
theorem d_Reader_take_67 : decode c_Reader_take 67 = .ok (.ifCond .eq 7, 3) := by decide +kernel
theorem d_Reader_take_70 : decode c_Reader_take 70 = .ok (.iconst 1, 1) := by decide +kernel
theorem d_Reader_take_71 : decode c_Reader_take 71 = .ok (.goto 4, 3) := by decide +kernel
theorem d_Reader_take_74 : decode c_Reader_take 74 = .ok (.iconst 0, 1) := by decide +kernel
theorem d_Reader_take_75 : decode c_Reader_take 75 = .ok (.ireturn, 1) := by decide +kernel
theorem d_Reader_take_76 : decode c_Reader_take 76 = .ok (.iload_n 1, 1) := by decide +kernel
theorem d_Reader_take_77 : decode c_Reader_take 77 = .ok (.invokestatic 71, 3) := by decide +kernel
theorem d_Reader_take_80 : decode c_Reader_take 80 = .ok (.ifCond .eq 19, 3) := by decide +kernel
theorem d_Reader_take_83 : decode c_Reader_take 83 = .ok (.aload_n 0, 1) := by decide +kernel
theorem d_Reader_take_84 : decode c_Reader_take 84 = .ok (.aload_n 0, 1) := by decide +kernel
theorem d_Reader_take_85 : decode c_Reader_take 85 = .ok (.getfield 23, 3) := by decide +kernel
theorem d_Reader_take_88 : decode c_Reader_take 88 = .ok (.iload_n 1, 1) := by decide +kernel
theorem d_Reader_take_89 : decode c_Reader_take 89 = .ok (.invokevirtual 68, 3) := by decide +kernel
theorem d_Reader_take_92 : decode c_Reader_take 92 = .ok (.ifCond .eq 7, 3) := by decide +kernel
theorem d_Reader_take_95 : decode c_Reader_take 95 = .ok (.iconst 1, 1) := by decide +kernel
theorem d_Reader_take_96 : decode c_Reader_take 96 = .ok (.goto 4, 3) := by decide +kernel
theorem d_Reader_take_99 : decode c_Reader_take 99 = .ok (.iconst 0, 1) := by decide +kernel
theorem d_Reader_take_100 : decode c_Reader_take 100 = .ok (.ireturn, 1) := by decide +kernel
theorem d_Reader_take_101 : decode c_Reader_take 101 = .ok (.iload_n 1, 1) := by decide +kernel
theorem d_Reader_take_102 : decode c_Reader_take 102 = .ok (.invokestatic 71, 3) := by decide +kernel
theorem d_Reader_take_105 : decode c_Reader_take 105 = .ok (.ifCond .eq 33, 3) := by decide +kernel
theorem d_Reader_take_108 : decode c_Reader_take 108 = .ok (.aload_n 0, 1) := by decide +kernel
theorem d_Reader_take_109 : decode c_Reader_take 109 = .ok (.aload_n 0, 1) := by decide +kernel
theorem d_Reader_take_110 : decode c_Reader_take 110 = .ok (.getfield 23, 3) := by decide +kernel
theorem d_Reader_take_113 : decode c_Reader_take 113 = .ok (.iload_n 1, 1) := by decide +kernel
theorem d_Reader_take_114 : decode c_Reader_take 114 = .ok (.invokevirtual 68, 3) := by decide +kernel
theorem d_Reader_take_117 : decode c_Reader_take 117 = .ok (.ifCond .eq 21, 3) := by decide +kernel
theorem d_Reader_take_120 : decode c_Reader_take 120 = .ok (.aload_n 0, 1) := by decide +kernel
theorem d_Reader_take_121 : decode c_Reader_take 121 = .ok (.getfield 9, 3) := by decide +kernel
theorem d_Reader_take_124 : decode c_Reader_take 124 = .ok (.aload_n 0, 1) := by decide +kernel
theorem d_Reader_take_125 : decode c_Reader_take 125 = .ok (.getfield 23, 3) := by decide +kernel
theorem d_Reader_take_128 : decode c_Reader_take 128 = .ok (.invokevirtual 74, 3) := by decide +kernel
theorem d_Reader_take_131 : decode c_Reader_take 131 = .ok (.ifCond .eq 7, 3) := by decide +kernel
theorem d_Reader_take_134 : decode c_Reader_take 134 = .ok (.iconst 1, 1) := by decide +kernel
theorem d_Reader_take_135 : decode c_Reader_take 135 = .ok (.goto 4, 3) := by decide +kernel
theorem d_Reader_take_138 : decode c_Reader_take 138 = .ok (.iconst 0, 1) := by decide +kernel
theorem d_Reader_take_139 : decode c_Reader_take 139 = .ok (.ireturn, 1) := by decide +kernel
theorem d_Reader_take_140 : decode c_Reader_take 140 = .ok (.aload_n 0, 1) := by decide +kernel
theorem d_Reader_take_141 : decode c_Reader_take 141 = .ok (.aload_n 0, 1) := by decide +kernel
theorem d_Reader_take_142 : decode c_Reader_take 142 = .ok (.getfield 15, 3) := by decide +kernel
theorem d_Reader_take_145 : decode c_Reader_take 145 = .ok (.iload_n 1, 1) := by decide +kernel
theorem d_Reader_take_146 : decode c_Reader_take 146 = .ok (.invokevirtual 77, 3) := by decide +kernel
theorem d_Reader_take_149 : decode c_Reader_take 149 = .ok (.invokevirtual 80, 3) := by decide +kernel
theorem d_Reader_take_152 : decode c_Reader_take 152 = .ok (.ireturn, 1) := by decide +kernel
theorem d_Reader_take_153 : decode c_Reader_take 153 = .ok (.aload_n 0, 1) := by decide +kernel
theorem d_Reader_take_154 : decode c_Reader_take 154 = .ok (.iconst 4, 1) := by decide +kernel
theorem d_Reader_take_155 : decode c_Reader_take 155 = .ok (.putfield 19, 3) := by decide +kernel
theorem d_Reader_take_158 : decode c_Reader_take 158 = .ok (.aload_n 0, 1) := by decide +kernel
theorem d_Reader_take_159 : decode c_Reader_take 159 = .ok (.getfield 9, 3) := by decide +kernel
theorem d_Reader_take_162 : decode c_Reader_take 162 = .ok (.iload_n 1, 1) := by decide +kernel
theorem d_Reader_take_163 : decode c_Reader_take 163 = .ok (.invokevirtual 83, 3) := by decide +kernel
theorem d_Reader_take_166 : decode c_Reader_take 166 = .ok (.ireturn, 1) := by decide +kernel
theorem d_Reader_take_167 : decode c_Reader_take 167 = .ok (.aload_n 0, 1) := by decide +kernel
theorem d_Reader_take_168 : decode c_Reader_take 168 = .ok (.iload_n 1, 1) := by decide +kernel
theorem d_Reader_take_169 : decode c_Reader_take 169 = .ok (.invokevirtual 86, 3) := by decide +kernel
theorem d_Reader_take_172 : decode c_Reader_take 172 = .ok (.ireturn, 1) := by decide +kernel
theorem d_Reader_takeOfTag_0 : decode c_Reader_takeOfTag 0 = .ok (.aload_n 0, 1) := by decide +kernel
theorem d_Reader_takeOfTag_1 : decode c_Reader_takeOfTag 1 = .ok (.sipush 256, 3) := by decide +kernel
theorem d_Reader_takeOfTag_4 : decode c_Reader_takeOfTag 4 = .ok (.iload_n 1, 1) := by decide +kernel
theorem d_Reader_takeOfTag_5 : decode c_Reader_takeOfTag 5 = .ok (.imul, 1) := by decide +kernel
theorem d_Reader_takeOfTag_6 : decode c_Reader_takeOfTag 6 = .ok (.iload_n 2, 1) := by decide +kernel
theorem d_Reader_takeOfTag_7 : decode c_Reader_takeOfTag 7 = .ok (.iadd, 1) := by decide +kernel
theorem d_Reader_takeOfTag_8 : decode c_Reader_takeOfTag 8 = .ok (.putfield 23, 3) := by decide +kernel
theorem d_Reader_takeOfTag_11 : decode c_Reader_takeOfTag 11 = .ok (.aload_n 0, 1) := by decide +kernel
theorem d_Reader_takeOfTag_12 : decode c_Reader_takeOfTag 12 = .ok (.dup, 1) := by decide +kernel
theorem d_Reader_takeOfTag_13 : decode c_Reader_takeOfTag 13 = .ok (.getfield 19, 3) := by decide +kernel
theorem d_Reader_takeOfTag_16 : decode c_Reader_takeOfTag 16 = .ok (.iconst 1, 1) := by decide +kernel
theorem d_Reader_takeOfTag_17 : decode c_Reader_takeOfTag 17 = .ok (.iadd, 1) := by decide +kernel
theorem d_Reader_takeOfTag_18 : decode c_Reader_takeOfTag 18 = .ok (.putfield 19, 3) := by decide +kernel
theorem d_Reader_takeOfTag_21 : decode c_Reader_takeOfTag 21 = .ok (.iconst 1, 1) := by decide +kernel
theorem d_Reader_takeOfTag_22 : decode c_Reader_takeOfTag 22 = .ok (.ireturn, 1) := by decide +kernel
theorem d_Reader_takeBehindTag_0 : decode c_Reader_takeBehindTag 0 = .ok (.iload_n 1, 1) := by decide +kernel
theorem d_Reader_takeBehindTag_1 : decode c_Reader_takeBehindTag 1 = .ok (.iconst 4, 1) := by decide +kernel
theorem d_Reader_takeBehindTag_2 : decode c_Reader_takeBehindTag 2 = .ok (.if_icmp .ne 10, 3) := by decide +kernel
theorem d_Reader_takeBehindTag_5 : decode c_Reader_takeBehindTag 5 = .ok (.aload_n 0, 1) := by decide +kernel
theorem d_Reader_takeBehindTag_6 : decode c_Reader_takeBehindTag 6 = .ok (.iconst 0, 1) := by decide +kernel
theorem d_Reader_takeBehindTag_7 : decode c_Reader_takeBehindTag 7 = .ok (.putfield 19, 3) := by decide +kernel
theorem d_Reader_takeBehindTag_10 : decode c_Reader_takeBehindTag 10 = .ok (.iconst 1, 1) := by decide +kernel
theorem d_Reader_takeBehindTag_11 : decode c_Reader_takeBehindTag 11 = .ok (.ireturn, 1) := by decide +kernel
theorem d_Reader_takeBehindTag_12 : decode c_Reader_takeBehindTag 12 = .ok (.aload_n 0, 1) := by decide +kernel
theorem d_Reader_takeBehindTag_13 : decode c_Reader_takeBehindTag 13 = .ok (.iconst 4, 1) := by decide +kernel
theorem d_Reader_takeBehindTag_14 : decode c_Reader_takeBehindTag 14 = .ok (.putfield 19, 3) := by decide +kernel
theorem d_Reader_takeBehindTag_17 : decode c_Reader_takeBehindTag 17 = .ok (.iload_n 1, 1) := by decide +kernel
theorem d_Reader_takeBehindTag_18 : decode c_Reader_takeBehindTag 18 = .ok (.iconst 1, 1) := by decide +kernel
theorem d_Reader_takeBehindTag_19 : decode c_Reader_takeBehindTag 19 = .ok (.if_icmp .ne 17, 3) := by decide +kernel
theorem d_Reader_takeBehindTag_22 : decode c_Reader_takeBehindTag 22 = .ok (.aload_n 0, 1) := by decide +kernel
theorem d_Reader_takeBehindTag_23 : decode c_Reader_takeBehindTag 23 = .ok (.getfield 9, 3) := by decide +kernel
theorem d_Reader_takeBehindTag_26 : decode c_Reader_takeBehindTag 26 = .ok (.invokevirtual 89, 3) := by decide +kernel
theorem d_Reader_takeBehindTag_29 : decode c_Reader_takeBehindTag 29 = .ok (.ifCond .eq 7, 3) := by decide +kernel
theorem d_Reader_takeBehindTag_32 : decode c_Reader_takeBehindTag 32 = .ok (.iconst 1, 1) := by decide +kernel
theorem d_Reader_takeBehindTag_33 : decode c_Reader_takeBehindTag 33 = .ok (.goto 4, 3) := by decide +kernel
theorem d_Reader_takeBehindTag_36 : decode c_Reader_takeBehindTag 36 = .ok (.iconst 0, 1) := by decide +kernel
theorem d_Reader_takeBehindTag_37 : decode c_Reader_takeBehindTag 37 = .ok (.ireturn, 1) := by decide +kernel
theorem d_Reader_takeInComponent_0 : decode c_Reader_takeInComponent 0 = .ok (.aload_n 0, 1) := by decide +kernel
theorem d_Reader_takeInComponent_1 : decode c_Reader_takeInComponent 1 = .ok (.getfield 15, 3) := by decide +kernel
theorem d_Reader_takeInComponent_4 : decode c_Reader_takeInComponent 4 = .ok (.iload_n 1, 1) := by decide +kernel
theorem d_Reader_takeInComponent_5 : decode c_Reader_takeInComponent 5 = .ok (.invokevirtual 77, 3) := by decide +kernel
theorem d_Reader_takeInComponent_8 : decode c_Reader_takeInComponent 8 = .ok (.tableswitch 74 0 4 #[36, 44, 52, 59, 67], 36) := by decide +kernel
theorem d_Reader_takeInComponent_44 : decode c_Reader_takeInComponent 44 = .ok (.aload_n 0, 1) := by decide +kernel
theorem d_Reader_takeInComponent_45 : decode c_Reader_takeInComponent 45 = .ok (.getfield 9, 3) := by decide +kernel
theorem d_Reader_takeInComponent_48 : decode c_Reader_takeInComponent 48 = .ok (.invokevirtual 92, 3) := by decide +kernel
theorem d_Reader_takeInComponent_51 : decode c_Reader_takeInComponent 51 = .ok (.ireturn, 1) := by decide +kernel
theorem d_Reader_takeInComponent_52 : decode c_Reader_takeInComponent 52 = .ok (.aload_n 0, 1) := by decide +kernel
theorem d_Reader_takeInComponent_53 : decode c_Reader_takeInComponent 53 = .ok (.getfield 9, 3) := by decide +kernel
theorem d_Reader_takeInComponent_56 : decode c_Reader_takeInComponent 56 = .ok (.invokevirtual 89, 3) := by decide +kernel
theorem d_Reader_takeInComponent_59 : decode c_Reader_takeInComponent 59 = .ok (.ireturn, 1) := by decide +kernel
theorem d_Reader_takeInComponent_60 : decode c_Reader_takeInComponent 60 = .ok (.aload_n 0, 1) := by decide +kernel
theorem d_Reader_takeInComponent_61 : decode c_Reader_takeInComponent 61 = .ok (.iconst 5, 1) := by decide +kernel
theorem d_Reader_takeInComponent_62 : decode c_Reader_takeInComponent 62 = .ok (.putfield 19, 3) := by decide +kernel
theorem d_Reader_takeInComponent_65 : decode c_Reader_takeInComponent 65 = .ok (.iconst 1, 1) := by decide +kernel
theorem d_Reader_takeInComponent_66 : decode c_Reader_takeInComponent 66 = .ok (.ireturn, 1) := by decide +kernel
theorem d_Reader_takeInComponent_67 : decode c_Reader_takeInComponent 67 = .ok (.aload_n 0, 1) := by decide +kernel
theorem d_Reader_takeInComponent_68 : decode c_Reader_takeInComponent 68 = .ok (.getfield 9, 3) := by decide +kernel
theorem d_Reader_takeInComponent_71 : decode c_Reader_takeInComponent 71 = .ok (.invokevirtual 95, 3) := by decide +kernel
theorem d_Reader_takeInComponent_74 : decode c_Reader_takeInComponent 74 = .ok (.ireturn, 1) := by decide +kernel
theorem d_Reader_takeInComponent_75 : decode c_Reader_takeInComponent 75 = .ok (.aload_n 0, 1) := by decide +kernel
theorem d_Reader_takeInComponent_76 : decode c_Reader_takeInComponent 76 = .ok (.iconst 0, 1) := by decide +kernel
theorem d_Reader_takeInComponent_77 : decode c_Reader_takeInComponent 77 = .ok (.putfield 19, 3) := by decide +kernel
theorem d_Reader_takeInComponent_80 : decode c_Reader_takeInComponent 80 = .ok (.iconst 1, 1) := by decide +kernel
theorem d_Reader_takeInComponent_81 : decode c_Reader_takeInComponent 81 = .ok (.ireturn, 1) := by decide +kernel
theorem d_Reader_takeInComponent_82 : decode c_Reader_takeInComponent 82 = .ok (.aload_n 0, 1) := by decide +kernel
theorem d_Reader_takeInComponent_83 : decode c_Reader_takeInComponent 83 = .ok (.getfield 9, 3) := by decide +kernel
theorem d_Reader_takeInComponent_86 : decode c_Reader_takeInComponent 86 = .ok (.iload_n 1, 1) := by decide +kernel
theorem d_Reader_takeInComponent_87 : decode c_Reader_takeInComponent 87 = .ok (.invokevirtual 83, 3) := by decide +kernel
theorem d_Reader_takeInComponent_90 : decode c_Reader_takeInComponent 90 = .ok (.ireturn, 1) := by decide +kernel
theorem d_ServiceSigns_init_0 : decode c_ServiceSigns_init 0 = .ok (.aload_n 0, 1) := by decide +kernel
theorem d_ServiceSigns_init_1 : decode c_ServiceSigns_init 1 = .ok (.invokespecial 3, 3) := by decide +kernel
theorem d_ServiceSigns_init_4 : decode c_ServiceSigns_init 4 = .ok (.aload_n 0, 1) := by decide +kernel
theorem d_ServiceSigns_init_5 : decode c_ServiceSigns_init 5 = .ok (.getstatic 9, 3) := by decide +kernel
theorem d_ServiceSigns_init_8 : decode c_ServiceSigns_init 8 = .ok (.invokevirtual 15, 3) := by decide +kernel
theorem d_ServiceSigns_init_11 : decode c_ServiceSigns_init 11 = .ok (.checkcast 16, 3) := by decide +kernel
theorem d_ServiceSigns_init_14 : decode c_ServiceSigns_init 14 = .ok (.putfield 20, 3) := by decide +kernel
theorem d_ServiceSigns_init_17 : decode c_ServiceSigns_init 17 = .ok (.return_, 1) := by decide +kernel
theorem d_ServiceSigns_setUntold_0 : decode c_ServiceSigns_setUntold 0 = .ok (.iconst 0, 1) := by decide +kernel
theorem d_ServiceSigns_setUntold_1 : decode c_ServiceSigns_setUntold 1 = .ok (.istore_n 1, 1) := by decide +kernel
theorem d_ServiceSigns_setUntold_2 : decode c_ServiceSigns_setUntold 2 = .ok (.iload_n 1, 1) := by decide +kernel
theorem d_ServiceSigns_setUntold_3 : decode c_ServiceSigns_setUntold 3 = .ok (.aload_n 0, 1) := by decide +kernel
theorem d_ServiceSigns_setUntold_4 : decode c_ServiceSigns_setUntold 4 = .ok (.getfield 20, 3) := by decide +kernel
theorem d_ServiceSigns_setUntold_7 : decode c_ServiceSigns_setUntold 7 = .ok (.arraylength, 1) := by decide +kernel
theorem d_ServiceSigns_setUntold_8 : decode c_ServiceSigns_setUntold 8 = .ok (.if_icmp .ge 28, 3) := by decide +kernel
theorem d_ServiceSigns_setUntold_11 : decode c_ServiceSigns_setUntold 11 = .ok (.iload_n 1, 1) := by decide +kernel
theorem d_ServiceSigns_setUntold_12 : decode c_ServiceSigns_setUntold 12 = .ok (.getstatic 9, 3) := by decide +kernel
theorem d_ServiceSigns_setUntold_15 : decode c_ServiceSigns_setUntold 15 = .ok (.arraylength, 1) := by decide +kernel
theorem d_ServiceSigns_setUntold_16 : decode c_ServiceSigns_setUntold 16 = .ok (.if_icmp .ge 20, 3) := by decide +kernel
theorem d_ServiceSigns_setUntold_19 : decode c_ServiceSigns_setUntold 19 = .ok (.aload_n 0, 1) := by decide +kernel
theorem d_ServiceSigns_setUntold_20 : decode c_ServiceSigns_setUntold 20 = .ok (.getfield 20, 3) := by decide +kernel
theorem d_ServiceSigns_setUntold_23 : decode c_ServiceSigns_setUntold 23 = .ok (.iload_n 1, 1) := by decide +kernel
theorem d_ServiceSigns_setUntold_24 : decode c_ServiceSigns_setUntold 24 = .ok (.getstatic 9, 3) := by decide +kernel
theorem d_ServiceSigns_setUntold_27 : decode c_ServiceSigns_setUntold 27 = .ok (.iload_n 1, 1) := by decide +kernel
theorem d_ServiceSigns_setUntold_28 : decode c_ServiceSigns_setUntold 28 = .ok (.iaload, 1) := by decide +kernel
theorem d_ServiceSigns_setUntold_29 : decode c_ServiceSigns_setUntold 29 = .ok (.iastore, 1) := by decide +kernel
theorem d_ServiceSigns_setUntold_30 : decode c_ServiceSigns_setUntold 30 = .ok (.iinc 1 1, 3) := by decide +kernel
theorem d_ServiceSigns_setUntold_33 : decode c_ServiceSigns_setUntold 33 = .ok (.goto (-31), 3) := by decide +kernel
theorem d_ServiceSigns_setUntold_36 : decode c_ServiceSigns_setUntold 36 = .ok (.return_, 1) := by decide +kernel
theorem d_ServiceSigns_tell_0 : decode c_ServiceSigns_tell 0 = .ok (.iload_n 1, 1) := by decide +kernel
theorem d_ServiceSigns_tell_1 : decode c_ServiceSigns_tell 1 = .ok (.ifCond .lt 19, 3) := by decide +kernel
theorem d_ServiceSigns_tell_4 : decode c_ServiceSigns_tell 4 = .ok (.iload_n 1, 1) := by decide +kernel
theorem d_ServiceSigns_tell_5 : decode c_ServiceSigns_tell 5 = .ok (.aload_n 0, 1) := by decide +kernel
theorem d_ServiceSigns_tell_6 : decode c_ServiceSigns_tell 6 = .ok (.getfield 20, 3) := by decide +kernel
theorem d_ServiceSigns_tell_9 : decode c_ServiceSigns_tell 9 = .ok (.arraylength, 1) := by decide +kernel
theorem d_ServiceSigns_tell_10 : decode c_ServiceSigns_tell 10 = .ok (.if_icmp .ge 10, 3) := by decide +kernel
theorem d_ServiceSigns_tell_13 : decode c_ServiceSigns_tell 13 = .ok (.iload_n 2, 1) := by decide +kernel
theorem d_ServiceSigns_tell_14 : decode c_ServiceSigns_tell 14 = .ok (.invokestatic 23, 3) := by decide +kernel
theorem d_ServiceSigns_tell_17 : decode c_ServiceSigns_tell 17 = .ok (.ifCond .ne 5, 3) := by decide +kernel
theorem d_ServiceSigns_tell_20 : decode c_ServiceSigns_tell 20 = .ok (.iconst 0, 1) := by decide +kernel
theorem d_ServiceSigns_tell_21 : decode c_ServiceSigns_tell 21 = .ok (.ireturn, 1) := by decide +kernel
theorem d_ServiceSigns_tell_22 : decode c_ServiceSigns_tell 22 = .ok (.iconst 0, 1) := by decide +kernel
theorem d_ServiceSigns_tell_23 : decode c_ServiceSigns_tell 23 = .ok (.istore_n 3, 1) := by decide +kernel
theorem d_ServiceSigns_tell_24 : decode c_ServiceSigns_tell 24 = .ok (.iload_n 3, 1) := by decide +kernel
theorem d_ServiceSigns_tell_25 : decode c_ServiceSigns_tell 25 = .ok (.iload_n 1, 1) := by decide +kernel
theorem d_ServiceSigns_tell_26 : decode c_ServiceSigns_tell 26 = .ok (.if_icmp .ge 21, 3) := by decide +kernel
theorem d_ServiceSigns_tell_29 : decode c_ServiceSigns_tell 29 = .ok (.aload_n 0, 1) := by decide +kernel
theorem d_ServiceSigns_tell_30 : decode c_ServiceSigns_tell 30 = .ok (.getfield 20, 3) := by decide +kernel
theorem d_ServiceSigns_tell_33 : decode c_ServiceSigns_tell 33 = .ok (.iload_n 3, 1) := by decide +kernel
theorem d_ServiceSigns_tell_34 : decode c_ServiceSigns_tell 34 = .ok (.iaload, 1) := by decide +kernel
theorem d_ServiceSigns_tell_35 : decode c_ServiceSigns_tell 35 = .ok (.iload_n 2, 1) := by decide +kernel
theorem d_ServiceSigns_tell_36 : decode c_ServiceSigns_tell 36 = .ok (.if_icmp .ne 5, 3) := by decide +kernel
theorem d_ServiceSigns_tell_39 : decode c_ServiceSigns_tell 39 = .ok (.iconst 0, 1) := by decide +kernel
theorem d_ServiceSigns_tell_40 : decode c_ServiceSigns_tell 40 = .ok (.ireturn, 1) := by decide +kernel
theorem d_ServiceSigns_tell_41 : decode c_ServiceSigns_tell 41 = .ok (.iinc 3 1, 3) := by decide +kernel
theorem d_ServiceSigns_tell_44 : decode c_ServiceSigns_tell 44 = .ok (.goto (-20), 3) := by decide +kernel
theorem d_ServiceSigns_tell_47 : decode c_ServiceSigns_tell 47 = .ok (.aload_n 0, 1) := by decide +kernel
theorem d_ServiceSigns_tell_48 : decode c_ServiceSigns_tell 48 = .ok (.getfield 20, 3) := by decide +kernel
theorem d_ServiceSigns_tell_51 : decode c_ServiceSigns_tell 51 = .ok (.iload_n 1, 1) := by decide +kernel
theorem d_ServiceSigns_tell_52 : decode c_ServiceSigns_tell 52 = .ok (.iload_n 2, 1) := by decide +kernel
theorem d_ServiceSigns_tell_53 : decode c_ServiceSigns_tell 53 = .ok (.iastore, 1) := by decide +kernel
theorem d_ServiceSigns_tell_54 : decode c_ServiceSigns_tell 54 = .ok (.iconst 1, 1) := by decide +kernel
theorem d_ServiceSigns_tell_55 : decode c_ServiceSigns_tell 55 = .ok (.ireturn, 1) := by decide +kernel
theorem d_ServiceSigns_signOf_0 : decode c_ServiceSigns_signOf 0 = .ok (.iload_n 1, 1) := by decide +kernel
theorem d_ServiceSigns_signOf_1 : decode c_ServiceSigns_signOf 1 = .ok (.ifCond .lt 21, 3) := by decide +kernel
theorem d_ServiceSigns_signOf_4 : decode c_ServiceSigns_signOf 4 = .ok (.iload_n 1, 1) := by decide +kernel
theorem d_ServiceSigns_signOf_5 : decode c_ServiceSigns_signOf 5 = .ok (.aload_n 0, 1) := by decide +kernel
theorem d_ServiceSigns_signOf_6 : decode c_ServiceSigns_signOf 6 = .ok (.getfield 20, 3) := by decide +kernel
theorem d_ServiceSigns_signOf_9 : decode c_ServiceSigns_signOf 9 = .ok (.arraylength, 1) := by decide +kernel
theorem d_ServiceSigns_signOf_10 : decode c_ServiceSigns_signOf 10 = .ok (.if_icmp .ge 12, 3) := by decide +kernel
theorem d_ServiceSigns_signOf_13 : decode c_ServiceSigns_signOf 13 = .ok (.aload_n 0, 1) := by decide +kernel
theorem d_ServiceSigns_signOf_14 : decode c_ServiceSigns_signOf 14 = .ok (.getfield 20, 3) := by decide +kernel
theorem d_ServiceSigns_signOf_17 : decode c_ServiceSigns_signOf 17 = .ok (.iload_n 1, 1) := by decide +kernel
theorem d_ServiceSigns_signOf_18 : decode c_ServiceSigns_signOf 18 = .ok (.iaload, 1) := by decide +kernel
theorem d_ServiceSigns_signOf_19 : decode c_ServiceSigns_signOf 19 = .ok (.goto 4, 3) := by decide +kernel
theorem d_ServiceSigns_signOf_22 : decode c_ServiceSigns_signOf 22 = .ok (.iconst (-1), 1) := by decide +kernel
theorem d_ServiceSigns_signOf_23 : decode c_ServiceSigns_signOf 23 = .ok (.ireturn, 1) := by decide +kernel
theorem d_ServiceSigns_numberOf_0 : decode c_ServiceSigns_numberOf 0 = .ok (.iconst 0, 1) := by decide +kernel
theorem d_ServiceSigns_numberOf_1 : decode c_ServiceSigns_numberOf 1 = .ok (.istore_n 2, 1) := by decide +kernel
theorem d_ServiceSigns_numberOf_2 : decode c_ServiceSigns_numberOf 2 = .ok (.iload_n 2, 1) := by decide +kernel
theorem d_ServiceSigns_numberOf_3 : decode c_ServiceSigns_numberOf 3 = .ok (.aload_n 0, 1) := by decide +kernel
theorem d_ServiceSigns_numberOf_4 : decode c_ServiceSigns_numberOf 4 = .ok (.getfield 20, 3) := by decide +kernel
theorem d_ServiceSigns_numberOf_7 : decode c_ServiceSigns_numberOf 7 = .ok (.arraylength, 1) := by decide +kernel
theorem d_ServiceSigns_numberOf_8 : decode c_ServiceSigns_numberOf 8 = .ok (.if_icmp .ge 21, 3) := by decide +kernel
theorem d_ServiceSigns_numberOf_11 : decode c_ServiceSigns_numberOf 11 = .ok (.aload_n 0, 1) := by decide +kernel
theorem d_ServiceSigns_numberOf_12 : decode c_ServiceSigns_numberOf 12 = .ok (.getfield 20, 3) := by decide +kernel
theorem d_ServiceSigns_numberOf_15 : decode c_ServiceSigns_numberOf 15 = .ok (.iload_n 2, 1) := by decide +kernel
theorem d_ServiceSigns_numberOf_16 : decode c_ServiceSigns_numberOf 16 = .ok (.iaload, 1) := by decide +kernel
theorem d_ServiceSigns_numberOf_17 : decode c_ServiceSigns_numberOf 17 = .ok (.iload_n 1, 1) := by decide +kernel
theorem d_ServiceSigns_numberOf_18 : decode c_ServiceSigns_numberOf 18 = .ok (.if_icmp .ne 5, 3) := by decide +kernel
theorem d_ServiceSigns_numberOf_21 : decode c_ServiceSigns_numberOf 21 = .ok (.iload_n 2, 1) := by decide +kernel
theorem d_ServiceSigns_numberOf_22 : decode c_ServiceSigns_numberOf 22 = .ok (.ireturn, 1) := by decide +kernel
theorem d_ServiceSigns_numberOf_23 : decode c_ServiceSigns_numberOf 23 = .ok (.iinc 2 1, 3) := by decide +kernel
theorem d_ServiceSigns_numberOf_26 : decode c_ServiceSigns_numberOf 26 = .ok (.goto (-24), 3) := by decide +kernel
theorem d_ServiceSigns_numberOf_29 : decode c_ServiceSigns_numberOf 29 = .ok (.iconst (-1), 1) := by decide +kernel
theorem d_ServiceSigns_numberOf_30 : decode c_ServiceSigns_numberOf 30 = .ok (.ireturn, 1) := by decide +kernel
theorem d_ServiceSigns_canServe_0 : decode c_ServiceSigns_canServe 0 = .ok (.iload_n 0, 1) := by decide +kernel
theorem d_ServiceSigns_canServe_1 : decode c_ServiceSigns_canServe 1 = .ok (.invokestatic 27, 3) := by decide +kernel
theorem d_ServiceSigns_canServe_4 : decode c_ServiceSigns_canServe 4 = .ok (.ifCond .ne 20, 3) := by decide +kernel
theorem d_ServiceSigns_canServe_7 : decode c_ServiceSigns_canServe 7 = .ok (.iload_n 0, 1) := by decide +kernel
theorem d_ServiceSigns_canServe_8 : decode c_ServiceSigns_canServe 8 = .ok (.invokestatic 32, 3) := by decide +kernel
theorem d_ServiceSigns_canServe_11 : decode c_ServiceSigns_canServe 11 = .ok (.ifCond .ne 13, 3) := by decide +kernel
theorem d_ServiceSigns_canServe_14 : decode c_ServiceSigns_canServe 14 = .ok (.iload_n 0, 1) := by decide +kernel
theorem d_ServiceSigns_canServe_15 : decode c_ServiceSigns_canServe 15 = .ok (.bipush 32, 2) := by decide +kernel
theorem d_ServiceSigns_canServe_17 : decode c_ServiceSigns_canServe 17 = .ok (.if_icmp .eq 7, 3) := by decide +kernel
theorem d_ServiceSigns_canServe_20 : decode c_ServiceSigns_canServe 20 = .ok (.iconst 1, 1) := by decide +kernel
theorem d_ServiceSigns_canServe_21 : decode c_ServiceSigns_canServe 21 = .ok (.goto 4, 3) := by decide +kernel
theorem d_ServiceSigns_canServe_24 : decode c_ServiceSigns_canServe 24 = .ok (.iconst 0, 1) := by decide +kernel
theorem d_ServiceSigns_canServe_25 : decode c_ServiceSigns_canServe 25 = .ok (.ireturn, 1) := by decide +kernel
theorem d_SignRow_init_0 : decode c_SignRow_init 0 = .ok (.aload_n 0, 1) := by decide +kernel
theorem d_SignRow_init_1 : decode c_SignRow_init 1 = .ok (.invokespecial 3, 3) := by decide +kernel
theorem d_SignRow_init_4 : decode c_SignRow_init 4 = .ok (.aload_n 0, 1) := by decide +kernel
theorem d_SignRow_init_5 : decode c_SignRow_init 5 = .ok (.sipush 1500, 3) := by decide +kernel
theorem d_SignRow_init_8 : decode c_SignRow_init 8 = .ok (.newarray .int, 2) := by decide +kernel
theorem d_SignRow_init_10 : decode c_SignRow_init 10 = .ok (.putfield 9, 3) := by decide +kernel
theorem d_SignRow_init_13 : decode c_SignRow_init 13 = .ok (.aload_n 0, 1) := by decide +kernel
theorem d_SignRow_init_14 : decode c_SignRow_init 14 = .ok (.iconst 0, 1) := by decide +kernel
theorem d_SignRow_init_15 : decode c_SignRow_init 15 = .ok (.putfield 15, 3) := by decide +kernel
theorem d_SignRow_init_18 : decode c_SignRow_init 18 = .ok (.return_, 1) := by decide +kernel
theorem d_SignRow_clear_0 : decode c_SignRow_clear 0 = .ok (.aload_n 0, 1) := by decide +kernel
theorem d_SignRow_clear_1 : decode c_SignRow_clear 1 = .ok (.iconst 0, 1) := by decide +kernel
theorem d_SignRow_clear_2 : decode c_SignRow_clear 2 = .ok (.putfield 15, 3) := by decide +kernel
theorem d_SignRow_clear_5 : decode c_SignRow_clear 5 = .ok (.return_, 1) := by decide +kernel
theorem d_SignRow_length_0 : decode c_SignRow_length 0 = .ok (.aload_n 0, 1) := by decide +kernel
theorem d_SignRow_length_1 : decode c_SignRow_length 1 = .ok (.getfield 15, 3) := by decide +kernel
theorem d_SignRow_length_4 : decode c_SignRow_length 4 = .ok (.ireturn, 1) := by decide +kernel
theorem d_SignRow_append_0 : decode c_SignRow_append 0 = .ok (.aload_n 0, 1) := by decide +kernel
theorem d_SignRow_append_1 : decode c_SignRow_append 1 = .ok (.getfield 15, 3) := by decide +kernel
theorem d_SignRow_append_4 : decode c_SignRow_append 4 = .ok (.ifCond .lt 15, 3) := by decide +kernel
theorem d_SignRow_append_7 : decode c_SignRow_append 7 = .ok (.aload_n 0, 1) := by decide +kernel
theorem d_SignRow_append_8 : decode c_SignRow_append 8 = .ok (.getfield 15, 3) := by decide +kernel
theorem d_SignRow_append_11 : decode c_SignRow_append 11 = .ok (.aload_n 0, 1) := by decide +kernel
theorem d_SignRow_append_12 : decode c_SignRow_append 12 = .ok (.getfield 9, 3) := by decide +kernel
theorem d_SignRow_append_15 : decode c_SignRow_append 15 = .ok (.arraylength, 1) := by decide +kernel
theorem d_SignRow_append_16 : decode c_SignRow_append 16 = .ok (.if_icmp .lt 5, 3) := by decide +kernel
theorem d_SignRow_append_19 : decode c_SignRow_append 19 = .ok (.iconst 0, 1) := by decide +kernel
theorem d_SignRow_append_20 : decode c_SignRow_append 20 = .ok (.ireturn, 1) := by decide +kernel
theorem d_SignRow_append_21 : decode c_SignRow_append 21 = .ok (.aload_n 0, 1) := by decide +kernel
theorem d_SignRow_append_22 : decode c_SignRow_append 22 = .ok (.getfield 9, 3) := by decide +kernel
theorem d_SignRow_append_25 : decode c_SignRow_append 25 = .ok (.aload_n 0, 1) := by decide +kernel
theorem d_SignRow_append_26 : decode c_SignRow_append 26 = .ok (.getfield 15, 3) := by decide +kernel
theorem d_SignRow_append_29 : decode c_SignRow_append 29 = .ok (.iload_n 1, 1) := by decide +kernel
theorem d_SignRow_append_30 : decode c_SignRow_append 30 = .ok (.iastore, 1) := by decide +kernel
theorem d_SignRow_append_31 : decode c_SignRow_append 31 = .ok (.aload_n 0, 1) := by decide +kernel
theorem d_SignRow_append_32 : decode c_SignRow_append 32 = .ok (.dup, 1) := by decide +kernel
theorem d_SignRow_append_33 : decode c_SignRow_append 33 = .ok (.getfield 15, 3) := by decide +kernel
theorem d_SignRow_append_36 : decode c_SignRow_append 36 = .ok (.iconst 1, 1) := by decide +kernel
theorem d_SignRow_append_37 : decode c_SignRow_append 37 = .ok (.iadd, 1) := by decide +kernel
theorem d_SignRow_append_38 : decode c_SignRow_append 38 = .ok (.putfield 15, 3) := by decide +kernel
theorem d_SignRow_append_41 : decode c_SignRow_append 41 = .ok (.iconst 1, 1) := by decide +kernel
theorem d_SignRow_append_42 : decode c_SignRow_append 42 = .ok (.ireturn, 1) := by decide +kernel
theorem d_SignRow_signAt_0 : decode c_SignRow_signAt 0 = .ok (.iload_n 1, 1) := by decide +kernel
theorem d_SignRow_signAt_1 : decode c_SignRow_signAt 1 = .ok (.ifCond .lt 29, 3) := by decide +kernel
theorem d_SignRow_signAt_4 : decode c_SignRow_signAt 4 = .ok (.iload_n 1, 1) := by decide +kernel
theorem d_SignRow_signAt_5 : decode c_SignRow_signAt 5 = .ok (.aload_n 0, 1) := by decide +kernel
theorem d_SignRow_signAt_6 : decode c_SignRow_signAt 6 = .ok (.getfield 15, 3) := by decide +kernel
theorem d_SignRow_signAt_9 : decode c_SignRow_signAt 9 = .ok (.if_icmp .ge 21, 3) := by decide +kernel
theorem d_SignRow_signAt_12 : decode c_SignRow_signAt 12 = .ok (.iload_n 1, 1) := by decide +kernel
theorem d_SignRow_signAt_13 : decode c_SignRow_signAt 13 = .ok (.aload_n 0, 1) := by decide +kernel
theorem d_SignRow_signAt_14 : decode c_SignRow_signAt 14 = .ok (.getfield 9, 3) := by decide +kernel
theorem d_SignRow_signAt_17 : decode c_SignRow_signAt 17 = .ok (.arraylength, 1) := by decide +kernel
theorem d_SignRow_signAt_18 : decode c_SignRow_signAt 18 = .ok (.if_icmp .ge 12, 3) := by decide +kernel
theorem d_SignRow_signAt_21 : decode c_SignRow_signAt 21 = .ok (.aload_n 0, 1) := by decide +kernel
theorem d_SignRow_signAt_22 : decode c_SignRow_signAt 22 = .ok (.getfield 9, 3) := by decide +kernel
theorem d_SignRow_signAt_25 : decode c_SignRow_signAt 25 = .ok (.iload_n 1, 1) := by decide +kernel
theorem d_SignRow_signAt_26 : decode c_SignRow_signAt 26 = .ok (.iaload, 1) := by decide +kernel
theorem d_SignRow_signAt_27 : decode c_SignRow_signAt 27 = .ok (.goto 4, 3) := by decide +kernel
theorem d_SignRow_signAt_30 : decode c_SignRow_signAt 30 = .ok (.iconst 0, 1) := by decide +kernel
theorem d_SignRow_signAt_31 : decode c_SignRow_signAt 31 = .ok (.ireturn, 1) := by decide +kernel
theorem d_Tag_isCapital_0 : decode c_Tag_isCapital 0 = .ok (.iload_n 0, 1) := by decide +kernel
theorem d_Tag_isCapital_1 : decode c_Tag_isCapital 1 = .ok (.bipush 65, 2) := by decide +kernel
theorem d_Tag_isCapital_3 : decode c_Tag_isCapital 3 = .ok (.if_icmp .lt 13, 3) := by decide +kernel
theorem d_Tag_isCapital_6 : decode c_Tag_isCapital 6 = .ok (.iload_n 0, 1) := by decide +kernel
theorem d_Tag_isCapital_7 : decode c_Tag_isCapital 7 = .ok (.bipush 90, 2) := by decide +kernel
theorem d_Tag_isCapital_9 : decode c_Tag_isCapital 9 = .ok (.if_icmp .gt 7, 3) := by decide +kernel
theorem d_Tag_isCapital_12 : decode c_Tag_isCapital 12 = .ok (.iconst 1, 1) := by decide +kernel
theorem d_Tag_isCapital_13 : decode c_Tag_isCapital 13 = .ok (.goto 4, 3) := by decide +kernel
theorem d_Tag_isCapital_16 : decode c_Tag_isCapital 16 = .ok (.iconst 0, 1) := by decide +kernel
theorem d_Tag_isCapital_17 : decode c_Tag_isCapital 17 = .ok (.ireturn, 1) := by decide +kernel
theorem d_Tag_isSmall_0 : decode c_Tag_isSmall 0 = .ok (.iload_n 0, 1) := by decide +kernel
theorem d_Tag_isSmall_1 : decode c_Tag_isSmall 1 = .ok (.bipush 97, 2) := by decide +kernel
theorem d_Tag_isSmall_3 : decode c_Tag_isSmall 3 = .ok (.if_icmp .lt 13, 3) := by decide +kernel
theorem d_Tag_isSmall_6 : decode c_Tag_isSmall 6 = .ok (.iload_n 0, 1) := by decide +kernel
theorem d_Tag_isSmall_7 : decode c_Tag_isSmall 7 = .ok (.bipush 122, 2) := by decide +kernel
theorem d_Tag_isSmall_9 : decode c_Tag_isSmall 9 = .ok (.if_icmp .gt 7, 3) := by decide +kernel
theorem d_Tag_isSmall_12 : decode c_Tag_isSmall 12 = .ok (.iconst 1, 1) := by decide +kernel
theorem d_Tag_isSmall_13 : decode c_Tag_isSmall 13 = .ok (.goto 4, 3) := by decide +kernel
theorem d_Tag_isSmall_16 : decode c_Tag_isSmall 16 = .ok (.iconst 0, 1) := by decide +kernel
theorem d_Tag_isSmall_17 : decode c_Tag_isSmall 17 = .ok (.ireturn, 1) := by decide +kernel
theorem d_Tag_isDigit_0 : decode c_Tag_isDigit 0 = .ok (.iload_n 0, 1) := by decide +kernel
theorem d_Tag_isDigit_1 : decode c_Tag_isDigit 1 = .ok (.bipush 48, 2) := by decide +kernel
theorem d_Tag_isDigit_3 : decode c_Tag_isDigit 3 = .ok (.if_icmp .lt 13, 3) := by decide +kernel
theorem d_Tag_isDigit_6 : decode c_Tag_isDigit 6 = .ok (.iload_n 0, 1) := by decide +kernel
theorem d_Tag_isDigit_7 : decode c_Tag_isDigit 7 = .ok (.bipush 57, 2) := by decide +kernel
theorem d_Tag_isDigit_9 : decode c_Tag_isDigit 9 = .ok (.if_icmp .gt 7, 3) := by decide +kernel
theorem d_Tag_isDigit_12 : decode c_Tag_isDigit 12 = .ok (.iconst 1, 1) := by decide +kernel
theorem d_Tag_isDigit_13 : decode c_Tag_isDigit 13 = .ok (.goto 4, 3) := by decide +kernel
theorem d_Tag_isDigit_16 : decode c_Tag_isDigit 16 = .ok (.iconst 0, 1) := by decide +kernel
theorem d_Tag_isDigit_17 : decode c_Tag_isDigit 17 = .ok (.ireturn, 1) := by decide +kernel
theorem d_Tag_isLaterSign_0 : decode c_Tag_isLaterSign 0 = .ok (.iload_n 0, 1) := by decide +kernel
theorem d_Tag_isLaterSign_1 : decode c_Tag_isLaterSign 1 = .ok (.invokestatic 7, 3) := by decide +kernel
theorem d_Tag_isLaterSign_4 : decode c_Tag_isLaterSign 4 = .ok (.ifCond .ne 10, 3) := by decide +kernel
theorem d_Tag_isLaterSign_7 : decode c_Tag_isLaterSign 7 = .ok (.iload_n 0, 1) := by decide +kernel
theorem d_Tag_isLaterSign_8 : decode c_Tag_isLaterSign 8 = .ok (.invokestatic 13, 3) := by decide +kernel
theorem d_Tag_isLaterSign_11 : decode c_Tag_isLaterSign 11 = .ok (.ifCond .eq 7, 3) := by decide +kernel
theorem d_Tag_isLaterSign_14 : decode c_Tag_isLaterSign 14 = .ok (.iconst 1, 1) := by decide +kernel
theorem d_Tag_isLaterSign_15 : decode c_Tag_isLaterSign 15 = .ok (.goto 4, 3) := by decide +kernel
theorem d_Tag_isLaterSign_18 : decode c_Tag_isLaterSign 18 = .ok (.iconst 0, 1) := by decide +kernel
theorem d_Tag_isLaterSign_19 : decode c_Tag_isLaterSign 19 = .ok (.ireturn, 1) := by decide +kernel
theorem d_Tag_isTag_0 : decode c_Tag_isTag 0 = .ok (.iload_n 0, 1) := by decide +kernel
theorem d_Tag_isTag_1 : decode c_Tag_isTag 1 = .ok (.invokestatic 16, 3) := by decide +kernel
theorem d_Tag_isTag_4 : decode c_Tag_isTag 4 = .ok (.invokestatic 7, 3) := by decide +kernel
theorem d_Tag_isTag_7 : decode c_Tag_isTag 7 = .ok (.ifCond .eq 27, 3) := by decide +kernel
theorem d_Tag_isTag_10 : decode c_Tag_isTag 10 = .ok (.iload_n 0, 1) := by decide +kernel
theorem d_Tag_isTag_11 : decode c_Tag_isTag 11 = .ok (.invokestatic 20, 3) := by decide +kernel
theorem d_Tag_isTag_14 : decode c_Tag_isTag 14 = .ok (.invokestatic 23, 3) := by decide +kernel
theorem d_Tag_isTag_17 : decode c_Tag_isTag 17 = .ok (.ifCond .eq 17, 3) := by decide +kernel
theorem d_Tag_isTag_20 : decode c_Tag_isTag 20 = .ok (.iload_n 0, 1) := by decide +kernel
theorem d_Tag_isTag_21 : decode c_Tag_isTag 21 = .ok (.invokestatic 26, 3) := by decide +kernel
theorem d_Tag_isTag_24 : decode c_Tag_isTag 24 = .ok (.invokestatic 23, 3) := by decide +kernel
theorem d_Tag_isTag_27 : decode c_Tag_isTag 27 = .ok (.ifCond .eq 7, 3) := by decide +kernel
theorem d_Tag_isTag_30 : decode c_Tag_isTag 30 = .ok (.iconst 1, 1) := by decide +kernel
theorem d_Tag_isTag_31 : decode c_Tag_isTag 31 = .ok (.goto 4, 3) := by decide +kernel
theorem d_Tag_isTag_34 : decode c_Tag_isTag 34 = .ok (.iconst 0, 1) := by decide +kernel
theorem d_Tag_isTag_35 : decode c_Tag_isTag 35 = .ok (.ireturn, 1) := by decide +kernel
theorem d_Tag_first_0 : decode c_Tag_first 0 = .ok (.iload_n 0, 1) := by decide +kernel
theorem d_Tag_first_1 : decode c_Tag_first 1 = .ok (.bipush 16, 2) := by decide +kernel
theorem d_Tag_first_3 : decode c_Tag_first 3 = .ok (.ishr, 1) := by decide +kernel
theorem d_Tag_first_4 : decode c_Tag_first 4 = .ok (.ireturn, 1) := by decide +kernel
theorem d_Tag_second_0 : decode c_Tag_second 0 = .ok (.iload_n 0, 1) := by decide +kernel
theorem d_Tag_second_1 : decode c_Tag_second 1 = .ok (.bipush 8, 2) := by decide +kernel
theorem d_Tag_second_3 : decode c_Tag_second 3 = .ok (.ishr, 1) := by decide +kernel
theorem d_Tag_second_4 : decode c_Tag_second 4 = .ok (.sipush 255, 3) := by decide +kernel
theorem d_Tag_second_7 : decode c_Tag_second 7 = .ok (.iand, 1) := by decide +kernel
theorem d_Tag_second_8 : decode c_Tag_second 8 = .ok (.ireturn, 1) := by decide +kernel
theorem d_Tag_third_0 : decode c_Tag_third 0 = .ok (.iload_n 0, 1) := by decide +kernel
theorem d_Tag_third_1 : decode c_Tag_third 1 = .ok (.sipush 255, 3) := by decide +kernel
theorem d_Tag_third_4 : decode c_Tag_third 4 = .ok (.iand, 1) := by decide +kernel
theorem d_Tag_third_5 : decode c_Tag_third 5 = .ok (.ireturn, 1) := by decide +kernel
theorem d_Writer_init_0 : decode c_Writer_init 0 = .ok (.aload_n 0, 1) := by decide +kernel
theorem d_Writer_init_1 : decode c_Writer_init 1 = .ok (.invokespecial 3, 3) := by decide +kernel
theorem d_Writer_init_4 : decode c_Writer_init 4 = .ok (.aload_n 0, 1) := by decide +kernel
theorem d_Writer_init_5 : decode c_Writer_init 5 = .ok (.aload_n 1, 1) := by decide +kernel
theorem d_Writer_init_6 : decode c_Writer_init 6 = .ok (.putfield 9, 3) := by decide +kernel
theorem d_Writer_init_9 : decode c_Writer_init 9 = .ok (.aload_n 0, 1) := by decide +kernel
theorem d_Writer_init_10 : decode c_Writer_init 10 = .ok (.aload_n 2, 1) := by decide +kernel
theorem d_Writer_init_11 : decode c_Writer_init 11 = .ok (.putfield 15, 3) := by decide +kernel
theorem d_Writer_init_14 : decode c_Writer_init 14 = .ok (.aload_n 0, 1) := by decide +kernel
theorem d_Writer_init_15 : decode c_Writer_init 15 = .ok (.aload_n 3, 1) := by decide +kernel
theorem d_Writer_init_16 : decode c_Writer_init 16 = .ok (.putfield 19, 3) := by decide +kernel
theorem d_Writer_init_19 : decode c_Writer_init 19 = .ok (.return_, 1) := by decide +kernel
theorem d_Writer_write_0 : decode c_Writer_write 0 = .ok (.aload_n 0, 1) := by decide +kernel
theorem d_Writer_write_1 : decode c_Writer_write 1 = .ok (.getfield 19, 3) := by decide +kernel
theorem d_Writer_write_4 : decode c_Writer_write 4 = .ok (.invokevirtual 23, 3) := by decide +kernel
theorem d_Writer_write_7 : decode c_Writer_write 7 = .ok (.iconst 0, 1) := by decide +kernel
theorem d_Writer_write_8 : decode c_Writer_write 8 = .ok (.istore_n 1, 1) := by decide +kernel
theorem d_Writer_write_9 : decode c_Writer_write 9 = .ok (.iload_n 1, 1) := by decide +kernel
theorem d_Writer_write_10 : decode c_Writer_write 10 = .ok (.aload_n 0, 1) := by decide +kernel
theorem d_Writer_write_11 : decode c_Writer_write 11 = .ok (.getfield 9, 3) := by decide +kernel
theorem d_Writer_write_14 : decode c_Writer_write 14 = .ok (.invokevirtual 28, 3) := by decide +kernel
theorem d_Writer_write_17 : decode c_Writer_write 17 = .ok (.if_icmp .ge 63, 3) := by decide +kernel
theorem d_Writer_write_20 : decode c_Writer_write 20 = .ok (.aload_n 0, 1) := by decide +kernel
theorem d_Writer_write_21 : decode c_Writer_write 21 = .ok (.aload_n 0, 1) := by decide +kernel
theorem d_Writer_write_22 : decode c_Writer_write 22 = .ok (.getfield 9, 3) := by decide +kernel
theorem d_Writer_write_25 : decode c_Writer_write 25 = .ok (.iload_n 1, 1) := by decide +kernel
theorem d_Writer_write_26 : decode c_Writer_write 26 = .ok (.invokevirtual 34, 3) := by decide +kernel
theorem d_Writer_write_29 : decode c_Writer_write 29 = .ok (.invokevirtual 38, 3) := by decide +kernel
theorem d_Writer_write_32 : decode c_Writer_write 32 = .ok (.aload_n 0, 1) := by decide +kernel
theorem d_Writer_write_33 : decode c_Writer_write 33 = .ok (.iload_n 1, 1) := by decide +kernel
theorem d_Writer_write_34 : decode c_Writer_write 34 = .ok (.invokevirtual 42, 3) := by decide +kernel
theorem d_Writer_write_37 : decode c_Writer_write 37 = .ok (.istore_n 2, 1) := by decide +kernel
theorem d_Writer_write_38 : decode c_Writer_write 38 = .ok (.iconst 0, 1) := by decide +kernel
theorem d_Writer_write_39 : decode c_Writer_write 39 = .ok (.istore_n 3, 1) := by decide +kernel
theorem d_Writer_write_40 : decode c_Writer_write 40 = .ok (.iload_n 3, 1) := by decide +kernel
theorem d_Writer_write_41 : decode c_Writer_write 41 = .ok (.iload_n 2, 1) := by decide +kernel
theorem d_Writer_write_42 : decode c_Writer_write 42 = .ok (.if_icmp .ge 27, 3) := by decide +kernel
theorem d_Writer_write_45 : decode c_Writer_write 45 = .ok (.aload_n 0, 1) := by decide +kernel
theorem d_Writer_write_46 : decode c_Writer_write 46 = .ok (.iconst 1, 1) := by decide +kernel
theorem d_Writer_write_47 : decode c_Writer_write 47 = .ok (.invokevirtual 47, 3) := by decide +kernel
theorem d_Writer_write_50 : decode c_Writer_write 50 = .ok (.aload_n 0, 1) := by decide +kernel
theorem d_Writer_write_51 : decode c_Writer_write 51 = .ok (.aload_n 0, 1) := by decide +kernel
theorem d_Writer_write_52 : decode c_Writer_write 52 = .ok (.getfield 9, 3) := by decide +kernel
theorem d_Writer_write_55 : decode c_Writer_write 55 = .ok (.iload_n 1, 1) := by decide +kernel
theorem d_Writer_write_56 : decode c_Writer_write 56 = .ok (.iload_n 3, 1) := by decide +kernel
theorem d_Writer_write_57 : decode c_Writer_write 57 = .ok (.invokevirtual 50, 3) := by decide +kernel
theorem d_Writer_write_60 : decode c_Writer_write 60 = .ok (.invokevirtual 54, 3) := by decide +kernel
theorem d_Writer_write_63 : decode c_Writer_write 63 = .ok (.iinc 3 1, 3) := by decide +kernel
theorem d_Writer_write_66 : decode c_Writer_write 66 = .ok (.goto (-26), 3) := by decide +kernel
theorem d_Writer_write_69 : decode c_Writer_write 69 = .ok (.aload_n 0, 1) := by decide +kernel
theorem d_Writer_write_70 : decode c_Writer_write 70 = .ok (.iconst 4, 1) := by decide +kernel
theorem d_Writer_write_71 : decode c_Writer_write 71 = .ok (.invokevirtual 47, 3) := by decide +kernel
theorem d_Writer_write_74 : decode c_Writer_write 74 = .ok (.iinc 1 1, 3) := by decide +kernel
theorem d_Writer_write_77 : decode c_Writer_write 77 = .ok (.goto (-68), 3) := by decide +kernel
theorem d_Writer_write_80 : decode c_Writer_write 80 = .ok (.return_, 1) := by decide +kernel
theorem d_Writer_writeTag_0 : decode c_Writer_writeTag 0 = .ok (.aload_n 0, 1) := by decide +kernel
theorem d_Writer_writeTag_1 : decode c_Writer_writeTag 1 = .ok (.getfield 19, 3) := by decide +kernel
theorem d_Writer_writeTag_4 : decode c_Writer_writeTag 4 = .ok (.iload_n 1, 1) := by decide +kernel
theorem d_Writer_writeTag_5 : decode c_Writer_writeTag 5 = .ok (.invokestatic 57, 3) := by decide +kernel
theorem d_Writer_writeTag_8 : decode c_Writer_writeTag 8 = .ok (.invokevirtual 62, 3) := by decide +kernel
theorem d_Writer_writeTag_11 : decode c_Writer_writeTag 11 = .ok (.pop, 1) := by decide +kernel
theorem d_Writer_writeTag_12 : decode c_Writer_writeTag 12 = .ok (.aload_n 0, 1) := by decide +kernel
theorem d_Writer_writeTag_13 : decode c_Writer_writeTag 13 = .ok (.getfield 19, 3) := by decide +kernel
theorem d_Writer_writeTag_16 : decode c_Writer_writeTag 16 = .ok (.iload_n 1, 1) := by decide +kernel
theorem d_Writer_writeTag_17 : decode c_Writer_writeTag 17 = .ok (.invokestatic 66, 3) := by decide +kernel
theorem d_Writer_writeTag_20 : decode c_Writer_writeTag 20 = .ok (.invokevirtual 62, 3) := by decide +kernel
theorem d_Writer_writeTag_23 : decode c_Writer_writeTag 23 = .ok (.pop, 1) := by decide +kernel
theorem d_Writer_writeTag_24 : decode c_Writer_writeTag 24 = .ok (.aload_n 0, 1) := by decide +kernel
theorem d_Writer_writeTag_25 : decode c_Writer_writeTag 25 = .ok (.getfield 19, 3) := by decide +kernel
theorem d_Writer_writeTag_28 : decode c_Writer_writeTag 28 = .ok (.iload_n 1, 1) := by decide +kernel
theorem d_Writer_writeTag_29 : decode c_Writer_writeTag 29 = .ok (.invokestatic 69, 3) := by decide +kernel
theorem d_Writer_writeTag_32 : decode c_Writer_writeTag 32 = .ok (.invokevirtual 62, 3) := by decide +kernel
theorem d_Writer_writeTag_35 : decode c_Writer_writeTag 35 = .ok (.pop, 1) := by decide +kernel
theorem d_Writer_writeTag_36 : decode c_Writer_writeTag 36 = .ok (.return_, 1) := by decide +kernel
theorem d_Writer_writeRepeats_0 : decode c_Writer_writeRepeats 0 = .ok (.aload_n 0, 1) := by decide +kernel
theorem d_Writer_writeRepeats_1 : decode c_Writer_writeRepeats 1 = .ok (.iload_n 1, 1) := by decide +kernel
theorem d_Writer_writeRepeats_2 : decode c_Writer_writeRepeats 2 = .ok (.invokevirtual 72, 3) := by decide +kernel
theorem d_Writer_writeRepeats_5 : decode c_Writer_writeRepeats 5 = .ok (.istore_n 2, 1) := by decide +kernel
theorem d_Writer_writeRepeats_6 : decode c_Writer_writeRepeats 6 = .ok (.iconst 0, 1) := by decide +kernel
theorem d_Writer_writeRepeats_7 : decode c_Writer_writeRepeats 7 = .ok (.istore_n 3, 1) := by decide +kernel
theorem d_Writer_writeRepeats_8 : decode c_Writer_writeRepeats 8 = .ok (.iload_n 3, 1) := by decide +kernel
theorem d_Writer_writeRepeats_9 : decode c_Writer_writeRepeats 9 = .ok (.iload_n 2, 1) := by decide +kernel
theorem d_Writer_writeRepeats_10 : decode c_Writer_writeRepeats 10 = .ok (.if_icmp .ge 31, 3) := by decide +kernel
theorem d_Writer_writeRepeats_13 : decode c_Writer_writeRepeats 13 = .ok (.iload_n 3, 1) := by decide +kernel
theorem d_Writer_writeRepeats_14 : decode c_Writer_writeRepeats 14 = .ok (.ifCond .le 8, 3) := by decide +kernel
theorem d_Writer_writeRepeats_17 : decode c_Writer_writeRepeats 17 = .ok (.aload_n 0, 1) := by decide +kernel
theorem d_Writer_writeRepeats_18 : decode c_Writer_writeRepeats 18 = .ok (.iconst 3, 1) := by decide +kernel
theorem d_Writer_writeRepeats_19 : decode c_Writer_writeRepeats 19 = .ok (.invokevirtual 47, 3) := by decide +kernel
theorem d_Writer_writeRepeats_22 : decode c_Writer_writeRepeats 22 = .ok (.aload_n 0, 1) := by decide +kernel
theorem d_Writer_writeRepeats_23 : decode c_Writer_writeRepeats 23 = .ok (.aload_n 0, 1) := by decide +kernel
theorem d_Writer_writeRepeats_24 : decode c_Writer_writeRepeats 24 = .ok (.getfield 9, 3) := by decide +kernel
theorem d_Writer_writeRepeats_27 : decode c_Writer_writeRepeats 27 = .ok (.iload_n 1, 1) := by decide +kernel
theorem d_Writer_writeRepeats_28 : decode c_Writer_writeRepeats 28 = .ok (.iload_n 3, 1) := by decide +kernel
theorem d_Writer_writeRepeats_29 : decode c_Writer_writeRepeats 29 = .ok (.invokevirtual 75, 3) := by decide +kernel
theorem d_Writer_writeRepeats_32 : decode c_Writer_writeRepeats 32 = .ok (.invokevirtual 78, 3) := by decide +kernel
theorem d_Writer_writeRepeats_35 : decode c_Writer_writeRepeats 35 = .ok (.iinc 3 1, 3) := by decide +kernel
theorem d_Writer_writeRepeats_38 : decode c_Writer_writeRepeats 38 = .ok (.goto (-30), 3) := by decide +kernel
theorem d_Writer_writeRepeats_41 : decode c_Writer_writeRepeats 41 = .ok (.return_, 1) := by decide +kernel
theorem d_Writer_writeComponents_0 : decode c_Writer_writeComponents 0 = .ok (.aload_n 0, 1) := by decide +kernel
theorem d_Writer_writeComponents_1 : decode c_Writer_writeComponents 1 = .ok (.iload_n 1, 1) := by decide +kernel
theorem d_Writer_writeComponents_2 : decode c_Writer_writeComponents 2 = .ok (.invokevirtual 81, 3) := by decide +kernel
theorem d_Writer_writeComponents_5 : decode c_Writer_writeComponents 5 = .ok (.istore_n 2, 1) := by decide +kernel
theorem d_Writer_writeComponents_6 : decode c_Writer_writeComponents 6 = .ok (.iconst 0, 1) := by decide +kernel
theorem d_Writer_writeComponents_7 : decode c_Writer_writeComponents 7 = .ok (.istore_n 3, 1) := by decide +kernel
theorem d_Writer_writeComponents_8 : decode c_Writer_writeComponents 8 = .ok (.iload_n 3, 1) := by decide +kernel
theorem d_Writer_writeComponents_9 : decode c_Writer_writeComponents 9 = .ok (.iload_n 2, 1) := by decide +kernel
theorem d_Writer_writeComponents_10 : decode c_Writer_writeComponents 10 = .ok (.if_icmp .ge 31, 3) := by decide +kernel
theorem d_Writer_writeComponents_13 : decode c_Writer_writeComponents 13 = .ok (.iload_n 3, 1) := by decide +kernel
theorem d_Writer_writeComponents_14 : decode c_Writer_writeComponents 14 = .ok (.ifCond .le 8, 3) := by decide +kernel
theorem d_Writer_writeComponents_17 : decode c_Writer_writeComponents 17 = .ok (.aload_n 0, 1) := by decide +kernel
theorem d_Writer_writeComponents_18 : decode c_Writer_writeComponents 18 = .ok (.iconst 0, 1) := by decide +kernel
theorem d_Writer_writeComponents_19 : decode c_Writer_writeComponents 19 = .ok (.invokevirtual 47, 3) := by decide +kernel
theorem d_Writer_writeComponents_22 : decode c_Writer_writeComponents 22 = .ok (.aload_n 0, 1) := by decide +kernel
theorem d_Writer_writeComponents_23 : decode c_Writer_writeComponents 23 = .ok (.aload_n 0, 1) := by decide +kernel
theorem d_Writer_writeComponents_24 : decode c_Writer_writeComponents 24 = .ok (.getfield 9, 3) := by decide +kernel
theorem d_Writer_writeComponents_27 : decode c_Writer_writeComponents 27 = .ok (.iload_n 1, 1) := by decide +kernel
theorem d_Writer_writeComponents_28 : decode c_Writer_writeComponents 28 = .ok (.iload_n 3, 1) := by decide +kernel
theorem d_Writer_writeComponents_29 : decode c_Writer_writeComponents 29 = .ok (.invokevirtual 84, 3) := by decide +kernel
theorem d_Writer_writeComponents_32 : decode c_Writer_writeComponents 32 = .ok (.invokevirtual 87, 3) := by decide +kernel
theorem d_Writer_writeComponents_35 : decode c_Writer_writeComponents 35 = .ok (.iinc 3 1, 3) := by decide +kernel
theorem d_Writer_writeComponents_38 : decode c_Writer_writeComponents 38 = .ok (.goto (-30), 3) := by decide +kernel
theorem d_Writer_writeComponents_41 : decode c_Writer_writeComponents 41 = .ok (.return_, 1) := by decide +kernel
theorem d_Writer_writeLetters_0 : decode c_Writer_writeLetters 0 = .ok (.aload_n 0, 1) := by decide +kernel
theorem d_Writer_writeLetters_1 : decode c_Writer_writeLetters 1 = .ok (.getfield 9, 3) := by decide +kernel
theorem d_Writer_writeLetters_4 : decode c_Writer_writeLetters 4 = .ok (.iload_n 1, 1) := by decide +kernel
theorem d_Writer_writeLetters_5 : decode c_Writer_writeLetters 5 = .ok (.invokevirtual 90, 3) := by decide +kernel
theorem d_Writer_writeLetters_8 : decode c_Writer_writeLetters 8 = .ok (.istore_n 2, 1) := by decide +kernel
theorem d_Writer_writeLetters_9 : decode c_Writer_writeLetters 9 = .ok (.iconst 0, 1) := by decide +kernel
theorem d_Writer_writeLetters_10 : decode c_Writer_writeLetters 10 = .ok (.istore_n 3, 1) := by decide +kernel
theorem d_Writer_writeLetters_11 : decode c_Writer_writeLetters 11 = .ok (.iload_n 3, 1) := by decide +kernel
theorem d_Writer_writeLetters_12 : decode c_Writer_writeLetters 12 = .ok (.iload_n 2, 1) := by decide +kernel
theorem d_Writer_writeLetters_13 : decode c_Writer_writeLetters 13 = .ok (.if_icmp .ge 48, 3) := by decide +kernel
theorem d_Writer_writeLetters_16 : decode c_Writer_writeLetters 16 = .ok (.aload_n 0, 1) := by decide +kernel
theorem d_Writer_writeLetters_17 : decode c_Writer_writeLetters 17 = .ok (.getfield 9, 3) := by decide +kernel
theorem d_Writer_writeLetters_20 : decode c_Writer_writeLetters 20 = .ok (.iload_n 1, 1) := by decide +kernel
theorem d_Writer_writeLetters_21 : decode c_Writer_writeLetters 21 = .ok (.iload_n 3, 1) := by decide +kernel
theorem d_Writer_writeLetters_22 : decode c_Writer_writeLetters 22 = .ok (.invokevirtual 93, 3) := by decide +kernel
theorem d_Writer_writeLetters_25 : decode c_Writer_writeLetters 25 = .ok (.istore 4, 2) := by decide +kernel
theorem d_Writer_writeLetters_27 : decode c_Writer_writeLetters 27 = .ok (.aload_n 0, 1) := by decide +kernel
theorem d_Writer_writeLetters_28 : decode c_Writer_writeLetters 28 = .ok (.getfield 15, 3) := by decide +kernel
theorem d_Writer_writeLetters_31 : decode c_Writer_writeLetters 31 = .ok (.iload 4, 2) := by decide +kernel
theorem d_Writer_writeLetters_33 : decode c_Writer_writeLetters 33 = .ok (.invokevirtual 96, 3) := by decide +kernel
theorem d_Writer_writeLetters_36 : decode c_Writer_writeLetters 36 = .ok (.iconst (-1), 1) := by decide +kernel
theorem d_Writer_writeLetters_37 : decode c_Writer_writeLetters 37 = .ok (.if_icmp .eq 8, 3) := by decide +kernel
theorem d_Writer_writeLetters_40 : decode c_Writer_writeLetters 40 = .ok (.aload_n 0, 1) := by decide +kernel
theorem d_Writer_writeLetters_41 : decode c_Writer_writeLetters 41 = .ok (.iconst 2, 1) := by decide +kernel
theorem d_Writer_writeLetters_42 : decode c_Writer_writeLetters 42 = .ok (.invokevirtual 47, 3) := by decide +kernel
theorem d_Writer_writeLetters_45 : decode c_Writer_writeLetters 45 = .ok (.aload_n 0, 1) := by decide +kernel
theorem d_Writer_writeLetters_46 : decode c_Writer_writeLetters 46 = .ok (.getfield 19, 3) := by decide +kernel
theorem d_Writer_writeLetters_49 : decode c_Writer_writeLetters 49 = .ok (.iload 4, 2) := by decide +kernel
theorem d_Writer_writeLetters_51 : decode c_Writer_writeLetters 51 = .ok (.invokevirtual 62, 3) := by decide +kernel
theorem d_Writer_writeLetters_54 : decode c_Writer_writeLetters 54 = .ok (.pop, 1) := by decide +kernel
theorem d_Writer_writeLetters_55 : decode c_Writer_writeLetters 55 = .ok (.iinc 3 1, 3) := by decide +kernel
theorem d_Writer_writeLetters_58 : decode c_Writer_writeLetters 58 = .ok (.goto (-47), 3) := by decide +kernel
theorem d_Writer_writeLetters_61 : decode c_Writer_writeLetters 61 = .ok (.return_, 1) := by decide +kernel
theorem d_Writer_writeService_0 : decode c_Writer_writeService 0 = .ok (.aload_n 0, 1) := by decide +kernel
theorem d_Writer_writeService_1 : decode c_Writer_writeService 1 = .ok (.getfield 19, 3) := by decide +kernel
theorem d_Writer_writeService_4 : decode c_Writer_writeService 4 = .ok (.aload_n 0, 1) := by decide +kernel
theorem d_Writer_writeService_5 : decode c_Writer_writeService 5 = .ok (.getfield 15, 3) := by decide +kernel
theorem d_Writer_writeService_8 : decode c_Writer_writeService 8 = .ok (.iload_n 1, 1) := by decide +kernel
theorem d_Writer_writeService_9 : decode c_Writer_writeService 9 = .ok (.invokevirtual 99, 3) := by decide +kernel
theorem d_Writer_writeService_12 : decode c_Writer_writeService 12 = .ok (.invokevirtual 62, 3) := by decide +kernel
theorem d_Writer_writeService_15 : decode c_Writer_writeService 15 = .ok (.pop, 1) := by decide +kernel
theorem d_Writer_writeService_16 : decode c_Writer_writeService 16 = .ok (.return_, 1) := by decide +kernel
theorem d_Writer_keptElements_0 : decode c_Writer_keptElements 0 = .ok (.aload_n 0, 1) := by decide +kernel
theorem d_Writer_keptElements_1 : decode c_Writer_keptElements 1 = .ok (.getfield 9, 3) := by decide +kernel
theorem d_Writer_keptElements_4 : decode c_Writer_keptElements 4 = .ok (.iload_n 1, 1) := by decide +kernel
theorem d_Writer_keptElements_5 : decode c_Writer_keptElements 5 = .ok (.invokevirtual 102, 3) := by decide +kernel
theorem d_Writer_keptElements_8 : decode c_Writer_keptElements 8 = .ok (.istore_n 2, 1) := by decide +kernel
theorem d_Writer_keptElements_9 : decode c_Writer_keptElements 9 = .ok (.iload_n 2, 1) := by decide +kernel
theorem d_Writer_keptElements_10 : decode c_Writer_keptElements 10 = .ok (.ifCond .le 29, 3) := by decide +kernel
theorem d_Writer_keptElements_13 : decode c_Writer_keptElements 13 = .ok (.aload_n 0, 1) := by decide +kernel
theorem d_Writer_keptElements_14 : decode c_Writer_keptElements 14 = .ok (.aload_n 0, 1) := by decide +kernel
theorem d_Writer_keptElements_15 : decode c_Writer_keptElements 15 = .ok (.getfield 9, 3) := by decide +kernel
theorem d_Writer_keptElements_18 : decode c_Writer_keptElements 18 = .ok (.iload_n 1, 1) := by decide +kernel
theorem d_Writer_keptElements_19 : decode c_Writer_keptElements 19 = .ok (.iload_n 2, 1) := by decide +kernel
theorem d_Writer_keptElements_20 : decode c_Writer_keptElements 20 = .ok (.iconst 1, 1) := by decide +kernel
theorem d_Writer_keptElements_21 : decode c_Writer_keptElements 21 = .ok (.isub, 1) := by decide +kernel
theorem d_Writer_keptElements_22 : decode c_Writer_keptElements 22 = .ok (.invokevirtual 50, 3) := by decide +kernel
theorem d_Writer_keptElements_25 : decode c_Writer_keptElements 25 = .ok (.invokevirtual 72, 3) := by decide +kernel
theorem d_Writer_keptElements_28 : decode c_Writer_keptElements 28 = .ok (.ifCond .le 5, 3) := by decide +kernel
theorem d_Writer_keptElements_31 : decode c_Writer_keptElements 31 = .ok (.iload_n 2, 1) := by decide +kernel
theorem d_Writer_keptElements_32 : decode c_Writer_keptElements 32 = .ok (.ireturn, 1) := by decide +kernel
theorem d_Writer_keptElements_33 : decode c_Writer_keptElements 33 = .ok (.iinc 2 (-1), 3) := by decide +kernel
theorem d_Writer_keptElements_36 : decode c_Writer_keptElements 36 = .ok (.goto (-27), 3) := by decide +kernel
theorem d_Writer_keptElements_39 : decode c_Writer_keptElements 39 = .ok (.iconst 0, 1) := by decide +kernel
theorem d_Writer_keptElements_40 : decode c_Writer_keptElements 40 = .ok (.ireturn, 1) := by decide +kernel
theorem d_Writer_keptRepeats_0 : decode c_Writer_keptRepeats 0 = .ok (.aload_n 0, 1) := by decide +kernel
theorem d_Writer_keptRepeats_1 : decode c_Writer_keptRepeats 1 = .ok (.getfield 9, 3) := by decide +kernel
theorem d_Writer_keptRepeats_4 : decode c_Writer_keptRepeats 4 = .ok (.iload_n 1, 1) := by decide +kernel
theorem d_Writer_keptRepeats_5 : decode c_Writer_keptRepeats 5 = .ok (.invokevirtual 105, 3) := by decide +kernel
theorem d_Writer_keptRepeats_8 : decode c_Writer_keptRepeats 8 = .ok (.istore_n 2, 1) := by decide +kernel
theorem d_Writer_keptRepeats_9 : decode c_Writer_keptRepeats 9 = .ok (.iload_n 2, 1) := by decide +kernel
theorem d_Writer_keptRepeats_10 : decode c_Writer_keptRepeats 10 = .ok (.ifCond .le 29, 3) := by decide +kernel
theorem d_Writer_keptRepeats_13 : decode c_Writer_keptRepeats 13 = .ok (.aload_n 0, 1) := by decide +kernel
theorem d_Writer_keptRepeats_14 : decode c_Writer_keptRepeats 14 = .ok (.aload_n 0, 1) := by decide +kernel
theorem d_Writer_keptRepeats_15 : decode c_Writer_keptRepeats 15 = .ok (.getfield 9, 3) := by decide +kernel
theorem d_Writer_keptRepeats_18 : decode c_Writer_keptRepeats 18 = .ok (.iload_n 1, 1) := by decide +kernel
theorem d_Writer_keptRepeats_19 : decode c_Writer_keptRepeats 19 = .ok (.iload_n 2, 1) := by decide +kernel
theorem d_Writer_keptRepeats_20 : decode c_Writer_keptRepeats 20 = .ok (.iconst 1, 1) := by decide +kernel
theorem d_Writer_keptRepeats_21 : decode c_Writer_keptRepeats 21 = .ok (.isub, 1) := by decide +kernel
theorem d_Writer_keptRepeats_22 : decode c_Writer_keptRepeats 22 = .ok (.invokevirtual 75, 3) := by decide +kernel
theorem d_Writer_keptRepeats_25 : decode c_Writer_keptRepeats 25 = .ok (.invokevirtual 81, 3) := by decide +kernel
theorem d_Writer_keptRepeats_28 : decode c_Writer_keptRepeats 28 = .ok (.ifCond .le 5, 3) := by decide +kernel
theorem d_Writer_keptRepeats_31 : decode c_Writer_keptRepeats 31 = .ok (.iload_n 2, 1) := by decide +kernel
theorem d_Writer_keptRepeats_32 : decode c_Writer_keptRepeats 32 = .ok (.ireturn, 1) := by decide +kernel
theorem d_Writer_keptRepeats_33 : decode c_Writer_keptRepeats 33 = .ok (.iinc 2 (-1), 3) := by decide +kernel
theorem d_Writer_keptRepeats_36 : decode c_Writer_keptRepeats 36 = .ok (.goto (-27), 3) := by decide +kernel
theorem d_Writer_keptRepeats_39 : decode c_Writer_keptRepeats 39 = .ok (.iconst 0, 1) := by decide +kernel
theorem d_Writer_keptRepeats_40 : decode c_Writer_keptRepeats 40 = .ok (.ireturn, 1) := by decide +kernel
theorem d_Writer_keptComponents_0 : decode c_Writer_keptComponents 0 = .ok (.aload_n 0, 1) := by decide +kernel
theorem d_Writer_keptComponents_1 : decode c_Writer_keptComponents 1 = .ok (.getfield 9, 3) := by decide +kernel
theorem d_Writer_keptComponents_4 : decode c_Writer_keptComponents 4 = .ok (.iload_n 1, 1) := by decide +kernel
theorem d_Writer_keptComponents_5 : decode c_Writer_keptComponents 5 = .ok (.invokevirtual 108, 3) := by decide +kernel
theorem d_Writer_keptComponents_8 : decode c_Writer_keptComponents 8 = .ok (.istore_n 2, 1) := by decide +kernel
theorem d_Writer_keptComponents_9 : decode c_Writer_keptComponents 9 = .ok (.iload_n 2, 1) := by decide +kernel
theorem d_Writer_keptComponents_10 : decode c_Writer_keptComponents 10 = .ok (.ifCond .le 32, 3) := by decide +kernel
theorem d_Writer_keptComponents_13 : decode c_Writer_keptComponents 13 = .ok (.aload_n 0, 1) := by decide +kernel
theorem d_Writer_keptComponents_14 : decode c_Writer_keptComponents 14 = .ok (.getfield 9, 3) := by decide +kernel
theorem d_Writer_keptComponents_17 : decode c_Writer_keptComponents 17 = .ok (.aload_n 0, 1) := by decide +kernel
theorem d_Writer_keptComponents_18 : decode c_Writer_keptComponents 18 = .ok (.getfield 9, 3) := by decide +kernel
theorem d_Writer_keptComponents_21 : decode c_Writer_keptComponents 21 = .ok (.iload_n 1, 1) := by decide +kernel
theorem d_Writer_keptComponents_22 : decode c_Writer_keptComponents 22 = .ok (.iload_n 2, 1) := by decide +kernel
theorem d_Writer_keptComponents_23 : decode c_Writer_keptComponents 23 = .ok (.iconst 1, 1) := by decide +kernel
theorem d_Writer_keptComponents_24 : decode c_Writer_keptComponents 24 = .ok (.isub, 1) := by decide +kernel
theorem d_Writer_keptComponents_25 : decode c_Writer_keptComponents 25 = .ok (.invokevirtual 84, 3) := by decide +kernel
theorem d_Writer_keptComponents_28 : decode c_Writer_keptComponents 28 = .ok (.invokevirtual 90, 3) := by decide +kernel
theorem d_Writer_keptComponents_31 : decode c_Writer_keptComponents 31 = .ok (.ifCond .le 5, 3) := by decide +kernel
theorem d_Writer_keptComponents_34 : decode c_Writer_keptComponents 34 = .ok (.iload_n 2, 1) := by decide +kernel
theorem d_Writer_keptComponents_35 : decode c_Writer_keptComponents 35 = .ok (.ireturn, 1) := by decide +kernel
theorem d_Writer_keptComponents_36 : decode c_Writer_keptComponents 36 = .ok (.iinc 2 (-1), 3) := by decide +kernel
theorem d_Writer_keptComponents_39 : decode c_Writer_keptComponents 39 = .ok (.goto (-30), 3) := by decide +kernel
theorem d_Writer_keptComponents_42 : decode c_Writer_keptComponents 42 = .ok (.iconst 0, 1) := by decide +kernel
theorem d_Writer_keptComponents_43 : decode c_Writer_keptComponents 43 = .ok (.ireturn, 1) := by decide +kernel
theorem d_Forms_init_0 : decode c_Forms_init 0 = .ok (.aload_n 0, 1) := by decide +kernel
theorem d_Forms_init_1 : decode c_Forms_init 1 = .ok (.invokespecial 1, 3) := by decide +kernel
theorem d_Forms_init_4 : decode c_Forms_init 4 = .ok (.aload_n 0, 1) := by decide +kernel
theorem d_Forms_init_5 : decode c_Forms_init 5 = .ok (.new 7, 3) := by decide +kernel
theorem d_Forms_init_8 : decode c_Forms_init 8 = .ok (.dup, 1) := by decide +kernel
theorem d_Forms_init_9 : decode c_Forms_init 9 = .ok (.invokespecial 9, 3) := by decide +kernel
theorem d_Forms_init_12 : decode c_Forms_init 12 = .ok (.putfield 10, 3) := by decide +kernel
theorem d_Forms_init_15 : decode c_Forms_init 15 = .ok (.aload_n 0, 1) := by decide +kernel
theorem d_Forms_init_16 : decode c_Forms_init 16 = .ok (.new 7, 3) := by decide +kernel
theorem d_Forms_init_19 : decode c_Forms_init 19 = .ok (.dup, 1) := by decide +kernel
theorem d_Forms_init_20 : decode c_Forms_init 20 = .ok (.invokespecial 9, 3) := by decide +kernel
theorem d_Forms_init_23 : decode c_Forms_init 23 = .ok (.putfield 16, 3) := by decide +kernel
theorem d_Forms_init_26 : decode c_Forms_init 26 = .ok (.aload_n 0, 1) := by decide +kernel
end
section
theorem d_Forms_init_27 : decode c_Forms_init 27 = .ok (.new 19, 3) := by decide +kernel
theorem d_Forms_init_30 : decode c_Forms_init 30 = .ok (.dup, 1) := by decide +kernel
theorem d_Forms_init_31 : decode c_Forms_init 31 = .ok (.invokespecial 21, 3) := by decide +kernel
theorem d_Forms_init_34 : decode c_Forms_init 34 = .ok (.putfield 22, 3) := by decide +kernel
theorem d_Forms_init_37 : decode c_Forms_init 37 = .ok (.aload_n 0, 1) := by decide +kernel
theorem d_Forms_init_38 : decode c_Forms_init 38 = .ok (.new 26, 3) := by decide +kernel
theorem d_Forms_init_41 : decode c_Forms_init 41 = .ok (.dup, 1) := by decide +kernel
theorem d_Forms_init_42 : decode c_Forms_init 42 = .ok (.invokespecial 28, 3) := by decide +kernel
theorem d_Forms_init_45 : decode c_Forms_init 45 = .ok (.putfield 29, 3) := by decide +kernel
theorem d_Forms_init_48 : decode c_Forms_init 48 = .ok (.aload_n 0, 1) := by decide +kernel
theorem d_Forms_init_49 : decode c_Forms_init 49 = .ok (.new 33, 3) := by decide +kernel
theorem d_Forms_init_52 : decode c_Forms_init 52 = .ok (.dup, 1) := by decide +kernel
theorem d_Forms_init_53 : decode c_Forms_init 53 = .ok (.aload_n 0, 1) := by decide +kernel
theorem d_Forms_init_54 : decode c_Forms_init 54 = .ok (.getfield 29, 3) := by decide +kernel
theorem d_Forms_init_57 : decode c_Forms_init 57 = .ok (.aload_n 0, 1) := by decide +kernel
theorem d_Forms_init_58 : decode c_Forms_init 58 = .ok (.getfield 22, 3) := by decide +kernel
theorem d_Forms_init_61 : decode c_Forms_init 61 = .ok (.invokespecial 35, 3) := by decide +kernel
theorem d_Forms_init_64 : decode c_Forms_init 64 = .ok (.putfield 38, 3) := by decide +kernel
theorem d_Forms_init_67 : decode c_Forms_init 67 = .ok (.aload_n 0, 1) := by decide +kernel
theorem d_Forms_init_68 : decode c_Forms_init 68 = .ok (.iconst 4, 1) := by decide +kernel
theorem d_Forms_init_69 : decode c_Forms_init 69 = .ok (.anewarray 42, 3) := by decide +kernel
theorem d_Forms_init_72 : decode c_Forms_init 72 = .ok (.putfield 44, 3) := by decide +kernel
theorem d_Forms_init_75 : decode c_Forms_init 75 = .ok (.iconst 0, 1) := by decide +kernel
theorem d_Forms_init_76 : decode c_Forms_init 76 = .ok (.istore_n 1, 1) := by decide +kernel
theorem d_Forms_init_77 : decode c_Forms_init 77 = .ok (.iload_n 1, 1) := by decide +kernel
theorem d_Forms_init_78 : decode c_Forms_init 78 = .ok (.aload_n 0, 1) := by decide +kernel
theorem d_Forms_init_79 : decode c_Forms_init 79 = .ok (.getfield 44, 3) := by decide +kernel
theorem d_Forms_init_82 : decode c_Forms_init 82 = .ok (.arraylength, 1) := by decide +kernel
theorem d_Forms_init_83 : decode c_Forms_init 83 = .ok (.if_icmp .ge 22, 3) := by decide +kernel
theorem d_Forms_init_86 : decode c_Forms_init 86 = .ok (.aload_n 0, 1) := by decide +kernel
theorem d_Forms_init_87 : decode c_Forms_init 87 = .ok (.getfield 44, 3) := by decide +kernel
theorem d_Forms_init_90 : decode c_Forms_init 90 = .ok (.iload_n 1, 1) := by decide +kernel
theorem d_Forms_init_91 : decode c_Forms_init 91 = .ok (.new 42, 3) := by decide +kernel
theorem d_Forms_init_94 : decode c_Forms_init 94 = .ok (.dup, 1) := by decide +kernel
theorem d_Forms_init_95 : decode c_Forms_init 95 = .ok (.invokespecial 48, 3) := by decide +kernel
theorem d_Forms_init_98 : decode c_Forms_init 98 = .ok (.aastore, 1) := by decide +kernel
theorem d_Forms_init_99 : decode c_Forms_init 99 = .ok (.iinc 1 1, 3) := by decide +kernel
theorem d_Forms_init_102 : decode c_Forms_init 102 = .ok (.goto (-25), 3) := by decide +kernel
theorem d_Forms_init_105 : decode c_Forms_init 105 = .ok (.aload_n 0, 1) := by decide +kernel
theorem d_Forms_init_106 : decode c_Forms_init 106 = .ok (.new 49, 3) := by decide +kernel
theorem d_Forms_init_109 : decode c_Forms_init 109 = .ok (.dup, 1) := by decide +kernel
theorem d_Forms_init_110 : decode c_Forms_init 110 = .ok (.aload_n 0, 1) := by decide +kernel
theorem d_Forms_init_111 : decode c_Forms_init 111 = .ok (.getfield 29, 3) := by decide +kernel
theorem d_Forms_init_114 : decode c_Forms_init 114 = .ok (.invokespecial 51, 3) := by decide +kernel
theorem d_Forms_init_117 : decode c_Forms_init 117 = .ok (.putfield 54, 3) := by decide +kernel
theorem d_Forms_init_120 : decode c_Forms_init 120 = .ok (.aload_n 0, 1) := by decide +kernel
theorem d_Forms_init_121 : decode c_Forms_init 121 = .ok (.new 58, 3) := by decide +kernel
theorem d_Forms_init_124 : decode c_Forms_init 124 = .ok (.dup, 1) := by decide +kernel
theorem d_Forms_init_125 : decode c_Forms_init 125 = .ok (.aload_n 0, 1) := by decide +kernel
theorem d_Forms_init_126 : decode c_Forms_init 126 = .ok (.getfield 29, 3) := by decide +kernel
theorem d_Forms_init_129 : decode c_Forms_init 129 = .ok (.aload_n 0, 1) := by decide +kernel
theorem d_Forms_init_130 : decode c_Forms_init 130 = .ok (.getfield 22, 3) := by decide +kernel
theorem d_Forms_init_133 : decode c_Forms_init 133 = .ok (.aload_n 0, 1) := by decide +kernel
theorem d_Forms_init_134 : decode c_Forms_init 134 = .ok (.getfield 16, 3) := by decide +kernel
theorem d_Forms_init_137 : decode c_Forms_init 137 = .ok (.invokespecial 60, 3) := by decide +kernel
theorem d_Forms_init_140 : decode c_Forms_init 140 = .ok (.putfield 63, 3) := by decide +kernel
theorem d_Forms_init_143 : decode c_Forms_init 143 = .ok (.return_, 1) := by decide +kernel
theorem d_Forms_add_0 : decode c_Forms_add 0 = .ok (.iload_n 1, 1) := by decide +kernel
theorem d_Forms_add_1 : decode c_Forms_add 1 = .ok (.bipush 32, 2) := by decide +kernel
theorem d_Forms_add_3 : decode c_Forms_add 3 = .ok (.if_icmp .lt 24, 3) := by decide +kernel
theorem d_Forms_add_6 : decode c_Forms_add 6 = .ok (.iload_n 1, 1) := by decide +kernel
theorem d_Forms_add_7 : decode c_Forms_add 7 = .ok (.bipush 126, 2) := by decide +kernel
theorem d_Forms_add_9 : decode c_Forms_add 9 = .ok (.if_icmp .gt 18, 3) := by decide +kernel
theorem d_Forms_add_12 : decode c_Forms_add 12 = .ok (.aload_n 0, 1) := by decide +kernel
theorem d_Forms_add_13 : decode c_Forms_add 13 = .ok (.getfield 10, 3) := by decide +kernel
theorem d_Forms_add_16 : decode c_Forms_add 16 = .ok (.iload_n 1, 1) := by decide +kernel
theorem d_Forms_add_17 : decode c_Forms_add 17 = .ok (.invokevirtual 67, 3) := by decide +kernel
theorem d_Forms_add_20 : decode c_Forms_add 20 = .ok (.ifCond .eq 7, 3) := by decide +kernel
theorem d_Forms_add_23 : decode c_Forms_add 23 = .ok (.iconst 1, 1) := by decide +kernel
theorem d_Forms_add_24 : decode c_Forms_add 24 = .ok (.goto 4, 3) := by decide +kernel
theorem d_Forms_add_27 : decode c_Forms_add 27 = .ok (.iconst 0, 1) := by decide +kernel
theorem d_Forms_add_28 : decode c_Forms_add 28 = .ok (.ireturn, 1) := by decide +kernel
theorem d_Forms_read_0 : decode c_Forms_read 0 = .ok (.aload_n 0, 1) := by decide +kernel
theorem d_Forms_read_1 : decode c_Forms_read 1 = .ok (.getfield 54, 3) := by decide +kernel
theorem d_Forms_read_4 : decode c_Forms_read 4 = .ok (.invokevirtual 71, 3) := by decide +kernel
theorem d_Forms_read_7 : decode c_Forms_read 7 = .ok (.aload_n 0, 1) := by decide +kernel
theorem d_Forms_read_8 : decode c_Forms_read 8 = .ok (.getfield 29, 3) := by decide +kernel
theorem d_Forms_read_11 : decode c_Forms_read 11 = .ok (.invokevirtual 74, 3) := by decide +kernel
theorem d_Forms_read_14 : decode c_Forms_read 14 = .ok (.aload_n 0, 1) := by decide +kernel
theorem d_Forms_read_15 : decode c_Forms_read 15 = .ok (.getfield 22, 3) := by decide +kernel
theorem d_Forms_read_18 : decode c_Forms_read 18 = .ok (.invokevirtual 77, 3) := by decide +kernel
theorem d_Forms_read_21 : decode c_Forms_read 21 = .ok (.aload_n 0, 1) := by decide +kernel
theorem d_Forms_read_22 : decode c_Forms_read 22 = .ok (.getfield 38, 3) := by decide +kernel
theorem d_Forms_read_25 : decode c_Forms_read 25 = .ok (.aload_n 0, 1) := by decide +kernel
theorem d_Forms_read_26 : decode c_Forms_read 26 = .ok (.getfield 10, 3) := by decide +kernel
theorem d_Forms_read_29 : decode c_Forms_read 29 = .ok (.invokevirtual 80, 3) := by decide +kernel
theorem d_Forms_read_32 : decode c_Forms_read 32 = .ok (.istore_n 1, 1) := by decide +kernel
theorem d_Forms_read_33 : decode c_Forms_read 33 = .ok (.aload_n 0, 1) := by decide +kernel
theorem d_Forms_read_34 : decode c_Forms_read 34 = .ok (.getfield 10, 3) := by decide +kernel
theorem d_Forms_read_37 : decode c_Forms_read 37 = .ok (.invokevirtual 84, 3) := by decide +kernel
theorem d_Forms_read_40 : decode c_Forms_read 40 = .ok (.iload_n 1, 1) := by decide +kernel
theorem d_Forms_read_41 : decode c_Forms_read 41 = .ok (.iconst (-1), 1) := by decide +kernel
theorem d_Forms_read_42 : decode c_Forms_read 42 = .ok (.if_icmp .eq 21, 3) := by decide +kernel
theorem d_Forms_read_45 : decode c_Forms_read 45 = .ok (.aload_n 0, 1) := by decide +kernel
theorem d_Forms_read_46 : decode c_Forms_read 46 = .ok (.getfield 29, 3) := by decide +kernel
theorem d_Forms_read_49 : decode c_Forms_read 49 = .ok (.invokevirtual 74, 3) := by decide +kernel
theorem d_Forms_read_52 : decode c_Forms_read 52 = .ok (.aload_n 0, 1) := by decide +kernel
theorem d_Forms_read_53 : decode c_Forms_read 53 = .ok (.getfield 22, 3) := by decide +kernel
theorem d_Forms_read_56 : decode c_Forms_read 56 = .ok (.invokevirtual 77, 3) := by decide +kernel
theorem d_Forms_read_59 : decode c_Forms_read 59 = .ok (.iconst (-1), 1) := by decide +kernel
theorem d_Forms_read_60 : decode c_Forms_read 60 = .ok (.iload_n 1, 1) := by decide +kernel
theorem d_Forms_read_61 : decode c_Forms_read 61 = .ok (.isub, 1) := by decide +kernel
theorem d_Forms_read_62 : decode c_Forms_read 62 = .ok (.ireturn, 1) := by decide +kernel
theorem d_Forms_read_63 : decode c_Forms_read 63 = .ok (.aload_n 0, 1) := by decide +kernel
theorem d_Forms_read_64 : decode c_Forms_read 64 = .ok (.getfield 29, 3) := by decide +kernel
theorem d_Forms_read_67 : decode c_Forms_read 67 = .ok (.invokevirtual 85, 3) := by decide +kernel
theorem d_Forms_read_70 : decode c_Forms_read 70 = .ok (.ireturn, 1) := by decide +kernel
theorem d_Forms_row_0 : decode c_Forms_row 0 = .ok (.aload_n 0, 1) := by decide +kernel
theorem d_Forms_row_1 : decode c_Forms_row 1 = .ok (.iload_n 1, 1) := by decide +kernel
theorem d_Forms_row_2 : decode c_Forms_row 2 = .ok (.invokevirtual 89, 3) := by decide +kernel
theorem d_Forms_row_5 : decode c_Forms_row 5 = .ok (.astore 6, 2) := by decide +kernel
theorem d_Forms_row_7 : decode c_Forms_row 7 = .ok (.aload 6, 2) := by decide +kernel
theorem d_Forms_row_9 : decode c_Forms_row 9 = .ok (.ifnull 10, 3) := by decide +kernel
theorem d_Forms_row_12 : decode c_Forms_row 12 = .ok (.iload_n 2, 1) := by decide +kernel
theorem d_Forms_row_13 : decode c_Forms_row 13 = .ok (.invokestatic 93, 3) := by decide +kernel
theorem d_Forms_row_16 : decode c_Forms_row 16 = .ok (.ifCond .ne 13, 3) := by decide +kernel
theorem d_Forms_row_19 : decode c_Forms_row 19 = .ok (.new 98, 3) := by decide +kernel
theorem d_Forms_row_22 : decode c_Forms_row 22 = .ok (.dup, 1) := by decide +kernel
theorem d_Forms_row_23 : decode c_Forms_row 23 = .ok (.ldc 100, 2) := by decide +kernel
theorem d_Forms_row_25 : decode c_Forms_row 25 = .ok (.invokespecial 102, 3) := by decide +kernel
theorem d_Forms_row_28 : decode c_Forms_row 28 = .ok (.athrow, 1) := by decide +kernel
theorem d_Forms_row_29 : decode c_Forms_row 29 = .ok (.iload_n 3, 1) := by decide +kernel
theorem d_Forms_row_30 : decode c_Forms_row 30 = .ok (.ifCond .lt 22, 3) := by decide +kernel
theorem d_Forms_row_33 : decode c_Forms_row 33 = .ok (.iload 4, 2) := by decide +kernel
theorem d_Forms_row_35 : decode c_Forms_row 35 = .ok (.iconst 1, 1) := by decide +kernel
theorem d_Forms_row_36 : decode c_Forms_row 36 = .ok (.if_icmp .lt 16, 3) := by decide +kernel
theorem d_Forms_row_39 : decode c_Forms_row 39 = .ok (.iload 4, 2) := by decide +kernel
theorem d_Forms_row_41 : decode c_Forms_row 41 = .ok (.bipush 20, 2) := by decide +kernel
theorem d_Forms_row_43 : decode c_Forms_row 43 = .ok (.if_icmp .gt 9, 3) := by decide +kernel
theorem d_Forms_row_46 : decode c_Forms_row 46 = .ok (.iload_n 3, 1) := by decide +kernel
theorem d_Forms_row_47 : decode c_Forms_row 47 = .ok (.iload 4, 2) := by decide +kernel
theorem d_Forms_row_49 : decode c_Forms_row 49 = .ok (.if_icmp .le 13, 3) := by decide +kernel
theorem d_Forms_row_52 : decode c_Forms_row 52 = .ok (.new 98, 3) := by decide +kernel
theorem d_Forms_row_55 : decode c_Forms_row 55 = .ok (.dup, 1) := by decide +kernel
theorem d_Forms_row_56 : decode c_Forms_row 56 = .ok (.ldc 105, 2) := by decide +kernel
theorem d_Forms_row_58 : decode c_Forms_row 58 = .ok (.invokespecial 102, 3) := by decide +kernel
theorem d_Forms_row_61 : decode c_Forms_row 61 = .ok (.athrow, 1) := by decide +kernel
theorem d_Forms_row_62 : decode c_Forms_row 62 = .ok (.aload 6, 2) := by decide +kernel
theorem d_Forms_row_64 : decode c_Forms_row 64 = .ok (.invokevirtual 107, 3) := by decide +kernel
theorem d_Forms_row_67 : decode c_Forms_row 67 = .ok (.ifCond .ne 13, 3) := by decide +kernel
theorem d_Forms_row_70 : decode c_Forms_row 70 = .ok (.aload 6, 2) := by decide +kernel
theorem d_Forms_row_72 : decode c_Forms_row 72 = .ok (.iload 5, 2) := by decide +kernel
theorem d_Forms_row_74 : decode c_Forms_row 74 = .ok (.invokevirtual 111, 3) := by decide +kernel
theorem d_Forms_row_77 : decode c_Forms_row 77 = .ok (.ifCond .ne 13, 3) := by decide +kernel
theorem d_Forms_row_80 : decode c_Forms_row 80 = .ok (.new 114, 3) := by decide +kernel
theorem d_Forms_row_83 : decode c_Forms_row 83 = .ok (.dup, 1) := by decide +kernel
theorem d_Forms_row_84 : decode c_Forms_row 84 = .ok (.ldc 116, 2) := by decide +kernel
theorem d_Forms_row_86 : decode c_Forms_row 86 = .ok (.invokespecial 118, 3) := by decide +kernel
theorem d_Forms_row_89 : decode c_Forms_row 89 = .ok (.athrow, 1) := by decide +kernel
theorem d_Forms_row_90 : decode c_Forms_row 90 = .ok (.aload 6, 2) := by decide +kernel
theorem d_Forms_row_92 : decode c_Forms_row 92 = .ok (.iload_n 2, 1) := by decide +kernel
theorem d_Forms_row_93 : decode c_Forms_row 93 = .ok (.iload_n 3, 1) := by decide +kernel
theorem d_Forms_row_94 : decode c_Forms_row 94 = .ok (.iload 4, 2) := by decide +kernel
theorem d_Forms_row_96 : decode c_Forms_row 96 = .ok (.iload 5, 2) := by decide +kernel
theorem d_Forms_row_98 : decode c_Forms_row 98 = .ok (.invokevirtual 119, 3) := by decide +kernel
theorem d_Forms_row_101 : decode c_Forms_row 101 = .ok (.aload 6, 2) := by decide +kernel
theorem d_Forms_row_103 : decode c_Forms_row 103 = .ok (.invokevirtual 122, 3) := by decide +kernel
theorem d_Forms_row_106 : decode c_Forms_row 106 = .ok (.ireturn, 1) := by decide +kernel
theorem d_Forms_check_0 : decode c_Forms_check 0 = .ok (.aload_n 0, 1) := by decide +kernel
theorem d_Forms_check_1 : decode c_Forms_check 1 = .ok (.invokevirtual 123, 3) := by decide +kernel
theorem d_Forms_check_4 : decode c_Forms_check 4 = .ok (.aload_n 0, 1) := by decide +kernel
theorem d_Forms_check_5 : decode c_Forms_check 5 = .ok (.getfield 54, 3) := by decide +kernel
theorem d_Forms_check_8 : decode c_Forms_check 8 = .ok (.invokevirtual 126, 3) := by decide +kernel
theorem d_Forms_check_11 : decode c_Forms_check 11 = .ok (.istore_n 1, 1) := by decide +kernel
theorem d_Forms_check_12 : decode c_Forms_check 12 = .ok (.aload_n 0, 1) := by decide +kernel
theorem d_Forms_check_13 : decode c_Forms_check 13 = .ok (.getfield 54, 3) := by decide +kernel
theorem d_Forms_check_16 : decode c_Forms_check 16 = .ok (.aload_n 0, 1) := by decide +kernel
theorem d_Forms_check_17 : decode c_Forms_check 17 = .ok (.iload_n 1, 1) := by decide +kernel
theorem d_Forms_check_18 : decode c_Forms_check 18 = .ok (.invokevirtual 89, 3) := by decide +kernel
theorem d_Forms_check_21 : decode c_Forms_check 21 = .ok (.invokevirtual 129, 3) := by decide +kernel
theorem d_Forms_check_24 : decode c_Forms_check 24 = .ok (.ireturn, 1) := by decide +kernel
theorem d_Forms_fault_0 : decode c_Forms_fault 0 = .ok (.iload_n 1, 1) := by decide +kernel
theorem d_Forms_fault_1 : decode c_Forms_fault 1 = .ok (.tableswitch 51 0 2 #[27, 35, 43], 27) := by decide +kernel
theorem d_Forms_fault_28 : decode c_Forms_fault 28 = .ok (.aload_n 0, 1) := by decide +kernel
theorem d_Forms_fault_29 : decode c_Forms_fault 29 = .ok (.getfield 54, 3) := by decide +kernel
theorem d_Forms_fault_32 : decode c_Forms_fault 32 = .ok (.invokevirtual 133, 3) := by decide +kernel
theorem d_Forms_fault_35 : decode c_Forms_fault 35 = .ok (.ireturn, 1) := by decide +kernel
theorem d_Forms_fault_36 : decode c_Forms_fault 36 = .ok (.aload_n 0, 1) := by decide +kernel
theorem d_Forms_fault_37 : decode c_Forms_fault 37 = .ok (.getfield 54, 3) := by decide +kernel
theorem d_Forms_fault_40 : decode c_Forms_fault 40 = .ok (.invokevirtual 136, 3) := by decide +kernel
theorem d_Forms_fault_43 : decode c_Forms_fault 43 = .ok (.ireturn, 1) := by decide +kernel
theorem d_Forms_fault_44 : decode c_Forms_fault 44 = .ok (.aload_n 0, 1) := by decide +kernel
theorem d_Forms_fault_45 : decode c_Forms_fault 45 = .ok (.getfield 54, 3) := by decide +kernel
theorem d_Forms_fault_48 : decode c_Forms_fault 48 = .ok (.invokevirtual 139, 3) := by decide +kernel
theorem d_Forms_fault_51 : decode c_Forms_fault 51 = .ok (.ireturn, 1) := by decide +kernel
theorem d_Forms_fault_52 : decode c_Forms_fault 52 = .ok (.iconst (-1), 1) := by decide +kernel
theorem d_Forms_fault_53 : decode c_Forms_fault 53 = .ok (.ireturn, 1) := by decide +kernel
theorem d_Forms_segment_0 : decode c_Forms_segment 0 = .ok (.aload_n 0, 1) := by decide +kernel
theorem d_Forms_segment_1 : decode c_Forms_segment 1 = .ok (.iload_n 1, 1) := by decide +kernel
theorem d_Forms_segment_2 : decode c_Forms_segment 2 = .ok (.invokevirtual 142, 3) := by decide +kernel
theorem d_Forms_segment_5 : decode c_Forms_segment 5 = .ok (.iload_n 2, 1) := by decide +kernel
theorem d_Forms_segment_6 : decode c_Forms_segment 6 = .ok (.tableswitch 66 0 3 #[30, 39, 48, 57], 30) := by decide +kernel
theorem d_Forms_segment_36 : decode c_Forms_segment 36 = .ok (.aload_n 0, 1) := by decide +kernel
theorem d_Forms_segment_37 : decode c_Forms_segment 37 = .ok (.getfield 29, 3) := by decide +kernel
theorem d_Forms_segment_40 : decode c_Forms_segment 40 = .ok (.iload_n 1, 1) := by decide +kernel
theorem d_Forms_segment_41 : decode c_Forms_segment 41 = .ok (.invokevirtual 146, 3) := by decide +kernel
theorem d_Forms_segment_44 : decode c_Forms_segment 44 = .ok (.ireturn, 1) := by decide +kernel
theorem d_Forms_segment_45 : decode c_Forms_segment 45 = .ok (.aload_n 0, 1) := by decide +kernel
theorem d_Forms_segment_46 : decode c_Forms_segment 46 = .ok (.getfield 29, 3) := by decide +kernel
theorem d_Forms_segment_49 : decode c_Forms_segment 49 = .ok (.iload_n 1, 1) := by decide +kernel
theorem d_Forms_segment_50 : decode c_Forms_segment 50 = .ok (.invokevirtual 150, 3) := by decide +kernel
theorem d_Forms_segment_53 : decode c_Forms_segment 53 = .ok (.ireturn, 1) := by decide +kernel
theorem d_Forms_segment_54 : decode c_Forms_segment 54 = .ok (.aload_n 0, 1) := by decide +kernel
theorem d_Forms_segment_55 : decode c_Forms_segment 55 = .ok (.getfield 54, 3) := by decide +kernel
theorem d_Forms_segment_58 : decode c_Forms_segment 58 = .ok (.iload_n 1, 1) := by decide +kernel
theorem d_Forms_segment_59 : decode c_Forms_segment 59 = .ok (.invokevirtual 153, 3) := by decide +kernel
theorem d_Forms_segment_62 : decode c_Forms_segment 62 = .ok (.ireturn, 1) := by decide +kernel
theorem d_Forms_segment_63 : decode c_Forms_segment 63 = .ok (.aload_n 0, 1) := by decide +kernel
theorem d_Forms_segment_64 : decode c_Forms_segment 64 = .ok (.getfield 54, 3) := by decide +kernel
theorem d_Forms_segment_67 : decode c_Forms_segment 67 = .ok (.iload_n 1, 1) := by decide +kernel
theorem d_Forms_segment_68 : decode c_Forms_segment 68 = .ok (.invokevirtual 156, 3) := by decide +kernel
theorem d_Forms_segment_71 : decode c_Forms_segment 71 = .ok (.ireturn, 1) := by decide +kernel
theorem d_Forms_segment_72 : decode c_Forms_segment 72 = .ok (.new 159, 3) := by decide +kernel
theorem d_Forms_segment_75 : decode c_Forms_segment 75 = .ok (.dup, 1) := by decide +kernel
theorem d_Forms_segment_76 : decode c_Forms_segment 76 = .ok (.ldc 161, 2) := by decide +kernel
theorem d_Forms_segment_78 : decode c_Forms_segment 78 = .ok (.invokespecial 163, 3) := by decide +kernel
theorem d_Forms_segment_81 : decode c_Forms_segment 81 = .ok (.athrow, 1) := by decide +kernel
theorem d_Forms_repeats_0 : decode c_Forms_repeats 0 = .ok (.aload_n 0, 1) := by decide +kernel
theorem d_Forms_repeats_1 : decode c_Forms_repeats 1 = .ok (.iload_n 1, 1) := by decide +kernel
theorem d_Forms_repeats_2 : decode c_Forms_repeats 2 = .ok (.invokevirtual 142, 3) := by decide +kernel
theorem d_Forms_repeats_5 : decode c_Forms_repeats 5 = .ok (.aload_n 0, 1) := by decide +kernel
theorem d_Forms_repeats_6 : decode c_Forms_repeats 6 = .ok (.getfield 29, 3) := by decide +kernel
theorem d_Forms_repeats_9 : decode c_Forms_repeats 9 = .ok (.aload_n 0, 1) := by decide +kernel
theorem d_Forms_repeats_10 : decode c_Forms_repeats 10 = .ok (.getfield 29, 3) := by decide +kernel
theorem d_Forms_repeats_13 : decode c_Forms_repeats 13 = .ok (.iload_n 1, 1) := by decide +kernel
theorem d_Forms_repeats_14 : decode c_Forms_repeats 14 = .ok (.iload_n 2, 1) := by decide +kernel
theorem d_Forms_repeats_15 : decode c_Forms_repeats 15 = .ok (.invokevirtual 164, 3) := by decide +kernel
theorem d_Forms_repeats_18 : decode c_Forms_repeats 18 = .ok (.invokevirtual 168, 3) := by decide +kernel
theorem d_Forms_repeats_21 : decode c_Forms_repeats 21 = .ok (.ireturn, 1) := by decide +kernel
theorem d_Forms_components_0 : decode c_Forms_components 0 = .ok (.aload_n 0, 1) := by decide +kernel
theorem d_Forms_components_1 : decode c_Forms_components 1 = .ok (.iload_n 1, 1) := by decide +kernel
theorem d_Forms_components_2 : decode c_Forms_components 2 = .ok (.invokevirtual 142, 3) := by decide +kernel
theorem d_Forms_components_5 : decode c_Forms_components 5 = .ok (.aload_n 0, 1) := by decide +kernel
theorem d_Forms_components_6 : decode c_Forms_components 6 = .ok (.getfield 29, 3) := by decide +kernel
theorem d_Forms_components_9 : decode c_Forms_components 9 = .ok (.aload_n 0, 1) := by decide +kernel
theorem d_Forms_components_10 : decode c_Forms_components 10 = .ok (.getfield 29, 3) := by decide +kernel
theorem d_Forms_components_13 : decode c_Forms_components 13 = .ok (.aload_n 0, 1) := by decide +kernel
theorem d_Forms_components_14 : decode c_Forms_components 14 = .ok (.getfield 29, 3) := by decide +kernel
theorem d_Forms_components_17 : decode c_Forms_components 17 = .ok (.iload_n 1, 1) := by decide +kernel
theorem d_Forms_components_18 : decode c_Forms_components 18 = .ok (.iload_n 2, 1) := by decide +kernel
theorem d_Forms_components_19 : decode c_Forms_components 19 = .ok (.invokevirtual 164, 3) := by decide +kernel
theorem d_Forms_components_22 : decode c_Forms_components 22 = .ok (.iload_n 3, 1) := by decide +kernel
theorem d_Forms_components_23 : decode c_Forms_components 23 = .ok (.invokevirtual 171, 3) := by decide +kernel
theorem d_Forms_components_26 : decode c_Forms_components 26 = .ok (.invokevirtual 174, 3) := by decide +kernel
theorem d_Forms_components_29 : decode c_Forms_components 29 = .ok (.ireturn, 1) := by decide +kernel
theorem d_Forms_field_0 : decode c_Forms_field 0 = .ok (.aload_n 0, 1) := by decide +kernel
theorem d_Forms_field_1 : decode c_Forms_field 1 = .ok (.iload_n 1, 1) := by decide +kernel
theorem d_Forms_field_2 : decode c_Forms_field 2 = .ok (.invokevirtual 142, 3) := by decide +kernel
theorem d_Forms_field_5 : decode c_Forms_field 5 = .ok (.aload_n 0, 1) := by decide +kernel
theorem d_Forms_field_6 : decode c_Forms_field 6 = .ok (.getfield 29, 3) := by decide +kernel
theorem d_Forms_field_9 : decode c_Forms_field 9 = .ok (.iload_n 1, 1) := by decide +kernel
theorem d_Forms_field_10 : decode c_Forms_field 10 = .ok (.iload_n 2, 1) := by decide +kernel
theorem d_Forms_field_11 : decode c_Forms_field 11 = .ok (.iload_n 3, 1) := by decide +kernel
theorem d_Forms_field_12 : decode c_Forms_field 12 = .ok (.iload 4, 2) := by decide +kernel
theorem d_Forms_field_14 : decode c_Forms_field 14 = .ok (.invokevirtual 177, 3) := by decide +kernel
theorem d_Forms_field_17 : decode c_Forms_field 17 = .ok (.istore 5, 2) := by decide +kernel
theorem d_Forms_field_19 : decode c_Forms_field 19 = .ok (.iload 5, 2) := by decide +kernel
theorem d_Forms_field_21 : decode c_Forms_field 21 = .ok (.iconst (-1), 1) := by decide +kernel
theorem d_Forms_field_22 : decode c_Forms_field 22 = .ok (.if_icmp .ne 7, 3) := by decide +kernel
theorem d_Forms_field_25 : decode c_Forms_field 25 = .ok (.iconst (-1), 1) := by decide +kernel
theorem d_Forms_field_26 : decode c_Forms_field 26 = .ok (.goto 12, 3) := by decide +kernel
theorem d_Forms_field_29 : decode c_Forms_field 29 = .ok (.aload_n 0, 1) := by decide +kernel
theorem d_Forms_field_30 : decode c_Forms_field 30 = .ok (.getfield 29, 3) := by decide +kernel
theorem d_Forms_field_33 : decode c_Forms_field 33 = .ok (.iload 5, 2) := by decide +kernel
theorem d_Forms_field_35 : decode c_Forms_field 35 = .ok (.invokevirtual 181, 3) := by decide +kernel
theorem d_Forms_field_38 : decode c_Forms_field 38 = .ok (.ireturn, 1) := by decide +kernel
theorem d_Forms_letter_0 : decode c_Forms_letter 0 = .ok (.aload_n 0, 1) := by decide +kernel
theorem d_Forms_letter_1 : decode c_Forms_letter 1 = .ok (.iload_n 1, 1) := by decide +kernel
theorem d_Forms_letter_2 : decode c_Forms_letter 2 = .ok (.invokevirtual 142, 3) := by decide +kernel
theorem d_Forms_letter_5 : decode c_Forms_letter 5 = .ok (.aload_n 0, 1) := by decide +kernel
theorem d_Forms_letter_6 : decode c_Forms_letter 6 = .ok (.getfield 29, 3) := by decide +kernel
theorem d_Forms_letter_9 : decode c_Forms_letter 9 = .ok (.aload_n 0, 1) := by decide +kernel
theorem d_Forms_letter_10 : decode c_Forms_letter 10 = .ok (.getfield 29, 3) := by decide +kernel
theorem d_Forms_letter_13 : decode c_Forms_letter 13 = .ok (.iload_n 1, 1) := by decide +kernel
theorem d_Forms_letter_14 : decode c_Forms_letter 14 = .ok (.iload_n 2, 1) := by decide +kernel
theorem d_Forms_letter_15 : decode c_Forms_letter 15 = .ok (.iload_n 3, 1) := by decide +kernel
theorem d_Forms_letter_16 : decode c_Forms_letter 16 = .ok (.iload 4, 2) := by decide +kernel
theorem d_Forms_letter_18 : decode c_Forms_letter 18 = .ok (.invokevirtual 177, 3) := by decide +kernel
theorem d_Forms_letter_21 : decode c_Forms_letter 21 = .ok (.iload 5, 2) := by decide +kernel
theorem d_Forms_letter_23 : decode c_Forms_letter 23 = .ok (.invokevirtual 184, 3) := by decide +kernel
theorem d_Forms_letter_26 : decode c_Forms_letter 26 = .ok (.ireturn, 1) := by decide +kernel
theorem d_Forms_build_0 : decode c_Forms_build 0 = .ok (.aload_n 0, 1) := by decide +kernel
theorem d_Forms_build_1 : decode c_Forms_build 1 = .ok (.invokevirtual 123, 3) := by decide +kernel
theorem d_Forms_build_4 : decode c_Forms_build 4 = .ok (.aload_n 0, 1) := by decide +kernel
theorem d_Forms_build_5 : decode c_Forms_build 5 = .ok (.getfield 63, 3) := by decide +kernel
theorem d_Forms_build_8 : decode c_Forms_build 8 = .ok (.invokevirtual 187, 3) := by decide +kernel
theorem d_Forms_build_11 : decode c_Forms_build 11 = .ok (.aload_n 0, 1) := by decide +kernel
theorem d_Forms_build_12 : decode c_Forms_build 12 = .ok (.getfield 16, 3) := by decide +kernel
theorem d_Forms_build_15 : decode c_Forms_build 15 = .ok (.invokevirtual 190, 3) := by decide +kernel
theorem d_Forms_build_18 : decode c_Forms_build 18 = .ok (.ireturn, 1) := by decide +kernel
theorem d_Forms_at_0 : decode c_Forms_at 0 = .ok (.iload_n 1, 1) := by decide +kernel
theorem d_Forms_at_1 : decode c_Forms_at 1 = .ok (.ifCond .lt 10, 3) := by decide +kernel
theorem d_Forms_at_4 : decode c_Forms_at 4 = .ok (.iload_n 1, 1) := by decide +kernel
theorem d_Forms_at_5 : decode c_Forms_at 5 = .ok (.sipush 4000, 3) := by decide +kernel
theorem d_Forms_at_8 : decode c_Forms_at 8 = .ok (.if_icmp .lt 13, 3) := by decide +kernel
theorem d_Forms_at_11 : decode c_Forms_at 11 = .ok (.new 193, 3) := by decide +kernel
theorem d_Forms_at_14 : decode c_Forms_at 14 = .ok (.dup, 1) := by decide +kernel
theorem d_Forms_at_15 : decode c_Forms_at 15 = .ok (.ldc 195, 2) := by decide +kernel
theorem d_Forms_at_17 : decode c_Forms_at 17 = .ok (.invokespecial 197, 3) := by decide +kernel
theorem d_Forms_at_20 : decode c_Forms_at 20 = .ok (.athrow, 1) := by decide +kernel
theorem d_Forms_at_21 : decode c_Forms_at 21 = .ok (.aload_n 0, 1) := by decide +kernel
theorem d_Forms_at_22 : decode c_Forms_at 22 = .ok (.getfield 16, 3) := by decide +kernel
theorem d_Forms_at_25 : decode c_Forms_at 25 = .ok (.iload_n 1, 1) := by decide +kernel
theorem d_Forms_at_26 : decode c_Forms_at 26 = .ok (.invokevirtual 198, 3) := by decide +kernel
theorem d_Forms_at_29 : decode c_Forms_at 29 = .ok (.ireturn, 1) := by decide +kernel
theorem d_Forms_count_0 : decode c_Forms_count 0 = .ok (.iload_n 1, 1) := by decide +kernel
theorem d_Forms_count_1 : decode c_Forms_count 1 = .ok (.iconst 3, 1) := by decide +kernel
theorem d_Forms_count_2 : decode c_Forms_count 2 = .ok (.if_icmp .lt 20, 3) := by decide +kernel
theorem d_Forms_count_5 : decode c_Forms_count 5 = .ok (.iload_n 1, 1) := by decide +kernel
theorem d_Forms_count_6 : decode c_Forms_count 6 = .ok (.bipush 8, 2) := by decide +kernel
theorem d_Forms_count_8 : decode c_Forms_count 8 = .ok (.if_icmp .ge 14, 3) := by decide +kernel
theorem d_Forms_count_11 : decode c_Forms_count 11 = .ok (.aload_n 0, 1) := by decide +kernel
theorem d_Forms_count_12 : decode c_Forms_count 12 = .ok (.getfield 22, 3) := by decide +kernel
theorem d_Forms_count_15 : decode c_Forms_count 15 = .ok (.iload_n 1, 1) := by decide +kernel
theorem d_Forms_count_16 : decode c_Forms_count 16 = .ok (.iconst 3, 1) := by decide +kernel
theorem d_Forms_count_17 : decode c_Forms_count 17 = .ok (.isub, 1) := by decide +kernel
theorem d_Forms_count_18 : decode c_Forms_count 18 = .ok (.invokevirtual 201, 3) := by decide +kernel
theorem d_Forms_count_21 : decode c_Forms_count 21 = .ok (.ireturn, 1) := by decide +kernel
theorem d_Forms_count_22 : decode c_Forms_count 22 = .ok (.iload_n 1, 1) := by decide +kernel
theorem d_Forms_count_23 : decode c_Forms_count 23 = .ok (.bipush 10, 2) := by decide +kernel
theorem d_Forms_count_25 : decode c_Forms_count 25 = .ok (.if_icmp .lt 25, 3) := by decide +kernel
theorem d_Forms_count_28 : decode c_Forms_count 28 = .ok (.aload_n 0, 1) := by decide +kernel
theorem d_Forms_count_29 : decode c_Forms_count 29 = .ok (.iload_n 1, 1) := by decide +kernel
theorem d_Forms_count_30 : decode c_Forms_count 30 = .ok (.bipush 10, 2) := by decide +kernel
theorem d_Forms_count_32 : decode c_Forms_count 32 = .ok (.isub, 1) := by decide +kernel
theorem d_Forms_count_33 : decode c_Forms_count 33 = .ok (.invokevirtual 89, 3) := by decide +kernel
theorem d_Forms_count_36 : decode c_Forms_count 36 = .ok (.astore_n 2, 1) := by decide +kernel
theorem d_Forms_count_37 : decode c_Forms_count 37 = .ok (.aload_n 2, 1) := by decide +kernel
theorem d_Forms_count_38 : decode c_Forms_count 38 = .ok (.ifnonnull 7, 3) := by decide +kernel
theorem d_Forms_count_41 : decode c_Forms_count 41 = .ok (.iconst (-1), 1) := by decide +kernel
theorem d_Forms_count_42 : decode c_Forms_count 42 = .ok (.goto 7, 3) := by decide +kernel
theorem d_Forms_count_45 : decode c_Forms_count 45 = .ok (.aload_n 2, 1) := by decide +kernel
theorem d_Forms_count_46 : decode c_Forms_count 46 = .ok (.invokevirtual 122, 3) := by decide +kernel
theorem d_Forms_count_49 : decode c_Forms_count 49 = .ok (.ireturn, 1) := by decide +kernel
theorem d_Forms_count_50 : decode c_Forms_count 50 = .ok (.iload_n 1, 1) := by decide +kernel
theorem d_Forms_count_51 : decode c_Forms_count 51 = .ok (.tableswitch 49 0 2 #[25, 33, 41], 25) := by decide +kernel
theorem d_Forms_count_76 : decode c_Forms_count 76 = .ok (.aload_n 0, 1) := by decide +kernel
theorem d_Forms_count_77 : decode c_Forms_count 77 = .ok (.getfield 10, 3) := by decide +kernel
theorem d_Forms_count_80 : decode c_Forms_count 80 = .ok (.invokevirtual 190, 3) := by decide +kernel
theorem d_Forms_count_83 : decode c_Forms_count 83 = .ok (.ireturn, 1) := by decide +kernel
theorem d_Forms_count_84 : decode c_Forms_count 84 = .ok (.aload_n 0, 1) := by decide +kernel
theorem d_Forms_count_85 : decode c_Forms_count 85 = .ok (.getfield 29, 3) := by decide +kernel
theorem d_Forms_count_88 : decode c_Forms_count 88 = .ok (.invokevirtual 85, 3) := by decide +kernel
theorem d_Forms_count_91 : decode c_Forms_count 91 = .ok (.ireturn, 1) := by decide +kernel
theorem d_Forms_count_92 : decode c_Forms_count 92 = .ok (.aload_n 0, 1) := by decide +kernel
theorem d_Forms_count_93 : decode c_Forms_count 93 = .ok (.getfield 16, 3) := by decide +kernel
theorem d_Forms_count_96 : decode c_Forms_count 96 = .ok (.invokevirtual 190, 3) := by decide +kernel
theorem d_Forms_count_99 : decode c_Forms_count 99 = .ok (.ireturn, 1) := by decide +kernel
theorem d_Forms_count_100 : decode c_Forms_count 100 = .ok (.iconst (-1), 1) := by decide +kernel
theorem d_Forms_count_101 : decode c_Forms_count 101 = .ok (.ireturn, 1) := by decide +kernel
theorem d_Forms_grammarOf_0 : decode c_Forms_grammarOf 0 = .ok (.iload_n 1, 1) := by decide +kernel
theorem d_Forms_grammarOf_1 : decode c_Forms_grammarOf 1 = .ok (.ifCond .lt 21, 3) := by decide +kernel
theorem d_Forms_grammarOf_4 : decode c_Forms_grammarOf 4 = .ok (.iload_n 1, 1) := by decide +kernel
theorem d_Forms_grammarOf_5 : decode c_Forms_grammarOf 5 = .ok (.aload_n 0, 1) := by decide +kernel
theorem d_Forms_grammarOf_6 : decode c_Forms_grammarOf 6 = .ok (.getfield 44, 3) := by decide +kernel
theorem d_Forms_grammarOf_9 : decode c_Forms_grammarOf 9 = .ok (.arraylength, 1) := by decide +kernel
theorem d_Forms_grammarOf_10 : decode c_Forms_grammarOf 10 = .ok (.if_icmp .ge 12, 3) := by decide +kernel
theorem d_Forms_grammarOf_13 : decode c_Forms_grammarOf 13 = .ok (.aload_n 0, 1) := by decide +kernel
theorem d_Forms_grammarOf_14 : decode c_Forms_grammarOf 14 = .ok (.getfield 44, 3) := by decide +kernel
theorem d_Forms_grammarOf_17 : decode c_Forms_grammarOf 17 = .ok (.iload_n 1, 1) := by decide +kernel
theorem d_Forms_grammarOf_18 : decode c_Forms_grammarOf 18 = .ok (.aaload, 1) := by decide +kernel
theorem d_Forms_grammarOf_19 : decode c_Forms_grammarOf 19 = .ok (.goto 4, 3) := by decide +kernel
theorem d_Forms_grammarOf_22 : decode c_Forms_grammarOf 22 = .ok (.aconst_null, 1) := by decide +kernel
theorem d_Forms_grammarOf_23 : decode c_Forms_grammarOf 23 = .ok (.areturn, 1) := by decide +kernel
theorem d_Forms_needMessage_0 : decode c_Forms_needMessage 0 = .ok (.aload_n 0, 1) := by decide +kernel
theorem d_Forms_needMessage_1 : decode c_Forms_needMessage 1 = .ok (.getfield 29, 3) := by decide +kernel
theorem d_Forms_needMessage_4 : decode c_Forms_needMessage 4 = .ok (.invokevirtual 204, 3) := by decide +kernel
theorem d_Forms_needMessage_7 : decode c_Forms_needMessage 7 = .ok (.ifCond .ne 13, 3) := by decide +kernel
theorem d_Forms_needMessage_10 : decode c_Forms_needMessage 10 = .ok (.new 114, 3) := by decide +kernel
theorem d_Forms_needMessage_13 : decode c_Forms_needMessage 13 = .ok (.dup, 1) := by decide +kernel
theorem d_Forms_needMessage_14 : decode c_Forms_needMessage 14 = .ok (.ldc 207, 2) := by decide +kernel
theorem d_Forms_needMessage_16 : decode c_Forms_needMessage 16 = .ok (.invokespecial 118, 3) := by decide +kernel
theorem d_Forms_needMessage_19 : decode c_Forms_needMessage 19 = .ok (.athrow, 1) := by decide +kernel
theorem d_Forms_needMessage_20 : decode c_Forms_needMessage 20 = .ok (.return_, 1) := by decide +kernel
theorem d_Forms_needSegment_0 : decode c_Forms_needSegment 0 = .ok (.iload_n 1, 1) := by decide +kernel
theorem d_Forms_needSegment_1 : decode c_Forms_needSegment 1 = .ok (.ifCond .lt 14, 3) := by decide +kernel
theorem d_Forms_needSegment_4 : decode c_Forms_needSegment 4 = .ok (.iload_n 1, 1) := by decide +kernel
theorem d_Forms_needSegment_5 : decode c_Forms_needSegment 5 = .ok (.aload_n 0, 1) := by decide +kernel
theorem d_Forms_needSegment_6 : decode c_Forms_needSegment 6 = .ok (.getfield 29, 3) := by decide +kernel
theorem d_Forms_needSegment_9 : decode c_Forms_needSegment 9 = .ok (.invokevirtual 85, 3) := by decide +kernel
theorem d_Forms_needSegment_12 : decode c_Forms_needSegment 12 = .ok (.if_icmp .lt 13, 3) := by decide +kernel
theorem d_Forms_needSegment_15 : decode c_Forms_needSegment 15 = .ok (.new 159, 3) := by decide +kernel
theorem d_Forms_needSegment_18 : decode c_Forms_needSegment 18 = .ok (.dup, 1) := by decide +kernel
theorem d_Forms_needSegment_19 : decode c_Forms_needSegment 19 = .ok (.ldc 209, 2) := by decide +kernel
theorem d_Forms_needSegment_21 : decode c_Forms_needSegment 21 = .ok (.invokespecial 163, 3) := by decide +kernel
theorem d_Forms_needSegment_24 : decode c_Forms_needSegment 24 = .ok (.athrow, 1) := by decide +kernel
theorem d_Forms_needSegment_25 : decode c_Forms_needSegment 25 = .ok (.return_, 1) := by decide +kernel
theorem d_Model_init_0 : decode c_Model_init 0 = .ok (.aload_n 0, 1) := by decide +kernel
theorem d_Model_init_1 : decode c_Model_init 1 = .ok (.invokespecial 1, 3) := by decide +kernel
theorem d_Model_init_4 : decode c_Model_init 4 = .ok (.aload_n 0, 1) := by decide +kernel
theorem d_Model_init_5 : decode c_Model_init 5 = .ok (.sipush 1500, 3) := by decide +kernel
theorem d_Model_init_8 : decode c_Model_init 8 = .ok (.newarray .int, 2) := by decide +kernel
theorem d_Model_init_10 : decode c_Model_init 10 = .ok (.putfield 7, 3) := by decide +kernel
theorem d_Model_init_13 : decode c_Model_init 13 = .ok (.aload_n 0, 1) := by decide +kernel
theorem d_Model_init_14 : decode c_Model_init 14 = .ok (.iconst 5, 1) := by decide +kernel
theorem d_Model_init_15 : decode c_Model_init 15 = .ok (.newarray .int, 2) := by decide +kernel
theorem d_Model_init_17 : decode c_Model_init 17 = .ok (.putfield 13, 3) := by decide +kernel
theorem d_Model_init_20 : decode c_Model_init 20 = .ok (.aload_n 0, 1) := by decide +kernel
theorem d_Model_init_21 : decode c_Model_init 21 = .ok (.bipush 60, 2) := by decide +kernel
theorem d_Model_init_23 : decode c_Model_init 23 = .ok (.newarray .int, 2) := by decide +kernel
theorem d_Model_init_25 : decode c_Model_init 25 = .ok (.putfield 16, 3) := by decide +kernel
theorem d_Model_init_28 : decode c_Model_init 28 = .ok (.aload_n 0, 1) := by decide +kernel
theorem d_Model_init_29 : decode c_Model_init 29 = .ok (.bipush 61, 2) := by decide +kernel
theorem d_Model_init_31 : decode c_Model_init 31 = .ok (.newarray .int, 2) := by decide +kernel
theorem d_Model_init_33 : decode c_Model_init 33 = .ok (.putfield 19, 3) := by decide +kernel
theorem d_Model_init_36 : decode c_Model_init 36 = .ok (.aload_n 0, 1) := by decide +kernel
theorem d_Model_init_37 : decode c_Model_init 37 = .ok (.sipush 1502, 3) := by decide +kernel
theorem d_Model_init_40 : decode c_Model_init 40 = .ok (.newarray .int, 2) := by decide +kernel
theorem d_Model_init_42 : decode c_Model_init 42 = .ok (.putfield 22, 3) := by decide +kernel
theorem d_Model_init_45 : decode c_Model_init 45 = .ok (.aload_n 0, 1) := by decide +kernel
theorem d_Model_init_46 : decode c_Model_init 46 = .ok (.sipush 1502, 3) := by decide +kernel
theorem d_Model_init_49 : decode c_Model_init 49 = .ok (.newarray .int, 2) := by decide +kernel
theorem d_Model_init_51 : decode c_Model_init 51 = .ok (.putfield 25, 3) := by decide +kernel
theorem d_Model_init_54 : decode c_Model_init 54 = .ok (.aload_n 0, 1) := by decide +kernel
theorem d_Model_init_55 : decode c_Model_init 55 = .ok (.sipush 1502, 3) := by decide +kernel
theorem d_Model_init_58 : decode c_Model_init 58 = .ok (.newarray .int, 2) := by decide +kernel
theorem d_Model_init_60 : decode c_Model_init 60 = .ok (.putfield 28, 3) := by decide +kernel
theorem d_Model_init_63 : decode c_Model_init 63 = .ok (.aload_n 0, 1) := by decide +kernel
theorem d_Model_init_64 : decode c_Model_init 64 = .ok (.sipush 1500, 3) := by decide +kernel
theorem d_Model_init_67 : decode c_Model_init 67 = .ok (.newarray .int, 2) := by decide +kernel
theorem d_Model_init_69 : decode c_Model_init 69 = .ok (.putfield 31, 3) := by decide +kernel
theorem d_Model_init_72 : decode c_Model_init 72 = .ok (.aload_n 0, 1) := by decide +kernel
theorem d_Model_init_73 : decode c_Model_init 73 = .ok (.iconst 4, 1) := by decide +kernel
theorem d_Model_init_74 : decode c_Model_init 74 = .ok (.newarray .int, 2) := by decide +kernel
theorem d_Model_init_76 : decode c_Model_init 76 = .ok (.putfield 34, 3) := by decide +kernel
theorem d_Model_init_79 : decode c_Model_init 79 = .ok (.aload_n 0, 1) := by decide +kernel
theorem d_Model_init_80 : decode c_Model_init 80 = .ok (.bipush 80, 2) := by decide +kernel
theorem d_Model_init_82 : decode c_Model_init 82 = .ok (.newarray .int, 2) := by decide +kernel
theorem d_Model_init_84 : decode c_Model_init 84 = .ok (.putfield 37, 3) := by decide +kernel
theorem d_Model_init_87 : decode c_Model_init 87 = .ok (.aload_n 0, 1) := by decide +kernel
theorem d_Model_init_88 : decode c_Model_init 88 = .ok (.bipush 80, 2) := by decide +kernel
theorem d_Model_init_90 : decode c_Model_init 90 = .ok (.newarray .int, 2) := by decide +kernel
theorem d_Model_init_92 : decode c_Model_init 92 = .ok (.putfield 40, 3) := by decide +kernel
theorem d_Model_init_95 : decode c_Model_init 95 = .ok (.aload_n 0, 1) := by decide +kernel
theorem d_Model_init_96 : decode c_Model_init 96 = .ok (.bipush 80, 2) := by decide +kernel
theorem d_Model_init_98 : decode c_Model_init 98 = .ok (.newarray .int, 2) := by decide +kernel
theorem d_Model_init_100 : decode c_Model_init 100 = .ok (.putfield 43, 3) := by decide +kernel
theorem d_Model_init_103 : decode c_Model_init 103 = .ok (.aload_n 0, 1) := by decide +kernel
theorem d_Model_init_104 : decode c_Model_init 104 = .ok (.bipush 80, 2) := by decide +kernel
theorem d_Model_init_106 : decode c_Model_init 106 = .ok (.newarray .int, 2) := by decide +kernel
theorem d_Model_init_108 : decode c_Model_init 108 = .ok (.putfield 46, 3) := by decide +kernel
theorem d_Model_init_111 : decode c_Model_init 111 = .ok (.aload_n 0, 1) := by decide +kernel
theorem d_Model_init_112 : decode c_Model_init 112 = .ok (.iconst (-1), 1) := by decide +kernel
theorem d_Model_init_113 : decode c_Model_init 113 = .ok (.putfield 49, 3) := by decide +kernel
theorem d_Model_init_116 : decode c_Model_init 116 = .ok (.aload_n 0, 1) := by decide +kernel
theorem d_Model_init_117 : decode c_Model_init 117 = .ok (.iconst (-1), 1) := by decide +kernel
theorem d_Model_init_118 : decode c_Model_init 118 = .ok (.putfield 53, 3) := by decide +kernel
theorem d_Model_init_121 : decode c_Model_init 121 = .ok (.aload_n 0, 1) := by decide +kernel
theorem d_Model_init_122 : decode c_Model_init 122 = .ok (.iconst (-1), 1) := by decide +kernel
theorem d_Model_init_123 : decode c_Model_init 123 = .ok (.putfield 56, 3) := by decide +kernel
theorem d_Model_init_126 : decode c_Model_init 126 = .ok (.aload_n 0, 1) := by decide +kernel
theorem d_Model_init_127 : decode c_Model_init 127 = .ok (.bipush 60, 2) := by decide +kernel
theorem d_Model_init_129 : decode c_Model_init 129 = .ok (.newarray .int, 2) := by decide +kernel
theorem d_Model_init_131 : decode c_Model_init 131 = .ok (.putfield 59, 3) := by decide +kernel
theorem d_Model_init_134 : decode c_Model_init 134 = .ok (.aload_n 0, 1) := by decide +kernel
theorem d_Model_init_135 : decode c_Model_init 135 = .ok (.bipush 60, 2) := by decide +kernel
theorem d_Model_init_137 : decode c_Model_init 137 = .ok (.newarray .int, 2) := by decide +kernel
theorem d_Model_init_139 : decode c_Model_init 139 = .ok (.putfield 62, 3) := by decide +kernel
theorem d_Model_init_142 : decode c_Model_init 142 = .ok (.aload_n 0, 1) := by decide +kernel
theorem d_Model_init_143 : decode c_Model_init 143 = .ok (.iconst 5, 1) := by decide +kernel
theorem d_Model_init_144 : decode c_Model_init 144 = .ok (.newarray .int, 2) := by decide +kernel
theorem d_Model_init_146 : decode c_Model_init 146 = .ok (.putfield 65, 3) := by decide +kernel
theorem d_Model_init_149 : decode c_Model_init 149 = .ok (.aload_n 0, 1) := by decide +kernel
theorem d_Model_init_150 : decode c_Model_init 150 = .ok (.iconst 5, 1) := by decide +kernel
theorem d_Model_init_151 : decode c_Model_init 151 = .ok (.newarray .int, 2) := by decide +kernel
theorem d_Model_init_153 : decode c_Model_init 153 = .ok (.putfield 68, 3) := by decide +kernel
theorem d_Model_init_156 : decode c_Model_init 156 = .ok (.aload_n 0, 1) := by decide +kernel
theorem d_Model_init_157 : decode c_Model_init 157 = .ok (.iconst 5, 1) := by decide +kernel
theorem d_Model_init_158 : decode c_Model_init 158 = .ok (.newarray .int, 2) := by decide +kernel
theorem d_Model_init_160 : decode c_Model_init 160 = .ok (.putfield 71, 3) := by decide +kernel
theorem d_Model_init_163 : decode c_Model_init 163 = .ok (.aload_n 0, 1) := by decide +kernel
theorem d_Model_init_164 : decode c_Model_init 164 = .ok (.sipush 4000, 3) := by decide +kernel
theorem d_Model_init_167 : decode c_Model_init 167 = .ok (.newarray .int, 2) := by decide +kernel
theorem d_Model_init_169 : decode c_Model_init 169 = .ok (.putfield 74, 3) := by decide +kernel
theorem d_Model_init_172 : decode c_Model_init 172 = .ok (.aload_n 0, 1) := by decide +kernel
theorem d_Model_init_173 : decode c_Model_init 173 = .ok (.invokevirtual 77, 3) := by decide +kernel
theorem d_Model_init_176 : decode c_Model_init 176 = .ok (.return_, 1) := by decide +kernel
theorem d_Model_thrown_0 : decode c_Model_thrown 0 = .ok (.aload_n 0, 1) := by decide +kernel
theorem d_Model_thrown_1 : decode c_Model_thrown 1 = .ok (.getfield 80, 3) := by decide +kernel
theorem d_Model_thrown_4 : decode c_Model_thrown 4 = .ok (.ireturn, 1) := by decide +kernel
theorem d_Model_usual_0 : decode c_Model_usual 0 = .ok (.aload_n 0, 1) := by decide +kernel
theorem d_Model_usual_1 : decode c_Model_usual 1 = .ok (.getfield 13, 3) := by decide +kernel
theorem d_Model_usual_4 : decode c_Model_usual 4 = .ok (.iconst 0, 1) := by decide +kernel
theorem d_Model_usual_5 : decode c_Model_usual 5 = .ok (.bipush 58, 2) := by decide +kernel
theorem d_Model_usual_7 : decode c_Model_usual 7 = .ok (.iastore, 1) := by decide +kernel
theorem d_Model_usual_8 : decode c_Model_usual 8 = .ok (.aload_n 0, 1) := by decide +kernel
theorem d_Model_usual_9 : decode c_Model_usual 9 = .ok (.getfield 13, 3) := by decide +kernel
theorem d_Model_usual_12 : decode c_Model_usual 12 = .ok (.iconst 1, 1) := by decide +kernel
theorem d_Model_usual_13 : decode c_Model_usual 13 = .ok (.bipush 43, 2) := by decide +kernel
theorem d_Model_usual_15 : decode c_Model_usual 15 = .ok (.iastore, 1) := by decide +kernel
theorem d_Model_usual_16 : decode c_Model_usual 16 = .ok (.aload_n 0, 1) := by decide +kernel
theorem d_Model_usual_17 : decode c_Model_usual 17 = .ok (.getfield 13, 3) := by decide +kernel
theorem d_Model_usual_20 : decode c_Model_usual 20 = .ok (.iconst 2, 1) := by decide +kernel
theorem d_Model_usual_21 : decode c_Model_usual 21 = .ok (.bipush 63, 2) := by decide +kernel
theorem d_Model_usual_23 : decode c_Model_usual 23 = .ok (.iastore, 1) := by decide +kernel
theorem d_Model_usual_24 : decode c_Model_usual 24 = .ok (.aload_n 0, 1) := by decide +kernel
theorem d_Model_usual_25 : decode c_Model_usual 25 = .ok (.getfield 13, 3) := by decide +kernel
theorem d_Model_usual_28 : decode c_Model_usual 28 = .ok (.iconst 3, 1) := by decide +kernel
theorem d_Model_usual_29 : decode c_Model_usual 29 = .ok (.bipush 42, 2) := by decide +kernel
theorem d_Model_usual_31 : decode c_Model_usual 31 = .ok (.iastore, 1) := by decide +kernel
theorem d_Model_usual_32 : decode c_Model_usual 32 = .ok (.aload_n 0, 1) := by decide +kernel
theorem d_Model_usual_33 : decode c_Model_usual 33 = .ok (.getfield 13, 3) := by decide +kernel
theorem d_Model_usual_36 : decode c_Model_usual 36 = .ok (.iconst 4, 1) := by decide +kernel
theorem d_Model_usual_37 : decode c_Model_usual 37 = .ok (.bipush 39, 2) := by decide +kernel
theorem d_Model_usual_39 : decode c_Model_usual 39 = .ok (.iastore, 1) := by decide +kernel
theorem d_Model_usual_40 : decode c_Model_usual 40 = .ok (.return_, 1) := by decide +kernel
theorem d_Model_add_0 : decode c_Model_add 0 = .ok (.aload_n 0, 1) := by decide +kernel
theorem d_Model_add_1 : decode c_Model_add 1 = .ok (.iconst 0, 1) := by decide +kernel
theorem d_Model_add_2 : decode c_Model_add 2 = .ok (.putfield 80, 3) := by decide +kernel
theorem d_Model_add_5 : decode c_Model_add 5 = .ok (.iload_n 1, 1) := by decide +kernel
theorem d_Model_add_6 : decode c_Model_add 6 = .ok (.bipush 32, 2) := by decide +kernel
theorem d_Model_add_8 : decode c_Model_add 8 = .ok (.if_icmp .lt 19, 3) := by decide +kernel
theorem d_Model_add_11 : decode c_Model_add 11 = .ok (.iload_n 1, 1) := by decide +kernel
theorem d_Model_add_12 : decode c_Model_add 12 = .ok (.bipush 126, 2) := by decide +kernel
theorem d_Model_add_14 : decode c_Model_add 14 = .ok (.if_icmp .gt 13, 3) := by decide +kernel
theorem d_Model_add_17 : decode c_Model_add 17 = .ok (.aload_n 0, 1) := by decide +kernel
theorem d_Model_add_18 : decode c_Model_add 18 = .ok (.getfield 83, 3) := by decide +kernel
theorem d_Model_add_21 : decode c_Model_add 21 = .ok (.sipush 1500, 3) := by decide +kernel
theorem d_Model_add_24 : decode c_Model_add 24 = .ok (.if_icmp .ne 5, 3) := by decide +kernel
theorem d_Model_add_27 : decode c_Model_add 27 = .ok (.iconst 0, 1) := by decide +kernel
theorem d_Model_add_28 : decode c_Model_add 28 = .ok (.ireturn, 1) := by decide +kernel
theorem d_Model_add_29 : decode c_Model_add 29 = .ok (.aload_n 0, 1) := by decide +kernel
theorem d_Model_add_30 : decode c_Model_add 30 = .ok (.getfield 7, 3) := by decide +kernel
theorem d_Model_add_33 : decode c_Model_add 33 = .ok (.aload_n 0, 1) := by decide +kernel
theorem d_Model_add_34 : decode c_Model_add 34 = .ok (.getfield 83, 3) := by decide +kernel
theorem d_Model_add_37 : decode c_Model_add 37 = .ok (.iload_n 1, 1) := by decide +kernel
theorem d_Model_add_38 : decode c_Model_add 38 = .ok (.iastore, 1) := by decide +kernel
theorem d_Model_add_39 : decode c_Model_add 39 = .ok (.aload_n 0, 1) := by decide +kernel
theorem d_Model_add_40 : decode c_Model_add 40 = .ok (.dup, 1) := by decide +kernel
theorem d_Model_add_41 : decode c_Model_add 41 = .ok (.getfield 83, 3) := by decide +kernel
theorem d_Model_add_44 : decode c_Model_add 44 = .ok (.iconst 1, 1) := by decide +kernel
theorem d_Model_add_45 : decode c_Model_add 45 = .ok (.iadd, 1) := by decide +kernel
theorem d_Model_add_46 : decode c_Model_add 46 = .ok (.putfield 83, 3) := by decide +kernel
theorem d_Model_add_49 : decode c_Model_add 49 = .ok (.iconst 1, 1) := by decide +kernel
theorem d_Model_add_50 : decode c_Model_add 50 = .ok (.ireturn, 1) := by decide +kernel
theorem d_Model_look_0 : decode c_Model_look 0 = .ok (.aload_n 0, 1) := by decide +kernel
theorem d_Model_look_1 : decode c_Model_look 1 = .ok (.getfield 86, 3) := by decide +kernel
theorem d_Model_look_4 : decode c_Model_look 4 = .ok (.aload_n 0, 1) := by decide +kernel
theorem d_Model_look_5 : decode c_Model_look 5 = .ok (.getfield 83, 3) := by decide +kernel
theorem d_Model_look_8 : decode c_Model_look 8 = .ok (.if_icmp .ge 15, 3) := by decide +kernel
theorem d_Model_look_11 : decode c_Model_look 11 = .ok (.aload_n 0, 1) := by decide +kernel
theorem d_Model_look_12 : decode c_Model_look 12 = .ok (.getfield 7, 3) := by decide +kernel
theorem d_Model_look_15 : decode c_Model_look 15 = .ok (.aload_n 0, 1) := by decide +kernel
theorem d_Model_look_16 : decode c_Model_look 16 = .ok (.getfield 86, 3) := by decide +kernel
theorem d_Model_look_19 : decode c_Model_look 19 = .ok (.iaload, 1) := by decide +kernel
theorem d_Model_look_20 : decode c_Model_look 20 = .ok (.goto 4, 3) := by decide +kernel
theorem d_Model_look_23 : decode c_Model_look 23 = .ok (.iconst (-1), 1) := by decide +kernel
theorem d_Model_look_24 : decode c_Model_look 24 = .ok (.ireturn, 1) := by decide +kernel
theorem d_Model_fail_0 : decode c_Model_fail 0 = .ok (.aload_n 0, 1) := by decide +kernel
theorem d_Model_fail_1 : decode c_Model_fail 1 = .ok (.getfield 89, 3) := by decide +kernel
theorem d_Model_fail_4 : decode c_Model_fail 4 = .ok (.ifCond .ge 11, 3) := by decide +kernel
theorem d_Model_fail_7 : decode c_Model_fail 7 = .ok (.aload_n 0, 1) := by decide +kernel
theorem d_Model_fail_8 : decode c_Model_fail 8 = .ok (.aload_n 0, 1) := by decide +kernel
theorem d_Model_fail_9 : decode c_Model_fail 9 = .ok (.getfield 86, 3) := by decide +kernel
theorem d_Model_fail_12 : decode c_Model_fail 12 = .ok (.putfield 89, 3) := by decide +kernel
theorem d_Model_fail_15 : decode c_Model_fail 15 = .ok (.return_, 1) := by decide +kernel
theorem d_Model_isLetter_0 : decode c_Model_isLetter 0 = .ok (.iload_n 0, 1) := by decide +kernel
theorem d_Model_isLetter_1 : decode c_Model_isLetter 1 = .ok (.bipush 65, 2) := by decide +kernel
theorem d_Model_isLetter_3 : decode c_Model_isLetter 3 = .ok (.if_icmp .lt 13, 3) := by decide +kernel
theorem d_Model_isLetter_6 : decode c_Model_isLetter 6 = .ok (.iload_n 0, 1) := by decide +kernel
theorem d_Model_isLetter_7 : decode c_Model_isLetter 7 = .ok (.bipush 90, 2) := by decide +kernel
theorem d_Model_isLetter_9 : decode c_Model_isLetter 9 = .ok (.if_icmp .gt 7, 3) := by decide +kernel
theorem d_Model_isLetter_12 : decode c_Model_isLetter 12 = .ok (.iconst 1, 1) := by decide +kernel
theorem d_Model_isLetter_13 : decode c_Model_isLetter 13 = .ok (.goto 4, 3) := by decide +kernel
theorem d_Model_isLetter_16 : decode c_Model_isLetter 16 = .ok (.iconst 0, 1) := by decide +kernel
theorem d_Model_isLetter_17 : decode c_Model_isLetter 17 = .ok (.ireturn, 1) := by decide +kernel
theorem d_Model_isDigit_0 : decode c_Model_isDigit 0 = .ok (.iload_n 0, 1) := by decide +kernel
theorem d_Model_isDigit_1 : decode c_Model_isDigit 1 = .ok (.bipush 48, 2) := by decide +kernel
theorem d_Model_isDigit_3 : decode c_Model_isDigit 3 = .ok (.if_icmp .lt 13, 3) := by decide +kernel
theorem d_Model_isDigit_6 : decode c_Model_isDigit 6 = .ok (.iload_n 0, 1) := by decide +kernel
theorem d_Model_isDigit_7 : decode c_Model_isDigit 7 = .ok (.bipush 57, 2) := by decide +kernel
theorem d_Model_isDigit_9 : decode c_Model_isDigit 9 = .ok (.if_icmp .gt 7, 3) := by decide +kernel
theorem d_Model_isDigit_12 : decode c_Model_isDigit 12 = .ok (.iconst 1, 1) := by decide +kernel
theorem d_Model_isDigit_13 : decode c_Model_isDigit 13 = .ok (.goto 4, 3) := by decide +kernel
theorem d_Model_isDigit_16 : decode c_Model_isDigit 16 = .ok (.iconst 0, 1) := by decide +kernel
theorem d_Model_isDigit_17 : decode c_Model_isDigit 17 = .ok (.ireturn, 1) := by decide +kernel
theorem d_Model_readService_0 : decode c_Model_readService 0 = .ok (.iconst 0, 1) := by decide +kernel
theorem d_Model_readService_1 : decode c_Model_readService 1 = .ok (.istore_n 1, 1) := by decide +kernel
theorem d_Model_readService_2 : decode c_Model_readService 2 = .ok (.iload_n 1, 1) := by decide +kernel
theorem d_Model_readService_3 : decode c_Model_readService 3 = .ok (.iconst 5, 1) := by decide +kernel
theorem d_Model_readService_4 : decode c_Model_readService 4 = .ok (.if_icmp .ge 111, 3) := by decide +kernel
theorem d_Model_readService_7 : decode c_Model_readService 7 = .ok (.aload_n 0, 1) := by decide +kernel
theorem d_Model_readService_8 : decode c_Model_readService 8 = .ok (.invokevirtual 92, 3) := by decide +kernel
theorem d_Model_readService_11 : decode c_Model_readService 11 = .ok (.istore_n 2, 1) := by decide +kernel
theorem d_Model_readService_12 : decode c_Model_readService 12 = .ok (.iload_n 2, 1) := by decide +kernel
theorem d_Model_readService_13 : decode c_Model_readService 13 = .ok (.iconst (-1), 1) := by decide +kernel
theorem d_Model_readService_14 : decode c_Model_readService 14 = .ok (.if_icmp .eq 39, 3) := by decide +kernel
theorem d_Model_readService_17 : decode c_Model_readService 17 = .ok (.iload_n 2, 1) := by decide +kernel
theorem d_Model_readService_18 : decode c_Model_readService 18 = .ok (.bipush 32, 2) := by decide +kernel
theorem d_Model_readService_20 : decode c_Model_readService 20 = .ok (.if_icmp .eq 33, 3) := by decide +kernel
theorem d_Model_readService_23 : decode c_Model_readService 23 = .ok (.iload_n 2, 1) := by decide +kernel
theorem d_Model_readService_24 : decode c_Model_readService 24 = .ok (.invokestatic 96, 3) := by decide +kernel
theorem d_Model_readService_27 : decode c_Model_readService 27 = .ok (.ifCond .ne 26, 3) := by decide +kernel
theorem d_Model_readService_30 : decode c_Model_readService 30 = .ok (.iload_n 2, 1) := by decide +kernel
theorem d_Model_readService_31 : decode c_Model_readService 31 = .ok (.invokestatic 100, 3) := by decide +kernel
theorem d_Model_readService_34 : decode c_Model_readService 34 = .ok (.ifCond .ne 19, 3) := by decide +kernel
theorem d_Model_readService_37 : decode c_Model_readService 37 = .ok (.iload_n 2, 1) := by decide +kernel
theorem d_Model_readService_38 : decode c_Model_readService 38 = .ok (.bipush 97, 2) := by decide +kernel
theorem d_Model_readService_40 : decode c_Model_readService 40 = .ok (.if_icmp .lt 9, 3) := by decide +kernel
theorem d_Model_readService_43 : decode c_Model_readService 43 = .ok (.iload_n 2, 1) := by decide +kernel
theorem d_Model_readService_44 : decode c_Model_readService 44 = .ok (.bipush 122, 2) := by decide +kernel
theorem d_Model_readService_46 : decode c_Model_readService 46 = .ok (.if_icmp .le 7, 3) := by decide +kernel
theorem d_Model_readService_49 : decode c_Model_readService 49 = .ok (.iconst 1, 1) := by decide +kernel
theorem d_Model_readService_50 : decode c_Model_readService 50 = .ok (.goto 4, 3) := by decide +kernel
theorem d_Model_readService_53 : decode c_Model_readService 53 = .ok (.iconst 0, 1) := by decide +kernel
theorem d_Model_readService_54 : decode c_Model_readService 54 = .ok (.istore_n 3, 1) := by decide +kernel
theorem d_Model_readService_55 : decode c_Model_readService 55 = .ok (.iconst 0, 1) := by decide +kernel
theorem d_Model_readService_56 : decode c_Model_readService 56 = .ok (.istore 4, 2) := by decide +kernel
theorem d_Model_readService_58 : decode c_Model_readService 58 = .ok (.iload 4, 2) := by decide +kernel
theorem d_Model_readService_60 : decode c_Model_readService 60 = .ok (.iload_n 1, 1) := by decide +kernel
theorem d_Model_readService_61 : decode c_Model_readService 61 = .ok (.if_icmp .ge 22, 3) := by decide +kernel
theorem d_Model_readService_64 : decode c_Model_readService 64 = .ok (.aload_n 0, 1) := by decide +kernel
theorem d_Model_readService_65 : decode c_Model_readService 65 = .ok (.getfield 13, 3) := by decide +kernel
theorem d_Model_readService_68 : decode c_Model_readService 68 = .ok (.iload 4, 2) := by decide +kernel
theorem d_Model_readService_70 : decode c_Model_readService 70 = .ok (.iaload, 1) := by decide +kernel
theorem d_Model_readService_71 : decode c_Model_readService 71 = .ok (.iload_n 2, 1) := by decide +kernel
theorem d_Model_readService_72 : decode c_Model_readService 72 = .ok (.if_icmp .ne 5, 3) := by decide +kernel
theorem d_Model_readService_75 : decode c_Model_readService 75 = .ok (.iconst 0, 1) := by decide +kernel
theorem d_Model_readService_76 : decode c_Model_readService 76 = .ok (.istore_n 3, 1) := by decide +kernel
theorem d_Model_readService_77 : decode c_Model_readService 77 = .ok (.iinc 4 1, 3) := by decide +kernel
theorem d_Model_readService_80 : decode c_Model_readService 80 = .ok (.goto (-22), 3) := by decide +kernel
theorem d_Model_readService_83 : decode c_Model_readService 83 = .ok (.iload_n 3, 1) := by decide +kernel
theorem d_Model_readService_84 : decode c_Model_readService 84 = .ok (.ifCond .ne 8, 3) := by decide +kernel
theorem d_Model_readService_87 : decode c_Model_readService 87 = .ok (.aload_n 0, 1) := by decide +kernel
theorem d_Model_readService_88 : decode c_Model_readService 88 = .ok (.invokevirtual 103, 3) := by decide +kernel
theorem d_Model_readService_91 : decode c_Model_readService 91 = .ok (.return_, 1) := by decide +kernel
theorem d_Model_readService_92 : decode c_Model_readService 92 = .ok (.aload_n 0, 1) := by decide +kernel
theorem d_Model_readService_93 : decode c_Model_readService 93 = .ok (.getfield 13, 3) := by decide +kernel
theorem d_Model_readService_96 : decode c_Model_readService 96 = .ok (.iload_n 1, 1) := by decide +kernel
theorem d_Model_readService_97 : decode c_Model_readService 97 = .ok (.iload_n 2, 1) := by decide +kernel
theorem d_Model_readService_98 : decode c_Model_readService 98 = .ok (.iastore, 1) := by decide +kernel
theorem d_Model_readService_99 : decode c_Model_readService 99 = .ok (.aload_n 0, 1) := by decide +kernel
theorem d_Model_readService_100 : decode c_Model_readService 100 = .ok (.dup, 1) := by decide +kernel
theorem d_Model_readService_101 : decode c_Model_readService 101 = .ok (.getfield 86, 3) := by decide +kernel
theorem d_Model_readService_104 : decode c_Model_readService 104 = .ok (.iconst 1, 1) := by decide +kernel
theorem d_Model_readService_105 : decode c_Model_readService 105 = .ok (.iadd, 1) := by decide +kernel
theorem d_Model_readService_106 : decode c_Model_readService 106 = .ok (.putfield 86, 3) := by decide +kernel
theorem d_Model_readService_109 : decode c_Model_readService 109 = .ok (.iinc 1 1, 3) := by decide +kernel
theorem d_Model_readService_112 : decode c_Model_readService 112 = .ok (.goto (-110), 3) := by decide +kernel
theorem d_Model_readService_115 : decode c_Model_readService 115 = .ok (.return_, 1) := by decide +kernel
theorem d_Model_begins_0 : decode c_Model_begins 0 = .ok (.aload_n 0, 1) := by decide +kernel
theorem d_Model_begins_1 : decode c_Model_begins 1 = .ok (.getfield 83, 3) := by decide +kernel
theorem d_Model_begins_4 : decode c_Model_begins 4 = .ok (.iconst 3, 1) := by decide +kernel
theorem d_Model_begins_5 : decode c_Model_begins 5 = .ok (.if_icmp .lt 40, 3) := by decide +kernel
theorem d_Model_begins_8 : decode c_Model_begins 8 = .ok (.aload_n 0, 1) := by decide +kernel
theorem d_Model_begins_9 : decode c_Model_begins 9 = .ok (.getfield 7, 3) := by decide +kernel
theorem d_Model_begins_12 : decode c_Model_begins 12 = .ok (.iconst 0, 1) := by decide +kernel
theorem d_Model_begins_13 : decode c_Model_begins 13 = .ok (.iaload, 1) := by decide +kernel
theorem d_Model_begins_14 : decode c_Model_begins 14 = .ok (.bipush 85, 2) := by decide +kernel
theorem d_Model_begins_16 : decode c_Model_begins 16 = .ok (.if_icmp .ne 29, 3) := by decide +kernel
theorem d_Model_begins_19 : decode c_Model_begins 19 = .ok (.aload_n 0, 1) := by decide +kernel
theorem d_Model_begins_20 : decode c_Model_begins 20 = .ok (.getfield 7, 3) := by decide +kernel
theorem d_Model_begins_23 : decode c_Model_begins 23 = .ok (.iconst 1, 1) := by decide +kernel
theorem d_Model_begins_24 : decode c_Model_begins 24 = .ok (.iaload, 1) := by decide +kernel
theorem d_Model_begins_25 : decode c_Model_begins 25 = .ok (.bipush 78, 2) := by decide +kernel
theorem d_Model_begins_27 : decode c_Model_begins 27 = .ok (.if_icmp .ne 18, 3) := by decide +kernel
theorem d_Model_begins_30 : decode c_Model_begins 30 = .ok (.aload_n 0, 1) := by decide +kernel
theorem d_Model_begins_31 : decode c_Model_begins 31 = .ok (.getfield 7, 3) := by decide +kernel
theorem d_Model_begins_34 : decode c_Model_begins 34 = .ok (.iconst 2, 1) := by decide +kernel
theorem d_Model_begins_35 : decode c_Model_begins 35 = .ok (.iaload, 1) := by decide +kernel
theorem d_Model_begins_36 : decode c_Model_begins 36 = .ok (.bipush 65, 2) := by decide +kernel
theorem d_Model_begins_38 : decode c_Model_begins 38 = .ok (.if_icmp .ne 7, 3) := by decide +kernel
theorem d_Model_begins_41 : decode c_Model_begins 41 = .ok (.iconst 1, 1) := by decide +kernel
theorem d_Model_begins_42 : decode c_Model_begins 42 = .ok (.goto 4, 3) := by decide +kernel
theorem d_Model_begins_45 : decode c_Model_begins 45 = .ok (.iconst 0, 1) := by decide +kernel
theorem d_Model_begins_46 : decode c_Model_begins 46 = .ok (.ireturn, 1) := by decide +kernel
theorem d_Model_readTag_0 : decode c_Model_readTag 0 = .ok (.iconst 0, 1) := by decide +kernel
theorem d_Model_readTag_1 : decode c_Model_readTag 1 = .ok (.istore_n 1, 1) := by decide +kernel
theorem d_Model_readTag_2 : decode c_Model_readTag 2 = .ok (.iconst 0, 1) := by decide +kernel
theorem d_Model_readTag_3 : decode c_Model_readTag 3 = .ok (.istore_n 2, 1) := by decide +kernel
theorem d_Model_readTag_4 : decode c_Model_readTag 4 = .ok (.iload_n 2, 1) := by decide +kernel
theorem d_Model_readTag_5 : decode c_Model_readTag 5 = .ok (.iconst 3, 1) := by decide +kernel
theorem d_Model_readTag_6 : decode c_Model_readTag 6 = .ok (.if_icmp .ge 55, 3) := by decide +kernel
theorem d_Model_readTag_9 : decode c_Model_readTag 9 = .ok (.aload_n 0, 1) := by decide +kernel
theorem d_Model_readTag_10 : decode c_Model_readTag 10 = .ok (.invokevirtual 92, 3) := by decide +kernel
theorem d_Model_readTag_13 : decode c_Model_readTag 13 = .ok (.istore_n 3, 1) := by decide +kernel
theorem d_Model_readTag_14 : decode c_Model_readTag 14 = .ok (.iload_n 3, 1) := by decide +kernel
theorem d_Model_readTag_15 : decode c_Model_readTag 15 = .ok (.invokestatic 96, 3) := by decide +kernel
theorem d_Model_readTag_18 : decode c_Model_readTag 18 = .ok (.ifCond .ne 19, 3) := by decide +kernel
theorem d_Model_readTag_21 : decode c_Model_readTag 21 = .ok (.iload_n 2, 1) := by decide +kernel
theorem d_Model_readTag_22 : decode c_Model_readTag 22 = .ok (.ifCond .eq 10, 3) := by decide +kernel
theorem d_Model_readTag_25 : decode c_Model_readTag 25 = .ok (.iload_n 3, 1) := by decide +kernel
theorem d_Model_readTag_26 : decode c_Model_readTag 26 = .ok (.invokestatic 100, 3) := by decide +kernel
theorem d_Model_readTag_29 : decode c_Model_readTag 29 = .ok (.ifCond .ne 8, 3) := by decide +kernel
theorem d_Model_readTag_32 : decode c_Model_readTag 32 = .ok (.aload_n 0, 1) := by decide +kernel
theorem d_Model_readTag_33 : decode c_Model_readTag 33 = .ok (.invokevirtual 103, 3) := by decide +kernel
theorem d_Model_readTag_36 : decode c_Model_readTag 36 = .ok (.return_, 1) := by decide +kernel
theorem d_Model_readTag_37 : decode c_Model_readTag 37 = .ok (.sipush 256, 3) := by decide +kernel
theorem d_Model_readTag_40 : decode c_Model_readTag 40 = .ok (.iload_n 1, 1) := by decide +kernel
theorem d_Model_readTag_41 : decode c_Model_readTag 41 = .ok (.imul, 1) := by decide +kernel
theorem d_Model_readTag_42 : decode c_Model_readTag 42 = .ok (.iload_n 3, 1) := by decide +kernel
theorem d_Model_readTag_43 : decode c_Model_readTag 43 = .ok (.iadd, 1) := by decide +kernel
theorem d_Model_readTag_44 : decode c_Model_readTag 44 = .ok (.istore_n 1, 1) := by decide +kernel
theorem d_Model_readTag_45 : decode c_Model_readTag 45 = .ok (.aload_n 0, 1) := by decide +kernel
theorem d_Model_readTag_46 : decode c_Model_readTag 46 = .ok (.dup, 1) := by decide +kernel
theorem d_Model_readTag_47 : decode c_Model_readTag 47 = .ok (.getfield 86, 3) := by decide +kernel
theorem d_Model_readTag_50 : decode c_Model_readTag 50 = .ok (.iconst 1, 1) := by decide +kernel
theorem d_Model_readTag_51 : decode c_Model_readTag 51 = .ok (.iadd, 1) := by decide +kernel
theorem d_Model_readTag_52 : decode c_Model_readTag 52 = .ok (.putfield 86, 3) := by decide +kernel
theorem d_Model_readTag_55 : decode c_Model_readTag 55 = .ok (.iinc 2 1, 3) := by decide +kernel
theorem d_Model_readTag_58 : decode c_Model_readTag 58 = .ok (.goto (-54), 3) := by decide +kernel
theorem d_Model_readTag_61 : decode c_Model_readTag 61 = .ok (.aload_n 0, 1) := by decide +kernel
theorem d_Model_readTag_62 : decode c_Model_readTag 62 = .ok (.getfield 16, 3) := by decide +kernel
theorem d_Model_readTag_65 : decode c_Model_readTag 65 = .ok (.aload_n 0, 1) := by decide +kernel
theorem d_Model_readTag_66 : decode c_Model_readTag 66 = .ok (.getfield 106, 3) := by decide +kernel
theorem d_Model_readTag_69 : decode c_Model_readTag 69 = .ok (.iload_n 1, 1) := by decide +kernel
theorem d_Model_readTag_70 : decode c_Model_readTag 70 = .ok (.iastore, 1) := by decide +kernel
theorem d_Model_readTag_71 : decode c_Model_readTag 71 = .ok (.return_, 1) := by decide +kernel
theorem d_Model_openComponent_0 : decode c_Model_openComponent 0 = .ok (.aload_n 0, 1) := by decide +kernel
theorem d_Model_openComponent_1 : decode c_Model_openComponent 1 = .ok (.getfield 28, 3) := by decide +kernel
theorem d_Model_openComponent_4 : decode c_Model_openComponent 4 = .ok (.aload_n 0, 1) := by decide +kernel
theorem d_Model_openComponent_5 : decode c_Model_openComponent 5 = .ok (.getfield 109, 3) := by decide +kernel
theorem d_Model_openComponent_8 : decode c_Model_openComponent 8 = .ok (.aload_n 0, 1) := by decide +kernel
theorem d_Model_openComponent_9 : decode c_Model_openComponent 9 = .ok (.getfield 112, 3) := by decide +kernel
theorem d_Model_openComponent_12 : decode c_Model_openComponent 12 = .ok (.iastore, 1) := by decide +kernel
theorem d_Model_openComponent_13 : decode c_Model_openComponent 13 = .ok (.aload_n 0, 1) := by decide +kernel
theorem d_Model_openComponent_14 : decode c_Model_openComponent 14 = .ok (.dup, 1) := by decide +kernel
theorem d_Model_openComponent_15 : decode c_Model_openComponent 15 = .ok (.getfield 109, 3) := by decide +kernel
theorem d_Model_openComponent_18 : decode c_Model_openComponent 18 = .ok (.iconst 1, 1) := by decide +kernel
theorem d_Model_openComponent_19 : decode c_Model_openComponent 19 = .ok (.iadd, 1) := by decide +kernel
theorem d_Model_openComponent_20 : decode c_Model_openComponent 20 = .ok (.putfield 109, 3) := by decide +kernel
theorem d_Model_openComponent_23 : decode c_Model_openComponent 23 = .ok (.return_, 1) := by decide +kernel
theorem d_Model_openRepeat_0 : decode c_Model_openRepeat 0 = .ok (.aload_n 0, 1) := by decide +kernel
theorem d_Model_openRepeat_1 : decode c_Model_openRepeat 1 = .ok (.getfield 25, 3) := by decide +kernel
theorem d_Model_openRepeat_4 : decode c_Model_openRepeat 4 = .ok (.aload_n 0, 1) := by decide +kernel
theorem d_Model_openRepeat_5 : decode c_Model_openRepeat 5 = .ok (.getfield 115, 3) := by decide +kernel
theorem d_Model_openRepeat_8 : decode c_Model_openRepeat 8 = .ok (.aload_n 0, 1) := by decide +kernel
theorem d_Model_openRepeat_9 : decode c_Model_openRepeat 9 = .ok (.getfield 109, 3) := by decide +kernel
theorem d_Model_openRepeat_12 : decode c_Model_openRepeat 12 = .ok (.iastore, 1) := by decide +kernel
theorem d_Model_openRepeat_13 : decode c_Model_openRepeat 13 = .ok (.aload_n 0, 1) := by decide +kernel
theorem d_Model_openRepeat_14 : decode c_Model_openRepeat 14 = .ok (.dup, 1) := by decide +kernel
theorem d_Model_openRepeat_15 : decode c_Model_openRepeat 15 = .ok (.getfield 115, 3) := by decide +kernel
theorem d_Model_openRepeat_18 : decode c_Model_openRepeat 18 = .ok (.iconst 1, 1) := by decide +kernel
theorem d_Model_openRepeat_19 : decode c_Model_openRepeat 19 = .ok (.iadd, 1) := by decide +kernel
theorem d_Model_openRepeat_20 : decode c_Model_openRepeat 20 = .ok (.putfield 115, 3) := by decide +kernel
theorem d_Model_openRepeat_23 : decode c_Model_openRepeat 23 = .ok (.aload_n 0, 1) := by decide +kernel
theorem d_Model_openRepeat_24 : decode c_Model_openRepeat 24 = .ok (.invokevirtual 118, 3) := by decide +kernel
theorem d_Model_openRepeat_27 : decode c_Model_openRepeat 27 = .ok (.return_, 1) := by decide +kernel
theorem d_Model_take_0 : decode c_Model_take 0 = .ok (.aload_n 0, 1) := by decide +kernel
theorem d_Model_take_1 : decode c_Model_take 1 = .ok (.getfield 31, 3) := by decide +kernel
theorem d_Model_take_4 : decode c_Model_take 4 = .ok (.aload_n 0, 1) := by decide +kernel
theorem d_Model_take_5 : decode c_Model_take 5 = .ok (.getfield 112, 3) := by decide +kernel
theorem d_Model_take_8 : decode c_Model_take 8 = .ok (.iload_n 1, 1) := by decide +kernel
theorem d_Model_take_9 : decode c_Model_take 9 = .ok (.iastore, 1) := by decide +kernel
theorem d_Model_take_10 : decode c_Model_take 10 = .ok (.aload_n 0, 1) := by decide +kernel
theorem d_Model_take_11 : decode c_Model_take 11 = .ok (.dup, 1) := by decide +kernel
theorem d_Model_take_12 : decode c_Model_take 12 = .ok (.getfield 112, 3) := by decide +kernel
theorem d_Model_take_15 : decode c_Model_take 15 = .ok (.iconst 1, 1) := by decide +kernel
theorem d_Model_take_16 : decode c_Model_take 16 = .ok (.iadd, 1) := by decide +kernel
theorem d_Model_take_17 : decode c_Model_take 17 = .ok (.putfield 112, 3) := by decide +kernel
theorem d_Model_take_20 : decode c_Model_take 20 = .ok (.aload_n 0, 1) := by decide +kernel
theorem d_Model_take_21 : decode c_Model_take 21 = .ok (.dup, 1) := by decide +kernel
theorem d_Model_take_22 : decode c_Model_take 22 = .ok (.getfield 86, 3) := by decide +kernel
theorem d_Model_take_25 : decode c_Model_take 25 = .ok (.iconst 1, 1) := by decide +kernel
theorem d_Model_take_26 : decode c_Model_take 26 = .ok (.iadd, 1) := by decide +kernel
theorem d_Model_take_27 : decode c_Model_take 27 = .ok (.putfield 86, 3) := by decide +kernel
theorem d_Model_take_30 : decode c_Model_take 30 = .ok (.return_, 1) := by decide +kernel
theorem d_Model_readElement_0 : decode c_Model_readElement 0 = .ok (.aload_n 0, 1) := by decide +kernel
theorem d_Model_readElement_1 : decode c_Model_readElement 1 = .ok (.getfield 22, 3) := by decide +kernel
theorem d_Model_readElement_4 : decode c_Model_readElement 4 = .ok (.aload_n 0, 1) := by decide +kernel
theorem d_Model_readElement_5 : decode c_Model_readElement 5 = .ok (.getfield 121, 3) := by decide +kernel
theorem d_Model_readElement_8 : decode c_Model_readElement 8 = .ok (.aload_n 0, 1) := by decide +kernel
theorem d_Model_readElement_9 : decode c_Model_readElement 9 = .ok (.getfield 115, 3) := by decide +kernel
theorem d_Model_readElement_12 : decode c_Model_readElement 12 = .ok (.iastore, 1) := by decide +kernel
theorem d_Model_readElement_13 : decode c_Model_readElement 13 = .ok (.aload_n 0, 1) := by decide +kernel
theorem d_Model_readElement_14 : decode c_Model_readElement 14 = .ok (.dup, 1) := by decide +kernel
theorem d_Model_readElement_15 : decode c_Model_readElement 15 = .ok (.getfield 121, 3) := by decide +kernel
theorem d_Model_readElement_18 : decode c_Model_readElement 18 = .ok (.iconst 1, 1) := by decide +kernel
theorem d_Model_readElement_19 : decode c_Model_readElement 19 = .ok (.iadd, 1) := by decide +kernel
theorem d_Model_readElement_20 : decode c_Model_readElement 20 = .ok (.putfield 121, 3) := by decide +kernel
theorem d_Model_readElement_23 : decode c_Model_readElement 23 = .ok (.aload_n 0, 1) := by decide +kernel
theorem d_Model_readElement_24 : decode c_Model_readElement 24 = .ok (.getfield 115, 3) := by decide +kernel
theorem d_Model_readElement_27 : decode c_Model_readElement 27 = .ok (.istore_n 1, 1) := by decide +kernel
theorem d_Model_readElement_28 : decode c_Model_readElement 28 = .ok (.aload_n 0, 1) := by decide +kernel
theorem d_Model_readElement_29 : decode c_Model_readElement 29 = .ok (.invokevirtual 124, 3) := by decide +kernel
theorem d_Model_readElement_32 : decode c_Model_readElement 32 = .ok (.aload_n 0, 1) := by decide +kernel
theorem d_Model_readElement_33 : decode c_Model_readElement 33 = .ok (.getfield 89, 3) := by decide +kernel
theorem d_Model_readElement_36 : decode c_Model_readElement 36 = .ok (.ifCond .ge 194, 3) := by decide +kernel
theorem d_Model_readElement_39 : decode c_Model_readElement 39 = .ok (.aload_n 0, 1) := by decide +kernel
theorem d_Model_readElement_40 : decode c_Model_readElement 40 = .ok (.invokevirtual 92, 3) := by decide +kernel
theorem d_Model_readElement_43 : decode c_Model_readElement 43 = .ok (.istore_n 2, 1) := by decide +kernel
theorem d_Model_readElement_44 : decode c_Model_readElement 44 = .ok (.iload_n 2, 1) := by decide +kernel
theorem d_Model_readElement_45 : decode c_Model_readElement 45 = .ok (.iconst (-1), 1) := by decide +kernel
theorem d_Model_readElement_46 : decode c_Model_readElement 46 = .ok (.if_icmp .ne 10, 3) := by decide +kernel
theorem d_Model_readElement_49 : decode c_Model_readElement 49 = .ok (.aload_n 0, 1) := by decide +kernel
theorem d_Model_readElement_50 : decode c_Model_readElement 50 = .ok (.invokevirtual 103, 3) := by decide +kernel
theorem d_Model_readElement_53 : decode c_Model_readElement 53 = .ok (.goto 174, 3) := by decide +kernel
theorem d_Model_readElement_56 : decode c_Model_readElement 56 = .ok (.iload_n 2, 1) := by decide +kernel
theorem d_Model_readElement_57 : decode c_Model_readElement 57 = .ok (.aload_n 0, 1) := by decide +kernel
theorem d_Model_readElement_58 : decode c_Model_readElement 58 = .ok (.getfield 13, 3) := by decide +kernel
theorem d_Model_readElement_61 : decode c_Model_readElement 61 = .ok (.iconst 1, 1) := by decide +kernel
theorem d_Model_readElement_62 : decode c_Model_readElement 62 = .ok (.iaload, 1) := by decide +kernel
theorem d_Model_readElement_63 : decode c_Model_readElement 63 = .ok (.if_icmp .eq 13, 3) := by decide +kernel
theorem d_Model_readElement_66 : decode c_Model_readElement 66 = .ok (.iload_n 2, 1) := by decide +kernel
theorem d_Model_readElement_67 : decode c_Model_readElement 67 = .ok (.aload_n 0, 1) := by decide +kernel
theorem d_Model_readElement_68 : decode c_Model_readElement 68 = .ok (.getfield 13, 3) := by decide +kernel
theorem d_Model_readElement_71 : decode c_Model_readElement 71 = .ok (.iconst 4, 1) := by decide +kernel
theorem d_Model_readElement_72 : decode c_Model_readElement 72 = .ok (.iaload, 1) := by decide +kernel
theorem d_Model_readElement_73 : decode c_Model_readElement 73 = .ok (.if_icmp .ne 4, 3) := by decide +kernel
theorem d_Model_readElement_76 : decode c_Model_readElement 76 = .ok (.return_, 1) := by decide +kernel
theorem d_Model_readElement_77 : decode c_Model_readElement 77 = .ok (.iload_n 2, 1) := by decide +kernel
theorem d_Model_readElement_78 : decode c_Model_readElement 78 = .ok (.aload_n 0, 1) := by decide +kernel
theorem d_Model_readElement_79 : decode c_Model_readElement 79 = .ok (.getfield 13, 3) := by decide +kernel
theorem d_Model_readElement_82 : decode c_Model_readElement 82 = .ok (.iconst 3, 1) := by decide +kernel
theorem d_Model_readElement_83 : decode c_Model_readElement 83 = .ok (.iaload, 1) := by decide +kernel
theorem d_Model_readElement_84 : decode c_Model_readElement 84 = .ok (.if_icmp .ne 37, 3) := by decide +kernel
theorem d_Model_readElement_87 : decode c_Model_readElement 87 = .ok (.aload_n 0, 1) := by decide +kernel
theorem d_Model_readElement_88 : decode c_Model_readElement 88 = .ok (.getfield 115, 3) := by decide +kernel
theorem d_Model_readElement_91 : decode c_Model_readElement 91 = .ok (.iload_n 1, 1) := by decide +kernel
theorem d_Model_readElement_92 : decode c_Model_readElement 92 = .ok (.isub, 1) := by decide +kernel
theorem d_Model_readElement_93 : decode c_Model_readElement 93 = .ok (.iconst 4, 1) := by decide +kernel
theorem d_Model_readElement_94 : decode c_Model_readElement 94 = .ok (.if_icmp .ne 10, 3) := by decide +kernel
theorem d_Model_readElement_97 : decode c_Model_readElement 97 = .ok (.aload_n 0, 1) := by decide +kernel
theorem d_Model_readElement_98 : decode c_Model_readElement 98 = .ok (.invokevirtual 103, 3) := by decide +kernel
theorem d_Model_readElement_101 : decode c_Model_readElement 101 = .ok (.goto 126, 3) := by decide +kernel
theorem d_Model_readElement_104 : decode c_Model_readElement 104 = .ok (.aload_n 0, 1) := by decide +kernel
theorem d_Model_readElement_105 : decode c_Model_readElement 105 = .ok (.dup, 1) := by decide +kernel
theorem d_Model_readElement_106 : decode c_Model_readElement 106 = .ok (.getfield 86, 3) := by decide +kernel
theorem d_Model_readElement_109 : decode c_Model_readElement 109 = .ok (.iconst 1, 1) := by decide +kernel
theorem d_Model_readElement_110 : decode c_Model_readElement 110 = .ok (.iadd, 1) := by decide +kernel
theorem d_Model_readElement_111 : decode c_Model_readElement 111 = .ok (.putfield 86, 3) := by decide +kernel
theorem d_Model_readElement_114 : decode c_Model_readElement 114 = .ok (.aload_n 0, 1) := by decide +kernel
theorem d_Model_readElement_115 : decode c_Model_readElement 115 = .ok (.invokevirtual 124, 3) := by decide +kernel
theorem d_Model_readElement_118 : decode c_Model_readElement 118 = .ok (.goto 109, 3) := by decide +kernel
theorem d_Model_readElement_121 : decode c_Model_readElement 121 = .ok (.iload_n 2, 1) := by decide +kernel
theorem d_Model_readElement_122 : decode c_Model_readElement 122 = .ok (.aload_n 0, 1) := by decide +kernel
theorem d_Model_readElement_123 : decode c_Model_readElement 123 = .ok (.getfield 13, 3) := by decide +kernel
theorem d_Model_readElement_126 : decode c_Model_readElement 126 = .ok (.iconst 0, 1) := by decide +kernel
theorem d_Model_readElement_127 : decode c_Model_readElement 127 = .ok (.iaload, 1) := by decide +kernel
theorem d_Model_readElement_128 : decode c_Model_readElement 128 = .ok (.if_icmp .ne 48, 3) := by decide +kernel
theorem d_Model_readElement_131 : decode c_Model_readElement 131 = .ok (.aload_n 0, 1) := by decide +kernel
theorem d_Model_readElement_132 : decode c_Model_readElement 132 = .ok (.getfield 109, 3) := by decide +kernel
theorem d_Model_readElement_135 : decode c_Model_readElement 135 = .ok (.aload_n 0, 1) := by decide +kernel
theorem d_Model_readElement_136 : decode c_Model_readElement 136 = .ok (.getfield 25, 3) := by decide +kernel
theorem d_Model_readElement_139 : decode c_Model_readElement 139 = .ok (.aload_n 0, 1) := by decide +kernel
theorem d_Model_readElement_140 : decode c_Model_readElement 140 = .ok (.getfield 115, 3) := by decide +kernel
theorem d_Model_readElement_143 : decode c_Model_readElement 143 = .ok (.iconst 1, 1) := by decide +kernel
theorem d_Model_readElement_144 : decode c_Model_readElement 144 = .ok (.isub, 1) := by decide +kernel
theorem d_Model_readElement_145 : decode c_Model_readElement 145 = .ok (.iaload, 1) := by decide +kernel
theorem d_Model_readElement_146 : decode c_Model_readElement 146 = .ok (.isub, 1) := by decide +kernel
theorem d_Model_readElement_147 : decode c_Model_readElement 147 = .ok (.bipush 8, 2) := by decide +kernel
theorem d_Model_readElement_149 : decode c_Model_readElement 149 = .ok (.if_icmp .ne 10, 3) := by decide +kernel
theorem d_Model_readElement_152 : decode c_Model_readElement 152 = .ok (.aload_n 0, 1) := by decide +kernel
theorem d_Model_readElement_153 : decode c_Model_readElement 153 = .ok (.invokevirtual 103, 3) := by decide +kernel
theorem d_Model_readElement_156 : decode c_Model_readElement 156 = .ok (.goto 71, 3) := by decide +kernel
theorem d_Model_readElement_159 : decode c_Model_readElement 159 = .ok (.aload_n 0, 1) := by decide +kernel
theorem d_Model_readElement_160 : decode c_Model_readElement 160 = .ok (.dup, 1) := by decide +kernel
theorem d_Model_readElement_161 : decode c_Model_readElement 161 = .ok (.getfield 86, 3) := by decide +kernel
theorem d_Model_readElement_164 : decode c_Model_readElement 164 = .ok (.iconst 1, 1) := by decide +kernel
theorem d_Model_readElement_165 : decode c_Model_readElement 165 = .ok (.iadd, 1) := by decide +kernel
theorem d_Model_readElement_166 : decode c_Model_readElement 166 = .ok (.putfield 86, 3) := by decide +kernel
theorem d_Model_readElement_169 : decode c_Model_readElement 169 = .ok (.aload_n 0, 1) := by decide +kernel
theorem d_Model_readElement_170 : decode c_Model_readElement 170 = .ok (.invokevirtual 118, 3) := by decide +kernel
theorem d_Model_readElement_173 : decode c_Model_readElement 173 = .ok (.goto 54, 3) := by decide +kernel
theorem d_Model_readElement_176 : decode c_Model_readElement 176 = .ok (.iload_n 2, 1) := by decide +kernel
theorem d_Model_readElement_177 : decode c_Model_readElement 177 = .ok (.aload_n 0, 1) := by decide +kernel
theorem d_Model_readElement_178 : decode c_Model_readElement 178 = .ok (.getfield 13, 3) := by decide +kernel
theorem d_Model_readElement_181 : decode c_Model_readElement 181 = .ok (.iconst 2, 1) := by decide +kernel
theorem d_Model_readElement_182 : decode c_Model_readElement 182 = .ok (.iaload, 1) := by decide +kernel
theorem d_Model_readElement_183 : decode c_Model_readElement 183 = .ok (.if_icmp .ne 39, 3) := by decide +kernel
theorem d_Model_readElement_186 : decode c_Model_readElement 186 = .ok (.aload_n 0, 1) := by decide +kernel
theorem d_Model_readElement_187 : decode c_Model_readElement 187 = .ok (.dup, 1) := by decide +kernel
theorem d_Model_readElement_188 : decode c_Model_readElement 188 = .ok (.getfield 86, 3) := by decide +kernel
theorem d_Model_readElement_191 : decode c_Model_readElement 191 = .ok (.iconst 1, 1) := by decide +kernel
theorem d_Model_readElement_192 : decode c_Model_readElement 192 = .ok (.iadd, 1) := by decide +kernel
theorem d_Model_readElement_193 : decode c_Model_readElement 193 = .ok (.putfield 86, 3) := by decide +kernel
theorem d_Model_readElement_196 : decode c_Model_readElement 196 = .ok (.aload_n 0, 1) := by decide +kernel
theorem d_Model_readElement_197 : decode c_Model_readElement 197 = .ok (.invokevirtual 92, 3) := by decide +kernel
theorem d_Model_readElement_200 : decode c_Model_readElement 200 = .ok (.iconst (-1), 1) := by decide +kernel
theorem d_Model_readElement_201 : decode c_Model_readElement 201 = .ok (.if_icmp .ne 10, 3) := by decide +kernel
theorem d_Model_readElement_204 : decode c_Model_readElement 204 = .ok (.aload_n 0, 1) := by decide +kernel
theorem d_Model_readElement_205 : decode c_Model_readElement 205 = .ok (.invokevirtual 103, 3) := by decide +kernel
theorem d_Model_readElement_208 : decode c_Model_readElement 208 = .ok (.goto 19, 3) := by decide +kernel
theorem d_Model_readElement_211 : decode c_Model_readElement 211 = .ok (.aload_n 0, 1) := by decide +kernel
theorem d_Model_readElement_212 : decode c_Model_readElement 212 = .ok (.aload_n 0, 1) := by decide +kernel
theorem d_Model_readElement_213 : decode c_Model_readElement 213 = .ok (.invokevirtual 92, 3) := by decide +kernel
theorem d_Model_readElement_216 : decode c_Model_readElement 216 = .ok (.invokevirtual 127, 3) := by decide +kernel
theorem d_Model_readElement_219 : decode c_Model_readElement 219 = .ok (.goto 8, 3) := by decide +kernel
theorem d_Model_readElement_222 : decode c_Model_readElement 222 = .ok (.aload_n 0, 1) := by decide +kernel
theorem d_Model_readElement_223 : decode c_Model_readElement 223 = .ok (.iload_n 2, 1) := by decide +kernel
theorem d_Model_readElement_224 : decode c_Model_readElement 224 = .ok (.invokevirtual 127, 3) := by decide +kernel
theorem d_Model_readElement_227 : decode c_Model_readElement 227 = .ok (.goto (-195), 3) := by decide +kernel
theorem d_Model_readElement_230 : decode c_Model_readElement 230 = .ok (.return_, 1) := by decide +kernel
theorem d_Model_readSegment_0 : decode c_Model_readSegment 0 = .ok (.aload_n 0, 1) := by decide +kernel
theorem d_Model_readSegment_1 : decode c_Model_readSegment 1 = .ok (.getfield 106, 3) := by decide +kernel
theorem d_Model_readSegment_4 : decode c_Model_readSegment 4 = .ok (.bipush 60, 2) := by decide +kernel
theorem d_Model_readSegment_6 : decode c_Model_readSegment 6 = .ok (.if_icmp .ne 8, 3) := by decide +kernel
theorem d_Model_readSegment_9 : decode c_Model_readSegment 9 = .ok (.aload_n 0, 1) := by decide +kernel
theorem d_Model_readSegment_10 : decode c_Model_readSegment 10 = .ok (.invokevirtual 103, 3) := by decide +kernel
theorem d_Model_readSegment_13 : decode c_Model_readSegment 13 = .ok (.return_, 1) := by decide +kernel
theorem d_Model_readSegment_14 : decode c_Model_readSegment 14 = .ok (.aload_n 0, 1) := by decide +kernel
theorem d_Model_readSegment_15 : decode c_Model_readSegment 15 = .ok (.invokevirtual 131, 3) := by decide +kernel
theorem d_Model_readSegment_18 : decode c_Model_readSegment 18 = .ok (.aload_n 0, 1) := by decide +kernel
theorem d_Model_readSegment_19 : decode c_Model_readSegment 19 = .ok (.getfield 19, 3) := by decide +kernel
theorem d_Model_readSegment_22 : decode c_Model_readSegment 22 = .ok (.aload_n 0, 1) := by decide +kernel
theorem d_Model_readSegment_23 : decode c_Model_readSegment 23 = .ok (.getfield 106, 3) := by decide +kernel
theorem d_Model_readSegment_26 : decode c_Model_readSegment 26 = .ok (.aload_n 0, 1) := by decide +kernel
theorem d_Model_readSegment_27 : decode c_Model_readSegment 27 = .ok (.getfield 121, 3) := by decide +kernel
theorem d_Model_readSegment_30 : decode c_Model_readSegment 30 = .ok (.iastore, 1) := by decide +kernel
theorem d_Model_readSegment_31 : decode c_Model_readSegment 31 = .ok (.aload_n 0, 1) := by decide +kernel
end
section
theorem d_Model_readSegment_32 : decode c_Model_readSegment 32 = .ok (.getfield 89, 3) := by decide +kernel
theorem d_Model_readSegment_35 : decode c_Model_readSegment 35 = .ok (.ifCond .ge 59, 3) := by decide +kernel
theorem d_Model_readSegment_38 : decode c_Model_readSegment 38 = .ok (.aload_n 0, 1) := by decide +kernel
theorem d_Model_readSegment_39 : decode c_Model_readSegment 39 = .ok (.invokevirtual 92, 3) := by decide +kernel
theorem d_Model_readSegment_42 : decode c_Model_readSegment 42 = .ok (.aload_n 0, 1) := by decide +kernel
theorem d_Model_readSegment_43 : decode c_Model_readSegment 43 = .ok (.getfield 13, 3) := by decide +kernel
theorem d_Model_readSegment_46 : decode c_Model_readSegment 46 = .ok (.iconst 1, 1) := by decide +kernel
theorem d_Model_readSegment_47 : decode c_Model_readSegment 47 = .ok (.iaload, 1) := by decide +kernel
theorem d_Model_readSegment_48 : decode c_Model_readSegment 48 = .ok (.if_icmp .ne 46, 3) := by decide +kernel
theorem d_Model_readSegment_51 : decode c_Model_readSegment 51 = .ok (.aload_n 0, 1) := by decide +kernel
theorem d_Model_readSegment_52 : decode c_Model_readSegment 52 = .ok (.getfield 121, 3) := by decide +kernel
theorem d_Model_readSegment_55 : decode c_Model_readSegment 55 = .ok (.aload_n 0, 1) := by decide +kernel
theorem d_Model_readSegment_56 : decode c_Model_readSegment 56 = .ok (.getfield 19, 3) := by decide +kernel
theorem d_Model_readSegment_59 : decode c_Model_readSegment 59 = .ok (.aload_n 0, 1) := by decide +kernel
theorem d_Model_readSegment_60 : decode c_Model_readSegment 60 = .ok (.getfield 106, 3) := by decide +kernel
theorem d_Model_readSegment_63 : decode c_Model_readSegment 63 = .ok (.iaload, 1) := by decide +kernel
theorem d_Model_readSegment_64 : decode c_Model_readSegment 64 = .ok (.isub, 1) := by decide +kernel
theorem d_Model_readSegment_65 : decode c_Model_readSegment 65 = .ok (.bipush 20, 2) := by decide +kernel
theorem d_Model_readSegment_67 : decode c_Model_readSegment 67 = .ok (.if_icmp .ne 10, 3) := by decide +kernel
theorem d_Model_readSegment_70 : decode c_Model_readSegment 70 = .ok (.aload_n 0, 1) := by decide +kernel
theorem d_Model_readSegment_71 : decode c_Model_readSegment 71 = .ok (.invokevirtual 103, 3) := by decide +kernel
theorem d_Model_readSegment_74 : decode c_Model_readSegment 74 = .ok (.goto (-43), 3) := by decide +kernel
theorem d_Model_readSegment_77 : decode c_Model_readSegment 77 = .ok (.aload_n 0, 1) := by decide +kernel
theorem d_Model_readSegment_78 : decode c_Model_readSegment 78 = .ok (.dup, 1) := by decide +kernel
theorem d_Model_readSegment_79 : decode c_Model_readSegment 79 = .ok (.getfield 86, 3) := by decide +kernel
theorem d_Model_readSegment_82 : decode c_Model_readSegment 82 = .ok (.iconst 1, 1) := by decide +kernel
theorem d_Model_readSegment_83 : decode c_Model_readSegment 83 = .ok (.iadd, 1) := by decide +kernel
theorem d_Model_readSegment_84 : decode c_Model_readSegment 84 = .ok (.putfield 86, 3) := by decide +kernel
theorem d_Model_readSegment_87 : decode c_Model_readSegment 87 = .ok (.aload_n 0, 1) := by decide +kernel
theorem d_Model_readSegment_88 : decode c_Model_readSegment 88 = .ok (.invokevirtual 134, 3) := by decide +kernel
theorem d_Model_readSegment_91 : decode c_Model_readSegment 91 = .ok (.goto (-60), 3) := by decide +kernel
theorem d_Model_readSegment_94 : decode c_Model_readSegment 94 = .ok (.aload_n 0, 1) := by decide +kernel
theorem d_Model_readSegment_95 : decode c_Model_readSegment 95 = .ok (.getfield 89, 3) := by decide +kernel
theorem d_Model_readSegment_98 : decode c_Model_readSegment 98 = .ok (.ifCond .ge 20, 3) := by decide +kernel
theorem d_Model_readSegment_101 : decode c_Model_readSegment 101 = .ok (.aload_n 0, 1) := by decide +kernel
theorem d_Model_readSegment_102 : decode c_Model_readSegment 102 = .ok (.invokevirtual 92, 3) := by decide +kernel
theorem d_Model_readSegment_105 : decode c_Model_readSegment 105 = .ok (.aload_n 0, 1) := by decide +kernel
theorem d_Model_readSegment_106 : decode c_Model_readSegment 106 = .ok (.getfield 13, 3) := by decide +kernel
theorem d_Model_readSegment_109 : decode c_Model_readSegment 109 = .ok (.iconst 4, 1) := by decide +kernel
theorem d_Model_readSegment_110 : decode c_Model_readSegment 110 = .ok (.iaload, 1) := by decide +kernel
theorem d_Model_readSegment_111 : decode c_Model_readSegment 111 = .ok (.if_icmp .eq 7, 3) := by decide +kernel
theorem d_Model_readSegment_114 : decode c_Model_readSegment 114 = .ok (.aload_n 0, 1) := by decide +kernel
theorem d_Model_readSegment_115 : decode c_Model_readSegment 115 = .ok (.invokevirtual 103, 3) := by decide +kernel
theorem d_Model_readSegment_118 : decode c_Model_readSegment 118 = .ok (.aload_n 0, 1) := by decide +kernel
theorem d_Model_readSegment_119 : decode c_Model_readSegment 119 = .ok (.dup, 1) := by decide +kernel
theorem d_Model_readSegment_120 : decode c_Model_readSegment 120 = .ok (.getfield 86, 3) := by decide +kernel
theorem d_Model_readSegment_123 : decode c_Model_readSegment 123 = .ok (.iconst 1, 1) := by decide +kernel
theorem d_Model_readSegment_124 : decode c_Model_readSegment 124 = .ok (.iadd, 1) := by decide +kernel
theorem d_Model_readSegment_125 : decode c_Model_readSegment 125 = .ok (.putfield 86, 3) := by decide +kernel
theorem d_Model_readSegment_128 : decode c_Model_readSegment 128 = .ok (.aload_n 0, 1) := by decide +kernel
theorem d_Model_readSegment_129 : decode c_Model_readSegment 129 = .ok (.dup, 1) := by decide +kernel
theorem d_Model_readSegment_130 : decode c_Model_readSegment 130 = .ok (.getfield 106, 3) := by decide +kernel
theorem d_Model_readSegment_133 : decode c_Model_readSegment 133 = .ok (.iconst 1, 1) := by decide +kernel
theorem d_Model_readSegment_134 : decode c_Model_readSegment 134 = .ok (.iadd, 1) := by decide +kernel
theorem d_Model_readSegment_135 : decode c_Model_readSegment 135 = .ok (.putfield 106, 3) := by decide +kernel
theorem d_Model_readSegment_138 : decode c_Model_readSegment 138 = .ok (.return_, 1) := by decide +kernel
theorem d_Model_read_0 : decode c_Model_read 0 = .ok (.aload_n 0, 1) := by decide +kernel
theorem d_Model_read_1 : decode c_Model_read 1 = .ok (.iconst 0, 1) := by decide +kernel
theorem d_Model_read_2 : decode c_Model_read 2 = .ok (.putfield 80, 3) := by decide +kernel
theorem d_Model_read_5 : decode c_Model_read 5 = .ok (.aload_n 0, 1) := by decide +kernel
theorem d_Model_read_6 : decode c_Model_read 6 = .ok (.invokevirtual 77, 3) := by decide +kernel
theorem d_Model_read_9 : decode c_Model_read 9 = .ok (.aload_n 0, 1) := by decide +kernel
theorem d_Model_read_10 : decode c_Model_read 10 = .ok (.iconst 0, 1) := by decide +kernel
theorem d_Model_read_11 : decode c_Model_read 11 = .ok (.putfield 86, 3) := by decide +kernel
theorem d_Model_read_14 : decode c_Model_read 14 = .ok (.aload_n 0, 1) := by decide +kernel
theorem d_Model_read_15 : decode c_Model_read 15 = .ok (.iconst (-1), 1) := by decide +kernel
theorem d_Model_read_16 : decode c_Model_read 16 = .ok (.putfield 89, 3) := by decide +kernel
theorem d_Model_read_19 : decode c_Model_read 19 = .ok (.aload_n 0, 1) := by decide +kernel
theorem d_Model_read_20 : decode c_Model_read 20 = .ok (.iconst 0, 1) := by decide +kernel
theorem d_Model_read_21 : decode c_Model_read 21 = .ok (.putfield 106, 3) := by decide +kernel
theorem d_Model_read_24 : decode c_Model_read 24 = .ok (.aload_n 0, 1) := by decide +kernel
theorem d_Model_read_25 : decode c_Model_read 25 = .ok (.iconst 0, 1) := by decide +kernel
theorem d_Model_read_26 : decode c_Model_read 26 = .ok (.putfield 121, 3) := by decide +kernel
theorem d_Model_read_29 : decode c_Model_read 29 = .ok (.aload_n 0, 1) := by decide +kernel
theorem d_Model_read_30 : decode c_Model_read 30 = .ok (.iconst 0, 1) := by decide +kernel
theorem d_Model_read_31 : decode c_Model_read 31 = .ok (.putfield 115, 3) := by decide +kernel
theorem d_Model_read_34 : decode c_Model_read 34 = .ok (.aload_n 0, 1) := by decide +kernel
theorem d_Model_read_35 : decode c_Model_read 35 = .ok (.iconst 0, 1) := by decide +kernel
theorem d_Model_read_36 : decode c_Model_read 36 = .ok (.putfield 109, 3) := by decide +kernel
theorem d_Model_read_39 : decode c_Model_read 39 = .ok (.aload_n 0, 1) := by decide +kernel
theorem d_Model_read_40 : decode c_Model_read 40 = .ok (.iconst 0, 1) := by decide +kernel
theorem d_Model_read_41 : decode c_Model_read 41 = .ok (.putfield 112, 3) := by decide +kernel
theorem d_Model_read_44 : decode c_Model_read 44 = .ok (.aload_n 0, 1) := by decide +kernel
theorem d_Model_read_45 : decode c_Model_read 45 = .ok (.iconst (-1), 1) := by decide +kernel
theorem d_Model_read_46 : decode c_Model_read 46 = .ok (.putfield 49, 3) := by decide +kernel
theorem d_Model_read_49 : decode c_Model_read 49 = .ok (.aload_n 0, 1) := by decide +kernel
theorem d_Model_read_50 : decode c_Model_read 50 = .ok (.iconst (-1), 1) := by decide +kernel
theorem d_Model_read_51 : decode c_Model_read 51 = .ok (.putfield 53, 3) := by decide +kernel
theorem d_Model_read_54 : decode c_Model_read 54 = .ok (.aload_n 0, 1) := by decide +kernel
theorem d_Model_read_55 : decode c_Model_read 55 = .ok (.iconst (-1), 1) := by decide +kernel
theorem d_Model_read_56 : decode c_Model_read 56 = .ok (.putfield 56, 3) := by decide +kernel
theorem d_Model_read_59 : decode c_Model_read 59 = .ok (.aload_n 0, 1) := by decide +kernel
theorem d_Model_read_60 : decode c_Model_read 60 = .ok (.invokevirtual 137, 3) := by decide +kernel
theorem d_Model_read_63 : decode c_Model_read 63 = .ok (.ifCond .eq 12, 3) := by decide +kernel
theorem d_Model_read_66 : decode c_Model_read 66 = .ok (.aload_n 0, 1) := by decide +kernel
theorem d_Model_read_67 : decode c_Model_read 67 = .ok (.iconst 3, 1) := by decide +kernel
theorem d_Model_read_68 : decode c_Model_read 68 = .ok (.putfield 86, 3) := by decide +kernel
theorem d_Model_read_71 : decode c_Model_read 71 = .ok (.aload_n 0, 1) := by decide +kernel
theorem d_Model_read_72 : decode c_Model_read 72 = .ok (.invokevirtual 141, 3) := by decide +kernel
theorem d_Model_read_75 : decode c_Model_read 75 = .ok (.iconst 1, 1) := by decide +kernel
theorem d_Model_read_76 : decode c_Model_read 76 = .ok (.istore_n 1, 1) := by decide +kernel
theorem d_Model_read_77 : decode c_Model_read 77 = .ok (.aload_n 0, 1) := by decide +kernel
theorem d_Model_read_78 : decode c_Model_read 78 = .ok (.getfield 89, 3) := by decide +kernel
theorem d_Model_read_81 : decode c_Model_read 81 = .ok (.ifCond .ge 31, 3) := by decide +kernel
theorem d_Model_read_84 : decode c_Model_read 84 = .ok (.iload_n 1, 1) := by decide +kernel
theorem d_Model_read_85 : decode c_Model_read 85 = .ok (.ifCond .eq 27, 3) := by decide +kernel
theorem d_Model_read_88 : decode c_Model_read 88 = .ok (.aload_n 0, 1) := by decide +kernel
theorem d_Model_read_89 : decode c_Model_read 89 = .ok (.invokevirtual 144, 3) := by decide +kernel
theorem d_Model_read_92 : decode c_Model_read 92 = .ok (.aload_n 0, 1) := by decide +kernel
theorem d_Model_read_93 : decode c_Model_read 93 = .ok (.getfield 86, 3) := by decide +kernel
theorem d_Model_read_96 : decode c_Model_read 96 = .ok (.aload_n 0, 1) := by decide +kernel
theorem d_Model_read_97 : decode c_Model_read 97 = .ok (.getfield 83, 3) := by decide +kernel
theorem d_Model_read_100 : decode c_Model_read 100 = .ok (.if_icmp .ge 7, 3) := by decide +kernel
theorem d_Model_read_103 : decode c_Model_read 103 = .ok (.iconst 1, 1) := by decide +kernel
theorem d_Model_read_104 : decode c_Model_read 104 = .ok (.goto 4, 3) := by decide +kernel
theorem d_Model_read_107 : decode c_Model_read 107 = .ok (.iconst 0, 1) := by decide +kernel
theorem d_Model_read_108 : decode c_Model_read 108 = .ok (.istore_n 1, 1) := by decide +kernel
theorem d_Model_read_109 : decode c_Model_read 109 = .ok (.goto (-32), 3) := by decide +kernel
theorem d_Model_read_112 : decode c_Model_read 112 = .ok (.aload_n 0, 1) := by decide +kernel
theorem d_Model_read_113 : decode c_Model_read 113 = .ok (.iconst 0, 1) := by decide +kernel
theorem d_Model_read_114 : decode c_Model_read 114 = .ok (.putfield 83, 3) := by decide +kernel
theorem d_Model_read_117 : decode c_Model_read 117 = .ok (.aload_n 0, 1) := by decide +kernel
theorem d_Model_read_118 : decode c_Model_read 118 = .ok (.aload_n 0, 1) := by decide +kernel
theorem d_Model_read_119 : decode c_Model_read 119 = .ok (.getfield 89, 3) := by decide +kernel
theorem d_Model_read_122 : decode c_Model_read 122 = .ok (.ifCond .ge 7, 3) := by decide +kernel
theorem d_Model_read_125 : decode c_Model_read 125 = .ok (.iconst 1, 1) := by decide +kernel
theorem d_Model_read_126 : decode c_Model_read 126 = .ok (.goto 4, 3) := by decide +kernel
theorem d_Model_read_129 : decode c_Model_read 129 = .ok (.iconst 0, 1) := by decide +kernel
theorem d_Model_read_130 : decode c_Model_read 130 = .ok (.putfield 147, 3) := by decide +kernel
theorem d_Model_read_133 : decode c_Model_read 133 = .ok (.aload_n 0, 1) := by decide +kernel
theorem d_Model_read_134 : decode c_Model_read 134 = .ok (.getfield 147, 3) := by decide +kernel
theorem d_Model_read_137 : decode c_Model_read 137 = .ok (.ifCond .ne 19, 3) := by decide +kernel
theorem d_Model_read_140 : decode c_Model_read 140 = .ok (.aload_n 0, 1) := by decide +kernel
theorem d_Model_read_141 : decode c_Model_read 141 = .ok (.invokevirtual 77, 3) := by decide +kernel
theorem d_Model_read_144 : decode c_Model_read 144 = .ok (.aload_n 0, 1) := by decide +kernel
theorem d_Model_read_145 : decode c_Model_read 145 = .ok (.iconst 0, 1) := by decide +kernel
theorem d_Model_read_146 : decode c_Model_read 146 = .ok (.putfield 106, 3) := by decide +kernel
theorem d_Model_read_149 : decode c_Model_read 149 = .ok (.iconst (-1), 1) := by decide +kernel
theorem d_Model_read_150 : decode c_Model_read 150 = .ok (.aload_n 0, 1) := by decide +kernel
theorem d_Model_read_151 : decode c_Model_read 151 = .ok (.getfield 89, 3) := by decide +kernel
theorem d_Model_read_154 : decode c_Model_read 154 = .ok (.isub, 1) := by decide +kernel
theorem d_Model_read_155 : decode c_Model_read 155 = .ok (.ireturn, 1) := by decide +kernel
theorem d_Model_read_156 : decode c_Model_read 156 = .ok (.aload_n 0, 1) := by decide +kernel
theorem d_Model_read_157 : decode c_Model_read 157 = .ok (.getfield 19, 3) := by decide +kernel
theorem d_Model_read_160 : decode c_Model_read 160 = .ok (.aload_n 0, 1) := by decide +kernel
theorem d_Model_read_161 : decode c_Model_read 161 = .ok (.getfield 106, 3) := by decide +kernel
theorem d_Model_read_164 : decode c_Model_read 164 = .ok (.aload_n 0, 1) := by decide +kernel
theorem d_Model_read_165 : decode c_Model_read 165 = .ok (.getfield 121, 3) := by decide +kernel
theorem d_Model_read_168 : decode c_Model_read 168 = .ok (.iastore, 1) := by decide +kernel
theorem d_Model_read_169 : decode c_Model_read 169 = .ok (.aload_n 0, 1) := by decide +kernel
theorem d_Model_read_170 : decode c_Model_read 170 = .ok (.getfield 22, 3) := by decide +kernel
theorem d_Model_read_173 : decode c_Model_read 173 = .ok (.aload_n 0, 1) := by decide +kernel
theorem d_Model_read_174 : decode c_Model_read 174 = .ok (.getfield 121, 3) := by decide +kernel
theorem d_Model_read_177 : decode c_Model_read 177 = .ok (.aload_n 0, 1) := by decide +kernel
theorem d_Model_read_178 : decode c_Model_read 178 = .ok (.getfield 115, 3) := by decide +kernel
theorem d_Model_read_181 : decode c_Model_read 181 = .ok (.iastore, 1) := by decide +kernel
theorem d_Model_read_182 : decode c_Model_read 182 = .ok (.aload_n 0, 1) := by decide +kernel
theorem d_Model_read_183 : decode c_Model_read 183 = .ok (.getfield 25, 3) := by decide +kernel
theorem d_Model_read_186 : decode c_Model_read 186 = .ok (.aload_n 0, 1) := by decide +kernel
theorem d_Model_read_187 : decode c_Model_read 187 = .ok (.getfield 115, 3) := by decide +kernel
theorem d_Model_read_190 : decode c_Model_read 190 = .ok (.aload_n 0, 1) := by decide +kernel
theorem d_Model_read_191 : decode c_Model_read 191 = .ok (.getfield 109, 3) := by decide +kernel
theorem d_Model_read_194 : decode c_Model_read 194 = .ok (.iastore, 1) := by decide +kernel
theorem d_Model_read_195 : decode c_Model_read 195 = .ok (.aload_n 0, 1) := by decide +kernel
theorem d_Model_read_196 : decode c_Model_read 196 = .ok (.getfield 28, 3) := by decide +kernel
theorem d_Model_read_199 : decode c_Model_read 199 = .ok (.aload_n 0, 1) := by decide +kernel
theorem d_Model_read_200 : decode c_Model_read 200 = .ok (.getfield 109, 3) := by decide +kernel
theorem d_Model_read_203 : decode c_Model_read 203 = .ok (.aload_n 0, 1) := by decide +kernel
theorem d_Model_read_204 : decode c_Model_read 204 = .ok (.getfield 112, 3) := by decide +kernel
theorem d_Model_read_207 : decode c_Model_read 207 = .ok (.iastore, 1) := by decide +kernel
theorem d_Model_read_208 : decode c_Model_read 208 = .ok (.iconst 0, 1) := by decide +kernel
theorem d_Model_read_209 : decode c_Model_read 209 = .ok (.istore_n 2, 1) := by decide +kernel
theorem d_Model_read_210 : decode c_Model_read 210 = .ok (.iload_n 2, 1) := by decide +kernel
theorem d_Model_read_211 : decode c_Model_read 211 = .ok (.aload_n 0, 1) := by decide +kernel
theorem d_Model_read_212 : decode c_Model_read 212 = .ok (.getfield 106, 3) := by decide +kernel
theorem d_Model_read_215 : decode c_Model_read 215 = .ok (.if_icmp .ge 14, 3) := by decide +kernel
theorem d_Model_read_218 : decode c_Model_read 218 = .ok (.aload_n 0, 1) := by decide +kernel
theorem d_Model_read_219 : decode c_Model_read 219 = .ok (.iload_n 2, 1) := by decide +kernel
theorem d_Model_read_220 : decode c_Model_read 220 = .ok (.invokevirtual 151, 3) := by decide +kernel
theorem d_Model_read_223 : decode c_Model_read 223 = .ok (.iinc 2 1, 3) := by decide +kernel
theorem d_Model_read_226 : decode c_Model_read 226 = .ok (.goto (-16), 3) := by decide +kernel
theorem d_Model_read_229 : decode c_Model_read 229 = .ok (.aload_n 0, 1) := by decide +kernel
theorem d_Model_read_230 : decode c_Model_read 230 = .ok (.getfield 106, 3) := by decide +kernel
theorem d_Model_read_233 : decode c_Model_read 233 = .ok (.ireturn, 1) := by decide +kernel
theorem d_Model_forget_0 : decode c_Model_forget 0 = .ok (.aload_n 0, 1) := by decide +kernel
theorem d_Model_forget_1 : decode c_Model_forget 1 = .ok (.getfield 59, 3) := by decide +kernel
theorem d_Model_forget_4 : decode c_Model_forget 4 = .ok (.iload_n 1, 1) := by decide +kernel
theorem d_Model_forget_5 : decode c_Model_forget 5 = .ok (.iconst (-1), 1) := by decide +kernel
theorem d_Model_forget_6 : decode c_Model_forget 6 = .ok (.iastore, 1) := by decide +kernel
theorem d_Model_forget_7 : decode c_Model_forget 7 = .ok (.aload_n 0, 1) := by decide +kernel
theorem d_Model_forget_8 : decode c_Model_forget 8 = .ok (.getfield 62, 3) := by decide +kernel
theorem d_Model_forget_11 : decode c_Model_forget 11 = .ok (.iload_n 1, 1) := by decide +kernel
theorem d_Model_forget_12 : decode c_Model_forget 12 = .ok (.iconst (-1), 1) := by decide +kernel
theorem d_Model_forget_13 : decode c_Model_forget 13 = .ok (.iastore, 1) := by decide +kernel
theorem d_Model_forget_14 : decode c_Model_forget 14 = .ok (.return_, 1) := by decide +kernel
theorem d_Model_isSegment_0 : decode c_Model_isSegment 0 = .ok (.iload_n 1, 1) := by decide +kernel
theorem d_Model_isSegment_1 : decode c_Model_isSegment 1 = .ok (.ifCond .lt 15, 3) := by decide +kernel
theorem d_Model_isSegment_4 : decode c_Model_isSegment 4 = .ok (.iload_n 1, 1) := by decide +kernel
theorem d_Model_isSegment_5 : decode c_Model_isSegment 5 = .ok (.aload_n 0, 1) := by decide +kernel
theorem d_Model_isSegment_6 : decode c_Model_isSegment 6 = .ok (.getfield 106, 3) := by decide +kernel
theorem d_Model_isSegment_9 : decode c_Model_isSegment 9 = .ok (.if_icmp .ge 7, 3) := by decide +kernel
theorem d_Model_isSegment_12 : decode c_Model_isSegment 12 = .ok (.iconst 1, 1) := by decide +kernel
theorem d_Model_isSegment_13 : decode c_Model_isSegment 13 = .ok (.goto 4, 3) := by decide +kernel
theorem d_Model_isSegment_16 : decode c_Model_isSegment 16 = .ok (.iconst 0, 1) := by decide +kernel
theorem d_Model_isSegment_17 : decode c_Model_isSegment 17 = .ok (.ireturn, 1) := by decide +kernel
theorem d_Model_elementsOf_0 : decode c_Model_elementsOf 0 = .ok (.aload_n 0, 1) := by decide +kernel
theorem d_Model_elementsOf_1 : decode c_Model_elementsOf 1 = .ok (.getfield 19, 3) := by decide +kernel
theorem d_Model_elementsOf_4 : decode c_Model_elementsOf 4 = .ok (.iload_n 1, 1) := by decide +kernel
theorem d_Model_elementsOf_5 : decode c_Model_elementsOf 5 = .ok (.iconst 1, 1) := by decide +kernel
theorem d_Model_elementsOf_6 : decode c_Model_elementsOf 6 = .ok (.iadd, 1) := by decide +kernel
theorem d_Model_elementsOf_7 : decode c_Model_elementsOf 7 = .ok (.iaload, 1) := by decide +kernel
theorem d_Model_elementsOf_8 : decode c_Model_elementsOf 8 = .ok (.aload_n 0, 1) := by decide +kernel
theorem d_Model_elementsOf_9 : decode c_Model_elementsOf 9 = .ok (.getfield 19, 3) := by decide +kernel
theorem d_Model_elementsOf_12 : decode c_Model_elementsOf 12 = .ok (.iload_n 1, 1) := by decide +kernel
theorem d_Model_elementsOf_13 : decode c_Model_elementsOf 13 = .ok (.iaload, 1) := by decide +kernel
theorem d_Model_elementsOf_14 : decode c_Model_elementsOf 14 = .ok (.isub, 1) := by decide +kernel
theorem d_Model_elementsOf_15 : decode c_Model_elementsOf 15 = .ok (.ireturn, 1) := by decide +kernel
theorem d_Model_repeatsOf_0 : decode c_Model_repeatsOf 0 = .ok (.iload_n 2, 1) := by decide +kernel
theorem d_Model_repeatsOf_1 : decode c_Model_repeatsOf 1 = .ok (.ifCond .lt 12, 3) := by decide +kernel
theorem d_Model_repeatsOf_4 : decode c_Model_repeatsOf 4 = .ok (.iload_n 2, 1) := by decide +kernel
theorem d_Model_repeatsOf_5 : decode c_Model_repeatsOf 5 = .ok (.aload_n 0, 1) := by decide +kernel
theorem d_Model_repeatsOf_6 : decode c_Model_repeatsOf 6 = .ok (.iload_n 1, 1) := by decide +kernel
theorem d_Model_repeatsOf_7 : decode c_Model_repeatsOf 7 = .ok (.invokevirtual 154, 3) := by decide +kernel
theorem d_Model_repeatsOf_10 : decode c_Model_repeatsOf 10 = .ok (.if_icmp .lt 5, 3) := by decide +kernel
theorem d_Model_repeatsOf_13 : decode c_Model_repeatsOf 13 = .ok (.iconst 0, 1) := by decide +kernel
theorem d_Model_repeatsOf_14 : decode c_Model_repeatsOf 14 = .ok (.ireturn, 1) := by decide +kernel
theorem d_Model_repeatsOf_15 : decode c_Model_repeatsOf 15 = .ok (.aload_n 0, 1) := by decide +kernel
theorem d_Model_repeatsOf_16 : decode c_Model_repeatsOf 16 = .ok (.getfield 19, 3) := by decide +kernel
theorem d_Model_repeatsOf_19 : decode c_Model_repeatsOf 19 = .ok (.iload_n 1, 1) := by decide +kernel
theorem d_Model_repeatsOf_20 : decode c_Model_repeatsOf 20 = .ok (.iaload, 1) := by decide +kernel
theorem d_Model_repeatsOf_21 : decode c_Model_repeatsOf 21 = .ok (.iload_n 2, 1) := by decide +kernel
theorem d_Model_repeatsOf_22 : decode c_Model_repeatsOf 22 = .ok (.iadd, 1) := by decide +kernel
theorem d_Model_repeatsOf_23 : decode c_Model_repeatsOf 23 = .ok (.istore_n 3, 1) := by decide +kernel
theorem d_Model_repeatsOf_24 : decode c_Model_repeatsOf 24 = .ok (.aload_n 0, 1) := by decide +kernel
theorem d_Model_repeatsOf_25 : decode c_Model_repeatsOf 25 = .ok (.getfield 22, 3) := by decide +kernel
theorem d_Model_repeatsOf_28 : decode c_Model_repeatsOf 28 = .ok (.iload_n 3, 1) := by decide +kernel
theorem d_Model_repeatsOf_29 : decode c_Model_repeatsOf 29 = .ok (.iconst 1, 1) := by decide +kernel
theorem d_Model_repeatsOf_30 : decode c_Model_repeatsOf 30 = .ok (.iadd, 1) := by decide +kernel
theorem d_Model_repeatsOf_31 : decode c_Model_repeatsOf 31 = .ok (.iaload, 1) := by decide +kernel
theorem d_Model_repeatsOf_32 : decode c_Model_repeatsOf 32 = .ok (.aload_n 0, 1) := by decide +kernel
theorem d_Model_repeatsOf_33 : decode c_Model_repeatsOf 33 = .ok (.getfield 22, 3) := by decide +kernel
theorem d_Model_repeatsOf_36 : decode c_Model_repeatsOf 36 = .ok (.iload_n 3, 1) := by decide +kernel
theorem d_Model_repeatsOf_37 : decode c_Model_repeatsOf 37 = .ok (.iaload, 1) := by decide +kernel
theorem d_Model_repeatsOf_38 : decode c_Model_repeatsOf 38 = .ok (.isub, 1) := by decide +kernel
theorem d_Model_repeatsOf_39 : decode c_Model_repeatsOf 39 = .ok (.ireturn, 1) := by decide +kernel
theorem d_Model_componentsOf_0 : decode c_Model_componentsOf 0 = .ok (.iload_n 3, 1) := by decide +kernel
theorem d_Model_componentsOf_1 : decode c_Model_componentsOf 1 = .ok (.ifCond .lt 13, 3) := by decide +kernel
theorem d_Model_componentsOf_4 : decode c_Model_componentsOf 4 = .ok (.iload_n 3, 1) := by decide +kernel
theorem d_Model_componentsOf_5 : decode c_Model_componentsOf 5 = .ok (.aload_n 0, 1) := by decide +kernel
theorem d_Model_componentsOf_6 : decode c_Model_componentsOf 6 = .ok (.iload_n 1, 1) := by decide +kernel
theorem d_Model_componentsOf_7 : decode c_Model_componentsOf 7 = .ok (.iload_n 2, 1) := by decide +kernel
theorem d_Model_componentsOf_8 : decode c_Model_componentsOf 8 = .ok (.invokevirtual 158, 3) := by decide +kernel
theorem d_Model_componentsOf_11 : decode c_Model_componentsOf 11 = .ok (.if_icmp .lt 5, 3) := by decide +kernel
theorem d_Model_componentsOf_14 : decode c_Model_componentsOf 14 = .ok (.iconst 0, 1) := by decide +kernel
theorem d_Model_componentsOf_15 : decode c_Model_componentsOf 15 = .ok (.ireturn, 1) := by decide +kernel
theorem d_Model_componentsOf_16 : decode c_Model_componentsOf 16 = .ok (.aload_n 0, 1) := by decide +kernel
theorem d_Model_componentsOf_17 : decode c_Model_componentsOf 17 = .ok (.getfield 22, 3) := by decide +kernel
theorem d_Model_componentsOf_20 : decode c_Model_componentsOf 20 = .ok (.aload_n 0, 1) := by decide +kernel
theorem d_Model_componentsOf_21 : decode c_Model_componentsOf 21 = .ok (.getfield 19, 3) := by decide +kernel
theorem d_Model_componentsOf_24 : decode c_Model_componentsOf 24 = .ok (.iload_n 1, 1) := by decide +kernel
theorem d_Model_componentsOf_25 : decode c_Model_componentsOf 25 = .ok (.iaload, 1) := by decide +kernel
theorem d_Model_componentsOf_26 : decode c_Model_componentsOf 26 = .ok (.iload_n 2, 1) := by decide +kernel
theorem d_Model_componentsOf_27 : decode c_Model_componentsOf 27 = .ok (.iadd, 1) := by decide +kernel
theorem d_Model_componentsOf_28 : decode c_Model_componentsOf 28 = .ok (.iaload, 1) := by decide +kernel
theorem d_Model_componentsOf_29 : decode c_Model_componentsOf 29 = .ok (.iload_n 3, 1) := by decide +kernel
theorem d_Model_componentsOf_30 : decode c_Model_componentsOf 30 = .ok (.iadd, 1) := by decide +kernel
theorem d_Model_componentsOf_31 : decode c_Model_componentsOf 31 = .ok (.istore 4, 2) := by decide +kernel
theorem d_Model_componentsOf_33 : decode c_Model_componentsOf 33 = .ok (.aload_n 0, 1) := by decide +kernel
theorem d_Model_componentsOf_34 : decode c_Model_componentsOf 34 = .ok (.getfield 25, 3) := by decide +kernel
theorem d_Model_componentsOf_37 : decode c_Model_componentsOf 37 = .ok (.iload 4, 2) := by decide +kernel
theorem d_Model_componentsOf_39 : decode c_Model_componentsOf 39 = .ok (.iconst 1, 1) := by decide +kernel
theorem d_Model_componentsOf_40 : decode c_Model_componentsOf 40 = .ok (.iadd, 1) := by decide +kernel
theorem d_Model_componentsOf_41 : decode c_Model_componentsOf 41 = .ok (.iaload, 1) := by decide +kernel
theorem d_Model_componentsOf_42 : decode c_Model_componentsOf 42 = .ok (.aload_n 0, 1) := by decide +kernel
theorem d_Model_componentsOf_43 : decode c_Model_componentsOf 43 = .ok (.getfield 25, 3) := by decide +kernel
theorem d_Model_componentsOf_46 : decode c_Model_componentsOf 46 = .ok (.iload 4, 2) := by decide +kernel
theorem d_Model_componentsOf_48 : decode c_Model_componentsOf 48 = .ok (.iaload, 1) := by decide +kernel
theorem d_Model_componentsOf_49 : decode c_Model_componentsOf 49 = .ok (.isub, 1) := by decide +kernel
theorem d_Model_componentsOf_50 : decode c_Model_componentsOf 50 = .ok (.ireturn, 1) := by decide +kernel
theorem d_Model_componentAt_0 : decode c_Model_componentAt 0 = .ok (.iload 4, 2) := by decide +kernel
theorem d_Model_componentAt_2 : decode c_Model_componentAt 2 = .ok (.ifCond .lt 15, 3) := by decide +kernel
theorem d_Model_componentAt_5 : decode c_Model_componentAt 5 = .ok (.iload 4, 2) := by decide +kernel
theorem d_Model_componentAt_7 : decode c_Model_componentAt 7 = .ok (.aload_n 0, 1) := by decide +kernel
theorem d_Model_componentAt_8 : decode c_Model_componentAt 8 = .ok (.iload_n 1, 1) := by decide +kernel
theorem d_Model_componentAt_9 : decode c_Model_componentAt 9 = .ok (.iload_n 2, 1) := by decide +kernel
theorem d_Model_componentAt_10 : decode c_Model_componentAt 10 = .ok (.iload_n 3, 1) := by decide +kernel
theorem d_Model_componentAt_11 : decode c_Model_componentAt 11 = .ok (.invokevirtual 162, 3) := by decide +kernel
theorem d_Model_componentAt_14 : decode c_Model_componentAt 14 = .ok (.if_icmp .lt 5, 3) := by decide +kernel
theorem d_Model_componentAt_17 : decode c_Model_componentAt 17 = .ok (.iconst (-1), 1) := by decide +kernel
theorem d_Model_componentAt_18 : decode c_Model_componentAt 18 = .ok (.ireturn, 1) := by decide +kernel
theorem d_Model_componentAt_19 : decode c_Model_componentAt 19 = .ok (.aload_n 0, 1) := by decide +kernel
theorem d_Model_componentAt_20 : decode c_Model_componentAt 20 = .ok (.getfield 25, 3) := by decide +kernel
theorem d_Model_componentAt_23 : decode c_Model_componentAt 23 = .ok (.aload_n 0, 1) := by decide +kernel
theorem d_Model_componentAt_24 : decode c_Model_componentAt 24 = .ok (.getfield 22, 3) := by decide +kernel
theorem d_Model_componentAt_27 : decode c_Model_componentAt 27 = .ok (.aload_n 0, 1) := by decide +kernel
theorem d_Model_componentAt_28 : decode c_Model_componentAt 28 = .ok (.getfield 19, 3) := by decide +kernel
theorem d_Model_componentAt_31 : decode c_Model_componentAt 31 = .ok (.iload_n 1, 1) := by decide +kernel
theorem d_Model_componentAt_32 : decode c_Model_componentAt 32 = .ok (.iaload, 1) := by decide +kernel
theorem d_Model_componentAt_33 : decode c_Model_componentAt 33 = .ok (.iload_n 2, 1) := by decide +kernel
theorem d_Model_componentAt_34 : decode c_Model_componentAt 34 = .ok (.iadd, 1) := by decide +kernel
theorem d_Model_componentAt_35 : decode c_Model_componentAt 35 = .ok (.iaload, 1) := by decide +kernel
theorem d_Model_componentAt_36 : decode c_Model_componentAt 36 = .ok (.iload_n 3, 1) := by decide +kernel
theorem d_Model_componentAt_37 : decode c_Model_componentAt 37 = .ok (.iadd, 1) := by decide +kernel
theorem d_Model_componentAt_38 : decode c_Model_componentAt 38 = .ok (.iaload, 1) := by decide +kernel
theorem d_Model_componentAt_39 : decode c_Model_componentAt 39 = .ok (.iload 4, 2) := by decide +kernel
theorem d_Model_componentAt_41 : decode c_Model_componentAt 41 = .ok (.iadd, 1) := by decide +kernel
theorem d_Model_componentAt_42 : decode c_Model_componentAt 42 = .ok (.ireturn, 1) := by decide +kernel
theorem d_Model_longOf_0 : decode c_Model_longOf 0 = .ok (.aload_n 0, 1) := by decide +kernel
theorem d_Model_longOf_1 : decode c_Model_longOf 1 = .ok (.getfield 28, 3) := by decide +kernel
theorem d_Model_longOf_4 : decode c_Model_longOf 4 = .ok (.iload_n 1, 1) := by decide +kernel
theorem d_Model_longOf_5 : decode c_Model_longOf 5 = .ok (.iconst 1, 1) := by decide +kernel
theorem d_Model_longOf_6 : decode c_Model_longOf 6 = .ok (.iadd, 1) := by decide +kernel
theorem d_Model_longOf_7 : decode c_Model_longOf 7 = .ok (.iaload, 1) := by decide +kernel
theorem d_Model_longOf_8 : decode c_Model_longOf 8 = .ok (.aload_n 0, 1) := by decide +kernel
theorem d_Model_longOf_9 : decode c_Model_longOf 9 = .ok (.getfield 28, 3) := by decide +kernel
theorem d_Model_longOf_12 : decode c_Model_longOf 12 = .ok (.iload_n 1, 1) := by decide +kernel
theorem d_Model_longOf_13 : decode c_Model_longOf 13 = .ok (.iaload, 1) := by decide +kernel
theorem d_Model_longOf_14 : decode c_Model_longOf 14 = .ok (.isub, 1) := by decide +kernel
theorem d_Model_longOf_15 : decode c_Model_longOf 15 = .ok (.ireturn, 1) := by decide +kernel
theorem d_Model_segment_0 : decode c_Model_segment 0 = .ok (.aload_n 0, 1) := by decide +kernel
theorem d_Model_segment_1 : decode c_Model_segment 1 = .ok (.aload_n 0, 1) := by decide +kernel
theorem d_Model_segment_2 : decode c_Model_segment 2 = .ok (.iload_n 1, 1) := by decide +kernel
theorem d_Model_segment_3 : decode c_Model_segment 3 = .ok (.invokevirtual 166, 3) := by decide +kernel
theorem d_Model_segment_6 : decode c_Model_segment 6 = .ok (.ifCond .eq 16, 3) := by decide +kernel
theorem d_Model_segment_9 : decode c_Model_segment 9 = .ok (.iload_n 2, 1) := by decide +kernel
theorem d_Model_segment_10 : decode c_Model_segment 10 = .ok (.ifCond .lt 12, 3) := by decide +kernel
theorem d_Model_segment_13 : decode c_Model_segment 13 = .ok (.iload_n 2, 1) := by decide +kernel
theorem d_Model_segment_14 : decode c_Model_segment 14 = .ok (.iconst 3, 1) := by decide +kernel
theorem d_Model_segment_15 : decode c_Model_segment 15 = .ok (.if_icmp .gt 7, 3) := by decide +kernel
theorem d_Model_segment_18 : decode c_Model_segment 18 = .ok (.iconst 0, 1) := by decide +kernel
theorem d_Model_segment_19 : decode c_Model_segment 19 = .ok (.goto 4, 3) := by decide +kernel
theorem d_Model_segment_22 : decode c_Model_segment 22 = .ok (.iconst 1, 1) := by decide +kernel
theorem d_Model_segment_23 : decode c_Model_segment 23 = .ok (.putfield 80, 3) := by decide +kernel
theorem d_Model_segment_26 : decode c_Model_segment 26 = .ok (.aload_n 0, 1) := by decide +kernel
theorem d_Model_segment_27 : decode c_Model_segment 27 = .ok (.getfield 80, 3) := by decide +kernel
theorem d_Model_segment_30 : decode c_Model_segment 30 = .ok (.ifCond .eq 5, 3) := by decide +kernel
theorem d_Model_segment_33 : decode c_Model_segment 33 = .ok (.iconst 0, 1) := by decide +kernel
theorem d_Model_segment_34 : decode c_Model_segment 34 = .ok (.ireturn, 1) := by decide +kernel
theorem d_Model_segment_35 : decode c_Model_segment 35 = .ok (.iload_n 2, 1) := by decide +kernel
theorem d_Model_segment_36 : decode c_Model_segment 36 = .ok (.ifCond .ne 12, 3) := by decide +kernel
theorem d_Model_segment_39 : decode c_Model_segment 39 = .ok (.aload_n 0, 1) := by decide +kernel
theorem d_Model_segment_40 : decode c_Model_segment 40 = .ok (.getfield 16, 3) := by decide +kernel
theorem d_Model_segment_43 : decode c_Model_segment 43 = .ok (.iload_n 1, 1) := by decide +kernel
theorem d_Model_segment_44 : decode c_Model_segment 44 = .ok (.iaload, 1) := by decide +kernel
theorem d_Model_segment_45 : decode c_Model_segment 45 = .ok (.goto 36, 3) := by decide +kernel
theorem d_Model_segment_48 : decode c_Model_segment 48 = .ok (.iload_n 2, 1) := by decide +kernel
theorem d_Model_segment_49 : decode c_Model_segment 49 = .ok (.iconst 1, 1) := by decide +kernel
theorem d_Model_segment_50 : decode c_Model_segment 50 = .ok (.if_icmp .ne 11, 3) := by decide +kernel
theorem d_Model_segment_53 : decode c_Model_segment 53 = .ok (.aload_n 0, 1) := by decide +kernel
theorem d_Model_segment_54 : decode c_Model_segment 54 = .ok (.iload_n 1, 1) := by decide +kernel
theorem d_Model_segment_55 : decode c_Model_segment 55 = .ok (.invokevirtual 154, 3) := by decide +kernel
theorem d_Model_segment_58 : decode c_Model_segment 58 = .ok (.goto 23, 3) := by decide +kernel
theorem d_Model_segment_61 : decode c_Model_segment 61 = .ok (.iload_n 2, 1) := by decide +kernel
theorem d_Model_segment_62 : decode c_Model_segment 62 = .ok (.iconst 2, 1) := by decide +kernel
theorem d_Model_segment_63 : decode c_Model_segment 63 = .ok (.if_icmp .ne 12, 3) := by decide +kernel
theorem d_Model_segment_66 : decode c_Model_segment 66 = .ok (.aload_n 0, 1) := by decide +kernel
theorem d_Model_segment_67 : decode c_Model_segment 67 = .ok (.getfield 59, 3) := by decide +kernel
theorem d_Model_segment_70 : decode c_Model_segment 70 = .ok (.iload_n 1, 1) := by decide +kernel
theorem d_Model_segment_71 : decode c_Model_segment 71 = .ok (.iaload, 1) := by decide +kernel
theorem d_Model_segment_72 : decode c_Model_segment 72 = .ok (.goto 9, 3) := by decide +kernel
theorem d_Model_segment_75 : decode c_Model_segment 75 = .ok (.aload_n 0, 1) := by decide +kernel
theorem d_Model_segment_76 : decode c_Model_segment 76 = .ok (.getfield 62, 3) := by decide +kernel
theorem d_Model_segment_79 : decode c_Model_segment 79 = .ok (.iload_n 1, 1) := by decide +kernel
theorem d_Model_segment_80 : decode c_Model_segment 80 = .ok (.iaload, 1) := by decide +kernel
theorem d_Model_segment_81 : decode c_Model_segment 81 = .ok (.ireturn, 1) := by decide +kernel
theorem d_Model_repeats_0 : decode c_Model_repeats 0 = .ok (.aload_n 0, 1) := by decide +kernel
theorem d_Model_repeats_1 : decode c_Model_repeats 1 = .ok (.aload_n 0, 1) := by decide +kernel
theorem d_Model_repeats_2 : decode c_Model_repeats 2 = .ok (.iload_n 1, 1) := by decide +kernel
theorem d_Model_repeats_3 : decode c_Model_repeats 3 = .ok (.invokevirtual 166, 3) := by decide +kernel
theorem d_Model_repeats_6 : decode c_Model_repeats 6 = .ok (.ifCond .eq 7, 3) := by decide +kernel
theorem d_Model_repeats_9 : decode c_Model_repeats 9 = .ok (.iconst 0, 1) := by decide +kernel
theorem d_Model_repeats_10 : decode c_Model_repeats 10 = .ok (.goto 4, 3) := by decide +kernel
theorem d_Model_repeats_13 : decode c_Model_repeats 13 = .ok (.iconst 1, 1) := by decide +kernel
theorem d_Model_repeats_14 : decode c_Model_repeats 14 = .ok (.putfield 80, 3) := by decide +kernel
theorem d_Model_repeats_17 : decode c_Model_repeats 17 = .ok (.aload_n 0, 1) := by decide +kernel
theorem d_Model_repeats_18 : decode c_Model_repeats 18 = .ok (.getfield 80, 3) := by decide +kernel
theorem d_Model_repeats_21 : decode c_Model_repeats 21 = .ok (.ifCond .eq 7, 3) := by decide +kernel
theorem d_Model_repeats_24 : decode c_Model_repeats 24 = .ok (.iconst 0, 1) := by decide +kernel
theorem d_Model_repeats_25 : decode c_Model_repeats 25 = .ok (.goto 9, 3) := by decide +kernel
theorem d_Model_repeats_28 : decode c_Model_repeats 28 = .ok (.aload_n 0, 1) := by decide +kernel
theorem d_Model_repeats_29 : decode c_Model_repeats 29 = .ok (.iload_n 1, 1) := by decide +kernel
theorem d_Model_repeats_30 : decode c_Model_repeats 30 = .ok (.iload_n 2, 1) := by decide +kernel
theorem d_Model_repeats_31 : decode c_Model_repeats 31 = .ok (.invokevirtual 158, 3) := by decide +kernel
theorem d_Model_repeats_34 : decode c_Model_repeats 34 = .ok (.ireturn, 1) := by decide +kernel
theorem d_Model_components_0 : decode c_Model_components 0 = .ok (.aload_n 0, 1) := by decide +kernel
theorem d_Model_components_1 : decode c_Model_components 1 = .ok (.aload_n 0, 1) := by decide +kernel
theorem d_Model_components_2 : decode c_Model_components 2 = .ok (.iload_n 1, 1) := by decide +kernel
theorem d_Model_components_3 : decode c_Model_components 3 = .ok (.invokevirtual 166, 3) := by decide +kernel
theorem d_Model_components_6 : decode c_Model_components 6 = .ok (.ifCond .eq 7, 3) := by decide +kernel
theorem d_Model_components_9 : decode c_Model_components 9 = .ok (.iconst 0, 1) := by decide +kernel
theorem d_Model_components_10 : decode c_Model_components 10 = .ok (.goto 4, 3) := by decide +kernel
theorem d_Model_components_13 : decode c_Model_components 13 = .ok (.iconst 1, 1) := by decide +kernel
theorem d_Model_components_14 : decode c_Model_components 14 = .ok (.putfield 80, 3) := by decide +kernel
theorem d_Model_components_17 : decode c_Model_components 17 = .ok (.aload_n 0, 1) := by decide +kernel
theorem d_Model_components_18 : decode c_Model_components 18 = .ok (.getfield 80, 3) := by decide +kernel
theorem d_Model_components_21 : decode c_Model_components 21 = .ok (.ifCond .eq 7, 3) := by decide +kernel
theorem d_Model_components_24 : decode c_Model_components 24 = .ok (.iconst 0, 1) := by decide +kernel
theorem d_Model_components_25 : decode c_Model_components 25 = .ok (.goto 10, 3) := by decide +kernel
theorem d_Model_components_28 : decode c_Model_components 28 = .ok (.aload_n 0, 1) := by decide +kernel
theorem d_Model_components_29 : decode c_Model_components 29 = .ok (.iload_n 1, 1) := by decide +kernel
theorem d_Model_components_30 : decode c_Model_components 30 = .ok (.iload_n 2, 1) := by decide +kernel
theorem d_Model_components_31 : decode c_Model_components 31 = .ok (.iload_n 3, 1) := by decide +kernel
theorem d_Model_components_32 : decode c_Model_components 32 = .ok (.invokevirtual 162, 3) := by decide +kernel
theorem d_Model_components_35 : decode c_Model_components 35 = .ok (.ireturn, 1) := by decide +kernel
theorem d_Model_field_0 : decode c_Model_field 0 = .ok (.aload_n 0, 1) := by decide +kernel
theorem d_Model_field_1 : decode c_Model_field 1 = .ok (.aload_n 0, 1) := by decide +kernel
theorem d_Model_field_2 : decode c_Model_field 2 = .ok (.iload_n 1, 1) := by decide +kernel
theorem d_Model_field_3 : decode c_Model_field 3 = .ok (.invokevirtual 166, 3) := by decide +kernel
theorem d_Model_field_6 : decode c_Model_field 6 = .ok (.ifCond .eq 7, 3) := by decide +kernel
theorem d_Model_field_9 : decode c_Model_field 9 = .ok (.iconst 0, 1) := by decide +kernel
theorem d_Model_field_10 : decode c_Model_field 10 = .ok (.goto 4, 3) := by decide +kernel
theorem d_Model_field_13 : decode c_Model_field 13 = .ok (.iconst 1, 1) := by decide +kernel
theorem d_Model_field_14 : decode c_Model_field 14 = .ok (.putfield 80, 3) := by decide +kernel
theorem d_Model_field_17 : decode c_Model_field 17 = .ok (.aload_n 0, 1) := by decide +kernel
theorem d_Model_field_18 : decode c_Model_field 18 = .ok (.getfield 80, 3) := by decide +kernel
theorem d_Model_field_21 : decode c_Model_field 21 = .ok (.ifCond .eq 5, 3) := by decide +kernel
theorem d_Model_field_24 : decode c_Model_field 24 = .ok (.iconst 0, 1) := by decide +kernel
theorem d_Model_field_25 : decode c_Model_field 25 = .ok (.ireturn, 1) := by decide +kernel
theorem d_Model_field_26 : decode c_Model_field 26 = .ok (.aload_n 0, 1) := by decide +kernel
theorem d_Model_field_27 : decode c_Model_field 27 = .ok (.iload_n 1, 1) := by decide +kernel
theorem d_Model_field_28 : decode c_Model_field 28 = .ok (.iload_n 2, 1) := by decide +kernel
theorem d_Model_field_29 : decode c_Model_field 29 = .ok (.iload_n 3, 1) := by decide +kernel
theorem d_Model_field_30 : decode c_Model_field 30 = .ok (.iload 4, 2) := by decide +kernel
theorem d_Model_field_32 : decode c_Model_field 32 = .ok (.invokevirtual 169, 3) := by decide +kernel
theorem d_Model_field_35 : decode c_Model_field 35 = .ok (.istore 5, 2) := by decide +kernel
theorem d_Model_field_37 : decode c_Model_field 37 = .ok (.iload 5, 2) := by decide +kernel
theorem d_Model_field_39 : decode c_Model_field 39 = .ok (.iconst (-1), 1) := by decide +kernel
theorem d_Model_field_40 : decode c_Model_field 40 = .ok (.if_icmp .ne 7, 3) := by decide +kernel
theorem d_Model_field_43 : decode c_Model_field 43 = .ok (.iconst (-1), 1) := by decide +kernel
theorem d_Model_field_44 : decode c_Model_field 44 = .ok (.goto 9, 3) := by decide +kernel
theorem d_Model_field_47 : decode c_Model_field 47 = .ok (.aload_n 0, 1) := by decide +kernel
theorem d_Model_field_48 : decode c_Model_field 48 = .ok (.iload 5, 2) := by decide +kernel
theorem d_Model_field_50 : decode c_Model_field 50 = .ok (.invokevirtual 173, 3) := by decide +kernel
theorem d_Model_field_53 : decode c_Model_field 53 = .ok (.ireturn, 1) := by decide +kernel
theorem d_Model_letter_0 : decode c_Model_letter 0 = .ok (.aload_n 0, 1) := by decide +kernel
theorem d_Model_letter_1 : decode c_Model_letter 1 = .ok (.aload_n 0, 1) := by decide +kernel
theorem d_Model_letter_2 : decode c_Model_letter 2 = .ok (.iload_n 1, 1) := by decide +kernel
theorem d_Model_letter_3 : decode c_Model_letter 3 = .ok (.invokevirtual 166, 3) := by decide +kernel
theorem d_Model_letter_6 : decode c_Model_letter 6 = .ok (.ifCond .eq 7, 3) := by decide +kernel
theorem d_Model_letter_9 : decode c_Model_letter 9 = .ok (.iconst 0, 1) := by decide +kernel
theorem d_Model_letter_10 : decode c_Model_letter 10 = .ok (.goto 4, 3) := by decide +kernel
theorem d_Model_letter_13 : decode c_Model_letter 13 = .ok (.iconst 1, 1) := by decide +kernel
theorem d_Model_letter_14 : decode c_Model_letter 14 = .ok (.putfield 80, 3) := by decide +kernel
theorem d_Model_letter_17 : decode c_Model_letter 17 = .ok (.aload_n 0, 1) := by decide +kernel
theorem d_Model_letter_18 : decode c_Model_letter 18 = .ok (.getfield 80, 3) := by decide +kernel
theorem d_Model_letter_21 : decode c_Model_letter 21 = .ok (.ifCond .eq 5, 3) := by decide +kernel
theorem d_Model_letter_24 : decode c_Model_letter 24 = .ok (.iconst 0, 1) := by decide +kernel
theorem d_Model_letter_25 : decode c_Model_letter 25 = .ok (.ireturn, 1) := by decide +kernel
theorem d_Model_letter_26 : decode c_Model_letter 26 = .ok (.aload_n 0, 1) := by decide +kernel
theorem d_Model_letter_27 : decode c_Model_letter 27 = .ok (.iload_n 1, 1) := by decide +kernel
theorem d_Model_letter_28 : decode c_Model_letter 28 = .ok (.iload_n 2, 1) := by decide +kernel
theorem d_Model_letter_29 : decode c_Model_letter 29 = .ok (.iload_n 3, 1) := by decide +kernel
theorem d_Model_letter_30 : decode c_Model_letter 30 = .ok (.iload 4, 2) := by decide +kernel
theorem d_Model_letter_32 : decode c_Model_letter 32 = .ok (.invokevirtual 169, 3) := by decide +kernel
theorem d_Model_letter_35 : decode c_Model_letter 35 = .ok (.istore 6, 2) := by decide +kernel
theorem d_Model_letter_37 : decode c_Model_letter 37 = .ok (.iload 6, 2) := by decide +kernel
theorem d_Model_letter_39 : decode c_Model_letter 39 = .ok (.iconst (-1), 1) := by decide +kernel
theorem d_Model_letter_40 : decode c_Model_letter 40 = .ok (.if_icmp .eq 19, 3) := by decide +kernel
theorem d_Model_letter_43 : decode c_Model_letter 43 = .ok (.iload 5, 2) := by decide +kernel
theorem d_Model_letter_45 : decode c_Model_letter 45 = .ok (.ifCond .lt 14, 3) := by decide +kernel
theorem d_Model_letter_48 : decode c_Model_letter 48 = .ok (.iload 5, 2) := by decide +kernel
theorem d_Model_letter_50 : decode c_Model_letter 50 = .ok (.aload_n 0, 1) := by decide +kernel
theorem d_Model_letter_51 : decode c_Model_letter 51 = .ok (.iload 6, 2) := by decide +kernel
theorem d_Model_letter_53 : decode c_Model_letter 53 = .ok (.invokevirtual 173, 3) := by decide +kernel
theorem d_Model_letter_56 : decode c_Model_letter 56 = .ok (.if_icmp .lt 7, 3) := by decide +kernel
theorem d_Model_letter_59 : decode c_Model_letter 59 = .ok (.iconst (-1), 1) := by decide +kernel
theorem d_Model_letter_60 : decode c_Model_letter 60 = .ok (.goto 18, 3) := by decide +kernel
theorem d_Model_letter_63 : decode c_Model_letter 63 = .ok (.aload_n 0, 1) := by decide +kernel
theorem d_Model_letter_64 : decode c_Model_letter 64 = .ok (.getfield 31, 3) := by decide +kernel
theorem d_Model_letter_67 : decode c_Model_letter 67 = .ok (.aload_n 0, 1) := by decide +kernel
theorem d_Model_letter_68 : decode c_Model_letter 68 = .ok (.getfield 28, 3) := by decide +kernel
theorem d_Model_letter_71 : decode c_Model_letter 71 = .ok (.iload 6, 2) := by decide +kernel
theorem d_Model_letter_73 : decode c_Model_letter 73 = .ok (.iaload, 1) := by decide +kernel
theorem d_Model_letter_74 : decode c_Model_letter 74 = .ok (.iload 5, 2) := by decide +kernel
theorem d_Model_letter_76 : decode c_Model_letter 76 = .ok (.iadd, 1) := by decide +kernel
theorem d_Model_letter_77 : decode c_Model_letter 77 = .ok (.iaload, 1) := by decide +kernel
theorem d_Model_letter_78 : decode c_Model_letter 78 = .ok (.ireturn, 1) := by decide +kernel
theorem d_Model_isTag_0 : decode c_Model_isTag 0 = .ok (.iload_n 0, 1) := by decide +kernel
theorem d_Model_isTag_1 : decode c_Model_isTag 1 = .ok (.bipush 16, 2) := by decide +kernel
theorem d_Model_isTag_3 : decode c_Model_isTag 3 = .ok (.ishr, 1) := by decide +kernel
theorem d_Model_isTag_4 : decode c_Model_isTag 4 = .ok (.istore_n 1, 1) := by decide +kernel
theorem d_Model_isTag_5 : decode c_Model_isTag 5 = .ok (.iload_n 0, 1) := by decide +kernel
theorem d_Model_isTag_6 : decode c_Model_isTag 6 = .ok (.bipush 8, 2) := by decide +kernel
theorem d_Model_isTag_8 : decode c_Model_isTag 8 = .ok (.ishr, 1) := by decide +kernel
theorem d_Model_isTag_9 : decode c_Model_isTag 9 = .ok (.sipush 255, 3) := by decide +kernel
theorem d_Model_isTag_12 : decode c_Model_isTag 12 = .ok (.iand, 1) := by decide +kernel
theorem d_Model_isTag_13 : decode c_Model_isTag 13 = .ok (.istore_n 2, 1) := by decide +kernel
theorem d_Model_isTag_14 : decode c_Model_isTag 14 = .ok (.iload_n 0, 1) := by decide +kernel
theorem d_Model_isTag_15 : decode c_Model_isTag 15 = .ok (.sipush 255, 3) := by decide +kernel
theorem d_Model_isTag_18 : decode c_Model_isTag 18 = .ok (.iand, 1) := by decide +kernel
theorem d_Model_isTag_19 : decode c_Model_isTag 19 = .ok (.istore_n 3, 1) := by decide +kernel
theorem d_Model_isTag_20 : decode c_Model_isTag 20 = .ok (.iload_n 1, 1) := by decide +kernel
theorem d_Model_isTag_21 : decode c_Model_isTag 21 = .ok (.invokestatic 96, 3) := by decide +kernel
theorem d_Model_isTag_24 : decode c_Model_isTag 24 = .ok (.ifCond .eq 35, 3) := by decide +kernel
theorem d_Model_isTag_27 : decode c_Model_isTag 27 = .ok (.iload_n 2, 1) := by decide +kernel
theorem d_Model_isTag_28 : decode c_Model_isTag 28 = .ok (.invokestatic 96, 3) := by decide +kernel
theorem d_Model_isTag_31 : decode c_Model_isTag 31 = .ok (.ifCond .ne 10, 3) := by decide +kernel
theorem d_Model_isTag_34 : decode c_Model_isTag 34 = .ok (.iload_n 2, 1) := by decide +kernel
theorem d_Model_isTag_35 : decode c_Model_isTag 35 = .ok (.invokestatic 100, 3) := by decide +kernel
theorem d_Model_isTag_38 : decode c_Model_isTag 38 = .ok (.ifCond .eq 21, 3) := by decide +kernel
theorem d_Model_isTag_41 : decode c_Model_isTag 41 = .ok (.iload_n 3, 1) := by decide +kernel
theorem d_Model_isTag_42 : decode c_Model_isTag 42 = .ok (.invokestatic 96, 3) := by decide +kernel
theorem d_Model_isTag_45 : decode c_Model_isTag 45 = .ok (.ifCond .ne 10, 3) := by decide +kernel
theorem d_Model_isTag_48 : decode c_Model_isTag 48 = .ok (.iload_n 3, 1) := by decide +kernel
theorem d_Model_isTag_49 : decode c_Model_isTag 49 = .ok (.invokestatic 100, 3) := by decide +kernel
theorem d_Model_isTag_52 : decode c_Model_isTag 52 = .ok (.ifCond .eq 7, 3) := by decide +kernel
theorem d_Model_isTag_55 : decode c_Model_isTag 55 = .ok (.iconst 1, 1) := by decide +kernel
theorem d_Model_isTag_56 : decode c_Model_isTag 56 = .ok (.goto 4, 3) := by decide +kernel
theorem d_Model_isTag_59 : decode c_Model_isTag 59 = .ok (.iconst 0, 1) := by decide +kernel
theorem d_Model_isTag_60 : decode c_Model_isTag 60 = .ok (.ireturn, 1) := by decide +kernel
theorem d_Model_row_0 : decode c_Model_row 0 = .ok (.iload_n 1, 1) := by decide +kernel
theorem d_Model_row_1 : decode c_Model_row 1 = .ok (.ifCond .lt 42, 3) := by decide +kernel
theorem d_Model_row_4 : decode c_Model_row 4 = .ok (.iload_n 1, 1) := by decide +kernel
theorem d_Model_row_5 : decode c_Model_row 5 = .ok (.iconst 3, 1) := by decide +kernel
theorem d_Model_row_6 : decode c_Model_row 6 = .ok (.if_icmp .gt 37, 3) := by decide +kernel
theorem d_Model_row_9 : decode c_Model_row 9 = .ok (.iload_n 2, 1) := by decide +kernel
theorem d_Model_row_10 : decode c_Model_row 10 = .ok (.invokestatic 176, 3) := by decide +kernel
theorem d_Model_row_13 : decode c_Model_row 13 = .ok (.ifCond .eq 30, 3) := by decide +kernel
theorem d_Model_row_16 : decode c_Model_row 16 = .ok (.iload_n 3, 1) := by decide +kernel
theorem d_Model_row_17 : decode c_Model_row 17 = .ok (.ifCond .lt 26, 3) := by decide +kernel
theorem d_Model_row_20 : decode c_Model_row 20 = .ok (.iload 4, 2) := by decide +kernel
theorem d_Model_row_22 : decode c_Model_row 22 = .ok (.iconst 1, 1) := by decide +kernel
theorem d_Model_row_23 : decode c_Model_row 23 = .ok (.if_icmp .lt 20, 3) := by decide +kernel
theorem d_Model_row_26 : decode c_Model_row 26 = .ok (.iload 4, 2) := by decide +kernel
theorem d_Model_row_28 : decode c_Model_row 28 = .ok (.bipush 20, 2) := by decide +kernel
theorem d_Model_row_30 : decode c_Model_row 30 = .ok (.if_icmp .gt 13, 3) := by decide +kernel
theorem d_Model_row_33 : decode c_Model_row 33 = .ok (.iload_n 3, 1) := by decide +kernel
theorem d_Model_row_34 : decode c_Model_row 34 = .ok (.iload 4, 2) := by decide +kernel
theorem d_Model_row_36 : decode c_Model_row 36 = .ok (.if_icmp .gt 7, 3) := by decide +kernel
theorem d_Model_row_39 : decode c_Model_row 39 = .ok (.iconst 1, 1) := by decide +kernel
theorem d_Model_row_40 : decode c_Model_row 40 = .ok (.goto 4, 3) := by decide +kernel
theorem d_Model_row_43 : decode c_Model_row 43 = .ok (.iconst 0, 1) := by decide +kernel
theorem d_Model_row_44 : decode c_Model_row 44 = .ok (.istore 6, 2) := by decide +kernel
theorem d_Model_row_46 : decode c_Model_row 46 = .ok (.aload_n 0, 1) := by decide +kernel
theorem d_Model_row_47 : decode c_Model_row 47 = .ok (.iload 6, 2) := by decide +kernel
theorem d_Model_row_49 : decode c_Model_row 49 = .ok (.ifCond .eq 7, 3) := by decide +kernel
theorem d_Model_row_52 : decode c_Model_row 52 = .ok (.iconst 0, 1) := by decide +kernel
theorem d_Model_row_53 : decode c_Model_row 53 = .ok (.goto 4, 3) := by decide +kernel
theorem d_Model_row_56 : decode c_Model_row 56 = .ok (.iconst 1, 1) := by decide +kernel
theorem d_Model_row_57 : decode c_Model_row 57 = .ok (.putfield 80, 3) := by decide +kernel
theorem d_Model_row_60 : decode c_Model_row 60 = .ok (.iload 6, 2) := by decide +kernel
theorem d_Model_row_62 : decode c_Model_row 62 = .ok (.ifCond .ne 5, 3) := by decide +kernel
theorem d_Model_row_65 : decode c_Model_row 65 = .ok (.iconst 0, 1) := by decide +kernel
theorem d_Model_row_66 : decode c_Model_row 66 = .ok (.ireturn, 1) := by decide +kernel
theorem d_Model_row_67 : decode c_Model_row 67 = .ok (.aload_n 0, 1) := by decide +kernel
theorem d_Model_row_68 : decode c_Model_row 68 = .ok (.getfield 34, 3) := by decide +kernel
theorem d_Model_row_71 : decode c_Model_row 71 = .ok (.iload_n 1, 1) := by decide +kernel
theorem d_Model_row_72 : decode c_Model_row 72 = .ok (.iaload, 1) := by decide +kernel
theorem d_Model_row_73 : decode c_Model_row 73 = .ok (.istore 7, 2) := by decide +kernel
theorem d_Model_row_75 : decode c_Model_row 75 = .ok (.iload 7, 2) := by decide +kernel
theorem d_Model_row_77 : decode c_Model_row 77 = .ok (.ifCond .ne 7, 3) := by decide +kernel
theorem d_Model_row_80 : decode c_Model_row 80 = .ok (.iconst 0, 1) := by decide +kernel
theorem d_Model_row_81 : decode c_Model_row 81 = .ok (.goto 30, 3) := by decide +kernel
theorem d_Model_row_84 : decode c_Model_row 84 = .ok (.iload 7, 2) := by decide +kernel
theorem d_Model_row_86 : decode c_Model_row 86 = .ok (.bipush 20, 2) := by decide +kernel
theorem d_Model_row_88 : decode c_Model_row 88 = .ok (.if_icmp .ne 7, 3) := by decide +kernel
theorem d_Model_row_91 : decode c_Model_row 91 = .ok (.iconst (-1), 1) := by decide +kernel
theorem d_Model_row_92 : decode c_Model_row 92 = .ok (.goto 19, 3) := by decide +kernel
theorem d_Model_row_95 : decode c_Model_row 95 = .ok (.aload_n 0, 1) := by decide +kernel
theorem d_Model_row_96 : decode c_Model_row 96 = .ok (.getfield 46, 3) := by decide +kernel
theorem d_Model_row_99 : decode c_Model_row 99 = .ok (.bipush 20, 2) := by decide +kernel
theorem d_Model_row_101 : decode c_Model_row 101 = .ok (.iload_n 1, 1) := by decide +kernel
theorem d_Model_row_102 : decode c_Model_row 102 = .ok (.imul, 1) := by decide +kernel
theorem d_Model_row_103 : decode c_Model_row 103 = .ok (.iload 7, 2) := by decide +kernel
theorem d_Model_row_105 : decode c_Model_row 105 = .ok (.iadd, 1) := by decide +kernel
theorem d_Model_row_106 : decode c_Model_row 106 = .ok (.iconst 1, 1) := by decide +kernel
theorem d_Model_row_107 : decode c_Model_row 107 = .ok (.isub, 1) := by decide +kernel
theorem d_Model_row_108 : decode c_Model_row 108 = .ok (.iaload, 1) := by decide +kernel
theorem d_Model_row_109 : decode c_Model_row 109 = .ok (.iconst 1, 1) := by decide +kernel
theorem d_Model_row_110 : decode c_Model_row 110 = .ok (.iadd, 1) := by decide +kernel
theorem d_Model_row_111 : decode c_Model_row 111 = .ok (.istore 8, 2) := by decide +kernel
theorem d_Model_row_113 : decode c_Model_row 113 = .ok (.iload 8, 2) := by decide +kernel
theorem d_Model_row_115 : decode c_Model_row 115 = .ok (.iconst 3, 1) := by decide +kernel
theorem d_Model_row_116 : decode c_Model_row 116 = .ok (.if_icmp .le 6, 3) := by decide +kernel
theorem d_Model_row_119 : decode c_Model_row 119 = .ok (.iconst 3, 1) := by decide +kernel
theorem d_Model_row_120 : decode c_Model_row 120 = .ok (.istore 8, 2) := by decide +kernel
theorem d_Model_row_122 : decode c_Model_row 122 = .ok (.aload_n 0, 1) := by decide +kernel
theorem d_Model_row_123 : decode c_Model_row 123 = .ok (.iload 7, 2) := by decide +kernel
theorem d_Model_row_125 : decode c_Model_row 125 = .ok (.bipush 20, 2) := by decide +kernel
theorem d_Model_row_127 : decode c_Model_row 127 = .ok (.if_icmp .eq 15, 3) := by decide +kernel
theorem d_Model_row_130 : decode c_Model_row 130 = .ok (.iload 5, 2) := by decide +kernel
theorem d_Model_row_132 : decode c_Model_row 132 = .ok (.ifCond .lt 10, 3) := by decide +kernel
theorem d_Model_row_135 : decode c_Model_row 135 = .ok (.iload 5, 2) := by decide +kernel
theorem d_Model_row_137 : decode c_Model_row 137 = .ok (.iload 8, 2) := by decide +kernel
theorem d_Model_row_139 : decode c_Model_row 139 = .ok (.if_icmp .le 7, 3) := by decide +kernel
theorem d_Model_row_142 : decode c_Model_row 142 = .ok (.iconst 2, 1) := by decide +kernel
theorem d_Model_row_143 : decode c_Model_row 143 = .ok (.goto 4, 3) := by decide +kernel
theorem d_Model_row_146 : decode c_Model_row 146 = .ok (.iconst 0, 1) := by decide +kernel
theorem d_Model_row_147 : decode c_Model_row 147 = .ok (.putfield 80, 3) := by decide +kernel
theorem d_Model_row_150 : decode c_Model_row 150 = .ok (.aload_n 0, 1) := by decide +kernel
theorem d_Model_row_151 : decode c_Model_row 151 = .ok (.getfield 80, 3) := by decide +kernel
theorem d_Model_row_154 : decode c_Model_row 154 = .ok (.ifCond .eq 5, 3) := by decide +kernel
theorem d_Model_row_157 : decode c_Model_row 157 = .ok (.iconst 0, 1) := by decide +kernel
theorem d_Model_row_158 : decode c_Model_row 158 = .ok (.ireturn, 1) := by decide +kernel
theorem d_Model_row_159 : decode c_Model_row 159 = .ok (.aload_n 0, 1) := by decide +kernel
theorem d_Model_row_160 : decode c_Model_row 160 = .ok (.getfield 37, 3) := by decide +kernel
theorem d_Model_row_163 : decode c_Model_row 163 = .ok (.bipush 20, 2) := by decide +kernel
theorem d_Model_row_165 : decode c_Model_row 165 = .ok (.iload_n 1, 1) := by decide +kernel
theorem d_Model_row_166 : decode c_Model_row 166 = .ok (.imul, 1) := by decide +kernel
theorem d_Model_row_167 : decode c_Model_row 167 = .ok (.iload 7, 2) := by decide +kernel
theorem d_Model_row_169 : decode c_Model_row 169 = .ok (.iadd, 1) := by decide +kernel
theorem d_Model_row_170 : decode c_Model_row 170 = .ok (.iload_n 2, 1) := by decide +kernel
theorem d_Model_row_171 : decode c_Model_row 171 = .ok (.iastore, 1) := by decide +kernel
theorem d_Model_row_172 : decode c_Model_row 172 = .ok (.aload_n 0, 1) := by decide +kernel
theorem d_Model_row_173 : decode c_Model_row 173 = .ok (.getfield 40, 3) := by decide +kernel
theorem d_Model_row_176 : decode c_Model_row 176 = .ok (.bipush 20, 2) := by decide +kernel
theorem d_Model_row_178 : decode c_Model_row 178 = .ok (.iload_n 1, 1) := by decide +kernel
theorem d_Model_row_179 : decode c_Model_row 179 = .ok (.imul, 1) := by decide +kernel
theorem d_Model_row_180 : decode c_Model_row 180 = .ok (.iload 7, 2) := by decide +kernel
theorem d_Model_row_182 : decode c_Model_row 182 = .ok (.iadd, 1) := by decide +kernel
theorem d_Model_row_183 : decode c_Model_row 183 = .ok (.iload_n 3, 1) := by decide +kernel
theorem d_Model_row_184 : decode c_Model_row 184 = .ok (.iastore, 1) := by decide +kernel
theorem d_Model_row_185 : decode c_Model_row 185 = .ok (.aload_n 0, 1) := by decide +kernel
theorem d_Model_row_186 : decode c_Model_row 186 = .ok (.getfield 43, 3) := by decide +kernel
theorem d_Model_row_189 : decode c_Model_row 189 = .ok (.bipush 20, 2) := by decide +kernel
theorem d_Model_row_191 : decode c_Model_row 191 = .ok (.iload_n 1, 1) := by decide +kernel
theorem d_Model_row_192 : decode c_Model_row 192 = .ok (.imul, 1) := by decide +kernel
theorem d_Model_row_193 : decode c_Model_row 193 = .ok (.iload 7, 2) := by decide +kernel
theorem d_Model_row_195 : decode c_Model_row 195 = .ok (.iadd, 1) := by decide +kernel
theorem d_Model_row_196 : decode c_Model_row 196 = .ok (.iload 4, 2) := by decide +kernel
theorem d_Model_row_198 : decode c_Model_row 198 = .ok (.iastore, 1) := by decide +kernel
theorem d_Model_row_199 : decode c_Model_row 199 = .ok (.aload_n 0, 1) := by decide +kernel
theorem d_Model_row_200 : decode c_Model_row 200 = .ok (.getfield 46, 3) := by decide +kernel
theorem d_Model_row_203 : decode c_Model_row 203 = .ok (.bipush 20, 2) := by decide +kernel
theorem d_Model_row_205 : decode c_Model_row 205 = .ok (.iload_n 1, 1) := by decide +kernel
theorem d_Model_row_206 : decode c_Model_row 206 = .ok (.imul, 1) := by decide +kernel
theorem d_Model_row_207 : decode c_Model_row 207 = .ok (.iload 7, 2) := by decide +kernel
theorem d_Model_row_209 : decode c_Model_row 209 = .ok (.iadd, 1) := by decide +kernel
theorem d_Model_row_210 : decode c_Model_row 210 = .ok (.iload 5, 2) := by decide +kernel
theorem d_Model_row_212 : decode c_Model_row 212 = .ok (.iastore, 1) := by decide +kernel
theorem d_Model_row_213 : decode c_Model_row 213 = .ok (.aload_n 0, 1) := by decide +kernel
theorem d_Model_row_214 : decode c_Model_row 214 = .ok (.getfield 34, 3) := by decide +kernel
theorem d_Model_row_217 : decode c_Model_row 217 = .ok (.iload_n 1, 1) := by decide +kernel
theorem d_Model_row_218 : decode c_Model_row 218 = .ok (.dup2, 1) := by decide +kernel
theorem d_Model_row_219 : decode c_Model_row 219 = .ok (.iaload, 1) := by decide +kernel
theorem d_Model_row_220 : decode c_Model_row 220 = .ok (.iconst 1, 1) := by decide +kernel
theorem d_Model_row_221 : decode c_Model_row 221 = .ok (.iadd, 1) := by decide +kernel
theorem d_Model_row_222 : decode c_Model_row 222 = .ok (.iastore, 1) := by decide +kernel
theorem d_Model_row_223 : decode c_Model_row 223 = .ok (.iload 7, 2) := by decide +kernel
theorem d_Model_row_225 : decode c_Model_row 225 = .ok (.iconst 1, 1) := by decide +kernel
theorem d_Model_row_226 : decode c_Model_row 226 = .ok (.iadd, 1) := by decide +kernel
theorem d_Model_row_227 : decode c_Model_row 227 = .ok (.ireturn, 1) := by decide +kernel
theorem d_Model_isCount_0 : decode c_Model_isCount 0 = .ok (.aload_n 0, 1) := by decide +kernel
theorem d_Model_isCount_1 : decode c_Model_isCount 1 = .ok (.getfield 106, 3) := by decide +kernel
theorem d_Model_isCount_4 : decode c_Model_isCount 4 = .ok (.istore_n 2, 1) := by decide +kernel
theorem d_Model_isCount_5 : decode c_Model_isCount 5 = .ok (.iload_n 1, 1) := by decide +kernel
theorem d_Model_isCount_6 : decode c_Model_isCount 6 = .ok (.iconst (-1), 1) := by decide +kernel
theorem d_Model_isCount_7 : decode c_Model_isCount 7 = .ok (.if_icmp .eq 22, 3) := by decide +kernel
theorem d_Model_isCount_10 : decode c_Model_isCount 10 = .ok (.aload_n 0, 1) := by decide +kernel
theorem d_Model_isCount_11 : decode c_Model_isCount 11 = .ok (.iload_n 1, 1) := by decide +kernel
theorem d_Model_isCount_12 : decode c_Model_isCount 12 = .ok (.invokevirtual 173, 3) := by decide +kernel
theorem d_Model_isCount_15 : decode c_Model_isCount 15 = .ok (.iload_n 2, 1) := by decide +kernel
theorem d_Model_isCount_16 : decode c_Model_isCount 16 = .ok (.bipush 9, 2) := by decide +kernel
theorem d_Model_isCount_18 : decode c_Model_isCount 18 = .ok (.if_icmp .le 7, 3) := by decide +kernel
theorem d_Model_isCount_21 : decode c_Model_isCount 21 = .ok (.iconst 2, 1) := by decide +kernel
theorem d_Model_isCount_22 : decode c_Model_isCount 22 = .ok (.goto 4, 3) := by decide +kernel
theorem d_Model_isCount_25 : decode c_Model_isCount 25 = .ok (.iconst 1, 1) := by decide +kernel
theorem d_Model_isCount_26 : decode c_Model_isCount 26 = .ok (.if_icmp .eq 5, 3) := by decide +kernel
theorem d_Model_isCount_29 : decode c_Model_isCount 29 = .ok (.iconst 0, 1) := by decide +kernel
theorem d_Model_isCount_30 : decode c_Model_isCount 30 = .ok (.ireturn, 1) := by decide +kernel
theorem d_Model_isCount_31 : decode c_Model_isCount 31 = .ok (.aload_n 0, 1) := by decide +kernel
theorem d_Model_isCount_32 : decode c_Model_isCount 32 = .ok (.getfield 28, 3) := by decide +kernel
theorem d_Model_isCount_35 : decode c_Model_isCount 35 = .ok (.iload_n 1, 1) := by decide +kernel
theorem d_Model_isCount_36 : decode c_Model_isCount 36 = .ok (.iaload, 1) := by decide +kernel
theorem d_Model_isCount_37 : decode c_Model_isCount 37 = .ok (.istore_n 3, 1) := by decide +kernel
theorem d_Model_isCount_38 : decode c_Model_isCount 38 = .ok (.iload_n 2, 1) := by decide +kernel
theorem d_Model_isCount_39 : decode c_Model_isCount 39 = .ok (.bipush 9, 2) := by decide +kernel
theorem d_Model_isCount_41 : decode c_Model_isCount 41 = .ok (.if_icmp .le 45, 3) := by decide +kernel
theorem d_Model_isCount_44 : decode c_Model_isCount 44 = .ok (.aload_n 0, 1) := by decide +kernel
theorem d_Model_isCount_45 : decode c_Model_isCount 45 = .ok (.getfield 31, 3) := by decide +kernel
theorem d_Model_isCount_48 : decode c_Model_isCount 48 = .ok (.iload_n 3, 1) := by decide +kernel
theorem d_Model_isCount_49 : decode c_Model_isCount 49 = .ok (.iaload, 1) := by decide +kernel
theorem d_Model_isCount_50 : decode c_Model_isCount 50 = .ok (.bipush 48, 2) := by decide +kernel
theorem d_Model_isCount_52 : decode c_Model_isCount 52 = .ok (.iload_n 2, 1) := by decide +kernel
theorem d_Model_isCount_53 : decode c_Model_isCount 53 = .ok (.bipush 10, 2) := by decide +kernel
theorem d_Model_isCount_55 : decode c_Model_isCount 55 = .ok (.idiv, 1) := by decide +kernel
theorem d_Model_isCount_56 : decode c_Model_isCount 56 = .ok (.iadd, 1) := by decide +kernel
theorem d_Model_isCount_57 : decode c_Model_isCount 57 = .ok (.if_icmp .ne 25, 3) := by decide +kernel
theorem d_Model_isCount_60 : decode c_Model_isCount 60 = .ok (.aload_n 0, 1) := by decide +kernel
theorem d_Model_isCount_61 : decode c_Model_isCount 61 = .ok (.getfield 31, 3) := by decide +kernel
theorem d_Model_isCount_64 : decode c_Model_isCount 64 = .ok (.iload_n 3, 1) := by decide +kernel
theorem d_Model_isCount_65 : decode c_Model_isCount 65 = .ok (.iconst 1, 1) := by decide +kernel
theorem d_Model_isCount_66 : decode c_Model_isCount 66 = .ok (.iadd, 1) := by decide +kernel
theorem d_Model_isCount_67 : decode c_Model_isCount 67 = .ok (.iaload, 1) := by decide +kernel
theorem d_Model_isCount_68 : decode c_Model_isCount 68 = .ok (.bipush 48, 2) := by decide +kernel
theorem d_Model_isCount_70 : decode c_Model_isCount 70 = .ok (.iload_n 2, 1) := by decide +kernel
theorem d_Model_isCount_71 : decode c_Model_isCount 71 = .ok (.bipush 10, 2) := by decide +kernel
theorem d_Model_isCount_73 : decode c_Model_isCount 73 = .ok (.irem, 1) := by decide +kernel
theorem d_Model_isCount_74 : decode c_Model_isCount 74 = .ok (.iadd, 1) := by decide +kernel
theorem d_Model_isCount_75 : decode c_Model_isCount 75 = .ok (.if_icmp .ne 7, 3) := by decide +kernel
theorem d_Model_isCount_78 : decode c_Model_isCount 78 = .ok (.iconst 1, 1) := by decide +kernel
theorem d_Model_isCount_79 : decode c_Model_isCount 79 = .ok (.goto 25, 3) := by decide +kernel
theorem d_Model_isCount_82 : decode c_Model_isCount 82 = .ok (.iconst 0, 1) := by decide +kernel
theorem d_Model_isCount_83 : decode c_Model_isCount 83 = .ok (.goto 21, 3) := by decide +kernel
theorem d_Model_isCount_86 : decode c_Model_isCount 86 = .ok (.aload_n 0, 1) := by decide +kernel
theorem d_Model_isCount_87 : decode c_Model_isCount 87 = .ok (.getfield 31, 3) := by decide +kernel
theorem d_Model_isCount_90 : decode c_Model_isCount 90 = .ok (.iload_n 3, 1) := by decide +kernel
theorem d_Model_isCount_91 : decode c_Model_isCount 91 = .ok (.iaload, 1) := by decide +kernel
theorem d_Model_isCount_92 : decode c_Model_isCount 92 = .ok (.bipush 48, 2) := by decide +kernel
theorem d_Model_isCount_94 : decode c_Model_isCount 94 = .ok (.iload_n 2, 1) := by decide +kernel
theorem d_Model_isCount_95 : decode c_Model_isCount 95 = .ok (.iadd, 1) := by decide +kernel
theorem d_Model_isCount_96 : decode c_Model_isCount 96 = .ok (.if_icmp .ne 7, 3) := by decide +kernel
theorem d_Model_isCount_99 : decode c_Model_isCount 99 = .ok (.iconst 1, 1) := by decide +kernel
theorem d_Model_isCount_100 : decode c_Model_isCount 100 = .ok (.goto 4, 3) := by decide +kernel
theorem d_Model_isCount_103 : decode c_Model_isCount 103 = .ok (.iconst 0, 1) := by decide +kernel
theorem d_Model_isCount_104 : decode c_Model_isCount 104 = .ok (.ireturn, 1) := by decide +kernel
theorem d_Model_alike_0 : decode c_Model_alike 0 = .ok (.iload_n 1, 1) := by decide +kernel
theorem d_Model_alike_1 : decode c_Model_alike 1 = .ok (.iconst (-1), 1) := by decide +kernel
theorem d_Model_alike_2 : decode c_Model_alike 2 = .ok (.if_icmp .eq 21, 3) := by decide +kernel
theorem d_Model_alike_5 : decode c_Model_alike 5 = .ok (.iload_n 2, 1) := by decide +kernel
theorem d_Model_alike_6 : decode c_Model_alike 6 = .ok (.iconst (-1), 1) := by decide +kernel
theorem d_Model_alike_7 : decode c_Model_alike 7 = .ok (.if_icmp .eq 16, 3) := by decide +kernel
theorem d_Model_alike_10 : decode c_Model_alike 10 = .ok (.aload_n 0, 1) := by decide +kernel
theorem d_Model_alike_11 : decode c_Model_alike 11 = .ok (.iload_n 1, 1) := by decide +kernel
theorem d_Model_alike_12 : decode c_Model_alike 12 = .ok (.invokevirtual 173, 3) := by decide +kernel
theorem d_Model_alike_15 : decode c_Model_alike 15 = .ok (.aload_n 0, 1) := by decide +kernel
theorem d_Model_alike_16 : decode c_Model_alike 16 = .ok (.iload_n 2, 1) := by decide +kernel
theorem d_Model_alike_17 : decode c_Model_alike 17 = .ok (.invokevirtual 173, 3) := by decide +kernel
theorem d_Model_alike_20 : decode c_Model_alike 20 = .ok (.if_icmp .eq 5, 3) := by decide +kernel
theorem d_Model_alike_23 : decode c_Model_alike 23 = .ok (.iconst 0, 1) := by decide +kernel
theorem d_Model_alike_24 : decode c_Model_alike 24 = .ok (.ireturn, 1) := by decide +kernel
theorem d_Model_alike_25 : decode c_Model_alike 25 = .ok (.iconst 0, 1) := by decide +kernel
theorem d_Model_alike_26 : decode c_Model_alike 26 = .ok (.istore_n 3, 1) := by decide +kernel
theorem d_Model_alike_27 : decode c_Model_alike 27 = .ok (.iload_n 3, 1) := by decide +kernel
theorem d_Model_alike_28 : decode c_Model_alike 28 = .ok (.aload_n 0, 1) := by decide +kernel
theorem d_Model_alike_29 : decode c_Model_alike 29 = .ok (.iload_n 1, 1) := by decide +kernel
theorem d_Model_alike_30 : decode c_Model_alike 30 = .ok (.invokevirtual 173, 3) := by decide +kernel
theorem d_Model_alike_33 : decode c_Model_alike 33 = .ok (.if_icmp .ge 40, 3) := by decide +kernel
theorem d_Model_alike_36 : decode c_Model_alike 36 = .ok (.aload_n 0, 1) := by decide +kernel
theorem d_Model_alike_37 : decode c_Model_alike 37 = .ok (.getfield 31, 3) := by decide +kernel
theorem d_Model_alike_40 : decode c_Model_alike 40 = .ok (.aload_n 0, 1) := by decide +kernel
theorem d_Model_alike_41 : decode c_Model_alike 41 = .ok (.getfield 28, 3) := by decide +kernel
theorem d_Model_alike_44 : decode c_Model_alike 44 = .ok (.iload_n 1, 1) := by decide +kernel
theorem d_Model_alike_45 : decode c_Model_alike 45 = .ok (.iaload, 1) := by decide +kernel
theorem d_Model_alike_46 : decode c_Model_alike 46 = .ok (.iload_n 3, 1) := by decide +kernel
theorem d_Model_alike_47 : decode c_Model_alike 47 = .ok (.iadd, 1) := by decide +kernel
theorem d_Model_alike_48 : decode c_Model_alike 48 = .ok (.iaload, 1) := by decide +kernel
theorem d_Model_alike_49 : decode c_Model_alike 49 = .ok (.aload_n 0, 1) := by decide +kernel
theorem d_Model_alike_50 : decode c_Model_alike 50 = .ok (.getfield 31, 3) := by decide +kernel
theorem d_Model_alike_53 : decode c_Model_alike 53 = .ok (.aload_n 0, 1) := by decide +kernel
theorem d_Model_alike_54 : decode c_Model_alike 54 = .ok (.getfield 28, 3) := by decide +kernel
theorem d_Model_alike_57 : decode c_Model_alike 57 = .ok (.iload_n 2, 1) := by decide +kernel
theorem d_Model_alike_58 : decode c_Model_alike 58 = .ok (.iaload, 1) := by decide +kernel
theorem d_Model_alike_59 : decode c_Model_alike 59 = .ok (.iload_n 3, 1) := by decide +kernel
theorem d_Model_alike_60 : decode c_Model_alike 60 = .ok (.iadd, 1) := by decide +kernel
theorem d_Model_alike_61 : decode c_Model_alike 61 = .ok (.iaload, 1) := by decide +kernel
theorem d_Model_alike_62 : decode c_Model_alike 62 = .ok (.if_icmp .eq 5, 3) := by decide +kernel
theorem d_Model_alike_65 : decode c_Model_alike 65 = .ok (.iconst 0, 1) := by decide +kernel
theorem d_Model_alike_66 : decode c_Model_alike 66 = .ok (.ireturn, 1) := by decide +kernel
theorem d_Model_alike_67 : decode c_Model_alike 67 = .ok (.iinc 3 1, 3) := by decide +kernel
theorem d_Model_alike_70 : decode c_Model_alike 70 = .ok (.goto (-43), 3) := by decide +kernel
theorem d_Model_alike_73 : decode c_Model_alike 73 = .ok (.iconst 1, 1) := by decide +kernel
theorem d_Model_alike_74 : decode c_Model_alike 74 = .ok (.ireturn, 1) := by decide +kernel
theorem d_Model_kindOf_0 : decode c_Model_kindOf 0 = .ok (.aload_n 0, 1) := by decide +kernel
theorem d_Model_kindOf_1 : decode c_Model_kindOf 1 = .ok (.iconst 0, 1) := by decide +kernel
theorem d_Model_kindOf_2 : decode c_Model_kindOf 2 = .ok (.iconst 1, 1) := by decide +kernel
theorem d_Model_kindOf_3 : decode c_Model_kindOf 3 = .ok (.iconst 0, 1) := by decide +kernel
theorem d_Model_kindOf_4 : decode c_Model_kindOf 4 = .ok (.iconst 0, 1) := by decide +kernel
theorem d_Model_kindOf_5 : decode c_Model_kindOf 5 = .ok (.invokevirtual 169, 3) := by decide +kernel
theorem d_Model_kindOf_8 : decode c_Model_kindOf 8 = .ok (.istore_n 1, 1) := by decide +kernel
theorem d_Model_kindOf_9 : decode c_Model_kindOf 9 = .ok (.iload_n 1, 1) := by decide +kernel
theorem d_Model_kindOf_10 : decode c_Model_kindOf 10 = .ok (.iconst (-1), 1) := by decide +kernel
theorem d_Model_kindOf_11 : decode c_Model_kindOf 11 = .ok (.if_icmp .eq 12, 3) := by decide +kernel
theorem d_Model_kindOf_14 : decode c_Model_kindOf 14 = .ok (.aload_n 0, 1) := by decide +kernel
theorem d_Model_kindOf_15 : decode c_Model_kindOf 15 = .ok (.iload_n 1, 1) := by decide +kernel
theorem d_Model_kindOf_16 : decode c_Model_kindOf 16 = .ok (.invokevirtual 173, 3) := by decide +kernel
theorem d_Model_kindOf_19 : decode c_Model_kindOf 19 = .ok (.iconst 1, 1) := by decide +kernel
theorem d_Model_kindOf_20 : decode c_Model_kindOf 20 = .ok (.if_icmp .eq 5, 3) := by decide +kernel
theorem d_Model_kindOf_23 : decode c_Model_kindOf 23 = .ok (.iconst (-1), 1) := by decide +kernel
theorem d_Model_kindOf_24 : decode c_Model_kindOf 24 = .ok (.ireturn, 1) := by decide +kernel
theorem d_Model_kindOf_25 : decode c_Model_kindOf 25 = .ok (.aload_n 0, 1) := by decide +kernel
theorem d_Model_kindOf_26 : decode c_Model_kindOf 26 = .ok (.getfield 31, 3) := by decide +kernel
theorem d_Model_kindOf_29 : decode c_Model_kindOf 29 = .ok (.aload_n 0, 1) := by decide +kernel
theorem d_Model_kindOf_30 : decode c_Model_kindOf 30 = .ok (.getfield 28, 3) := by decide +kernel
theorem d_Model_kindOf_33 : decode c_Model_kindOf 33 = .ok (.iload_n 1, 1) := by decide +kernel
theorem d_Model_kindOf_34 : decode c_Model_kindOf 34 = .ok (.iaload, 1) := by decide +kernel
theorem d_Model_kindOf_35 : decode c_Model_kindOf 35 = .ok (.iaload, 1) := by decide +kernel
theorem d_Model_kindOf_36 : decode c_Model_kindOf 36 = .ok (.bipush 48, 2) := by decide +kernel
theorem d_Model_kindOf_38 : decode c_Model_kindOf 38 = .ok (.isub, 1) := by decide +kernel
theorem d_Model_kindOf_39 : decode c_Model_kindOf 39 = .ok (.istore_n 2, 1) := by decide +kernel
theorem d_Model_kindOf_40 : decode c_Model_kindOf 40 = .ok (.iload_n 2, 1) := by decide +kernel
theorem d_Model_kindOf_41 : decode c_Model_kindOf 41 = .ok (.ifCond .lt 17, 3) := by decide +kernel
theorem d_Model_kindOf_44 : decode c_Model_kindOf 44 = .ok (.iload_n 2, 1) := by decide +kernel
theorem d_Model_kindOf_45 : decode c_Model_kindOf 45 = .ok (.iconst 3, 1) := by decide +kernel
theorem d_Model_kindOf_46 : decode c_Model_kindOf 46 = .ok (.if_icmp .gt 12, 3) := by decide +kernel
theorem d_Model_kindOf_49 : decode c_Model_kindOf 49 = .ok (.aload_n 0, 1) := by decide +kernel
theorem d_Model_kindOf_50 : decode c_Model_kindOf 50 = .ok (.getfield 34, 3) := by decide +kernel
theorem d_Model_kindOf_53 : decode c_Model_kindOf 53 = .ok (.iload_n 2, 1) := by decide +kernel
theorem d_Model_kindOf_54 : decode c_Model_kindOf 54 = .ok (.iaload, 1) := by decide +kernel
theorem d_Model_kindOf_55 : decode c_Model_kindOf 55 = .ok (.ifCond .ne 7, 3) := by decide +kernel
theorem d_Model_kindOf_58 : decode c_Model_kindOf 58 = .ok (.iconst (-1), 1) := by decide +kernel
theorem d_Model_kindOf_59 : decode c_Model_kindOf 59 = .ok (.goto 4, 3) := by decide +kernel
theorem d_Model_kindOf_62 : decode c_Model_kindOf 62 = .ok (.iload_n 2, 1) := by decide +kernel
theorem d_Model_kindOf_63 : decode c_Model_kindOf 63 = .ok (.ireturn, 1) := by decide +kernel
theorem d_Model_wrong_0 : decode c_Model_wrong 0 = .ok (.aload_n 0, 1) := by decide +kernel
theorem d_Model_wrong_1 : decode c_Model_wrong 1 = .ok (.iload_n 2, 1) := by decide +kernel
theorem d_Model_wrong_2 : decode c_Model_wrong 2 = .ok (.putfield 53, 3) := by decide +kernel
theorem d_Model_wrong_5 : decode c_Model_wrong 5 = .ok (.aload_n 0, 1) := by decide +kernel
theorem d_Model_wrong_6 : decode c_Model_wrong 6 = .ok (.iload_n 3, 1) := by decide +kernel
theorem d_Model_wrong_7 : decode c_Model_wrong 7 = .ok (.putfield 56, 3) := by decide +kernel
theorem d_Model_wrong_10 : decode c_Model_wrong 10 = .ok (.iload_n 1, 1) := by decide +kernel
theorem d_Model_wrong_11 : decode c_Model_wrong 11 = .ok (.ireturn, 1) := by decide +kernel
theorem d_Model_unknown_0 : decode c_Model_unknown 0 = .ok (.iconst 1, 1) := by decide +kernel
theorem d_Model_unknown_1 : decode c_Model_unknown 1 = .ok (.istore_n 2, 1) := by decide +kernel
theorem d_Model_unknown_2 : decode c_Model_unknown 2 = .ok (.iload_n 2, 1) := by decide +kernel
theorem d_Model_unknown_3 : decode c_Model_unknown 3 = .ok (.aload_n 0, 1) := by decide +kernel
theorem d_Model_unknown_4 : decode c_Model_unknown 4 = .ok (.getfield 106, 3) := by decide +kernel
theorem d_Model_unknown_7 : decode c_Model_unknown 7 = .ok (.iconst 1, 1) := by decide +kernel
theorem d_Model_unknown_8 : decode c_Model_unknown 8 = .ok (.isub, 1) := by decide +kernel
theorem d_Model_unknown_9 : decode c_Model_unknown 9 = .ok (.if_icmp .ge 60, 3) := by decide +kernel
theorem d_Model_unknown_12 : decode c_Model_unknown 12 = .ok (.iconst 0, 1) := by decide +kernel
theorem d_Model_unknown_13 : decode c_Model_unknown 13 = .ok (.istore_n 3, 1) := by decide +kernel
theorem d_Model_unknown_14 : decode c_Model_unknown 14 = .ok (.iconst 0, 1) := by decide +kernel
theorem d_Model_unknown_15 : decode c_Model_unknown 15 = .ok (.istore 4, 2) := by decide +kernel
theorem d_Model_unknown_17 : decode c_Model_unknown 17 = .ok (.iload 4, 2) := by decide +kernel
theorem d_Model_unknown_19 : decode c_Model_unknown 19 = .ok (.aload_n 0, 1) := by decide +kernel
theorem d_Model_unknown_20 : decode c_Model_unknown 20 = .ok (.getfield 34, 3) := by decide +kernel
theorem d_Model_unknown_23 : decode c_Model_unknown 23 = .ok (.iload_n 1, 1) := by decide +kernel
theorem d_Model_unknown_24 : decode c_Model_unknown 24 = .ok (.iaload, 1) := by decide +kernel
theorem d_Model_unknown_25 : decode c_Model_unknown 25 = .ok (.if_icmp .ge 32, 3) := by decide +kernel
theorem d_Model_unknown_28 : decode c_Model_unknown 28 = .ok (.aload_n 0, 1) := by decide +kernel
theorem d_Model_unknown_29 : decode c_Model_unknown 29 = .ok (.getfield 37, 3) := by decide +kernel
theorem d_Model_unknown_32 : decode c_Model_unknown 32 = .ok (.bipush 20, 2) := by decide +kernel
theorem d_Model_unknown_34 : decode c_Model_unknown 34 = .ok (.iload_n 1, 1) := by decide +kernel
theorem d_Model_unknown_35 : decode c_Model_unknown 35 = .ok (.imul, 1) := by decide +kernel
theorem d_Model_unknown_36 : decode c_Model_unknown 36 = .ok (.iload 4, 2) := by decide +kernel
theorem d_Model_unknown_38 : decode c_Model_unknown 38 = .ok (.iadd, 1) := by decide +kernel
theorem d_Model_unknown_39 : decode c_Model_unknown 39 = .ok (.iaload, 1) := by decide +kernel
theorem d_Model_unknown_40 : decode c_Model_unknown 40 = .ok (.aload_n 0, 1) := by decide +kernel
theorem d_Model_unknown_41 : decode c_Model_unknown 41 = .ok (.getfield 16, 3) := by decide +kernel
theorem d_Model_unknown_44 : decode c_Model_unknown 44 = .ok (.iload_n 2, 1) := by decide +kernel
theorem d_Model_unknown_45 : decode c_Model_unknown 45 = .ok (.iaload, 1) := by decide +kernel
theorem d_Model_unknown_46 : decode c_Model_unknown 46 = .ok (.if_icmp .ne 5, 3) := by decide +kernel
theorem d_Model_unknown_49 : decode c_Model_unknown 49 = .ok (.iconst 1, 1) := by decide +kernel
theorem d_Model_unknown_50 : decode c_Model_unknown 50 = .ok (.istore_n 3, 1) := by decide +kernel
theorem d_Model_unknown_51 : decode c_Model_unknown 51 = .ok (.iinc 4 1, 3) := by decide +kernel
theorem d_Model_unknown_54 : decode c_Model_unknown 54 = .ok (.goto (-37), 3) := by decide +kernel
theorem d_Model_unknown_57 : decode c_Model_unknown 57 = .ok (.iload_n 3, 1) := by decide +kernel
theorem d_Model_unknown_58 : decode c_Model_unknown 58 = .ok (.ifCond .ne 5, 3) := by decide +kernel
theorem d_Model_unknown_61 : decode c_Model_unknown 61 = .ok (.iload_n 2, 1) := by decide +kernel
theorem d_Model_unknown_62 : decode c_Model_unknown 62 = .ok (.ireturn, 1) := by decide +kernel
theorem d_Model_unknown_63 : decode c_Model_unknown 63 = .ok (.iinc 2 1, 3) := by decide +kernel
theorem d_Model_unknown_66 : decode c_Model_unknown 66 = .ok (.goto (-64), 3) := by decide +kernel
theorem d_Model_unknown_69 : decode c_Model_unknown 69 = .ok (.iconst (-1), 1) := by decide +kernel
theorem d_Model_unknown_70 : decode c_Model_unknown 70 = .ok (.ireturn, 1) := by decide +kernel
theorem d_Model_nextRow_0 : decode c_Model_nextRow 0 = .ok (.iload_n 2, 1) := by decide +kernel
theorem d_Model_nextRow_1 : decode c_Model_nextRow 1 = .ok (.iconst 1, 1) := by decide +kernel
theorem d_Model_nextRow_2 : decode c_Model_nextRow 2 = .ok (.iadd, 1) := by decide +kernel
theorem d_Model_nextRow_3 : decode c_Model_nextRow 3 = .ok (.istore 4, 2) := by decide +kernel
theorem d_Model_nextRow_5 : decode c_Model_nextRow 5 = .ok (.iload 4, 2) := by decide +kernel
theorem d_Model_nextRow_7 : decode c_Model_nextRow 7 = .ok (.aload_n 0, 1) := by decide +kernel
theorem d_Model_nextRow_8 : decode c_Model_nextRow 8 = .ok (.getfield 34, 3) := by decide +kernel
theorem d_Model_nextRow_11 : decode c_Model_nextRow 11 = .ok (.iload_n 1, 1) := by decide +kernel
theorem d_Model_nextRow_12 : decode c_Model_nextRow 12 = .ok (.iaload, 1) := by decide +kernel
theorem d_Model_nextRow_13 : decode c_Model_nextRow 13 = .ok (.if_icmp .ge 25, 3) := by decide +kernel
theorem d_Model_nextRow_16 : decode c_Model_nextRow 16 = .ok (.aload_n 0, 1) := by decide +kernel
theorem d_Model_nextRow_17 : decode c_Model_nextRow 17 = .ok (.getfield 46, 3) := by decide +kernel
theorem d_Model_nextRow_20 : decode c_Model_nextRow 20 = .ok (.bipush 20, 2) := by decide +kernel
theorem d_Model_nextRow_22 : decode c_Model_nextRow 22 = .ok (.iload_n 1, 1) := by decide +kernel
theorem d_Model_nextRow_23 : decode c_Model_nextRow 23 = .ok (.imul, 1) := by decide +kernel
theorem d_Model_nextRow_24 : decode c_Model_nextRow 24 = .ok (.iload 4, 2) := by decide +kernel
theorem d_Model_nextRow_26 : decode c_Model_nextRow 26 = .ok (.iadd, 1) := by decide +kernel
theorem d_Model_nextRow_27 : decode c_Model_nextRow 27 = .ok (.iaload, 1) := by decide +kernel
theorem d_Model_nextRow_28 : decode c_Model_nextRow 28 = .ok (.iload_n 3, 1) := by decide +kernel
theorem d_Model_nextRow_29 : decode c_Model_nextRow 29 = .ok (.if_icmp .le 9, 3) := by decide +kernel
theorem d_Model_nextRow_32 : decode c_Model_nextRow 32 = .ok (.iinc 4 1, 3) := by decide +kernel
theorem d_Model_nextRow_35 : decode c_Model_nextRow 35 = .ok (.goto (-30), 3) := by decide +kernel
theorem d_Model_nextRow_38 : decode c_Model_nextRow 38 = .ok (.iload 4, 2) := by decide +kernel
theorem d_Model_nextRow_40 : decode c_Model_nextRow 40 = .ok (.aload_n 0, 1) := by decide +kernel
theorem d_Model_nextRow_41 : decode c_Model_nextRow 41 = .ok (.getfield 34, 3) := by decide +kernel
theorem d_Model_nextRow_44 : decode c_Model_nextRow 44 = .ok (.iload_n 1, 1) := by decide +kernel
theorem d_Model_nextRow_45 : decode c_Model_nextRow 45 = .ok (.iaload, 1) := by decide +kernel
theorem d_Model_nextRow_46 : decode c_Model_nextRow 46 = .ok (.if_icmp .ge 24, 3) := by decide +kernel
theorem d_Model_nextRow_49 : decode c_Model_nextRow 49 = .ok (.aload_n 0, 1) := by decide +kernel
theorem d_Model_nextRow_50 : decode c_Model_nextRow 50 = .ok (.getfield 46, 3) := by decide +kernel
theorem d_Model_nextRow_53 : decode c_Model_nextRow 53 = .ok (.bipush 20, 2) := by decide +kernel
theorem d_Model_nextRow_55 : decode c_Model_nextRow 55 = .ok (.iload_n 1, 1) := by decide +kernel
theorem d_Model_nextRow_56 : decode c_Model_nextRow 56 = .ok (.imul, 1) := by decide +kernel
theorem d_Model_nextRow_57 : decode c_Model_nextRow 57 = .ok (.iload 4, 2) := by decide +kernel
theorem d_Model_nextRow_59 : decode c_Model_nextRow 59 = .ok (.iadd, 1) := by decide +kernel
theorem d_Model_nextRow_60 : decode c_Model_nextRow 60 = .ok (.iaload, 1) := by decide +kernel
theorem d_Model_nextRow_61 : decode c_Model_nextRow 61 = .ok (.iload_n 3, 1) := by decide +kernel
theorem d_Model_nextRow_62 : decode c_Model_nextRow 62 = .ok (.if_icmp .ne 8, 3) := by decide +kernel
theorem d_Model_nextRow_65 : decode c_Model_nextRow 65 = .ok (.iload 4, 2) := by decide +kernel
theorem d_Model_nextRow_67 : decode c_Model_nextRow 67 = .ok (.goto 4, 3) := by decide +kernel
theorem d_Model_nextRow_70 : decode c_Model_nextRow 70 = .ok (.iconst (-1), 1) := by decide +kernel
theorem d_Model_nextRow_71 : decode c_Model_nextRow 71 = .ok (.ireturn, 1) := by decide +kernel
theorem d_Model_walk_0 : decode c_Model_walk 0 = .ok (.iconst 0, 1) := by decide +kernel
theorem d_Model_walk_1 : decode c_Model_walk 1 = .ok (.istore_n 2, 1) := by decide +kernel
theorem d_Model_walk_2 : decode c_Model_walk 2 = .ok (.iconst 1, 1) := by decide +kernel
theorem d_Model_walk_3 : decode c_Model_walk 3 = .ok (.istore_n 3, 1) := by decide +kernel
theorem d_Model_walk_4 : decode c_Model_walk 4 = .ok (.aload_n 0, 1) := by decide +kernel
theorem d_Model_walk_5 : decode c_Model_walk 5 = .ok (.getfield 65, 3) := by decide +kernel
theorem d_Model_walk_8 : decode c_Model_walk 8 = .ok (.iconst 0, 1) := by decide +kernel
theorem d_Model_walk_9 : decode c_Model_walk 9 = .ok (.iconst 0, 1) := by decide +kernel
theorem d_Model_walk_10 : decode c_Model_walk 10 = .ok (.iastore, 1) := by decide +kernel
theorem d_Model_walk_11 : decode c_Model_walk 11 = .ok (.aload_n 0, 1) := by decide +kernel
theorem d_Model_walk_12 : decode c_Model_walk 12 = .ok (.getfield 68, 3) := by decide +kernel
theorem d_Model_walk_15 : decode c_Model_walk 15 = .ok (.iconst 0, 1) := by decide +kernel
theorem d_Model_walk_16 : decode c_Model_walk 16 = .ok (.iconst 0, 1) := by decide +kernel
end
section
theorem d_Model_walk_17 : decode c_Model_walk 17 = .ok (.iastore, 1) := by decide +kernel
theorem d_Model_walk_18 : decode c_Model_walk 18 = .ok (.aload_n 0, 1) := by decide +kernel
theorem d_Model_walk_19 : decode c_Model_walk 19 = .ok (.getfield 71, 3) := by decide +kernel
theorem d_Model_walk_22 : decode c_Model_walk 22 = .ok (.iconst 0, 1) := by decide +kernel
theorem d_Model_walk_23 : decode c_Model_walk 23 = .ok (.iconst (-1), 1) := by decide +kernel
theorem d_Model_walk_24 : decode c_Model_walk 24 = .ok (.iastore, 1) := by decide +kernel
theorem d_Model_walk_25 : decode c_Model_walk 25 = .ok (.iload_n 2, 1) := by decide +kernel
theorem d_Model_walk_26 : decode c_Model_walk 26 = .ok (.ifCond .lt 256, 3) := by decide +kernel
theorem d_Model_walk_29 : decode c_Model_walk 29 = .ok (.aload_n 0, 1) := by decide +kernel
theorem d_Model_walk_30 : decode c_Model_walk 30 = .ok (.getfield 65, 3) := by decide +kernel
theorem d_Model_walk_33 : decode c_Model_walk 33 = .ok (.iload_n 2, 1) := by decide +kernel
theorem d_Model_walk_34 : decode c_Model_walk 34 = .ok (.iaload, 1) := by decide +kernel
theorem d_Model_walk_35 : decode c_Model_walk 35 = .ok (.istore 4, 2) := by decide +kernel
theorem d_Model_walk_37 : decode c_Model_walk 37 = .ok (.iload 4, 2) := by decide +kernel
theorem d_Model_walk_39 : decode c_Model_walk 39 = .ok (.iconst (-1), 1) := by decide +kernel
theorem d_Model_walk_40 : decode c_Model_walk 40 = .ok (.if_icmp .ne 23, 3) := by decide +kernel
theorem d_Model_walk_43 : decode c_Model_walk 43 = .ok (.iinc 2 (-1), 3) := by decide +kernel
theorem d_Model_walk_46 : decode c_Model_walk 46 = .ok (.iload_n 2, 1) := by decide +kernel
theorem d_Model_walk_47 : decode c_Model_walk 47 = .ok (.ifCond .lt 232, 3) := by decide +kernel
theorem d_Model_walk_50 : decode c_Model_walk 50 = .ok (.aload_n 0, 1) := by decide +kernel
theorem d_Model_walk_51 : decode c_Model_walk 51 = .ok (.getfield 68, 3) := by decide +kernel
theorem d_Model_walk_54 : decode c_Model_walk 54 = .ok (.iload_n 2, 1) := by decide +kernel
theorem d_Model_walk_55 : decode c_Model_walk 55 = .ok (.dup2, 1) := by decide +kernel
theorem d_Model_walk_56 : decode c_Model_walk 56 = .ok (.iaload, 1) := by decide +kernel
theorem d_Model_walk_57 : decode c_Model_walk 57 = .ok (.iconst 1, 1) := by decide +kernel
theorem d_Model_walk_58 : decode c_Model_walk 58 = .ok (.iadd, 1) := by decide +kernel
theorem d_Model_walk_59 : decode c_Model_walk 59 = .ok (.iastore, 1) := by decide +kernel
theorem d_Model_walk_60 : decode c_Model_walk 60 = .ok (.goto 219, 3) := by decide +kernel
theorem d_Model_walk_63 : decode c_Model_walk 63 = .ok (.bipush 20, 2) := by decide +kernel
theorem d_Model_walk_65 : decode c_Model_walk 65 = .ok (.iload_n 1, 1) := by decide +kernel
theorem d_Model_walk_66 : decode c_Model_walk 66 = .ok (.imul, 1) := by decide +kernel
theorem d_Model_walk_67 : decode c_Model_walk 67 = .ok (.iload 4, 2) := by decide +kernel
theorem d_Model_walk_69 : decode c_Model_walk 69 = .ok (.iadd, 1) := by decide +kernel
theorem d_Model_walk_70 : decode c_Model_walk 70 = .ok (.istore 5, 2) := by decide +kernel
theorem d_Model_walk_72 : decode c_Model_walk 72 = .ok (.iload_n 3, 1) := by decide +kernel
theorem d_Model_walk_73 : decode c_Model_walk 73 = .ok (.aload_n 0, 1) := by decide +kernel
theorem d_Model_walk_74 : decode c_Model_walk 74 = .ok (.getfield 106, 3) := by decide +kernel
theorem d_Model_walk_77 : decode c_Model_walk 77 = .ok (.iconst 1, 1) := by decide +kernel
theorem d_Model_walk_78 : decode c_Model_walk 78 = .ok (.isub, 1) := by decide +kernel
theorem d_Model_walk_79 : decode c_Model_walk 79 = .ok (.if_icmp .ge 39, 3) := by decide +kernel
theorem d_Model_walk_82 : decode c_Model_walk 82 = .ok (.aload_n 0, 1) := by decide +kernel
theorem d_Model_walk_83 : decode c_Model_walk 83 = .ok (.getfield 16, 3) := by decide +kernel
theorem d_Model_walk_86 : decode c_Model_walk 86 = .ok (.iload_n 3, 1) := by decide +kernel
theorem d_Model_walk_87 : decode c_Model_walk 87 = .ok (.iaload, 1) := by decide +kernel
theorem d_Model_walk_88 : decode c_Model_walk 88 = .ok (.aload_n 0, 1) := by decide +kernel
theorem d_Model_walk_89 : decode c_Model_walk 89 = .ok (.getfield 37, 3) := by decide +kernel
theorem d_Model_walk_92 : decode c_Model_walk 92 = .ok (.iload 5, 2) := by decide +kernel
theorem d_Model_walk_94 : decode c_Model_walk 94 = .ok (.iaload, 1) := by decide +kernel
theorem d_Model_walk_95 : decode c_Model_walk 95 = .ok (.if_icmp .ne 23, 3) := by decide +kernel
theorem d_Model_walk_98 : decode c_Model_walk 98 = .ok (.aload_n 0, 1) := by decide +kernel
theorem d_Model_walk_99 : decode c_Model_walk 99 = .ok (.getfield 68, 3) := by decide +kernel
theorem d_Model_walk_102 : decode c_Model_walk 102 = .ok (.iload_n 2, 1) := by decide +kernel
theorem d_Model_walk_103 : decode c_Model_walk 103 = .ok (.iaload, 1) := by decide +kernel
theorem d_Model_walk_104 : decode c_Model_walk 104 = .ok (.aload_n 0, 1) := by decide +kernel
theorem d_Model_walk_105 : decode c_Model_walk 105 = .ok (.getfield 43, 3) := by decide +kernel
theorem d_Model_walk_108 : decode c_Model_walk 108 = .ok (.iload 5, 2) := by decide +kernel
theorem d_Model_walk_110 : decode c_Model_walk 110 = .ok (.iaload, 1) := by decide +kernel
theorem d_Model_walk_111 : decode c_Model_walk 111 = .ok (.if_icmp .ge 7, 3) := by decide +kernel
theorem d_Model_walk_114 : decode c_Model_walk 114 = .ok (.iconst 1, 1) := by decide +kernel
theorem d_Model_walk_115 : decode c_Model_walk 115 = .ok (.goto 4, 3) := by decide +kernel
theorem d_Model_walk_118 : decode c_Model_walk 118 = .ok (.iconst 0, 1) := by decide +kernel
theorem d_Model_walk_119 : decode c_Model_walk 119 = .ok (.istore 6, 2) := by decide +kernel
theorem d_Model_walk_121 : decode c_Model_walk 121 = .ok (.iload 6, 2) := by decide +kernel
theorem d_Model_walk_123 : decode c_Model_walk 123 = .ok (.ifCond .eq 109, 3) := by decide +kernel
theorem d_Model_walk_126 : decode c_Model_walk 126 = .ok (.aload_n 0, 1) := by decide +kernel
theorem d_Model_walk_127 : decode c_Model_walk 127 = .ok (.getfield 59, 3) := by decide +kernel
theorem d_Model_walk_130 : decode c_Model_walk 130 = .ok (.iload_n 3, 1) := by decide +kernel
theorem d_Model_walk_131 : decode c_Model_walk 131 = .ok (.iload 4, 2) := by decide +kernel
theorem d_Model_walk_133 : decode c_Model_walk 133 = .ok (.iastore, 1) := by decide +kernel
theorem d_Model_walk_134 : decode c_Model_walk 134 = .ok (.aload_n 0, 1) := by decide +kernel
theorem d_Model_walk_135 : decode c_Model_walk 135 = .ok (.getfield 62, 3) := by decide +kernel
theorem d_Model_walk_138 : decode c_Model_walk 138 = .ok (.iload_n 3, 1) := by decide +kernel
theorem d_Model_walk_139 : decode c_Model_walk 139 = .ok (.aload_n 0, 1) := by decide +kernel
theorem d_Model_walk_140 : decode c_Model_walk 140 = .ok (.getfield 71, 3) := by decide +kernel
theorem d_Model_walk_143 : decode c_Model_walk 143 = .ok (.iload_n 2, 1) := by decide +kernel
theorem d_Model_walk_144 : decode c_Model_walk 144 = .ok (.iaload, 1) := by decide +kernel
theorem d_Model_walk_145 : decode c_Model_walk 145 = .ok (.iastore, 1) := by decide +kernel
theorem d_Model_walk_146 : decode c_Model_walk 146 = .ok (.iinc 3 1, 3) := by decide +kernel
theorem d_Model_walk_149 : decode c_Model_walk 149 = .ok (.iload 4, 2) := by decide +kernel
theorem d_Model_walk_151 : decode c_Model_walk 151 = .ok (.iconst 1, 1) := by decide +kernel
theorem d_Model_walk_152 : decode c_Model_walk 152 = .ok (.iadd, 1) := by decide +kernel
theorem d_Model_walk_153 : decode c_Model_walk 153 = .ok (.aload_n 0, 1) := by decide +kernel
theorem d_Model_walk_154 : decode c_Model_walk 154 = .ok (.getfield 34, 3) := by decide +kernel
theorem d_Model_walk_157 : decode c_Model_walk 157 = .ok (.iload_n 1, 1) := by decide +kernel
theorem d_Model_walk_158 : decode c_Model_walk 158 = .ok (.iaload, 1) := by decide +kernel
theorem d_Model_walk_159 : decode c_Model_walk 159 = .ok (.if_icmp .ge 20, 3) := by decide +kernel
theorem d_Model_walk_162 : decode c_Model_walk 162 = .ok (.aload_n 0, 1) := by decide +kernel
theorem d_Model_walk_163 : decode c_Model_walk 163 = .ok (.getfield 46, 3) := by decide +kernel
theorem d_Model_walk_166 : decode c_Model_walk 166 = .ok (.iload 5, 2) := by decide +kernel
theorem d_Model_walk_168 : decode c_Model_walk 168 = .ok (.iconst 1, 1) := by decide +kernel
theorem d_Model_walk_169 : decode c_Model_walk 169 = .ok (.iadd, 1) := by decide +kernel
theorem d_Model_walk_170 : decode c_Model_walk 170 = .ok (.iaload, 1) := by decide +kernel
theorem d_Model_walk_171 : decode c_Model_walk 171 = .ok (.iload_n 2, 1) := by decide +kernel
theorem d_Model_walk_172 : decode c_Model_walk 172 = .ok (.if_icmp .le 7, 3) := by decide +kernel
theorem d_Model_walk_175 : decode c_Model_walk 175 = .ok (.iconst 1, 1) := by decide +kernel
theorem d_Model_walk_176 : decode c_Model_walk 176 = .ok (.goto 4, 3) := by decide +kernel
theorem d_Model_walk_179 : decode c_Model_walk 179 = .ok (.iconst 0, 1) := by decide +kernel
theorem d_Model_walk_180 : decode c_Model_walk 180 = .ok (.istore 7, 2) := by decide +kernel
theorem d_Model_walk_182 : decode c_Model_walk 182 = .ok (.iload 7, 2) := by decide +kernel
theorem d_Model_walk_184 : decode c_Model_walk 184 = .ok (.ifCond .eq 35, 3) := by decide +kernel
theorem d_Model_walk_187 : decode c_Model_walk 187 = .ok (.iinc 2 1, 3) := by decide +kernel
theorem d_Model_walk_190 : decode c_Model_walk 190 = .ok (.aload_n 0, 1) := by decide +kernel
theorem d_Model_walk_191 : decode c_Model_walk 191 = .ok (.getfield 65, 3) := by decide +kernel
theorem d_Model_walk_194 : decode c_Model_walk 194 = .ok (.iload_n 2, 1) := by decide +kernel
theorem d_Model_walk_195 : decode c_Model_walk 195 = .ok (.iload 4, 2) := by decide +kernel
theorem d_Model_walk_197 : decode c_Model_walk 197 = .ok (.iconst 1, 1) := by decide +kernel
theorem d_Model_walk_198 : decode c_Model_walk 198 = .ok (.iadd, 1) := by decide +kernel
theorem d_Model_walk_199 : decode c_Model_walk 199 = .ok (.iastore, 1) := by decide +kernel
theorem d_Model_walk_200 : decode c_Model_walk 200 = .ok (.aload_n 0, 1) := by decide +kernel
theorem d_Model_walk_201 : decode c_Model_walk 201 = .ok (.getfield 68, 3) := by decide +kernel
theorem d_Model_walk_204 : decode c_Model_walk 204 = .ok (.iload_n 2, 1) := by decide +kernel
theorem d_Model_walk_205 : decode c_Model_walk 205 = .ok (.iconst 0, 1) := by decide +kernel
theorem d_Model_walk_206 : decode c_Model_walk 206 = .ok (.iastore, 1) := by decide +kernel
theorem d_Model_walk_207 : decode c_Model_walk 207 = .ok (.aload_n 0, 1) := by decide +kernel
theorem d_Model_walk_208 : decode c_Model_walk 208 = .ok (.getfield 71, 3) := by decide +kernel
theorem d_Model_walk_211 : decode c_Model_walk 211 = .ok (.iload_n 2, 1) := by decide +kernel
theorem d_Model_walk_212 : decode c_Model_walk 212 = .ok (.iload_n 3, 1) := by decide +kernel
theorem d_Model_walk_213 : decode c_Model_walk 213 = .ok (.iconst 1, 1) := by decide +kernel
theorem d_Model_walk_214 : decode c_Model_walk 214 = .ok (.isub, 1) := by decide +kernel
theorem d_Model_walk_215 : decode c_Model_walk 215 = .ok (.iastore, 1) := by decide +kernel
theorem d_Model_walk_216 : decode c_Model_walk 216 = .ok (.goto 13, 3) := by decide +kernel
theorem d_Model_walk_219 : decode c_Model_walk 219 = .ok (.aload_n 0, 1) := by decide +kernel
theorem d_Model_walk_220 : decode c_Model_walk 220 = .ok (.getfield 68, 3) := by decide +kernel
theorem d_Model_walk_223 : decode c_Model_walk 223 = .ok (.iload_n 2, 1) := by decide +kernel
theorem d_Model_walk_224 : decode c_Model_walk 224 = .ok (.dup2, 1) := by decide +kernel
theorem d_Model_walk_225 : decode c_Model_walk 225 = .ok (.iaload, 1) := by decide +kernel
theorem d_Model_walk_226 : decode c_Model_walk 226 = .ok (.iconst 1, 1) := by decide +kernel
theorem d_Model_walk_227 : decode c_Model_walk 227 = .ok (.iadd, 1) := by decide +kernel
theorem d_Model_walk_228 : decode c_Model_walk 228 = .ok (.iastore, 1) := by decide +kernel
theorem d_Model_walk_229 : decode c_Model_walk 229 = .ok (.goto 50, 3) := by decide +kernel
theorem d_Model_walk_232 : decode c_Model_walk 232 = .ok (.aload_n 0, 1) := by decide +kernel
theorem d_Model_walk_233 : decode c_Model_walk 233 = .ok (.getfield 68, 3) := by decide +kernel
theorem d_Model_walk_236 : decode c_Model_walk 236 = .ok (.iload_n 2, 1) := by decide +kernel
theorem d_Model_walk_237 : decode c_Model_walk 237 = .ok (.iaload, 1) := by decide +kernel
theorem d_Model_walk_238 : decode c_Model_walk 238 = .ok (.aload_n 0, 1) := by decide +kernel
theorem d_Model_walk_239 : decode c_Model_walk 239 = .ok (.getfield 40, 3) := by decide +kernel
theorem d_Model_walk_242 : decode c_Model_walk 242 = .ok (.iload 5, 2) := by decide +kernel
theorem d_Model_walk_244 : decode c_Model_walk 244 = .ok (.iaload, 1) := by decide +kernel
theorem d_Model_walk_245 : decode c_Model_walk 245 = .ok (.if_icmp .ge 13, 3) := by decide +kernel
theorem d_Model_walk_248 : decode c_Model_walk 248 = .ok (.aload_n 0, 1) := by decide +kernel
theorem d_Model_walk_249 : decode c_Model_walk 249 = .ok (.bipush 7, 2) := by decide +kernel
theorem d_Model_walk_251 : decode c_Model_walk 251 = .ok (.iload_n 3, 1) := by decide +kernel
theorem d_Model_walk_252 : decode c_Model_walk 252 = .ok (.iload 4, 2) := by decide +kernel
theorem d_Model_walk_254 : decode c_Model_walk 254 = .ok (.invokevirtual 179, 3) := by decide +kernel
theorem d_Model_walk_257 : decode c_Model_walk 257 = .ok (.ireturn, 1) := by decide +kernel
theorem d_Model_walk_258 : decode c_Model_walk 258 = .ok (.aload_n 0, 1) := by decide +kernel
theorem d_Model_walk_259 : decode c_Model_walk 259 = .ok (.getfield 65, 3) := by decide +kernel
theorem d_Model_walk_262 : decode c_Model_walk 262 = .ok (.iload_n 2, 1) := by decide +kernel
theorem d_Model_walk_263 : decode c_Model_walk 263 = .ok (.aload_n 0, 1) := by decide +kernel
theorem d_Model_walk_264 : decode c_Model_walk 264 = .ok (.iload_n 1, 1) := by decide +kernel
theorem d_Model_walk_265 : decode c_Model_walk 265 = .ok (.iload 4, 2) := by decide +kernel
theorem d_Model_walk_267 : decode c_Model_walk 267 = .ok (.iload_n 2, 1) := by decide +kernel
theorem d_Model_walk_268 : decode c_Model_walk 268 = .ok (.invokevirtual 182, 3) := by decide +kernel
theorem d_Model_walk_271 : decode c_Model_walk 271 = .ok (.iastore, 1) := by decide +kernel
theorem d_Model_walk_272 : decode c_Model_walk 272 = .ok (.aload_n 0, 1) := by decide +kernel
theorem d_Model_walk_273 : decode c_Model_walk 273 = .ok (.getfield 68, 3) := by decide +kernel
theorem d_Model_walk_276 : decode c_Model_walk 276 = .ok (.iload_n 2, 1) := by decide +kernel
theorem d_Model_walk_277 : decode c_Model_walk 277 = .ok (.iconst 0, 1) := by decide +kernel
theorem d_Model_walk_278 : decode c_Model_walk 278 = .ok (.iastore, 1) := by decide +kernel
theorem d_Model_walk_279 : decode c_Model_walk 279 = .ok (.goto (-254), 3) := by decide +kernel
theorem d_Model_walk_282 : decode c_Model_walk 282 = .ok (.iload_n 3, 1) := by decide +kernel
theorem d_Model_walk_283 : decode c_Model_walk 283 = .ok (.aload_n 0, 1) := by decide +kernel
theorem d_Model_walk_284 : decode c_Model_walk 284 = .ok (.getfield 106, 3) := by decide +kernel
theorem d_Model_walk_287 : decode c_Model_walk 287 = .ok (.iconst 1, 1) := by decide +kernel
theorem d_Model_walk_288 : decode c_Model_walk 288 = .ok (.isub, 1) := by decide +kernel
theorem d_Model_walk_289 : decode c_Model_walk 289 = .ok (.if_icmp .ge 14, 3) := by decide +kernel
theorem d_Model_walk_292 : decode c_Model_walk 292 = .ok (.aload_n 0, 1) := by decide +kernel
theorem d_Model_walk_293 : decode c_Model_walk 293 = .ok (.bipush 8, 2) := by decide +kernel
theorem d_Model_walk_295 : decode c_Model_walk 295 = .ok (.iload_n 3, 1) := by decide +kernel
theorem d_Model_walk_296 : decode c_Model_walk 296 = .ok (.iconst (-1), 1) := by decide +kernel
theorem d_Model_walk_297 : decode c_Model_walk 297 = .ok (.invokevirtual 179, 3) := by decide +kernel
theorem d_Model_walk_300 : decode c_Model_walk 300 = .ok (.goto 4, 3) := by decide +kernel
theorem d_Model_walk_303 : decode c_Model_walk 303 = .ok (.iconst 0, 1) := by decide +kernel
theorem d_Model_walk_304 : decode c_Model_walk 304 = .ok (.ireturn, 1) := by decide +kernel
theorem d_Model_checked_0 : decode c_Model_checked 0 = .ok (.aload_n 0, 1) := by decide +kernel
theorem d_Model_checked_1 : decode c_Model_checked 1 = .ok (.getfield 16, 3) := by decide +kernel
theorem d_Model_checked_4 : decode c_Model_checked 4 = .ok (.iconst 0, 1) := by decide +kernel
theorem d_Model_checked_5 : decode c_Model_checked 5 = .ok (.iaload, 1) := by decide +kernel
theorem d_Model_checked_6 : decode c_Model_checked 6 = .ok (.ldc 185, 2) := by decide +kernel
theorem d_Model_checked_8 : decode c_Model_checked 8 = .ok (.if_icmp .eq 5, 3) := by decide +kernel
theorem d_Model_checked_11 : decode c_Model_checked 11 = .ok (.iconst 1, 1) := by decide +kernel
theorem d_Model_checked_12 : decode c_Model_checked 12 = .ok (.ireturn, 1) := by decide +kernel
theorem d_Model_checked_13 : decode c_Model_checked 13 = .ok (.aload_n 0, 1) := by decide +kernel
theorem d_Model_checked_14 : decode c_Model_checked 14 = .ok (.getfield 106, 3) := by decide +kernel
theorem d_Model_checked_17 : decode c_Model_checked 17 = .ok (.iconst 1, 1) := by decide +kernel
theorem d_Model_checked_18 : decode c_Model_checked 18 = .ok (.isub, 1) := by decide +kernel
theorem d_Model_checked_19 : decode c_Model_checked 19 = .ok (.istore_n 1, 1) := by decide +kernel
theorem d_Model_checked_20 : decode c_Model_checked 20 = .ok (.iload_n 1, 1) := by decide +kernel
theorem d_Model_checked_21 : decode c_Model_checked 21 = .ok (.ifCond .eq 14, 3) := by decide +kernel
theorem d_Model_checked_24 : decode c_Model_checked 24 = .ok (.aload_n 0, 1) := by decide +kernel
theorem d_Model_checked_25 : decode c_Model_checked 25 = .ok (.getfield 16, 3) := by decide +kernel
theorem d_Model_checked_28 : decode c_Model_checked 28 = .ok (.iload_n 1, 1) := by decide +kernel
theorem d_Model_checked_29 : decode c_Model_checked 29 = .ok (.iaload, 1) := by decide +kernel
theorem d_Model_checked_30 : decode c_Model_checked 30 = .ok (.ldc 186, 2) := by decide +kernel
theorem d_Model_checked_32 : decode c_Model_checked 32 = .ok (.if_icmp .eq 5, 3) := by decide +kernel
theorem d_Model_checked_35 : decode c_Model_checked 35 = .ok (.iconst 2, 1) := by decide +kernel
theorem d_Model_checked_36 : decode c_Model_checked 36 = .ok (.ireturn, 1) := by decide +kernel
theorem d_Model_checked_37 : decode c_Model_checked 37 = .ok (.aload_n 0, 1) := by decide +kernel
theorem d_Model_checked_38 : decode c_Model_checked 38 = .ok (.aload_n 0, 1) := by decide +kernel
theorem d_Model_checked_39 : decode c_Model_checked 39 = .ok (.iload_n 1, 1) := by decide +kernel
theorem d_Model_checked_40 : decode c_Model_checked 40 = .ok (.iconst 0, 1) := by decide +kernel
theorem d_Model_checked_41 : decode c_Model_checked 41 = .ok (.iconst 0, 1) := by decide +kernel
theorem d_Model_checked_42 : decode c_Model_checked 42 = .ok (.iconst 0, 1) := by decide +kernel
theorem d_Model_checked_43 : decode c_Model_checked 43 = .ok (.invokevirtual 169, 3) := by decide +kernel
theorem d_Model_checked_46 : decode c_Model_checked 46 = .ok (.invokevirtual 187, 3) := by decide +kernel
theorem d_Model_checked_49 : decode c_Model_checked 49 = .ok (.ifCond .ne 5, 3) := by decide +kernel
theorem d_Model_checked_52 : decode c_Model_checked 52 = .ok (.iconst 3, 1) := by decide +kernel
theorem d_Model_checked_53 : decode c_Model_checked 53 = .ok (.ireturn, 1) := by decide +kernel
theorem d_Model_checked_54 : decode c_Model_checked 54 = .ok (.aload_n 0, 1) := by decide +kernel
theorem d_Model_checked_55 : decode c_Model_checked 55 = .ok (.aload_n 0, 1) := by decide +kernel
theorem d_Model_checked_56 : decode c_Model_checked 56 = .ok (.iload_n 1, 1) := by decide +kernel
theorem d_Model_checked_57 : decode c_Model_checked 57 = .ok (.iconst 1, 1) := by decide +kernel
theorem d_Model_checked_58 : decode c_Model_checked 58 = .ok (.iconst 0, 1) := by decide +kernel
theorem d_Model_checked_59 : decode c_Model_checked 59 = .ok (.iconst 0, 1) := by decide +kernel
theorem d_Model_checked_60 : decode c_Model_checked 60 = .ok (.invokevirtual 169, 3) := by decide +kernel
theorem d_Model_checked_63 : decode c_Model_checked 63 = .ok (.aload_n 0, 1) := by decide +kernel
theorem d_Model_checked_64 : decode c_Model_checked 64 = .ok (.iconst 0, 1) := by decide +kernel
theorem d_Model_checked_65 : decode c_Model_checked 65 = .ok (.iconst 0, 1) := by decide +kernel
theorem d_Model_checked_66 : decode c_Model_checked 66 = .ok (.iconst 0, 1) := by decide +kernel
theorem d_Model_checked_67 : decode c_Model_checked 67 = .ok (.iconst 0, 1) := by decide +kernel
theorem d_Model_checked_68 : decode c_Model_checked 68 = .ok (.invokevirtual 169, 3) := by decide +kernel
theorem d_Model_checked_71 : decode c_Model_checked 71 = .ok (.invokevirtual 190, 3) := by decide +kernel
theorem d_Model_checked_74 : decode c_Model_checked 74 = .ok (.ifCond .ne 5, 3) := by decide +kernel
theorem d_Model_checked_77 : decode c_Model_checked 77 = .ok (.iconst 4, 1) := by decide +kernel
theorem d_Model_checked_78 : decode c_Model_checked 78 = .ok (.ireturn, 1) := by decide +kernel
theorem d_Model_checked_79 : decode c_Model_checked 79 = .ok (.aload_n 0, 1) := by decide +kernel
theorem d_Model_checked_80 : decode c_Model_checked 80 = .ok (.invokevirtual 194, 3) := by decide +kernel
theorem d_Model_checked_83 : decode c_Model_checked 83 = .ok (.istore_n 2, 1) := by decide +kernel
theorem d_Model_checked_84 : decode c_Model_checked 84 = .ok (.iload_n 2, 1) := by decide +kernel
theorem d_Model_checked_85 : decode c_Model_checked 85 = .ok (.iconst (-1), 1) := by decide +kernel
theorem d_Model_checked_86 : decode c_Model_checked 86 = .ok (.if_icmp .ne 5, 3) := by decide +kernel
theorem d_Model_checked_89 : decode c_Model_checked 89 = .ok (.iconst 5, 1) := by decide +kernel
theorem d_Model_checked_90 : decode c_Model_checked 90 = .ok (.ireturn, 1) := by decide +kernel
theorem d_Model_checked_91 : decode c_Model_checked 91 = .ok (.aload_n 0, 1) := by decide +kernel
theorem d_Model_checked_92 : decode c_Model_checked 92 = .ok (.iload_n 2, 1) := by decide +kernel
theorem d_Model_checked_93 : decode c_Model_checked 93 = .ok (.invokevirtual 197, 3) := by decide +kernel
theorem d_Model_checked_96 : decode c_Model_checked 96 = .ok (.istore_n 3, 1) := by decide +kernel
theorem d_Model_checked_97 : decode c_Model_checked 97 = .ok (.iload_n 3, 1) := by decide +kernel
theorem d_Model_checked_98 : decode c_Model_checked 98 = .ok (.iconst (-1), 1) := by decide +kernel
theorem d_Model_checked_99 : decode c_Model_checked 99 = .ok (.if_icmp .eq 14, 3) := by decide +kernel
theorem d_Model_checked_102 : decode c_Model_checked 102 = .ok (.aload_n 0, 1) := by decide +kernel
theorem d_Model_checked_103 : decode c_Model_checked 103 = .ok (.bipush 6, 2) := by decide +kernel
theorem d_Model_checked_105 : decode c_Model_checked 105 = .ok (.iload_n 3, 1) := by decide +kernel
theorem d_Model_checked_106 : decode c_Model_checked 106 = .ok (.iconst (-1), 1) := by decide +kernel
theorem d_Model_checked_107 : decode c_Model_checked 107 = .ok (.invokevirtual 179, 3) := by decide +kernel
theorem d_Model_checked_110 : decode c_Model_checked 110 = .ok (.goto 8, 3) := by decide +kernel
theorem d_Model_checked_113 : decode c_Model_checked 113 = .ok (.aload_n 0, 1) := by decide +kernel
theorem d_Model_checked_114 : decode c_Model_checked 114 = .ok (.iload_n 2, 1) := by decide +kernel
theorem d_Model_checked_115 : decode c_Model_checked 115 = .ok (.invokevirtual 200, 3) := by decide +kernel
theorem d_Model_checked_118 : decode c_Model_checked 118 = .ok (.ireturn, 1) := by decide +kernel
theorem d_Model_check_0 : decode c_Model_check 0 = .ok (.aload_n 0, 1) := by decide +kernel
theorem d_Model_check_1 : decode c_Model_check 1 = .ok (.aload_n 0, 1) := by decide +kernel
theorem d_Model_check_2 : decode c_Model_check 2 = .ok (.getfield 147, 3) := by decide +kernel
theorem d_Model_check_5 : decode c_Model_check 5 = .ok (.ifCond .eq 7, 3) := by decide +kernel
theorem d_Model_check_8 : decode c_Model_check 8 = .ok (.iconst 0, 1) := by decide +kernel
theorem d_Model_check_9 : decode c_Model_check 9 = .ok (.goto 4, 3) := by decide +kernel
theorem d_Model_check_12 : decode c_Model_check 12 = .ok (.iconst 1, 1) := by decide +kernel
theorem d_Model_check_13 : decode c_Model_check 13 = .ok (.putfield 80, 3) := by decide +kernel
theorem d_Model_check_16 : decode c_Model_check 16 = .ok (.aload_n 0, 1) := by decide +kernel
theorem d_Model_check_17 : decode c_Model_check 17 = .ok (.getfield 80, 3) := by decide +kernel
theorem d_Model_check_20 : decode c_Model_check 20 = .ok (.ifCond .eq 5, 3) := by decide +kernel
theorem d_Model_check_23 : decode c_Model_check 23 = .ok (.iconst 0, 1) := by decide +kernel
theorem d_Model_check_24 : decode c_Model_check 24 = .ok (.ireturn, 1) := by decide +kernel
theorem d_Model_check_25 : decode c_Model_check 25 = .ok (.iconst 0, 1) := by decide +kernel
theorem d_Model_check_26 : decode c_Model_check 26 = .ok (.istore_n 1, 1) := by decide +kernel
theorem d_Model_check_27 : decode c_Model_check 27 = .ok (.iload_n 1, 1) := by decide +kernel
theorem d_Model_check_28 : decode c_Model_check 28 = .ok (.aload_n 0, 1) := by decide +kernel
theorem d_Model_check_29 : decode c_Model_check 29 = .ok (.getfield 106, 3) := by decide +kernel
theorem d_Model_check_32 : decode c_Model_check 32 = .ok (.if_icmp .ge 14, 3) := by decide +kernel
theorem d_Model_check_35 : decode c_Model_check 35 = .ok (.aload_n 0, 1) := by decide +kernel
theorem d_Model_check_36 : decode c_Model_check 36 = .ok (.iload_n 1, 1) := by decide +kernel
theorem d_Model_check_37 : decode c_Model_check 37 = .ok (.invokevirtual 151, 3) := by decide +kernel
theorem d_Model_check_40 : decode c_Model_check 40 = .ok (.iinc 1 1, 3) := by decide +kernel
theorem d_Model_check_43 : decode c_Model_check 43 = .ok (.goto (-16), 3) := by decide +kernel
theorem d_Model_check_46 : decode c_Model_check 46 = .ok (.aload_n 0, 1) := by decide +kernel
theorem d_Model_check_47 : decode c_Model_check 47 = .ok (.iconst (-1), 1) := by decide +kernel
theorem d_Model_check_48 : decode c_Model_check 48 = .ok (.putfield 53, 3) := by decide +kernel
theorem d_Model_check_51 : decode c_Model_check 51 = .ok (.aload_n 0, 1) := by decide +kernel
theorem d_Model_check_52 : decode c_Model_check 52 = .ok (.iconst (-1), 1) := by decide +kernel
theorem d_Model_check_53 : decode c_Model_check 53 = .ok (.putfield 56, 3) := by decide +kernel
theorem d_Model_check_56 : decode c_Model_check 56 = .ok (.aload_n 0, 1) := by decide +kernel
theorem d_Model_check_57 : decode c_Model_check 57 = .ok (.aload_n 0, 1) := by decide +kernel
theorem d_Model_check_58 : decode c_Model_check 58 = .ok (.invokevirtual 203, 3) := by decide +kernel
theorem d_Model_check_61 : decode c_Model_check 61 = .ok (.putfield 49, 3) := by decide +kernel
theorem d_Model_check_64 : decode c_Model_check 64 = .ok (.aload_n 0, 1) := by decide +kernel
theorem d_Model_check_65 : decode c_Model_check 65 = .ok (.getfield 49, 3) := by decide +kernel
theorem d_Model_check_68 : decode c_Model_check 68 = .ok (.ireturn, 1) := by decide +kernel
theorem d_Model_fault_0 : decode c_Model_fault 0 = .ok (.aload_n 0, 1) := by decide +kernel
theorem d_Model_fault_1 : decode c_Model_fault 1 = .ok (.iconst 0, 1) := by decide +kernel
theorem d_Model_fault_2 : decode c_Model_fault 2 = .ok (.putfield 80, 3) := by decide +kernel
theorem d_Model_fault_5 : decode c_Model_fault 5 = .ok (.iload_n 1, 1) := by decide +kernel
theorem d_Model_fault_6 : decode c_Model_fault 6 = .ok (.ifCond .ne 10, 3) := by decide +kernel
theorem d_Model_fault_9 : decode c_Model_fault 9 = .ok (.aload_n 0, 1) := by decide +kernel
theorem d_Model_fault_10 : decode c_Model_fault 10 = .ok (.getfield 49, 3) := by decide +kernel
theorem d_Model_fault_13 : decode c_Model_fault 13 = .ok (.goto 28, 3) := by decide +kernel
theorem d_Model_fault_16 : decode c_Model_fault 16 = .ok (.iload_n 1, 1) := by decide +kernel
theorem d_Model_fault_17 : decode c_Model_fault 17 = .ok (.iconst 1, 1) := by decide +kernel
theorem d_Model_fault_18 : decode c_Model_fault 18 = .ok (.if_icmp .ne 10, 3) := by decide +kernel
theorem d_Model_fault_21 : decode c_Model_fault 21 = .ok (.aload_n 0, 1) := by decide +kernel
theorem d_Model_fault_22 : decode c_Model_fault 22 = .ok (.getfield 53, 3) := by decide +kernel
theorem d_Model_fault_25 : decode c_Model_fault 25 = .ok (.goto 16, 3) := by decide +kernel
theorem d_Model_fault_28 : decode c_Model_fault 28 = .ok (.iload_n 1, 1) := by decide +kernel
theorem d_Model_fault_29 : decode c_Model_fault 29 = .ok (.iconst 2, 1) := by decide +kernel
theorem d_Model_fault_30 : decode c_Model_fault 30 = .ok (.if_icmp .ne 10, 3) := by decide +kernel
theorem d_Model_fault_33 : decode c_Model_fault 33 = .ok (.aload_n 0, 1) := by decide +kernel
theorem d_Model_fault_34 : decode c_Model_fault 34 = .ok (.getfield 56, 3) := by decide +kernel
theorem d_Model_fault_37 : decode c_Model_fault 37 = .ok (.goto 4, 3) := by decide +kernel
theorem d_Model_fault_40 : decode c_Model_fault 40 = .ok (.iconst (-1), 1) := by decide +kernel
theorem d_Model_fault_41 : decode c_Model_fault 41 = .ok (.ireturn, 1) := by decide +kernel
theorem d_Model_put_0 : decode c_Model_put 0 = .ok (.aload_n 0, 1) := by decide +kernel
theorem d_Model_put_1 : decode c_Model_put 1 = .ok (.getfield 74, 3) := by decide +kernel
theorem d_Model_put_4 : decode c_Model_put 4 = .ok (.aload_n 0, 1) := by decide +kernel
theorem d_Model_put_5 : decode c_Model_put 5 = .ok (.getfield 206, 3) := by decide +kernel
theorem d_Model_put_8 : decode c_Model_put 8 = .ok (.iload_n 1, 1) := by decide +kernel
theorem d_Model_put_9 : decode c_Model_put 9 = .ok (.iastore, 1) := by decide +kernel
theorem d_Model_put_10 : decode c_Model_put 10 = .ok (.aload_n 0, 1) := by decide +kernel
theorem d_Model_put_11 : decode c_Model_put 11 = .ok (.dup, 1) := by decide +kernel
theorem d_Model_put_12 : decode c_Model_put 12 = .ok (.getfield 206, 3) := by decide +kernel
theorem d_Model_put_15 : decode c_Model_put 15 = .ok (.iconst 1, 1) := by decide +kernel
theorem d_Model_put_16 : decode c_Model_put 16 = .ok (.iadd, 1) := by decide +kernel
theorem d_Model_put_17 : decode c_Model_put 17 = .ok (.putfield 206, 3) := by decide +kernel
theorem d_Model_put_20 : decode c_Model_put 20 = .ok (.return_, 1) := by decide +kernel
theorem d_Model_isService_0 : decode c_Model_isService 0 = .ok (.iconst 0, 1) := by decide +kernel
theorem d_Model_isService_1 : decode c_Model_isService 1 = .ok (.istore_n 2, 1) := by decide +kernel
theorem d_Model_isService_2 : decode c_Model_isService 2 = .ok (.iload_n 2, 1) := by decide +kernel
theorem d_Model_isService_3 : decode c_Model_isService 3 = .ok (.iconst 5, 1) := by decide +kernel
theorem d_Model_isService_4 : decode c_Model_isService 4 = .ok (.if_icmp .ge 21, 3) := by decide +kernel
theorem d_Model_isService_7 : decode c_Model_isService 7 = .ok (.aload_n 0, 1) := by decide +kernel
theorem d_Model_isService_8 : decode c_Model_isService 8 = .ok (.getfield 13, 3) := by decide +kernel
theorem d_Model_isService_11 : decode c_Model_isService 11 = .ok (.iload_n 2, 1) := by decide +kernel
theorem d_Model_isService_12 : decode c_Model_isService 12 = .ok (.iaload, 1) := by decide +kernel
theorem d_Model_isService_13 : decode c_Model_isService 13 = .ok (.iload_n 1, 1) := by decide +kernel
theorem d_Model_isService_14 : decode c_Model_isService 14 = .ok (.if_icmp .ne 5, 3) := by decide +kernel
theorem d_Model_isService_17 : decode c_Model_isService 17 = .ok (.iconst 1, 1) := by decide +kernel
theorem d_Model_isService_18 : decode c_Model_isService 18 = .ok (.ireturn, 1) := by decide +kernel
theorem d_Model_isService_19 : decode c_Model_isService 19 = .ok (.iinc 2 1, 3) := by decide +kernel
theorem d_Model_isService_22 : decode c_Model_isService 22 = .ok (.goto (-20), 3) := by decide +kernel
theorem d_Model_isService_25 : decode c_Model_isService 25 = .ok (.iconst 0, 1) := by decide +kernel
theorem d_Model_isService_26 : decode c_Model_isService 26 = .ok (.ireturn, 1) := by decide +kernel
theorem d_Model_fullComponents_0 : decode c_Model_fullComponents 0 = .ok (.aload_n 0, 1) := by decide +kernel
theorem d_Model_fullComponents_1 : decode c_Model_fullComponents 1 = .ok (.iload_n 1, 1) := by decide +kernel
theorem d_Model_fullComponents_2 : decode c_Model_fullComponents 2 = .ok (.iload_n 2, 1) := by decide +kernel
theorem d_Model_fullComponents_3 : decode c_Model_fullComponents 3 = .ok (.iload_n 3, 1) := by decide +kernel
theorem d_Model_fullComponents_4 : decode c_Model_fullComponents 4 = .ok (.invokevirtual 162, 3) := by decide +kernel
theorem d_Model_fullComponents_7 : decode c_Model_fullComponents 7 = .ok (.istore 4, 2) := by decide +kernel
theorem d_Model_fullComponents_9 : decode c_Model_fullComponents 9 = .ok (.iload 4, 2) := by decide +kernel
theorem d_Model_fullComponents_11 : decode c_Model_fullComponents 11 = .ok (.ifCond .le 27, 3) := by decide +kernel
theorem d_Model_fullComponents_14 : decode c_Model_fullComponents 14 = .ok (.aload_n 0, 1) := by decide +kernel
theorem d_Model_fullComponents_15 : decode c_Model_fullComponents 15 = .ok (.aload_n 0, 1) := by decide +kernel
theorem d_Model_fullComponents_16 : decode c_Model_fullComponents 16 = .ok (.iload_n 1, 1) := by decide +kernel
theorem d_Model_fullComponents_17 : decode c_Model_fullComponents 17 = .ok (.iload_n 2, 1) := by decide +kernel
theorem d_Model_fullComponents_18 : decode c_Model_fullComponents 18 = .ok (.iload_n 3, 1) := by decide +kernel
theorem d_Model_fullComponents_19 : decode c_Model_fullComponents 19 = .ok (.iload 4, 2) := by decide +kernel
theorem d_Model_fullComponents_21 : decode c_Model_fullComponents 21 = .ok (.iconst 1, 1) := by decide +kernel
theorem d_Model_fullComponents_22 : decode c_Model_fullComponents 22 = .ok (.isub, 1) := by decide +kernel
theorem d_Model_fullComponents_23 : decode c_Model_fullComponents 23 = .ok (.invokevirtual 169, 3) := by decide +kernel
theorem d_Model_fullComponents_26 : decode c_Model_fullComponents 26 = .ok (.invokevirtual 173, 3) := by decide +kernel
theorem d_Model_fullComponents_29 : decode c_Model_fullComponents 29 = .ok (.ifCond .ne 9, 3) := by decide +kernel
theorem d_Model_fullComponents_32 : decode c_Model_fullComponents 32 = .ok (.iinc 4 (-1), 3) := by decide +kernel
theorem d_Model_fullComponents_35 : decode c_Model_fullComponents 35 = .ok (.goto (-26), 3) := by decide +kernel
theorem d_Model_fullComponents_38 : decode c_Model_fullComponents 38 = .ok (.iload 4, 2) := by decide +kernel
theorem d_Model_fullComponents_40 : decode c_Model_fullComponents 40 = .ok (.ireturn, 1) := by decide +kernel
theorem d_Model_fullRepeats_0 : decode c_Model_fullRepeats 0 = .ok (.aload_n 0, 1) := by decide +kernel
theorem d_Model_fullRepeats_1 : decode c_Model_fullRepeats 1 = .ok (.iload_n 1, 1) := by decide +kernel
theorem d_Model_fullRepeats_2 : decode c_Model_fullRepeats 2 = .ok (.iload_n 2, 1) := by decide +kernel
theorem d_Model_fullRepeats_3 : decode c_Model_fullRepeats 3 = .ok (.invokevirtual 158, 3) := by decide +kernel
theorem d_Model_fullRepeats_6 : decode c_Model_fullRepeats 6 = .ok (.istore_n 3, 1) := by decide +kernel
theorem d_Model_fullRepeats_7 : decode c_Model_fullRepeats 7 = .ok (.iload_n 3, 1) := by decide +kernel
theorem d_Model_fullRepeats_8 : decode c_Model_fullRepeats 8 = .ok (.ifCond .le 21, 3) := by decide +kernel
theorem d_Model_fullRepeats_11 : decode c_Model_fullRepeats 11 = .ok (.aload_n 0, 1) := by decide +kernel
theorem d_Model_fullRepeats_12 : decode c_Model_fullRepeats 12 = .ok (.iload_n 1, 1) := by decide +kernel
theorem d_Model_fullRepeats_13 : decode c_Model_fullRepeats 13 = .ok (.iload_n 2, 1) := by decide +kernel
theorem d_Model_fullRepeats_14 : decode c_Model_fullRepeats 14 = .ok (.iload_n 3, 1) := by decide +kernel
theorem d_Model_fullRepeats_15 : decode c_Model_fullRepeats 15 = .ok (.iconst 1, 1) := by decide +kernel
theorem d_Model_fullRepeats_16 : decode c_Model_fullRepeats 16 = .ok (.isub, 1) := by decide +kernel
theorem d_Model_fullRepeats_17 : decode c_Model_fullRepeats 17 = .ok (.invokevirtual 209, 3) := by decide +kernel
theorem d_Model_fullRepeats_20 : decode c_Model_fullRepeats 20 = .ok (.ifCond .ne 9, 3) := by decide +kernel
theorem d_Model_fullRepeats_23 : decode c_Model_fullRepeats 23 = .ok (.iinc 3 (-1), 3) := by decide +kernel
theorem d_Model_fullRepeats_26 : decode c_Model_fullRepeats 26 = .ok (.goto (-19), 3) := by decide +kernel
theorem d_Model_fullRepeats_29 : decode c_Model_fullRepeats 29 = .ok (.iload_n 3, 1) := by decide +kernel
theorem d_Model_fullRepeats_30 : decode c_Model_fullRepeats 30 = .ok (.ireturn, 1) := by decide +kernel
theorem d_Model_fullElements_0 : decode c_Model_fullElements 0 = .ok (.aload_n 0, 1) := by decide +kernel
theorem d_Model_fullElements_1 : decode c_Model_fullElements 1 = .ok (.iload_n 1, 1) := by decide +kernel
theorem d_Model_fullElements_2 : decode c_Model_fullElements 2 = .ok (.invokevirtual 154, 3) := by decide +kernel
theorem d_Model_fullElements_5 : decode c_Model_fullElements 5 = .ok (.istore_n 2, 1) := by decide +kernel
theorem d_Model_fullElements_6 : decode c_Model_fullElements 6 = .ok (.iload_n 2, 1) := by decide +kernel
theorem d_Model_fullElements_7 : decode c_Model_fullElements 7 = .ok (.ifCond .le 20, 3) := by decide +kernel
theorem d_Model_fullElements_10 : decode c_Model_fullElements 10 = .ok (.aload_n 0, 1) := by decide +kernel
theorem d_Model_fullElements_11 : decode c_Model_fullElements 11 = .ok (.iload_n 1, 1) := by decide +kernel
theorem d_Model_fullElements_12 : decode c_Model_fullElements 12 = .ok (.iload_n 2, 1) := by decide +kernel
theorem d_Model_fullElements_13 : decode c_Model_fullElements 13 = .ok (.iconst 1, 1) := by decide +kernel
theorem d_Model_fullElements_14 : decode c_Model_fullElements 14 = .ok (.isub, 1) := by decide +kernel
theorem d_Model_fullElements_15 : decode c_Model_fullElements 15 = .ok (.invokevirtual 212, 3) := by decide +kernel
theorem d_Model_fullElements_18 : decode c_Model_fullElements 18 = .ok (.ifCond .ne 9, 3) := by decide +kernel
theorem d_Model_fullElements_21 : decode c_Model_fullElements 21 = .ok (.iinc 2 (-1), 3) := by decide +kernel
theorem d_Model_fullElements_24 : decode c_Model_fullElements 24 = .ok (.goto (-18), 3) := by decide +kernel
theorem d_Model_fullElements_27 : decode c_Model_fullElements 27 = .ok (.iload_n 2, 1) := by decide +kernel
theorem d_Model_fullElements_28 : decode c_Model_fullElements 28 = .ok (.ireturn, 1) := by decide +kernel
theorem d_Model_putRepeat_0 : decode c_Model_putRepeat 0 = .ok (.aload_n 0, 1) := by decide +kernel
theorem d_Model_putRepeat_1 : decode c_Model_putRepeat 1 = .ok (.iload_n 1, 1) := by decide +kernel
theorem d_Model_putRepeat_2 : decode c_Model_putRepeat 2 = .ok (.iload_n 2, 1) := by decide +kernel
theorem d_Model_putRepeat_3 : decode c_Model_putRepeat 3 = .ok (.iload_n 3, 1) := by decide +kernel
theorem d_Model_putRepeat_4 : decode c_Model_putRepeat 4 = .ok (.invokevirtual 209, 3) := by decide +kernel
theorem d_Model_putRepeat_7 : decode c_Model_putRepeat 7 = .ok (.istore 4, 2) := by decide +kernel
theorem d_Model_putRepeat_9 : decode c_Model_putRepeat 9 = .ok (.iconst 0, 1) := by decide +kernel
theorem d_Model_putRepeat_10 : decode c_Model_putRepeat 10 = .ok (.istore 5, 2) := by decide +kernel
theorem d_Model_putRepeat_12 : decode c_Model_putRepeat 12 = .ok (.iload 5, 2) := by decide +kernel
theorem d_Model_putRepeat_14 : decode c_Model_putRepeat 14 = .ok (.iload 4, 2) := by decide +kernel
theorem d_Model_putRepeat_16 : decode c_Model_putRepeat 16 = .ok (.if_icmp .ge 99, 3) := by decide +kernel
theorem d_Model_putRepeat_19 : decode c_Model_putRepeat 19 = .ok (.iload 5, 2) := by decide +kernel
theorem d_Model_putRepeat_21 : decode c_Model_putRepeat 21 = .ok (.ifCond .le 13, 3) := by decide +kernel
theorem d_Model_putRepeat_24 : decode c_Model_putRepeat 24 = .ok (.aload_n 0, 1) := by decide +kernel
theorem d_Model_putRepeat_25 : decode c_Model_putRepeat 25 = .ok (.aload_n 0, 1) := by decide +kernel
theorem d_Model_putRepeat_26 : decode c_Model_putRepeat 26 = .ok (.getfield 13, 3) := by decide +kernel
theorem d_Model_putRepeat_29 : decode c_Model_putRepeat 29 = .ok (.iconst 0, 1) := by decide +kernel
theorem d_Model_putRepeat_30 : decode c_Model_putRepeat 30 = .ok (.iaload, 1) := by decide +kernel
theorem d_Model_putRepeat_31 : decode c_Model_putRepeat 31 = .ok (.invokevirtual 215, 3) := by decide +kernel
theorem d_Model_putRepeat_34 : decode c_Model_putRepeat 34 = .ok (.aload_n 0, 1) := by decide +kernel
theorem d_Model_putRepeat_35 : decode c_Model_putRepeat 35 = .ok (.iload_n 1, 1) := by decide +kernel
theorem d_Model_putRepeat_36 : decode c_Model_putRepeat 36 = .ok (.iload_n 2, 1) := by decide +kernel
theorem d_Model_putRepeat_37 : decode c_Model_putRepeat 37 = .ok (.iload_n 3, 1) := by decide +kernel
theorem d_Model_putRepeat_38 : decode c_Model_putRepeat 38 = .ok (.iload 5, 2) := by decide +kernel
theorem d_Model_putRepeat_40 : decode c_Model_putRepeat 40 = .ok (.invokevirtual 169, 3) := by decide +kernel
theorem d_Model_putRepeat_43 : decode c_Model_putRepeat 43 = .ok (.istore 6, 2) := by decide +kernel
theorem d_Model_putRepeat_45 : decode c_Model_putRepeat 45 = .ok (.aload_n 0, 1) := by decide +kernel
theorem d_Model_putRepeat_46 : decode c_Model_putRepeat 46 = .ok (.getfield 28, 3) := by decide +kernel
theorem d_Model_putRepeat_49 : decode c_Model_putRepeat 49 = .ok (.iload 6, 2) := by decide +kernel
theorem d_Model_putRepeat_51 : decode c_Model_putRepeat 51 = .ok (.iaload, 1) := by decide +kernel
theorem d_Model_putRepeat_52 : decode c_Model_putRepeat 52 = .ok (.istore 7, 2) := by decide +kernel
theorem d_Model_putRepeat_54 : decode c_Model_putRepeat 54 = .ok (.iload 7, 2) := by decide +kernel
theorem d_Model_putRepeat_56 : decode c_Model_putRepeat 56 = .ok (.aload_n 0, 1) := by decide +kernel
theorem d_Model_putRepeat_57 : decode c_Model_putRepeat 57 = .ok (.getfield 28, 3) := by decide +kernel
theorem d_Model_putRepeat_60 : decode c_Model_putRepeat 60 = .ok (.iload 6, 2) := by decide +kernel
theorem d_Model_putRepeat_62 : decode c_Model_putRepeat 62 = .ok (.iconst 1, 1) := by decide +kernel
theorem d_Model_putRepeat_63 : decode c_Model_putRepeat 63 = .ok (.iadd, 1) := by decide +kernel
theorem d_Model_putRepeat_64 : decode c_Model_putRepeat 64 = .ok (.iaload, 1) := by decide +kernel
theorem d_Model_putRepeat_65 : decode c_Model_putRepeat 65 = .ok (.if_icmp .ge 44, 3) := by decide +kernel
theorem d_Model_putRepeat_68 : decode c_Model_putRepeat 68 = .ok (.aload_n 0, 1) := by decide +kernel
theorem d_Model_putRepeat_69 : decode c_Model_putRepeat 69 = .ok (.aload_n 0, 1) := by decide +kernel
theorem d_Model_putRepeat_70 : decode c_Model_putRepeat 70 = .ok (.getfield 31, 3) := by decide +kernel
theorem d_Model_putRepeat_73 : decode c_Model_putRepeat 73 = .ok (.iload 7, 2) := by decide +kernel
theorem d_Model_putRepeat_75 : decode c_Model_putRepeat 75 = .ok (.iaload, 1) := by decide +kernel
theorem d_Model_putRepeat_76 : decode c_Model_putRepeat 76 = .ok (.invokevirtual 218, 3) := by decide +kernel
theorem d_Model_putRepeat_79 : decode c_Model_putRepeat 79 = .ok (.ifCond .eq 13, 3) := by decide +kernel
theorem d_Model_putRepeat_82 : decode c_Model_putRepeat 82 = .ok (.aload_n 0, 1) := by decide +kernel
theorem d_Model_putRepeat_83 : decode c_Model_putRepeat 83 = .ok (.aload_n 0, 1) := by decide +kernel
theorem d_Model_putRepeat_84 : decode c_Model_putRepeat 84 = .ok (.getfield 13, 3) := by decide +kernel
theorem d_Model_putRepeat_87 : decode c_Model_putRepeat 87 = .ok (.iconst 2, 1) := by decide +kernel
theorem d_Model_putRepeat_88 : decode c_Model_putRepeat 88 = .ok (.iaload, 1) := by decide +kernel
theorem d_Model_putRepeat_89 : decode c_Model_putRepeat 89 = .ok (.invokevirtual 215, 3) := by decide +kernel
theorem d_Model_putRepeat_92 : decode c_Model_putRepeat 92 = .ok (.aload_n 0, 1) := by decide +kernel
theorem d_Model_putRepeat_93 : decode c_Model_putRepeat 93 = .ok (.aload_n 0, 1) := by decide +kernel
theorem d_Model_putRepeat_94 : decode c_Model_putRepeat 94 = .ok (.getfield 31, 3) := by decide +kernel
theorem d_Model_putRepeat_97 : decode c_Model_putRepeat 97 = .ok (.iload 7, 2) := by decide +kernel
theorem d_Model_putRepeat_99 : decode c_Model_putRepeat 99 = .ok (.iaload, 1) := by decide +kernel
theorem d_Model_putRepeat_100 : decode c_Model_putRepeat 100 = .ok (.invokevirtual 215, 3) := by decide +kernel
theorem d_Model_putRepeat_103 : decode c_Model_putRepeat 103 = .ok (.iinc 7 1, 3) := by decide +kernel
theorem d_Model_putRepeat_106 : decode c_Model_putRepeat 106 = .ok (.goto (-52), 3) := by decide +kernel
theorem d_Model_putRepeat_109 : decode c_Model_putRepeat 109 = .ok (.iinc 5 1, 3) := by decide +kernel
theorem d_Model_putRepeat_112 : decode c_Model_putRepeat 112 = .ok (.goto (-100), 3) := by decide +kernel
theorem d_Model_putRepeat_115 : decode c_Model_putRepeat 115 = .ok (.return_, 1) := by decide +kernel
theorem d_Model_build_0 : decode c_Model_build 0 = .ok (.aload_n 0, 1) := by decide +kernel
theorem d_Model_build_1 : decode c_Model_build 1 = .ok (.aload_n 0, 1) := by decide +kernel
theorem d_Model_build_2 : decode c_Model_build 2 = .ok (.getfield 147, 3) := by decide +kernel
theorem d_Model_build_5 : decode c_Model_build 5 = .ok (.ifCond .eq 7, 3) := by decide +kernel
theorem d_Model_build_8 : decode c_Model_build 8 = .ok (.iconst 0, 1) := by decide +kernel
theorem d_Model_build_9 : decode c_Model_build 9 = .ok (.goto 4, 3) := by decide +kernel
theorem d_Model_build_12 : decode c_Model_build 12 = .ok (.iconst 1, 1) := by decide +kernel
theorem d_Model_build_13 : decode c_Model_build 13 = .ok (.putfield 80, 3) := by decide +kernel
theorem d_Model_build_16 : decode c_Model_build 16 = .ok (.aload_n 0, 1) := by decide +kernel
theorem d_Model_build_17 : decode c_Model_build 17 = .ok (.getfield 80, 3) := by decide +kernel
theorem d_Model_build_20 : decode c_Model_build 20 = .ok (.ifCond .eq 5, 3) := by decide +kernel
theorem d_Model_build_23 : decode c_Model_build 23 = .ok (.iconst 0, 1) := by decide +kernel
theorem d_Model_build_24 : decode c_Model_build 24 = .ok (.ireturn, 1) := by decide +kernel
theorem d_Model_build_25 : decode c_Model_build 25 = .ok (.aload_n 0, 1) := by decide +kernel
theorem d_Model_build_26 : decode c_Model_build 26 = .ok (.iconst 0, 1) := by decide +kernel
theorem d_Model_build_27 : decode c_Model_build 27 = .ok (.putfield 206, 3) := by decide +kernel
theorem d_Model_build_30 : decode c_Model_build 30 = .ok (.iconst 0, 1) := by decide +kernel
theorem d_Model_build_31 : decode c_Model_build 31 = .ok (.istore_n 1, 1) := by decide +kernel
theorem d_Model_build_32 : decode c_Model_build 32 = .ok (.iload_n 1, 1) := by decide +kernel
theorem d_Model_build_33 : decode c_Model_build 33 = .ok (.aload_n 0, 1) := by decide +kernel
theorem d_Model_build_34 : decode c_Model_build 34 = .ok (.getfield 106, 3) := by decide +kernel
theorem d_Model_build_37 : decode c_Model_build 37 = .ok (.if_icmp .ge 139, 3) := by decide +kernel
theorem d_Model_build_40 : decode c_Model_build 40 = .ok (.aload_n 0, 1) := by decide +kernel
theorem d_Model_build_41 : decode c_Model_build 41 = .ok (.aload_n 0, 1) := by decide +kernel
theorem d_Model_build_42 : decode c_Model_build 42 = .ok (.getfield 16, 3) := by decide +kernel
theorem d_Model_build_45 : decode c_Model_build 45 = .ok (.iload_n 1, 1) := by decide +kernel
theorem d_Model_build_46 : decode c_Model_build 46 = .ok (.iaload, 1) := by decide +kernel
theorem d_Model_build_47 : decode c_Model_build 47 = .ok (.bipush 16, 2) := by decide +kernel
theorem d_Model_build_49 : decode c_Model_build 49 = .ok (.ishr, 1) := by decide +kernel
theorem d_Model_build_50 : decode c_Model_build 50 = .ok (.invokevirtual 215, 3) := by decide +kernel
theorem d_Model_build_53 : decode c_Model_build 53 = .ok (.aload_n 0, 1) := by decide +kernel
theorem d_Model_build_54 : decode c_Model_build 54 = .ok (.aload_n 0, 1) := by decide +kernel
theorem d_Model_build_55 : decode c_Model_build 55 = .ok (.getfield 16, 3) := by decide +kernel
theorem d_Model_build_58 : decode c_Model_build 58 = .ok (.iload_n 1, 1) := by decide +kernel
theorem d_Model_build_59 : decode c_Model_build 59 = .ok (.iaload, 1) := by decide +kernel
theorem d_Model_build_60 : decode c_Model_build 60 = .ok (.bipush 8, 2) := by decide +kernel
theorem d_Model_build_62 : decode c_Model_build 62 = .ok (.ishr, 1) := by decide +kernel
theorem d_Model_build_63 : decode c_Model_build 63 = .ok (.sipush 255, 3) := by decide +kernel
theorem d_Model_build_66 : decode c_Model_build 66 = .ok (.iand, 1) := by decide +kernel
theorem d_Model_build_67 : decode c_Model_build 67 = .ok (.invokevirtual 215, 3) := by decide +kernel
theorem d_Model_build_70 : decode c_Model_build 70 = .ok (.aload_n 0, 1) := by decide +kernel
theorem d_Model_build_71 : decode c_Model_build 71 = .ok (.aload_n 0, 1) := by decide +kernel
theorem d_Model_build_72 : decode c_Model_build 72 = .ok (.getfield 16, 3) := by decide +kernel
theorem d_Model_build_75 : decode c_Model_build 75 = .ok (.iload_n 1, 1) := by decide +kernel
theorem d_Model_build_76 : decode c_Model_build 76 = .ok (.iaload, 1) := by decide +kernel
theorem d_Model_build_77 : decode c_Model_build 77 = .ok (.sipush 255, 3) := by decide +kernel
theorem d_Model_build_80 : decode c_Model_build 80 = .ok (.iand, 1) := by decide +kernel
theorem d_Model_build_81 : decode c_Model_build 81 = .ok (.invokevirtual 215, 3) := by decide +kernel
theorem d_Model_build_84 : decode c_Model_build 84 = .ok (.aload_n 0, 1) := by decide +kernel
theorem d_Model_build_85 : decode c_Model_build 85 = .ok (.iload_n 1, 1) := by decide +kernel
theorem d_Model_build_86 : decode c_Model_build 86 = .ok (.invokevirtual 221, 3) := by decide +kernel
theorem d_Model_build_89 : decode c_Model_build 89 = .ok (.istore_n 2, 1) := by decide +kernel
theorem d_Model_build_90 : decode c_Model_build 90 = .ok (.iconst 0, 1) := by decide +kernel
theorem d_Model_build_91 : decode c_Model_build 91 = .ok (.istore_n 3, 1) := by decide +kernel
theorem d_Model_build_92 : decode c_Model_build 92 = .ok (.iload_n 3, 1) := by decide +kernel
theorem d_Model_build_93 : decode c_Model_build 93 = .ok (.iload_n 2, 1) := by decide +kernel
theorem d_Model_build_94 : decode c_Model_build 94 = .ok (.if_icmp .ge 66, 3) := by decide +kernel
theorem d_Model_build_97 : decode c_Model_build 97 = .ok (.aload_n 0, 1) := by decide +kernel
theorem d_Model_build_98 : decode c_Model_build 98 = .ok (.aload_n 0, 1) := by decide +kernel
theorem d_Model_build_99 : decode c_Model_build 99 = .ok (.getfield 13, 3) := by decide +kernel
theorem d_Model_build_102 : decode c_Model_build 102 = .ok (.iconst 1, 1) := by decide +kernel
theorem d_Model_build_103 : decode c_Model_build 103 = .ok (.iaload, 1) := by decide +kernel
theorem d_Model_build_104 : decode c_Model_build 104 = .ok (.invokevirtual 215, 3) := by decide +kernel
theorem d_Model_build_107 : decode c_Model_build 107 = .ok (.aload_n 0, 1) := by decide +kernel
theorem d_Model_build_108 : decode c_Model_build 108 = .ok (.iload_n 1, 1) := by decide +kernel
theorem d_Model_build_109 : decode c_Model_build 109 = .ok (.iload_n 3, 1) := by decide +kernel
theorem d_Model_build_110 : decode c_Model_build 110 = .ok (.invokevirtual 212, 3) := by decide +kernel
theorem d_Model_build_113 : decode c_Model_build 113 = .ok (.istore 4, 2) := by decide +kernel
theorem d_Model_build_115 : decode c_Model_build 115 = .ok (.iconst 0, 1) := by decide +kernel
theorem d_Model_build_116 : decode c_Model_build 116 = .ok (.istore 5, 2) := by decide +kernel
theorem d_Model_build_118 : decode c_Model_build 118 = .ok (.iload 5, 2) := by decide +kernel
theorem d_Model_build_120 : decode c_Model_build 120 = .ok (.iload 4, 2) := by decide +kernel
theorem d_Model_build_122 : decode c_Model_build 122 = .ok (.if_icmp .ge 32, 3) := by decide +kernel
theorem d_Model_build_125 : decode c_Model_build 125 = .ok (.iload 5, 2) := by decide +kernel
theorem d_Model_build_127 : decode c_Model_build 127 = .ok (.ifCond .le 13, 3) := by decide +kernel
theorem d_Model_build_130 : decode c_Model_build 130 = .ok (.aload_n 0, 1) := by decide +kernel
theorem d_Model_build_131 : decode c_Model_build 131 = .ok (.aload_n 0, 1) := by decide +kernel
theorem d_Model_build_132 : decode c_Model_build 132 = .ok (.getfield 13, 3) := by decide +kernel
theorem d_Model_build_135 : decode c_Model_build 135 = .ok (.iconst 3, 1) := by decide +kernel
theorem d_Model_build_136 : decode c_Model_build 136 = .ok (.iaload, 1) := by decide +kernel
theorem d_Model_build_137 : decode c_Model_build 137 = .ok (.invokevirtual 215, 3) := by decide +kernel
theorem d_Model_build_140 : decode c_Model_build 140 = .ok (.aload_n 0, 1) := by decide +kernel
theorem d_Model_build_141 : decode c_Model_build 141 = .ok (.iload_n 1, 1) := by decide +kernel
theorem d_Model_build_142 : decode c_Model_build 142 = .ok (.iload_n 3, 1) := by decide +kernel
theorem d_Model_build_143 : decode c_Model_build 143 = .ok (.iload 5, 2) := by decide +kernel
theorem d_Model_build_145 : decode c_Model_build 145 = .ok (.invokevirtual 224, 3) := by decide +kernel
theorem d_Model_build_148 : decode c_Model_build 148 = .ok (.iinc 5 1, 3) := by decide +kernel
theorem d_Model_build_151 : decode c_Model_build 151 = .ok (.goto (-33), 3) := by decide +kernel
theorem d_Model_build_154 : decode c_Model_build 154 = .ok (.iinc 3 1, 3) := by decide +kernel
theorem d_Model_build_157 : decode c_Model_build 157 = .ok (.goto (-65), 3) := by decide +kernel
theorem d_Model_build_160 : decode c_Model_build 160 = .ok (.aload_n 0, 1) := by decide +kernel
theorem d_Model_build_161 : decode c_Model_build 161 = .ok (.aload_n 0, 1) := by decide +kernel
theorem d_Model_build_162 : decode c_Model_build 162 = .ok (.getfield 13, 3) := by decide +kernel
theorem d_Model_build_165 : decode c_Model_build 165 = .ok (.iconst 4, 1) := by decide +kernel
theorem d_Model_build_166 : decode c_Model_build 166 = .ok (.iaload, 1) := by decide +kernel
theorem d_Model_build_167 : decode c_Model_build 167 = .ok (.invokevirtual 215, 3) := by decide +kernel
theorem d_Model_build_170 : decode c_Model_build 170 = .ok (.iinc 1 1, 3) := by decide +kernel
theorem d_Model_build_173 : decode c_Model_build 173 = .ok (.goto (-141), 3) := by decide +kernel
theorem d_Model_build_176 : decode c_Model_build 176 = .ok (.aload_n 0, 1) := by decide +kernel
theorem d_Model_build_177 : decode c_Model_build 177 = .ok (.getfield 206, 3) := by decide +kernel
theorem d_Model_build_180 : decode c_Model_build 180 = .ok (.ireturn, 1) := by decide +kernel
theorem d_Model_at_0 : decode c_Model_at 0 = .ok (.aload_n 0, 1) := by decide +kernel
theorem d_Model_at_1 : decode c_Model_at 1 = .ok (.iload_n 1, 1) := by decide +kernel
theorem d_Model_at_2 : decode c_Model_at 2 = .ok (.ifCond .lt 10, 3) := by decide +kernel
theorem d_Model_at_5 : decode c_Model_at 5 = .ok (.iload_n 1, 1) := by decide +kernel
theorem d_Model_at_6 : decode c_Model_at 6 = .ok (.sipush 4000, 3) := by decide +kernel
theorem d_Model_at_9 : decode c_Model_at 9 = .ok (.if_icmp .lt 7, 3) := by decide +kernel
theorem d_Model_at_12 : decode c_Model_at 12 = .ok (.iconst 1, 1) := by decide +kernel
theorem d_Model_at_13 : decode c_Model_at 13 = .ok (.goto 4, 3) := by decide +kernel
theorem d_Model_at_16 : decode c_Model_at 16 = .ok (.iconst 0, 1) := by decide +kernel
theorem d_Model_at_17 : decode c_Model_at 17 = .ok (.putfield 80, 3) := by decide +kernel
theorem d_Model_at_20 : decode c_Model_at 20 = .ok (.aload_n 0, 1) := by decide +kernel
theorem d_Model_at_21 : decode c_Model_at 21 = .ok (.getfield 80, 3) := by decide +kernel
theorem d_Model_at_24 : decode c_Model_at 24 = .ok (.ifCond .ne 11, 3) := by decide +kernel
theorem d_Model_at_27 : decode c_Model_at 27 = .ok (.iload_n 1, 1) := by decide +kernel
theorem d_Model_at_28 : decode c_Model_at 28 = .ok (.aload_n 0, 1) := by decide +kernel
theorem d_Model_at_29 : decode c_Model_at 29 = .ok (.getfield 206, 3) := by decide +kernel
theorem d_Model_at_32 : decode c_Model_at 32 = .ok (.if_icmp .lt 7, 3) := by decide +kernel
theorem d_Model_at_35 : decode c_Model_at 35 = .ok (.iconst 0, 1) := by decide +kernel
theorem d_Model_at_36 : decode c_Model_at 36 = .ok (.goto 9, 3) := by decide +kernel
theorem d_Model_at_39 : decode c_Model_at 39 = .ok (.aload_n 0, 1) := by decide +kernel
theorem d_Model_at_40 : decode c_Model_at 40 = .ok (.getfield 74, 3) := by decide +kernel
theorem d_Model_at_43 : decode c_Model_at 43 = .ok (.iload_n 1, 1) := by decide +kernel
theorem d_Model_at_44 : decode c_Model_at 44 = .ok (.iaload, 1) := by decide +kernel
theorem d_Model_at_45 : decode c_Model_at 45 = .ok (.ireturn, 1) := by decide +kernel
theorem d_Model_count_0 : decode c_Model_count 0 = .ok (.aload_n 0, 1) := by decide +kernel
theorem d_Model_count_1 : decode c_Model_count 1 = .ok (.iconst 0, 1) := by decide +kernel
theorem d_Model_count_2 : decode c_Model_count 2 = .ok (.putfield 80, 3) := by decide +kernel
theorem d_Model_count_5 : decode c_Model_count 5 = .ok (.iload_n 1, 1) := by decide +kernel
theorem d_Model_count_6 : decode c_Model_count 6 = .ok (.ifCond .ne 8, 3) := by decide +kernel
theorem d_Model_count_9 : decode c_Model_count 9 = .ok (.aload_n 0, 1) := by decide +kernel
theorem d_Model_count_10 : decode c_Model_count 10 = .ok (.getfield 83, 3) := by decide +kernel
theorem d_Model_count_13 : decode c_Model_count 13 = .ok (.ireturn, 1) := by decide +kernel
theorem d_Model_count_14 : decode c_Model_count 14 = .ok (.iload_n 1, 1) := by decide +kernel
theorem d_Model_count_15 : decode c_Model_count 15 = .ok (.iconst 1, 1) := by decide +kernel
theorem d_Model_count_16 : decode c_Model_count 16 = .ok (.if_icmp .ne 8, 3) := by decide +kernel
theorem d_Model_count_19 : decode c_Model_count 19 = .ok (.aload_n 0, 1) := by decide +kernel
theorem d_Model_count_20 : decode c_Model_count 20 = .ok (.getfield 106, 3) := by decide +kernel
theorem d_Model_count_23 : decode c_Model_count 23 = .ok (.ireturn, 1) := by decide +kernel
theorem d_Model_count_24 : decode c_Model_count 24 = .ok (.iload_n 1, 1) := by decide +kernel
theorem d_Model_count_25 : decode c_Model_count 25 = .ok (.iconst 2, 1) := by decide +kernel
theorem d_Model_count_26 : decode c_Model_count 26 = .ok (.if_icmp .ne 8, 3) := by decide +kernel
theorem d_Model_count_29 : decode c_Model_count 29 = .ok (.aload_n 0, 1) := by decide +kernel
theorem d_Model_count_30 : decode c_Model_count 30 = .ok (.getfield 206, 3) := by decide +kernel
theorem d_Model_count_33 : decode c_Model_count 33 = .ok (.ireturn, 1) := by decide +kernel
theorem d_Model_count_34 : decode c_Model_count 34 = .ok (.iload_n 1, 1) := by decide +kernel
theorem d_Model_count_35 : decode c_Model_count 35 = .ok (.iconst 3, 1) := by decide +kernel
theorem d_Model_count_36 : decode c_Model_count 36 = .ok (.if_icmp .lt 18, 3) := by decide +kernel
theorem d_Model_count_39 : decode c_Model_count 39 = .ok (.iload_n 1, 1) := by decide +kernel
theorem d_Model_count_40 : decode c_Model_count 40 = .ok (.bipush 7, 2) := by decide +kernel
theorem d_Model_count_42 : decode c_Model_count 42 = .ok (.if_icmp .gt 12, 3) := by decide +kernel
theorem d_Model_count_45 : decode c_Model_count 45 = .ok (.aload_n 0, 1) := by decide +kernel
theorem d_Model_count_46 : decode c_Model_count 46 = .ok (.getfield 13, 3) := by decide +kernel
theorem d_Model_count_49 : decode c_Model_count 49 = .ok (.iload_n 1, 1) := by decide +kernel
theorem d_Model_count_50 : decode c_Model_count 50 = .ok (.iconst 3, 1) := by decide +kernel
theorem d_Model_count_51 : decode c_Model_count 51 = .ok (.isub, 1) := by decide +kernel
theorem d_Model_count_52 : decode c_Model_count 52 = .ok (.iaload, 1) := by decide +kernel
theorem d_Model_count_53 : decode c_Model_count 53 = .ok (.ireturn, 1) := by decide +kernel
theorem d_Model_count_54 : decode c_Model_count 54 = .ok (.iload_n 1, 1) := by decide +kernel
theorem d_Model_count_55 : decode c_Model_count 55 = .ok (.bipush 10, 2) := by decide +kernel
theorem d_Model_count_57 : decode c_Model_count 57 = .ok (.if_icmp .lt 21, 3) := by decide +kernel
theorem d_Model_count_60 : decode c_Model_count 60 = .ok (.iload_n 1, 1) := by decide +kernel
theorem d_Model_count_61 : decode c_Model_count 61 = .ok (.bipush 13, 2) := by decide +kernel
theorem d_Model_count_63 : decode c_Model_count 63 = .ok (.if_icmp .gt 15, 3) := by decide +kernel
theorem d_Model_count_66 : decode c_Model_count 66 = .ok (.aload_n 0, 1) := by decide +kernel
theorem d_Model_count_67 : decode c_Model_count 67 = .ok (.getfield 34, 3) := by decide +kernel
theorem d_Model_count_70 : decode c_Model_count 70 = .ok (.iload_n 1, 1) := by decide +kernel
theorem d_Model_count_71 : decode c_Model_count 71 = .ok (.bipush 10, 2) := by decide +kernel
theorem d_Model_count_73 : decode c_Model_count 73 = .ok (.isub, 1) := by decide +kernel
theorem d_Model_count_74 : decode c_Model_count 74 = .ok (.iaload, 1) := by decide +kernel
theorem d_Model_count_75 : decode c_Model_count 75 = .ok (.goto 4, 3) := by decide +kernel
theorem d_Model_count_78 : decode c_Model_count 78 = .ok (.iconst (-1), 1) := by decide +kernel
theorem d_Model_count_79 : decode c_Model_count 79 = .ok (.ireturn, 1) := by decide +kernel
theorem d_Law_row_0 : decode c_Law_row 0 = .ok (.aload 6, 2) := by decide +kernel
theorem d_Law_row_2 : decode c_Law_row 2 = .ok (.iconst 0, 1) := by decide +kernel
theorem d_Law_row_3 : decode c_Law_row 3 = .ok (.aload_n 0, 1) := by decide +kernel
theorem d_Law_row_4 : decode c_Law_row 4 = .ok (.iload_n 1, 1) := by decide +kernel
theorem d_Law_row_5 : decode c_Law_row 5 = .ok (.iload_n 2, 1) := by decide +kernel
theorem d_Law_row_6 : decode c_Law_row 6 = .ok (.iload_n 3, 1) := by decide +kernel
theorem d_Law_row_7 : decode c_Law_row 7 = .ok (.iload 4, 2) := by decide +kernel
theorem d_Law_row_9 : decode c_Law_row 9 = .ok (.iload 5, 2) := by decide +kernel
theorem d_Law_row_11 : decode c_Law_row 11 = .ok (.invokevirtual 7, 3) := by decide +kernel
theorem d_Law_row_14 : decode c_Law_row 14 = .ok (.i2l, 1) := by decide +kernel
theorem d_Law_row_15 : decode c_Law_row 15 = .ok (.lastore, 1) := by decide +kernel
theorem d_Law_row_16 : decode c_Law_row 16 = .ok (.goto 11, 3) := by decide +kernel
theorem d_Law_row_19 : decode c_Law_row 19 = .ok (.astore 7, 2) := by decide +kernel
theorem d_Law_row_21 : decode c_Law_row 21 = .ok (.iconst 1, 1) := by decide +kernel
theorem d_Law_row_22 : decode c_Law_row 22 = .ok (.ireturn, 1) := by decide +kernel
theorem d_Law_row_23 : decode c_Law_row 23 = .ok (.astore 7, 2) := by decide +kernel
theorem d_Law_row_25 : decode c_Law_row 25 = .ok (.iconst 2, 1) := by decide +kernel
theorem d_Law_row_26 : decode c_Law_row 26 = .ok (.ireturn, 1) := by decide +kernel
theorem d_Law_row_27 : decode c_Law_row 27 = .ok (.iconst 0, 1) := by decide +kernel
theorem d_Law_row_28 : decode c_Law_row 28 = .ok (.ireturn, 1) := by decide +kernel
theorem d_Law_check_0 : decode c_Law_check 0 = .ok (.aload_n 1, 1) := by decide +kernel
theorem d_Law_check_1 : decode c_Law_check 1 = .ok (.iconst 0, 1) := by decide +kernel
theorem d_Law_check_2 : decode c_Law_check 2 = .ok (.aload_n 0, 1) := by decide +kernel
theorem d_Law_check_3 : decode c_Law_check 3 = .ok (.invokevirtual 17, 3) := by decide +kernel
theorem d_Law_check_6 : decode c_Law_check 6 = .ok (.i2l, 1) := by decide +kernel
theorem d_Law_check_7 : decode c_Law_check 7 = .ok (.lastore, 1) := by decide +kernel
theorem d_Law_check_8 : decode c_Law_check 8 = .ok (.goto 6, 3) := by decide +kernel
theorem d_Law_check_11 : decode c_Law_check 11 = .ok (.astore_n 2, 1) := by decide +kernel
theorem d_Law_check_12 : decode c_Law_check 12 = .ok (.iconst 1, 1) := by decide +kernel
theorem d_Law_check_13 : decode c_Law_check 13 = .ok (.ireturn, 1) := by decide +kernel
theorem d_Law_check_14 : decode c_Law_check 14 = .ok (.iconst 0, 1) := by decide +kernel
theorem d_Law_check_15 : decode c_Law_check 15 = .ok (.ireturn, 1) := by decide +kernel
theorem d_Law_segment_0 : decode c_Law_segment 0 = .ok (.aload_n 3, 1) := by decide +kernel
theorem d_Law_segment_1 : decode c_Law_segment 1 = .ok (.iconst 0, 1) := by decide +kernel
theorem d_Law_segment_2 : decode c_Law_segment 2 = .ok (.aload_n 0, 1) := by decide +kernel
theorem d_Law_segment_3 : decode c_Law_segment 3 = .ok (.iload_n 1, 1) := by decide +kernel
theorem d_Law_segment_4 : decode c_Law_segment 4 = .ok (.iload_n 2, 1) := by decide +kernel
theorem d_Law_segment_5 : decode c_Law_segment 5 = .ok (.invokevirtual 21, 3) := by decide +kernel
theorem d_Law_segment_8 : decode c_Law_segment 8 = .ok (.i2l, 1) := by decide +kernel
theorem d_Law_segment_9 : decode c_Law_segment 9 = .ok (.lastore, 1) := by decide +kernel
theorem d_Law_segment_10 : decode c_Law_segment 10 = .ok (.goto 7, 3) := by decide +kernel
theorem d_Law_segment_13 : decode c_Law_segment 13 = .ok (.astore 4, 2) := by decide +kernel
theorem d_Law_segment_15 : decode c_Law_segment 15 = .ok (.iconst 1, 1) := by decide +kernel
theorem d_Law_segment_16 : decode c_Law_segment 16 = .ok (.ireturn, 1) := by decide +kernel
theorem d_Law_segment_17 : decode c_Law_segment 17 = .ok (.iconst 0, 1) := by decide +kernel
theorem d_Law_segment_18 : decode c_Law_segment 18 = .ok (.ireturn, 1) := by decide +kernel
theorem d_Law_repeats_0 : decode c_Law_repeats 0 = .ok (.aload_n 3, 1) := by decide +kernel
theorem d_Law_repeats_1 : decode c_Law_repeats 1 = .ok (.iconst 0, 1) := by decide +kernel
theorem d_Law_repeats_2 : decode c_Law_repeats 2 = .ok (.aload_n 0, 1) := by decide +kernel
theorem d_Law_repeats_3 : decode c_Law_repeats 3 = .ok (.iload_n 1, 1) := by decide +kernel
theorem d_Law_repeats_4 : decode c_Law_repeats 4 = .ok (.iload_n 2, 1) := by decide +kernel
theorem d_Law_repeats_5 : decode c_Law_repeats 5 = .ok (.invokevirtual 27, 3) := by decide +kernel
theorem d_Law_repeats_8 : decode c_Law_repeats 8 = .ok (.i2l, 1) := by decide +kernel
theorem d_Law_repeats_9 : decode c_Law_repeats 9 = .ok (.lastore, 1) := by decide +kernel
theorem d_Law_repeats_10 : decode c_Law_repeats 10 = .ok (.goto 7, 3) := by decide +kernel
theorem d_Law_repeats_13 : decode c_Law_repeats 13 = .ok (.astore 4, 2) := by decide +kernel
theorem d_Law_repeats_15 : decode c_Law_repeats 15 = .ok (.iconst 1, 1) := by decide +kernel
theorem d_Law_repeats_16 : decode c_Law_repeats 16 = .ok (.ireturn, 1) := by decide +kernel
theorem d_Law_repeats_17 : decode c_Law_repeats 17 = .ok (.iconst 0, 1) := by decide +kernel
theorem d_Law_repeats_18 : decode c_Law_repeats 18 = .ok (.ireturn, 1) := by decide +kernel
theorem d_Law_components_0 : decode c_Law_components 0 = .ok (.aload 4, 2) := by decide +kernel
theorem d_Law_components_2 : decode c_Law_components 2 = .ok (.iconst 0, 1) := by decide +kernel
theorem d_Law_components_3 : decode c_Law_components 3 = .ok (.aload_n 0, 1) := by decide +kernel
theorem d_Law_components_4 : decode c_Law_components 4 = .ok (.iload_n 1, 1) := by decide +kernel
theorem d_Law_components_5 : decode c_Law_components 5 = .ok (.iload_n 2, 1) := by decide +kernel
theorem d_Law_components_6 : decode c_Law_components 6 = .ok (.iload_n 3, 1) := by decide +kernel
theorem d_Law_components_7 : decode c_Law_components 7 = .ok (.invokevirtual 30, 3) := by decide +kernel
theorem d_Law_components_10 : decode c_Law_components 10 = .ok (.i2l, 1) := by decide +kernel
theorem d_Law_components_11 : decode c_Law_components 11 = .ok (.lastore, 1) := by decide +kernel
theorem d_Law_components_12 : decode c_Law_components 12 = .ok (.goto 7, 3) := by decide +kernel
theorem d_Law_components_15 : decode c_Law_components 15 = .ok (.astore 5, 2) := by decide +kernel
theorem d_Law_components_17 : decode c_Law_components 17 = .ok (.iconst 1, 1) := by decide +kernel
theorem d_Law_components_18 : decode c_Law_components 18 = .ok (.ireturn, 1) := by decide +kernel
theorem d_Law_components_19 : decode c_Law_components 19 = .ok (.iconst 0, 1) := by decide +kernel
theorem d_Law_components_20 : decode c_Law_components 20 = .ok (.ireturn, 1) := by decide +kernel
theorem d_Law_field_0 : decode c_Law_field 0 = .ok (.aload 5, 2) := by decide +kernel
theorem d_Law_field_2 : decode c_Law_field 2 = .ok (.iconst 0, 1) := by decide +kernel
theorem d_Law_field_3 : decode c_Law_field 3 = .ok (.aload_n 0, 1) := by decide +kernel
theorem d_Law_field_4 : decode c_Law_field 4 = .ok (.iload_n 1, 1) := by decide +kernel
theorem d_Law_field_5 : decode c_Law_field 5 = .ok (.iload_n 2, 1) := by decide +kernel
theorem d_Law_field_6 : decode c_Law_field 6 = .ok (.iload_n 3, 1) := by decide +kernel
theorem d_Law_field_7 : decode c_Law_field 7 = .ok (.iload 4, 2) := by decide +kernel
theorem d_Law_field_9 : decode c_Law_field 9 = .ok (.invokevirtual 34, 3) := by decide +kernel
theorem d_Law_field_12 : decode c_Law_field 12 = .ok (.i2l, 1) := by decide +kernel
theorem d_Law_field_13 : decode c_Law_field 13 = .ok (.lastore, 1) := by decide +kernel
theorem d_Law_field_14 : decode c_Law_field 14 = .ok (.goto 7, 3) := by decide +kernel
theorem d_Law_field_17 : decode c_Law_field 17 = .ok (.astore 6, 2) := by decide +kernel
theorem d_Law_field_19 : decode c_Law_field 19 = .ok (.iconst 1, 1) := by decide +kernel
theorem d_Law_field_20 : decode c_Law_field 20 = .ok (.ireturn, 1) := by decide +kernel
theorem d_Law_field_21 : decode c_Law_field 21 = .ok (.iconst 0, 1) := by decide +kernel
theorem d_Law_field_22 : decode c_Law_field 22 = .ok (.ireturn, 1) := by decide +kernel
theorem d_Law_letter_0 : decode c_Law_letter 0 = .ok (.aload 6, 2) := by decide +kernel
theorem d_Law_letter_2 : decode c_Law_letter 2 = .ok (.iconst 0, 1) := by decide +kernel
theorem d_Law_letter_3 : decode c_Law_letter 3 = .ok (.aload_n 0, 1) := by decide +kernel
theorem d_Law_letter_4 : decode c_Law_letter 4 = .ok (.iload_n 1, 1) := by decide +kernel
theorem d_Law_letter_5 : decode c_Law_letter 5 = .ok (.iload_n 2, 1) := by decide +kernel
theorem d_Law_letter_6 : decode c_Law_letter 6 = .ok (.iload_n 3, 1) := by decide +kernel
theorem d_Law_letter_7 : decode c_Law_letter 7 = .ok (.iload 4, 2) := by decide +kernel
theorem d_Law_letter_9 : decode c_Law_letter 9 = .ok (.iload 5, 2) := by decide +kernel
theorem d_Law_letter_11 : decode c_Law_letter 11 = .ok (.invokevirtual 38, 3) := by decide +kernel
theorem d_Law_letter_14 : decode c_Law_letter 14 = .ok (.i2l, 1) := by decide +kernel
theorem d_Law_letter_15 : decode c_Law_letter 15 = .ok (.lastore, 1) := by decide +kernel
theorem d_Law_letter_16 : decode c_Law_letter 16 = .ok (.goto 7, 3) := by decide +kernel
theorem d_Law_letter_19 : decode c_Law_letter 19 = .ok (.astore 7, 2) := by decide +kernel
theorem d_Law_letter_21 : decode c_Law_letter 21 = .ok (.iconst 1, 1) := by decide +kernel
theorem d_Law_letter_22 : decode c_Law_letter 22 = .ok (.ireturn, 1) := by decide +kernel
theorem d_Law_letter_23 : decode c_Law_letter 23 = .ok (.iconst 0, 1) := by decide +kernel
theorem d_Law_letter_24 : decode c_Law_letter 24 = .ok (.ireturn, 1) := by decide +kernel
theorem d_Law_build_0 : decode c_Law_build 0 = .ok (.aload_n 1, 1) := by decide +kernel
theorem d_Law_build_1 : decode c_Law_build 1 = .ok (.iconst 0, 1) := by decide +kernel
theorem d_Law_build_2 : decode c_Law_build 2 = .ok (.aload_n 0, 1) := by decide +kernel
theorem d_Law_build_3 : decode c_Law_build 3 = .ok (.invokevirtual 41, 3) := by decide +kernel
theorem d_Law_build_6 : decode c_Law_build 6 = .ok (.i2l, 1) := by decide +kernel
theorem d_Law_build_7 : decode c_Law_build 7 = .ok (.lastore, 1) := by decide +kernel
theorem d_Law_build_8 : decode c_Law_build 8 = .ok (.goto 6, 3) := by decide +kernel
theorem d_Law_build_11 : decode c_Law_build 11 = .ok (.astore_n 2, 1) := by decide +kernel
theorem d_Law_build_12 : decode c_Law_build 12 = .ok (.iconst 1, 1) := by decide +kernel
theorem d_Law_build_13 : decode c_Law_build 13 = .ok (.ireturn, 1) := by decide +kernel
theorem d_Law_build_14 : decode c_Law_build 14 = .ok (.iconst 0, 1) := by decide +kernel
theorem d_Law_build_15 : decode c_Law_build 15 = .ok (.ireturn, 1) := by decide +kernel
theorem d_Law_at_0 : decode c_Law_at 0 = .ok (.aload_n 2, 1) := by decide +kernel
theorem d_Law_at_1 : decode c_Law_at 1 = .ok (.iconst 0, 1) := by decide +kernel
theorem d_Law_at_2 : decode c_Law_at 2 = .ok (.aload_n 0, 1) := by decide +kernel
theorem d_Law_at_3 : decode c_Law_at 3 = .ok (.iload_n 1, 1) := by decide +kernel
theorem d_Law_at_4 : decode c_Law_at 4 = .ok (.invokevirtual 44, 3) := by decide +kernel
theorem d_Law_at_7 : decode c_Law_at 7 = .ok (.i2l, 1) := by decide +kernel
theorem d_Law_at_8 : decode c_Law_at 8 = .ok (.lastore, 1) := by decide +kernel
theorem d_Law_at_9 : decode c_Law_at 9 = .ok (.goto 6, 3) := by decide +kernel
theorem d_Law_at_12 : decode c_Law_at 12 = .ok (.astore_n 3, 1) := by decide +kernel
theorem d_Law_at_13 : decode c_Law_at 13 = .ok (.iconst 1, 1) := by decide +kernel
theorem d_Law_at_14 : decode c_Law_at 14 = .ok (.ireturn, 1) := by decide +kernel
theorem d_Law_at_15 : decode c_Law_at 15 = .ok (.iconst 0, 1) := by decide +kernel
theorem d_Law_at_16 : decode c_Law_at 16 = .ok (.ireturn, 1) := by decide +kernel
theorem d_Law_law_0 : decode c_Law_law 0 = .ok (.new 8, 3) := by decide +kernel
theorem d_Law_law_3 : decode c_Law_law 3 = .ok (.dup, 1) := by decide +kernel
theorem d_Law_law_4 : decode c_Law_law 4 = .ok (.invokespecial 50, 3) := by decide +kernel
theorem d_Law_law_7 : decode c_Law_law 7 = .ok (.astore_n 1, 1) := by decide +kernel
theorem d_Law_law_8 : decode c_Law_law 8 = .ok (.new 51, 3) := by decide +kernel
theorem d_Law_law_11 : decode c_Law_law 11 = .ok (.dup, 1) := by decide +kernel
theorem d_Law_law_12 : decode c_Law_law 12 = .ok (.invokespecial 53, 3) := by decide +kernel
theorem d_Law_law_15 : decode c_Law_law 15 = .ok (.astore_n 2, 1) := by decide +kernel
theorem d_Law_law_16 : decode c_Law_law 16 = .ok (.iconst 1, 1) := by decide +kernel
theorem d_Law_law_17 : decode c_Law_law 17 = .ok (.newarray .long, 2) := by decide +kernel
theorem d_Law_law_19 : decode c_Law_law 19 = .ok (.astore_n 3, 1) := by decide +kernel
theorem d_Law_law_20 : decode c_Law_law 20 = .ok (.iconst 0, 1) := by decide +kernel
theorem d_Law_law_21 : decode c_Law_law 21 = .ok (.istore 4, 2) := by decide +kernel
theorem d_Law_law_23 : decode c_Law_law 23 = .ok (.iload 4, 2) := by decide +kernel
theorem d_Law_law_25 : decode c_Law_law 25 = .ok (.aload_n 0, 1) := by decide +kernel
theorem d_Law_law_26 : decode c_Law_law 26 = .ok (.arraylength, 1) := by decide +kernel
theorem d_Law_law_27 : decode c_Law_law 27 = .ok (.bipush 6, 2) := by decide +kernel
theorem d_Law_law_29 : decode c_Law_law 29 = .ok (.isub, 1) := by decide +kernel
theorem d_Law_law_30 : decode c_Law_law 30 = .ok (.if_icmp .gt 832, 3) := by decide +kernel
theorem d_Law_law_33 : decode c_Law_law 33 = .ok (.aload_n 0, 1) := by decide +kernel
theorem d_Law_law_34 : decode c_Law_law 34 = .ok (.iload 4, 2) := by decide +kernel
theorem d_Law_law_36 : decode c_Law_law 36 = .ok (.iaload, 1) := by decide +kernel
theorem d_Law_law_37 : decode c_Law_law 37 = .ok (.bipush 15, 2) := by decide +kernel
theorem d_Law_law_39 : decode c_Law_law 39 = .ok (.iand, 1) := by decide +kernel
theorem d_Law_law_40 : decode c_Law_law 40 = .ok (.tableswitch 816 0 12 #[68, 93, 106, 210, 254, 279, 347, 415, 495, 587, 691, 735, 791], 68) := by decide +kernel
theorem d_Law_law_108 : decode c_Law_law 108 = .ok (.aload_n 1, 1) := by decide +kernel
theorem d_Law_law_109 : decode c_Law_law 109 = .ok (.aload_n 0, 1) := by decide +kernel
theorem d_Law_law_110 : decode c_Law_law 110 = .ok (.iload 4, 2) := by decide +kernel
theorem d_Law_law_112 : decode c_Law_law 112 = .ok (.iconst 1, 1) := by decide +kernel
theorem d_Law_law_113 : decode c_Law_law 113 = .ok (.iadd, 1) := by decide +kernel
theorem d_Law_law_114 : decode c_Law_law 114 = .ok (.iaload, 1) := by decide +kernel
theorem d_Law_law_115 : decode c_Law_law 115 = .ok (.invokevirtual 54, 3) := by decide +kernel
theorem d_Law_law_118 : decode c_Law_law 118 = .ok (.aload_n 2, 1) := by decide +kernel
theorem d_Law_law_119 : decode c_Law_law 119 = .ok (.aload_n 0, 1) := by decide +kernel
theorem d_Law_law_120 : decode c_Law_law 120 = .ok (.iload 4, 2) := by decide +kernel
theorem d_Law_law_122 : decode c_Law_law 122 = .ok (.iconst 1, 1) := by decide +kernel
theorem d_Law_law_123 : decode c_Law_law 123 = .ok (.iadd, 1) := by decide +kernel
theorem d_Law_law_124 : decode c_Law_law 124 = .ok (.iaload, 1) := by decide +kernel
theorem d_Law_law_125 : decode c_Law_law 125 = .ok (.invokevirtual 58, 3) := by decide +kernel
theorem d_Law_law_128 : decode c_Law_law 128 = .ok (.if_icmp .eq 728, 3) := by decide +kernel
theorem d_Law_law_131 : decode c_Law_law 131 = .ok (.iconst 0, 1) := by decide +kernel
theorem d_Law_law_132 : decode c_Law_law 132 = .ok (.ireturn, 1) := by decide +kernel
theorem d_Law_law_133 : decode c_Law_law 133 = .ok (.aload_n 1, 1) := by decide +kernel
theorem d_Law_law_134 : decode c_Law_law 134 = .ok (.invokevirtual 59, 3) := by decide +kernel
theorem d_Law_law_137 : decode c_Law_law 137 = .ok (.aload_n 2, 1) := by decide +kernel
theorem d_Law_law_138 : decode c_Law_law 138 = .ok (.invokevirtual 62, 3) := by decide +kernel
theorem d_Law_law_141 : decode c_Law_law 141 = .ok (.if_icmp .eq 715, 3) := by decide +kernel
theorem d_Law_law_144 : decode c_Law_law 144 = .ok (.iconst 0, 1) := by decide +kernel
theorem d_Law_law_145 : decode c_Law_law 145 = .ok (.ireturn, 1) := by decide +kernel
theorem d_Law_law_146 : decode c_Law_law 146 = .ok (.aload_n 1, 1) := by decide +kernel
theorem d_Law_law_147 : decode c_Law_law 147 = .ok (.aload_n 0, 1) := by decide +kernel
theorem d_Law_law_148 : decode c_Law_law 148 = .ok (.iload 4, 2) := by decide +kernel
theorem d_Law_law_150 : decode c_Law_law 150 = .ok (.iconst 1, 1) := by decide +kernel
theorem d_Law_law_151 : decode c_Law_law 151 = .ok (.iadd, 1) := by decide +kernel
theorem d_Law_law_152 : decode c_Law_law 152 = .ok (.iaload, 1) := by decide +kernel
theorem d_Law_law_153 : decode c_Law_law 153 = .ok (.aload_n 0, 1) := by decide +kernel
theorem d_Law_law_154 : decode c_Law_law 154 = .ok (.iload 4, 2) := by decide +kernel
theorem d_Law_law_156 : decode c_Law_law 156 = .ok (.iconst 2, 1) := by decide +kernel
theorem d_Law_law_157 : decode c_Law_law 157 = .ok (.iadd, 1) := by decide +kernel
theorem d_Law_law_158 : decode c_Law_law 158 = .ok (.iaload, 1) := by decide +kernel
theorem d_Law_law_159 : decode c_Law_law 159 = .ok (.aload_n 0, 1) := by decide +kernel
theorem d_Law_law_160 : decode c_Law_law 160 = .ok (.iload 4, 2) := by decide +kernel
theorem d_Law_law_162 : decode c_Law_law 162 = .ok (.iconst 3, 1) := by decide +kernel
theorem d_Law_law_163 : decode c_Law_law 163 = .ok (.iadd, 1) := by decide +kernel
theorem d_Law_law_164 : decode c_Law_law 164 = .ok (.iaload, 1) := by decide +kernel
theorem d_Law_law_165 : decode c_Law_law 165 = .ok (.aload_n 0, 1) := by decide +kernel
theorem d_Law_law_166 : decode c_Law_law 166 = .ok (.iload 4, 2) := by decide +kernel
theorem d_Law_law_168 : decode c_Law_law 168 = .ok (.iconst 4, 1) := by decide +kernel
theorem d_Law_law_169 : decode c_Law_law 169 = .ok (.iadd, 1) := by decide +kernel
theorem d_Law_law_170 : decode c_Law_law 170 = .ok (.iaload, 1) := by decide +kernel
theorem d_Law_law_171 : decode c_Law_law 171 = .ok (.aload_n 0, 1) := by decide +kernel
theorem d_Law_law_172 : decode c_Law_law 172 = .ok (.iload 4, 2) := by decide +kernel
theorem d_Law_law_174 : decode c_Law_law 174 = .ok (.iconst 5, 1) := by decide +kernel
theorem d_Law_law_175 : decode c_Law_law 175 = .ok (.iadd, 1) := by decide +kernel
theorem d_Law_law_176 : decode c_Law_law 176 = .ok (.iaload, 1) := by decide +kernel
theorem d_Law_law_177 : decode c_Law_law 177 = .ok (.aload_n 3, 1) := by decide +kernel
theorem d_Law_law_178 : decode c_Law_law 178 = .ok (.invokestatic 63, 3) := by decide +kernel
theorem d_Law_law_181 : decode c_Law_law 181 = .ok (.istore 5, 2) := by decide +kernel
theorem d_Law_law_183 : decode c_Law_law 183 = .ok (.aload_n 2, 1) := by decide +kernel
theorem d_Law_law_184 : decode c_Law_law 184 = .ok (.aload_n 0, 1) := by decide +kernel
theorem d_Law_law_185 : decode c_Law_law 185 = .ok (.iload 4, 2) := by decide +kernel
theorem d_Law_law_187 : decode c_Law_law 187 = .ok (.iconst 1, 1) := by decide +kernel
theorem d_Law_law_188 : decode c_Law_law 188 = .ok (.iadd, 1) := by decide +kernel
theorem d_Law_law_189 : decode c_Law_law 189 = .ok (.iaload, 1) := by decide +kernel
theorem d_Law_law_190 : decode c_Law_law 190 = .ok (.aload_n 0, 1) := by decide +kernel
theorem d_Law_law_191 : decode c_Law_law 191 = .ok (.iload 4, 2) := by decide +kernel
theorem d_Law_law_193 : decode c_Law_law 193 = .ok (.iconst 2, 1) := by decide +kernel
theorem d_Law_law_194 : decode c_Law_law 194 = .ok (.iadd, 1) := by decide +kernel
theorem d_Law_law_195 : decode c_Law_law 195 = .ok (.iaload, 1) := by decide +kernel
theorem d_Law_law_196 : decode c_Law_law 196 = .ok (.aload_n 0, 1) := by decide +kernel
theorem d_Law_law_197 : decode c_Law_law 197 = .ok (.iload 4, 2) := by decide +kernel
theorem d_Law_law_199 : decode c_Law_law 199 = .ok (.iconst 3, 1) := by decide +kernel
theorem d_Law_law_200 : decode c_Law_law 200 = .ok (.iadd, 1) := by decide +kernel
theorem d_Law_law_201 : decode c_Law_law 201 = .ok (.iaload, 1) := by decide +kernel
theorem d_Law_law_202 : decode c_Law_law 202 = .ok (.aload_n 0, 1) := by decide +kernel
theorem d_Law_law_203 : decode c_Law_law 203 = .ok (.iload 4, 2) := by decide +kernel
theorem d_Law_law_205 : decode c_Law_law 205 = .ok (.iconst 4, 1) := by decide +kernel
theorem d_Law_law_206 : decode c_Law_law 206 = .ok (.iadd, 1) := by decide +kernel
theorem d_Law_law_207 : decode c_Law_law 207 = .ok (.iaload, 1) := by decide +kernel
theorem d_Law_law_208 : decode c_Law_law 208 = .ok (.aload_n 0, 1) := by decide +kernel
theorem d_Law_law_209 : decode c_Law_law 209 = .ok (.iload 4, 2) := by decide +kernel
theorem d_Law_law_211 : decode c_Law_law 211 = .ok (.iconst 5, 1) := by decide +kernel
theorem d_Law_law_212 : decode c_Law_law 212 = .ok (.iadd, 1) := by decide +kernel
theorem d_Law_law_213 : decode c_Law_law 213 = .ok (.iaload, 1) := by decide +kernel
theorem d_Law_law_214 : decode c_Law_law 214 = .ok (.invokevirtual 68, 3) := by decide +kernel
theorem d_Law_law_217 : decode c_Law_law 217 = .ok (.istore 6, 2) := by decide +kernel
theorem d_Law_law_219 : decode c_Law_law 219 = .ok (.aload_n 2, 1) := by decide +kernel
theorem d_Law_law_220 : decode c_Law_law 220 = .ok (.invokevirtual 69, 3) := by decide +kernel
theorem d_Law_law_223 : decode c_Law_law 223 = .ok (.iload 5, 2) := by decide +kernel
theorem d_Law_law_225 : decode c_Law_law 225 = .ok (.if_icmp .eq 5, 3) := by decide +kernel
theorem d_Law_law_228 : decode c_Law_law 228 = .ok (.iconst 0, 1) := by decide +kernel
theorem d_Law_law_229 : decode c_Law_law 229 = .ok (.ireturn, 1) := by decide +kernel
theorem d_Law_law_230 : decode c_Law_law 230 = .ok (.iload 5, 2) := by decide +kernel
theorem d_Law_law_232 : decode c_Law_law 232 = .ok (.ifCond .ne 15, 3) := by decide +kernel
theorem d_Law_law_235 : decode c_Law_law 235 = .ok (.aload_n 3, 1) := by decide +kernel
theorem d_Law_law_236 : decode c_Law_law 236 = .ok (.iconst 0, 1) := by decide +kernel
theorem d_Law_law_237 : decode c_Law_law 237 = .ok (.laload, 1) := by decide +kernel
theorem d_Law_law_238 : decode c_Law_law 238 = .ok (.iload 6, 2) := by decide +kernel
theorem d_Law_law_240 : decode c_Law_law 240 = .ok (.i2l, 1) := by decide +kernel
theorem d_Law_law_241 : decode c_Law_law 241 = .ok (.lcmp, 1) := by decide +kernel
theorem d_Law_law_242 : decode c_Law_law 242 = .ok (.ifCond .eq 5, 3) := by decide +kernel
theorem d_Law_law_245 : decode c_Law_law 245 = .ok (.iconst 0, 1) := by decide +kernel
theorem d_Law_law_246 : decode c_Law_law 246 = .ok (.ireturn, 1) := by decide +kernel
theorem d_Law_law_247 : decode c_Law_law 247 = .ok (.goto 609, 3) := by decide +kernel
theorem d_Law_law_250 : decode c_Law_law 250 = .ok (.aload_n 1, 1) := by decide +kernel
theorem d_Law_law_251 : decode c_Law_law 251 = .ok (.aload_n 3, 1) := by decide +kernel
theorem d_Law_law_252 : decode c_Law_law 252 = .ok (.invokestatic 72, 3) := by decide +kernel
theorem d_Law_law_255 : decode c_Law_law 255 = .ok (.istore 5, 2) := by decide +kernel
theorem d_Law_law_257 : decode c_Law_law 257 = .ok (.aload_n 2, 1) := by decide +kernel
theorem d_Law_law_258 : decode c_Law_law 258 = .ok (.invokevirtual 75, 3) := by decide +kernel
theorem d_Law_law_261 : decode c_Law_law 261 = .ok (.istore 6, 2) := by decide +kernel
theorem d_Law_law_263 : decode c_Law_law 263 = .ok (.aload_n 2, 1) := by decide +kernel
theorem d_Law_law_264 : decode c_Law_law 264 = .ok (.invokevirtual 69, 3) := by decide +kernel
end
section
theorem d_Law_law_267 : decode c_Law_law 267 = .ok (.iload 5, 2) := by decide +kernel
theorem d_Law_law_269 : decode c_Law_law 269 = .ok (.if_icmp .eq 5, 3) := by decide +kernel
theorem d_Law_law_272 : decode c_Law_law 272 = .ok (.iconst 0, 1) := by decide +kernel
theorem d_Law_law_273 : decode c_Law_law 273 = .ok (.ireturn, 1) := by decide +kernel
theorem d_Law_law_274 : decode c_Law_law 274 = .ok (.iload 5, 2) := by decide +kernel
theorem d_Law_law_276 : decode c_Law_law 276 = .ok (.ifCond .ne 15, 3) := by decide +kernel
theorem d_Law_law_279 : decode c_Law_law 279 = .ok (.aload_n 3, 1) := by decide +kernel
theorem d_Law_law_280 : decode c_Law_law 280 = .ok (.iconst 0, 1) := by decide +kernel
theorem d_Law_law_281 : decode c_Law_law 281 = .ok (.laload, 1) := by decide +kernel
theorem d_Law_law_282 : decode c_Law_law 282 = .ok (.iload 6, 2) := by decide +kernel
theorem d_Law_law_284 : decode c_Law_law 284 = .ok (.i2l, 1) := by decide +kernel
theorem d_Law_law_285 : decode c_Law_law 285 = .ok (.lcmp, 1) := by decide +kernel
theorem d_Law_law_286 : decode c_Law_law 286 = .ok (.ifCond .eq 5, 3) := by decide +kernel
theorem d_Law_law_289 : decode c_Law_law 289 = .ok (.iconst 0, 1) := by decide +kernel
theorem d_Law_law_290 : decode c_Law_law 290 = .ok (.ireturn, 1) := by decide +kernel
theorem d_Law_law_291 : decode c_Law_law 291 = .ok (.goto 565, 3) := by decide +kernel
theorem d_Law_law_294 : decode c_Law_law 294 = .ok (.aload_n 1, 1) := by decide +kernel
theorem d_Law_law_295 : decode c_Law_law 295 = .ok (.aload_n 0, 1) := by decide +kernel
theorem d_Law_law_296 : decode c_Law_law 296 = .ok (.iload 4, 2) := by decide +kernel
theorem d_Law_law_298 : decode c_Law_law 298 = .ok (.iconst 1, 1) := by decide +kernel
theorem d_Law_law_299 : decode c_Law_law 299 = .ok (.iadd, 1) := by decide +kernel
theorem d_Law_law_300 : decode c_Law_law 300 = .ok (.iaload, 1) := by decide +kernel
theorem d_Law_law_301 : decode c_Law_law 301 = .ok (.invokevirtual 76, 3) := by decide +kernel
theorem d_Law_law_304 : decode c_Law_law 304 = .ok (.aload_n 2, 1) := by decide +kernel
theorem d_Law_law_305 : decode c_Law_law 305 = .ok (.aload_n 0, 1) := by decide +kernel
theorem d_Law_law_306 : decode c_Law_law 306 = .ok (.iload 4, 2) := by decide +kernel
theorem d_Law_law_308 : decode c_Law_law 308 = .ok (.iconst 1, 1) := by decide +kernel
theorem d_Law_law_309 : decode c_Law_law 309 = .ok (.iadd, 1) := by decide +kernel
theorem d_Law_law_310 : decode c_Law_law 310 = .ok (.iaload, 1) := by decide +kernel
theorem d_Law_law_311 : decode c_Law_law 311 = .ok (.invokevirtual 79, 3) := by decide +kernel
theorem d_Law_law_314 : decode c_Law_law 314 = .ok (.if_icmp .eq 542, 3) := by decide +kernel
theorem d_Law_law_317 : decode c_Law_law 317 = .ok (.iconst 0, 1) := by decide +kernel
theorem d_Law_law_318 : decode c_Law_law 318 = .ok (.ireturn, 1) := by decide +kernel
theorem d_Law_law_319 : decode c_Law_law 319 = .ok (.aload_n 1, 1) := by decide +kernel
theorem d_Law_law_320 : decode c_Law_law 320 = .ok (.aload_n 0, 1) := by decide +kernel
theorem d_Law_law_321 : decode c_Law_law 321 = .ok (.iload 4, 2) := by decide +kernel
theorem d_Law_law_323 : decode c_Law_law 323 = .ok (.iconst 1, 1) := by decide +kernel
theorem d_Law_law_324 : decode c_Law_law 324 = .ok (.iadd, 1) := by decide +kernel
theorem d_Law_law_325 : decode c_Law_law 325 = .ok (.iaload, 1) := by decide +kernel
theorem d_Law_law_326 : decode c_Law_law 326 = .ok (.aload_n 0, 1) := by decide +kernel
theorem d_Law_law_327 : decode c_Law_law 327 = .ok (.iload 4, 2) := by decide +kernel
theorem d_Law_law_329 : decode c_Law_law 329 = .ok (.iconst 2, 1) := by decide +kernel
theorem d_Law_law_330 : decode c_Law_law 330 = .ok (.iadd, 1) := by decide +kernel
theorem d_Law_law_331 : decode c_Law_law 331 = .ok (.iaload, 1) := by decide +kernel
theorem d_Law_law_332 : decode c_Law_law 332 = .ok (.aload_n 3, 1) := by decide +kernel
theorem d_Law_law_333 : decode c_Law_law 333 = .ok (.invokestatic 80, 3) := by decide +kernel
theorem d_Law_law_336 : decode c_Law_law 336 = .ok (.istore 5, 2) := by decide +kernel
theorem d_Law_law_338 : decode c_Law_law 338 = .ok (.aload_n 2, 1) := by decide +kernel
theorem d_Law_law_339 : decode c_Law_law 339 = .ok (.aload_n 0, 1) := by decide +kernel
theorem d_Law_law_340 : decode c_Law_law 340 = .ok (.iload 4, 2) := by decide +kernel
theorem d_Law_law_342 : decode c_Law_law 342 = .ok (.iconst 1, 1) := by decide +kernel
theorem d_Law_law_343 : decode c_Law_law 343 = .ok (.iadd, 1) := by decide +kernel
theorem d_Law_law_344 : decode c_Law_law 344 = .ok (.iaload, 1) := by decide +kernel
theorem d_Law_law_345 : decode c_Law_law 345 = .ok (.aload_n 0, 1) := by decide +kernel
theorem d_Law_law_346 : decode c_Law_law 346 = .ok (.iload 4, 2) := by decide +kernel
theorem d_Law_law_348 : decode c_Law_law 348 = .ok (.iconst 2, 1) := by decide +kernel
theorem d_Law_law_349 : decode c_Law_law 349 = .ok (.iadd, 1) := by decide +kernel
theorem d_Law_law_350 : decode c_Law_law 350 = .ok (.iaload, 1) := by decide +kernel
theorem d_Law_law_351 : decode c_Law_law 351 = .ok (.invokevirtual 83, 3) := by decide +kernel
theorem d_Law_law_354 : decode c_Law_law 354 = .ok (.istore 6, 2) := by decide +kernel
theorem d_Law_law_356 : decode c_Law_law 356 = .ok (.aload_n 2, 1) := by decide +kernel
theorem d_Law_law_357 : decode c_Law_law 357 = .ok (.invokevirtual 69, 3) := by decide +kernel
theorem d_Law_law_360 : decode c_Law_law 360 = .ok (.iload 5, 2) := by decide +kernel
theorem d_Law_law_362 : decode c_Law_law 362 = .ok (.if_icmp .eq 5, 3) := by decide +kernel
theorem d_Law_law_365 : decode c_Law_law 365 = .ok (.iconst 0, 1) := by decide +kernel
theorem d_Law_law_366 : decode c_Law_law 366 = .ok (.ireturn, 1) := by decide +kernel
theorem d_Law_law_367 : decode c_Law_law 367 = .ok (.iload 5, 2) := by decide +kernel
theorem d_Law_law_369 : decode c_Law_law 369 = .ok (.ifCond .ne 15, 3) := by decide +kernel
theorem d_Law_law_372 : decode c_Law_law 372 = .ok (.aload_n 3, 1) := by decide +kernel
theorem d_Law_law_373 : decode c_Law_law 373 = .ok (.iconst 0, 1) := by decide +kernel
theorem d_Law_law_374 : decode c_Law_law 374 = .ok (.laload, 1) := by decide +kernel
theorem d_Law_law_375 : decode c_Law_law 375 = .ok (.iload 6, 2) := by decide +kernel
theorem d_Law_law_377 : decode c_Law_law 377 = .ok (.i2l, 1) := by decide +kernel
theorem d_Law_law_378 : decode c_Law_law 378 = .ok (.lcmp, 1) := by decide +kernel
theorem d_Law_law_379 : decode c_Law_law 379 = .ok (.ifCond .eq 5, 3) := by decide +kernel
theorem d_Law_law_382 : decode c_Law_law 382 = .ok (.iconst 0, 1) := by decide +kernel
theorem d_Law_law_383 : decode c_Law_law 383 = .ok (.ireturn, 1) := by decide +kernel
theorem d_Law_law_384 : decode c_Law_law 384 = .ok (.goto 472, 3) := by decide +kernel
theorem d_Law_law_387 : decode c_Law_law 387 = .ok (.aload_n 1, 1) := by decide +kernel
theorem d_Law_law_388 : decode c_Law_law 388 = .ok (.aload_n 0, 1) := by decide +kernel
theorem d_Law_law_389 : decode c_Law_law 389 = .ok (.iload 4, 2) := by decide +kernel
theorem d_Law_law_391 : decode c_Law_law 391 = .ok (.iconst 1, 1) := by decide +kernel
theorem d_Law_law_392 : decode c_Law_law 392 = .ok (.iadd, 1) := by decide +kernel
theorem d_Law_law_393 : decode c_Law_law 393 = .ok (.iaload, 1) := by decide +kernel
theorem d_Law_law_394 : decode c_Law_law 394 = .ok (.aload_n 0, 1) := by decide +kernel
theorem d_Law_law_395 : decode c_Law_law 395 = .ok (.iload 4, 2) := by decide +kernel
theorem d_Law_law_397 : decode c_Law_law 397 = .ok (.iconst 2, 1) := by decide +kernel
theorem d_Law_law_398 : decode c_Law_law 398 = .ok (.iadd, 1) := by decide +kernel
theorem d_Law_law_399 : decode c_Law_law 399 = .ok (.iaload, 1) := by decide +kernel
theorem d_Law_law_400 : decode c_Law_law 400 = .ok (.aload_n 3, 1) := by decide +kernel
theorem d_Law_law_401 : decode c_Law_law 401 = .ok (.invokestatic 84, 3) := by decide +kernel
theorem d_Law_law_404 : decode c_Law_law 404 = .ok (.istore 5, 2) := by decide +kernel
theorem d_Law_law_406 : decode c_Law_law 406 = .ok (.aload_n 2, 1) := by decide +kernel
theorem d_Law_law_407 : decode c_Law_law 407 = .ok (.aload_n 0, 1) := by decide +kernel
theorem d_Law_law_408 : decode c_Law_law 408 = .ok (.iload 4, 2) := by decide +kernel
theorem d_Law_law_410 : decode c_Law_law 410 = .ok (.iconst 1, 1) := by decide +kernel
theorem d_Law_law_411 : decode c_Law_law 411 = .ok (.iadd, 1) := by decide +kernel
theorem d_Law_law_412 : decode c_Law_law 412 = .ok (.iaload, 1) := by decide +kernel
theorem d_Law_law_413 : decode c_Law_law 413 = .ok (.aload_n 0, 1) := by decide +kernel
theorem d_Law_law_414 : decode c_Law_law 414 = .ok (.iload 4, 2) := by decide +kernel
theorem d_Law_law_416 : decode c_Law_law 416 = .ok (.iconst 2, 1) := by decide +kernel
theorem d_Law_law_417 : decode c_Law_law 417 = .ok (.iadd, 1) := by decide +kernel
theorem d_Law_law_418 : decode c_Law_law 418 = .ok (.iaload, 1) := by decide +kernel
theorem d_Law_law_419 : decode c_Law_law 419 = .ok (.invokevirtual 86, 3) := by decide +kernel
theorem d_Law_law_422 : decode c_Law_law 422 = .ok (.istore 6, 2) := by decide +kernel
theorem d_Law_law_424 : decode c_Law_law 424 = .ok (.aload_n 2, 1) := by decide +kernel
theorem d_Law_law_425 : decode c_Law_law 425 = .ok (.invokevirtual 69, 3) := by decide +kernel
theorem d_Law_law_428 : decode c_Law_law 428 = .ok (.iload 5, 2) := by decide +kernel
theorem d_Law_law_430 : decode c_Law_law 430 = .ok (.if_icmp .eq 5, 3) := by decide +kernel
theorem d_Law_law_433 : decode c_Law_law 433 = .ok (.iconst 0, 1) := by decide +kernel
theorem d_Law_law_434 : decode c_Law_law 434 = .ok (.ireturn, 1) := by decide +kernel
theorem d_Law_law_435 : decode c_Law_law 435 = .ok (.iload 5, 2) := by decide +kernel
theorem d_Law_law_437 : decode c_Law_law 437 = .ok (.ifCond .ne 15, 3) := by decide +kernel
theorem d_Law_law_440 : decode c_Law_law 440 = .ok (.aload_n 3, 1) := by decide +kernel
theorem d_Law_law_441 : decode c_Law_law 441 = .ok (.iconst 0, 1) := by decide +kernel
theorem d_Law_law_442 : decode c_Law_law 442 = .ok (.laload, 1) := by decide +kernel
theorem d_Law_law_443 : decode c_Law_law 443 = .ok (.iload 6, 2) := by decide +kernel
theorem d_Law_law_445 : decode c_Law_law 445 = .ok (.i2l, 1) := by decide +kernel
theorem d_Law_law_446 : decode c_Law_law 446 = .ok (.lcmp, 1) := by decide +kernel
theorem d_Law_law_447 : decode c_Law_law 447 = .ok (.ifCond .eq 5, 3) := by decide +kernel
theorem d_Law_law_450 : decode c_Law_law 450 = .ok (.iconst 0, 1) := by decide +kernel
theorem d_Law_law_451 : decode c_Law_law 451 = .ok (.ireturn, 1) := by decide +kernel
theorem d_Law_law_452 : decode c_Law_law 452 = .ok (.goto 404, 3) := by decide +kernel
theorem d_Law_law_455 : decode c_Law_law 455 = .ok (.aload_n 1, 1) := by decide +kernel
theorem d_Law_law_456 : decode c_Law_law 456 = .ok (.aload_n 0, 1) := by decide +kernel
theorem d_Law_law_457 : decode c_Law_law 457 = .ok (.iload 4, 2) := by decide +kernel
theorem d_Law_law_459 : decode c_Law_law 459 = .ok (.iconst 1, 1) := by decide +kernel
theorem d_Law_law_460 : decode c_Law_law 460 = .ok (.iadd, 1) := by decide +kernel
theorem d_Law_law_461 : decode c_Law_law 461 = .ok (.iaload, 1) := by decide +kernel
theorem d_Law_law_462 : decode c_Law_law 462 = .ok (.aload_n 0, 1) := by decide +kernel
theorem d_Law_law_463 : decode c_Law_law 463 = .ok (.iload 4, 2) := by decide +kernel
theorem d_Law_law_465 : decode c_Law_law 465 = .ok (.iconst 2, 1) := by decide +kernel
theorem d_Law_law_466 : decode c_Law_law 466 = .ok (.iadd, 1) := by decide +kernel
theorem d_Law_law_467 : decode c_Law_law 467 = .ok (.iaload, 1) := by decide +kernel
theorem d_Law_law_468 : decode c_Law_law 468 = .ok (.aload_n 0, 1) := by decide +kernel
theorem d_Law_law_469 : decode c_Law_law 469 = .ok (.iload 4, 2) := by decide +kernel
theorem d_Law_law_471 : decode c_Law_law 471 = .ok (.iconst 3, 1) := by decide +kernel
theorem d_Law_law_472 : decode c_Law_law 472 = .ok (.iadd, 1) := by decide +kernel
theorem d_Law_law_473 : decode c_Law_law 473 = .ok (.iaload, 1) := by decide +kernel
theorem d_Law_law_474 : decode c_Law_law 474 = .ok (.aload_n 3, 1) := by decide +kernel
theorem d_Law_law_475 : decode c_Law_law 475 = .ok (.invokestatic 87, 3) := by decide +kernel
theorem d_Law_law_478 : decode c_Law_law 478 = .ok (.istore 5, 2) := by decide +kernel
theorem d_Law_law_480 : decode c_Law_law 480 = .ok (.aload_n 2, 1) := by decide +kernel
theorem d_Law_law_481 : decode c_Law_law 481 = .ok (.aload_n 0, 1) := by decide +kernel
theorem d_Law_law_482 : decode c_Law_law 482 = .ok (.iload 4, 2) := by decide +kernel
theorem d_Law_law_484 : decode c_Law_law 484 = .ok (.iconst 1, 1) := by decide +kernel
theorem d_Law_law_485 : decode c_Law_law 485 = .ok (.iadd, 1) := by decide +kernel
theorem d_Law_law_486 : decode c_Law_law 486 = .ok (.iaload, 1) := by decide +kernel
theorem d_Law_law_487 : decode c_Law_law 487 = .ok (.aload_n 0, 1) := by decide +kernel
theorem d_Law_law_488 : decode c_Law_law 488 = .ok (.iload 4, 2) := by decide +kernel
theorem d_Law_law_490 : decode c_Law_law 490 = .ok (.iconst 2, 1) := by decide +kernel
theorem d_Law_law_491 : decode c_Law_law 491 = .ok (.iadd, 1) := by decide +kernel
theorem d_Law_law_492 : decode c_Law_law 492 = .ok (.iaload, 1) := by decide +kernel
theorem d_Law_law_493 : decode c_Law_law 493 = .ok (.aload_n 0, 1) := by decide +kernel
theorem d_Law_law_494 : decode c_Law_law 494 = .ok (.iload 4, 2) := by decide +kernel
theorem d_Law_law_496 : decode c_Law_law 496 = .ok (.iconst 3, 1) := by decide +kernel
theorem d_Law_law_497 : decode c_Law_law 497 = .ok (.iadd, 1) := by decide +kernel
theorem d_Law_law_498 : decode c_Law_law 498 = .ok (.iaload, 1) := by decide +kernel
theorem d_Law_law_499 : decode c_Law_law 499 = .ok (.invokevirtual 90, 3) := by decide +kernel
theorem d_Law_law_502 : decode c_Law_law 502 = .ok (.istore 6, 2) := by decide +kernel
theorem d_Law_law_504 : decode c_Law_law 504 = .ok (.aload_n 2, 1) := by decide +kernel
theorem d_Law_law_505 : decode c_Law_law 505 = .ok (.invokevirtual 69, 3) := by decide +kernel
theorem d_Law_law_508 : decode c_Law_law 508 = .ok (.iload 5, 2) := by decide +kernel
theorem d_Law_law_510 : decode c_Law_law 510 = .ok (.if_icmp .eq 5, 3) := by decide +kernel
theorem d_Law_law_513 : decode c_Law_law 513 = .ok (.iconst 0, 1) := by decide +kernel
theorem d_Law_law_514 : decode c_Law_law 514 = .ok (.ireturn, 1) := by decide +kernel
theorem d_Law_law_515 : decode c_Law_law 515 = .ok (.iload 5, 2) := by decide +kernel
theorem d_Law_law_517 : decode c_Law_law 517 = .ok (.ifCond .ne 15, 3) := by decide +kernel
theorem d_Law_law_520 : decode c_Law_law 520 = .ok (.aload_n 3, 1) := by decide +kernel
theorem d_Law_law_521 : decode c_Law_law 521 = .ok (.iconst 0, 1) := by decide +kernel
theorem d_Law_law_522 : decode c_Law_law 522 = .ok (.laload, 1) := by decide +kernel
theorem d_Law_law_523 : decode c_Law_law 523 = .ok (.iload 6, 2) := by decide +kernel
theorem d_Law_law_525 : decode c_Law_law 525 = .ok (.i2l, 1) := by decide +kernel
theorem d_Law_law_526 : decode c_Law_law 526 = .ok (.lcmp, 1) := by decide +kernel
theorem d_Law_law_527 : decode c_Law_law 527 = .ok (.ifCond .eq 5, 3) := by decide +kernel
theorem d_Law_law_530 : decode c_Law_law 530 = .ok (.iconst 0, 1) := by decide +kernel
theorem d_Law_law_531 : decode c_Law_law 531 = .ok (.ireturn, 1) := by decide +kernel
theorem d_Law_law_532 : decode c_Law_law 532 = .ok (.goto 324, 3) := by decide +kernel
theorem d_Law_law_535 : decode c_Law_law 535 = .ok (.aload_n 1, 1) := by decide +kernel
theorem d_Law_law_536 : decode c_Law_law 536 = .ok (.aload_n 0, 1) := by decide +kernel
theorem d_Law_law_537 : decode c_Law_law 537 = .ok (.iload 4, 2) := by decide +kernel
theorem d_Law_law_539 : decode c_Law_law 539 = .ok (.iconst 1, 1) := by decide +kernel
theorem d_Law_law_540 : decode c_Law_law 540 = .ok (.iadd, 1) := by decide +kernel
theorem d_Law_law_541 : decode c_Law_law 541 = .ok (.iaload, 1) := by decide +kernel
theorem d_Law_law_542 : decode c_Law_law 542 = .ok (.aload_n 0, 1) := by decide +kernel
theorem d_Law_law_543 : decode c_Law_law 543 = .ok (.iload 4, 2) := by decide +kernel
theorem d_Law_law_545 : decode c_Law_law 545 = .ok (.iconst 2, 1) := by decide +kernel
theorem d_Law_law_546 : decode c_Law_law 546 = .ok (.iadd, 1) := by decide +kernel
theorem d_Law_law_547 : decode c_Law_law 547 = .ok (.iaload, 1) := by decide +kernel
theorem d_Law_law_548 : decode c_Law_law 548 = .ok (.aload_n 0, 1) := by decide +kernel
theorem d_Law_law_549 : decode c_Law_law 549 = .ok (.iload 4, 2) := by decide +kernel
theorem d_Law_law_551 : decode c_Law_law 551 = .ok (.iconst 3, 1) := by decide +kernel
theorem d_Law_law_552 : decode c_Law_law 552 = .ok (.iadd, 1) := by decide +kernel
theorem d_Law_law_553 : decode c_Law_law 553 = .ok (.iaload, 1) := by decide +kernel
theorem d_Law_law_554 : decode c_Law_law 554 = .ok (.aload_n 0, 1) := by decide +kernel
theorem d_Law_law_555 : decode c_Law_law 555 = .ok (.iload 4, 2) := by decide +kernel
theorem d_Law_law_557 : decode c_Law_law 557 = .ok (.iconst 4, 1) := by decide +kernel
theorem d_Law_law_558 : decode c_Law_law 558 = .ok (.iadd, 1) := by decide +kernel
theorem d_Law_law_559 : decode c_Law_law 559 = .ok (.iaload, 1) := by decide +kernel
theorem d_Law_law_560 : decode c_Law_law 560 = .ok (.aload_n 3, 1) := by decide +kernel
theorem d_Law_law_561 : decode c_Law_law 561 = .ok (.invokestatic 91, 3) := by decide +kernel
theorem d_Law_law_564 : decode c_Law_law 564 = .ok (.istore 5, 2) := by decide +kernel
theorem d_Law_law_566 : decode c_Law_law 566 = .ok (.aload_n 2, 1) := by decide +kernel
theorem d_Law_law_567 : decode c_Law_law 567 = .ok (.aload_n 0, 1) := by decide +kernel
theorem d_Law_law_568 : decode c_Law_law 568 = .ok (.iload 4, 2) := by decide +kernel
theorem d_Law_law_570 : decode c_Law_law 570 = .ok (.iconst 1, 1) := by decide +kernel
theorem d_Law_law_571 : decode c_Law_law 571 = .ok (.iadd, 1) := by decide +kernel
theorem d_Law_law_572 : decode c_Law_law 572 = .ok (.iaload, 1) := by decide +kernel
theorem d_Law_law_573 : decode c_Law_law 573 = .ok (.aload_n 0, 1) := by decide +kernel
theorem d_Law_law_574 : decode c_Law_law 574 = .ok (.iload 4, 2) := by decide +kernel
theorem d_Law_law_576 : decode c_Law_law 576 = .ok (.iconst 2, 1) := by decide +kernel
theorem d_Law_law_577 : decode c_Law_law 577 = .ok (.iadd, 1) := by decide +kernel
theorem d_Law_law_578 : decode c_Law_law 578 = .ok (.iaload, 1) := by decide +kernel
theorem d_Law_law_579 : decode c_Law_law 579 = .ok (.aload_n 0, 1) := by decide +kernel
theorem d_Law_law_580 : decode c_Law_law 580 = .ok (.iload 4, 2) := by decide +kernel
theorem d_Law_law_582 : decode c_Law_law 582 = .ok (.iconst 3, 1) := by decide +kernel
theorem d_Law_law_583 : decode c_Law_law 583 = .ok (.iadd, 1) := by decide +kernel
theorem d_Law_law_584 : decode c_Law_law 584 = .ok (.iaload, 1) := by decide +kernel
theorem d_Law_law_585 : decode c_Law_law 585 = .ok (.aload_n 0, 1) := by decide +kernel
theorem d_Law_law_586 : decode c_Law_law 586 = .ok (.iload 4, 2) := by decide +kernel
theorem d_Law_law_588 : decode c_Law_law 588 = .ok (.iconst 4, 1) := by decide +kernel
theorem d_Law_law_589 : decode c_Law_law 589 = .ok (.iadd, 1) := by decide +kernel
theorem d_Law_law_590 : decode c_Law_law 590 = .ok (.iaload, 1) := by decide +kernel
theorem d_Law_law_591 : decode c_Law_law 591 = .ok (.invokevirtual 94, 3) := by decide +kernel
theorem d_Law_law_594 : decode c_Law_law 594 = .ok (.istore 6, 2) := by decide +kernel
theorem d_Law_law_596 : decode c_Law_law 596 = .ok (.aload_n 2, 1) := by decide +kernel
theorem d_Law_law_597 : decode c_Law_law 597 = .ok (.invokevirtual 69, 3) := by decide +kernel
theorem d_Law_law_600 : decode c_Law_law 600 = .ok (.iload 5, 2) := by decide +kernel
theorem d_Law_law_602 : decode c_Law_law 602 = .ok (.if_icmp .eq 5, 3) := by decide +kernel
theorem d_Law_law_605 : decode c_Law_law 605 = .ok (.iconst 0, 1) := by decide +kernel
theorem d_Law_law_606 : decode c_Law_law 606 = .ok (.ireturn, 1) := by decide +kernel
theorem d_Law_law_607 : decode c_Law_law 607 = .ok (.iload 5, 2) := by decide +kernel
theorem d_Law_law_609 : decode c_Law_law 609 = .ok (.ifCond .ne 15, 3) := by decide +kernel
theorem d_Law_law_612 : decode c_Law_law 612 = .ok (.aload_n 3, 1) := by decide +kernel
theorem d_Law_law_613 : decode c_Law_law 613 = .ok (.iconst 0, 1) := by decide +kernel
theorem d_Law_law_614 : decode c_Law_law 614 = .ok (.laload, 1) := by decide +kernel
theorem d_Law_law_615 : decode c_Law_law 615 = .ok (.iload 6, 2) := by decide +kernel
theorem d_Law_law_617 : decode c_Law_law 617 = .ok (.i2l, 1) := by decide +kernel
theorem d_Law_law_618 : decode c_Law_law 618 = .ok (.lcmp, 1) := by decide +kernel
theorem d_Law_law_619 : decode c_Law_law 619 = .ok (.ifCond .eq 5, 3) := by decide +kernel
theorem d_Law_law_622 : decode c_Law_law 622 = .ok (.iconst 0, 1) := by decide +kernel
theorem d_Law_law_623 : decode c_Law_law 623 = .ok (.ireturn, 1) := by decide +kernel
theorem d_Law_law_624 : decode c_Law_law 624 = .ok (.goto 232, 3) := by decide +kernel
theorem d_Law_law_627 : decode c_Law_law 627 = .ok (.aload_n 1, 1) := by decide +kernel
theorem d_Law_law_628 : decode c_Law_law 628 = .ok (.aload_n 0, 1) := by decide +kernel
theorem d_Law_law_629 : decode c_Law_law 629 = .ok (.iload 4, 2) := by decide +kernel
theorem d_Law_law_631 : decode c_Law_law 631 = .ok (.iconst 1, 1) := by decide +kernel
theorem d_Law_law_632 : decode c_Law_law 632 = .ok (.iadd, 1) := by decide +kernel
theorem d_Law_law_633 : decode c_Law_law 633 = .ok (.iaload, 1) := by decide +kernel
theorem d_Law_law_634 : decode c_Law_law 634 = .ok (.aload_n 0, 1) := by decide +kernel
theorem d_Law_law_635 : decode c_Law_law 635 = .ok (.iload 4, 2) := by decide +kernel
theorem d_Law_law_637 : decode c_Law_law 637 = .ok (.iconst 2, 1) := by decide +kernel
theorem d_Law_law_638 : decode c_Law_law 638 = .ok (.iadd, 1) := by decide +kernel
theorem d_Law_law_639 : decode c_Law_law 639 = .ok (.iaload, 1) := by decide +kernel
theorem d_Law_law_640 : decode c_Law_law 640 = .ok (.aload_n 0, 1) := by decide +kernel
theorem d_Law_law_641 : decode c_Law_law 641 = .ok (.iload 4, 2) := by decide +kernel
theorem d_Law_law_643 : decode c_Law_law 643 = .ok (.iconst 3, 1) := by decide +kernel
theorem d_Law_law_644 : decode c_Law_law 644 = .ok (.iadd, 1) := by decide +kernel
theorem d_Law_law_645 : decode c_Law_law 645 = .ok (.iaload, 1) := by decide +kernel
theorem d_Law_law_646 : decode c_Law_law 646 = .ok (.aload_n 0, 1) := by decide +kernel
theorem d_Law_law_647 : decode c_Law_law 647 = .ok (.iload 4, 2) := by decide +kernel
theorem d_Law_law_649 : decode c_Law_law 649 = .ok (.iconst 4, 1) := by decide +kernel
theorem d_Law_law_650 : decode c_Law_law 650 = .ok (.iadd, 1) := by decide +kernel
theorem d_Law_law_651 : decode c_Law_law 651 = .ok (.iaload, 1) := by decide +kernel
theorem d_Law_law_652 : decode c_Law_law 652 = .ok (.aload_n 0, 1) := by decide +kernel
theorem d_Law_law_653 : decode c_Law_law 653 = .ok (.iload 4, 2) := by decide +kernel
theorem d_Law_law_655 : decode c_Law_law 655 = .ok (.iconst 5, 1) := by decide +kernel
theorem d_Law_law_656 : decode c_Law_law 656 = .ok (.iadd, 1) := by decide +kernel
theorem d_Law_law_657 : decode c_Law_law 657 = .ok (.iaload, 1) := by decide +kernel
theorem d_Law_law_658 : decode c_Law_law 658 = .ok (.aload_n 3, 1) := by decide +kernel
theorem d_Law_law_659 : decode c_Law_law 659 = .ok (.invokestatic 95, 3) := by decide +kernel
theorem d_Law_law_662 : decode c_Law_law 662 = .ok (.istore 5, 2) := by decide +kernel
theorem d_Law_law_664 : decode c_Law_law 664 = .ok (.aload_n 2, 1) := by decide +kernel
theorem d_Law_law_665 : decode c_Law_law 665 = .ok (.aload_n 0, 1) := by decide +kernel
theorem d_Law_law_666 : decode c_Law_law 666 = .ok (.iload 4, 2) := by decide +kernel
theorem d_Law_law_668 : decode c_Law_law 668 = .ok (.iconst 1, 1) := by decide +kernel
theorem d_Law_law_669 : decode c_Law_law 669 = .ok (.iadd, 1) := by decide +kernel
theorem d_Law_law_670 : decode c_Law_law 670 = .ok (.iaload, 1) := by decide +kernel
theorem d_Law_law_671 : decode c_Law_law 671 = .ok (.aload_n 0, 1) := by decide +kernel
theorem d_Law_law_672 : decode c_Law_law 672 = .ok (.iload 4, 2) := by decide +kernel
theorem d_Law_law_674 : decode c_Law_law 674 = .ok (.iconst 2, 1) := by decide +kernel
theorem d_Law_law_675 : decode c_Law_law 675 = .ok (.iadd, 1) := by decide +kernel
theorem d_Law_law_676 : decode c_Law_law 676 = .ok (.iaload, 1) := by decide +kernel
theorem d_Law_law_677 : decode c_Law_law 677 = .ok (.aload_n 0, 1) := by decide +kernel
theorem d_Law_law_678 : decode c_Law_law 678 = .ok (.iload 4, 2) := by decide +kernel
theorem d_Law_law_680 : decode c_Law_law 680 = .ok (.iconst 3, 1) := by decide +kernel
theorem d_Law_law_681 : decode c_Law_law 681 = .ok (.iadd, 1) := by decide +kernel
theorem d_Law_law_682 : decode c_Law_law 682 = .ok (.iaload, 1) := by decide +kernel
theorem d_Law_law_683 : decode c_Law_law 683 = .ok (.aload_n 0, 1) := by decide +kernel
theorem d_Law_law_684 : decode c_Law_law 684 = .ok (.iload 4, 2) := by decide +kernel
theorem d_Law_law_686 : decode c_Law_law 686 = .ok (.iconst 4, 1) := by decide +kernel
theorem d_Law_law_687 : decode c_Law_law 687 = .ok (.iadd, 1) := by decide +kernel
theorem d_Law_law_688 : decode c_Law_law 688 = .ok (.iaload, 1) := by decide +kernel
theorem d_Law_law_689 : decode c_Law_law 689 = .ok (.aload_n 0, 1) := by decide +kernel
theorem d_Law_law_690 : decode c_Law_law 690 = .ok (.iload 4, 2) := by decide +kernel
theorem d_Law_law_692 : decode c_Law_law 692 = .ok (.iconst 5, 1) := by decide +kernel
theorem d_Law_law_693 : decode c_Law_law 693 = .ok (.iadd, 1) := by decide +kernel
theorem d_Law_law_694 : decode c_Law_law 694 = .ok (.iaload, 1) := by decide +kernel
theorem d_Law_law_695 : decode c_Law_law 695 = .ok (.invokevirtual 97, 3) := by decide +kernel
theorem d_Law_law_698 : decode c_Law_law 698 = .ok (.istore 6, 2) := by decide +kernel
theorem d_Law_law_700 : decode c_Law_law 700 = .ok (.aload_n 2, 1) := by decide +kernel
theorem d_Law_law_701 : decode c_Law_law 701 = .ok (.invokevirtual 69, 3) := by decide +kernel
theorem d_Law_law_704 : decode c_Law_law 704 = .ok (.iload 5, 2) := by decide +kernel
theorem d_Law_law_706 : decode c_Law_law 706 = .ok (.if_icmp .eq 5, 3) := by decide +kernel
theorem d_Law_law_709 : decode c_Law_law 709 = .ok (.iconst 0, 1) := by decide +kernel
theorem d_Law_law_710 : decode c_Law_law 710 = .ok (.ireturn, 1) := by decide +kernel
theorem d_Law_law_711 : decode c_Law_law 711 = .ok (.iload 5, 2) := by decide +kernel
theorem d_Law_law_713 : decode c_Law_law 713 = .ok (.ifCond .ne 15, 3) := by decide +kernel
theorem d_Law_law_716 : decode c_Law_law 716 = .ok (.aload_n 3, 1) := by decide +kernel
theorem d_Law_law_717 : decode c_Law_law 717 = .ok (.iconst 0, 1) := by decide +kernel
theorem d_Law_law_718 : decode c_Law_law 718 = .ok (.laload, 1) := by decide +kernel
theorem d_Law_law_719 : decode c_Law_law 719 = .ok (.iload 6, 2) := by decide +kernel
theorem d_Law_law_721 : decode c_Law_law 721 = .ok (.i2l, 1) := by decide +kernel
theorem d_Law_law_722 : decode c_Law_law 722 = .ok (.lcmp, 1) := by decide +kernel
theorem d_Law_law_723 : decode c_Law_law 723 = .ok (.ifCond .eq 5, 3) := by decide +kernel
theorem d_Law_law_726 : decode c_Law_law 726 = .ok (.iconst 0, 1) := by decide +kernel
theorem d_Law_law_727 : decode c_Law_law 727 = .ok (.ireturn, 1) := by decide +kernel
theorem d_Law_law_728 : decode c_Law_law 728 = .ok (.goto 128, 3) := by decide +kernel
theorem d_Law_law_731 : decode c_Law_law 731 = .ok (.aload_n 1, 1) := by decide +kernel
theorem d_Law_law_732 : decode c_Law_law 732 = .ok (.aload_n 3, 1) := by decide +kernel
theorem d_Law_law_733 : decode c_Law_law 733 = .ok (.invokestatic 98, 3) := by decide +kernel
theorem d_Law_law_736 : decode c_Law_law 736 = .ok (.istore 5, 2) := by decide +kernel
theorem d_Law_law_738 : decode c_Law_law 738 = .ok (.aload_n 2, 1) := by decide +kernel
theorem d_Law_law_739 : decode c_Law_law 739 = .ok (.invokevirtual 100, 3) := by decide +kernel
theorem d_Law_law_742 : decode c_Law_law 742 = .ok (.istore 6, 2) := by decide +kernel
theorem d_Law_law_744 : decode c_Law_law 744 = .ok (.aload_n 2, 1) := by decide +kernel
theorem d_Law_law_745 : decode c_Law_law 745 = .ok (.invokevirtual 69, 3) := by decide +kernel
theorem d_Law_law_748 : decode c_Law_law 748 = .ok (.iload 5, 2) := by decide +kernel
theorem d_Law_law_750 : decode c_Law_law 750 = .ok (.if_icmp .eq 5, 3) := by decide +kernel
theorem d_Law_law_753 : decode c_Law_law 753 = .ok (.iconst 0, 1) := by decide +kernel
theorem d_Law_law_754 : decode c_Law_law 754 = .ok (.ireturn, 1) := by decide +kernel
theorem d_Law_law_755 : decode c_Law_law 755 = .ok (.iload 5, 2) := by decide +kernel
theorem d_Law_law_757 : decode c_Law_law 757 = .ok (.ifCond .ne 15, 3) := by decide +kernel
theorem d_Law_law_760 : decode c_Law_law 760 = .ok (.aload_n 3, 1) := by decide +kernel
theorem d_Law_law_761 : decode c_Law_law 761 = .ok (.iconst 0, 1) := by decide +kernel
theorem d_Law_law_762 : decode c_Law_law 762 = .ok (.laload, 1) := by decide +kernel
theorem d_Law_law_763 : decode c_Law_law 763 = .ok (.iload 6, 2) := by decide +kernel
theorem d_Law_law_765 : decode c_Law_law 765 = .ok (.i2l, 1) := by decide +kernel
theorem d_Law_law_766 : decode c_Law_law 766 = .ok (.lcmp, 1) := by decide +kernel
theorem d_Law_law_767 : decode c_Law_law 767 = .ok (.ifCond .eq 5, 3) := by decide +kernel
theorem d_Law_law_770 : decode c_Law_law 770 = .ok (.iconst 0, 1) := by decide +kernel
theorem d_Law_law_771 : decode c_Law_law 771 = .ok (.ireturn, 1) := by decide +kernel
theorem d_Law_law_772 : decode c_Law_law 772 = .ok (.goto 84, 3) := by decide +kernel
theorem d_Law_law_775 : decode c_Law_law 775 = .ok (.aload_n 1, 1) := by decide +kernel
theorem d_Law_law_776 : decode c_Law_law 776 = .ok (.aload_n 0, 1) := by decide +kernel
theorem d_Law_law_777 : decode c_Law_law 777 = .ok (.iload 4, 2) := by decide +kernel
theorem d_Law_law_779 : decode c_Law_law 779 = .ok (.iconst 1, 1) := by decide +kernel
theorem d_Law_law_780 : decode c_Law_law 780 = .ok (.iadd, 1) := by decide +kernel
theorem d_Law_law_781 : decode c_Law_law 781 = .ok (.iaload, 1) := by decide +kernel
theorem d_Law_law_782 : decode c_Law_law 782 = .ok (.aload_n 3, 1) := by decide +kernel
theorem d_Law_law_783 : decode c_Law_law 783 = .ok (.invokestatic 101, 3) := by decide +kernel
theorem d_Law_law_786 : decode c_Law_law 786 = .ok (.istore 5, 2) := by decide +kernel
theorem d_Law_law_788 : decode c_Law_law 788 = .ok (.aload_n 2, 1) := by decide +kernel
theorem d_Law_law_789 : decode c_Law_law 789 = .ok (.aload_n 0, 1) := by decide +kernel
theorem d_Law_law_790 : decode c_Law_law 790 = .ok (.iload 4, 2) := by decide +kernel
theorem d_Law_law_792 : decode c_Law_law 792 = .ok (.iconst 1, 1) := by decide +kernel
theorem d_Law_law_793 : decode c_Law_law 793 = .ok (.iadd, 1) := by decide +kernel
theorem d_Law_law_794 : decode c_Law_law 794 = .ok (.iaload, 1) := by decide +kernel
theorem d_Law_law_795 : decode c_Law_law 795 = .ok (.invokevirtual 104, 3) := by decide +kernel
theorem d_Law_law_798 : decode c_Law_law 798 = .ok (.istore 6, 2) := by decide +kernel
theorem d_Law_law_800 : decode c_Law_law 800 = .ok (.aload_n 2, 1) := by decide +kernel
theorem d_Law_law_801 : decode c_Law_law 801 = .ok (.invokevirtual 69, 3) := by decide +kernel
theorem d_Law_law_804 : decode c_Law_law 804 = .ok (.iload 5, 2) := by decide +kernel
theorem d_Law_law_806 : decode c_Law_law 806 = .ok (.if_icmp .eq 5, 3) := by decide +kernel
theorem d_Law_law_809 : decode c_Law_law 809 = .ok (.iconst 0, 1) := by decide +kernel
theorem d_Law_law_810 : decode c_Law_law 810 = .ok (.ireturn, 1) := by decide +kernel
theorem d_Law_law_811 : decode c_Law_law 811 = .ok (.iload 5, 2) := by decide +kernel
theorem d_Law_law_813 : decode c_Law_law 813 = .ok (.ifCond .ne 15, 3) := by decide +kernel
theorem d_Law_law_816 : decode c_Law_law 816 = .ok (.aload_n 3, 1) := by decide +kernel
theorem d_Law_law_817 : decode c_Law_law 817 = .ok (.iconst 0, 1) := by decide +kernel
theorem d_Law_law_818 : decode c_Law_law 818 = .ok (.laload, 1) := by decide +kernel
theorem d_Law_law_819 : decode c_Law_law 819 = .ok (.iload 6, 2) := by decide +kernel
theorem d_Law_law_821 : decode c_Law_law 821 = .ok (.i2l, 1) := by decide +kernel
theorem d_Law_law_822 : decode c_Law_law 822 = .ok (.lcmp, 1) := by decide +kernel
theorem d_Law_law_823 : decode c_Law_law 823 = .ok (.ifCond .eq 5, 3) := by decide +kernel
theorem d_Law_law_826 : decode c_Law_law 826 = .ok (.iconst 0, 1) := by decide +kernel
theorem d_Law_law_827 : decode c_Law_law 827 = .ok (.ireturn, 1) := by decide +kernel
theorem d_Law_law_828 : decode c_Law_law 828 = .ok (.goto 28, 3) := by decide +kernel
theorem d_Law_law_831 : decode c_Law_law 831 = .ok (.aload_n 1, 1) := by decide +kernel
theorem d_Law_law_832 : decode c_Law_law 832 = .ok (.aload_n 0, 1) := by decide +kernel
theorem d_Law_law_833 : decode c_Law_law 833 = .ok (.iload 4, 2) := by decide +kernel
theorem d_Law_law_835 : decode c_Law_law 835 = .ok (.iconst 1, 1) := by decide +kernel
theorem d_Law_law_836 : decode c_Law_law 836 = .ok (.iadd, 1) := by decide +kernel
theorem d_Law_law_837 : decode c_Law_law 837 = .ok (.iaload, 1) := by decide +kernel
theorem d_Law_law_838 : decode c_Law_law 838 = .ok (.invokevirtual 105, 3) := by decide +kernel
theorem d_Law_law_841 : decode c_Law_law 841 = .ok (.aload_n 2, 1) := by decide +kernel
theorem d_Law_law_842 : decode c_Law_law 842 = .ok (.aload_n 0, 1) := by decide +kernel
theorem d_Law_law_843 : decode c_Law_law 843 = .ok (.iload 4, 2) := by decide +kernel
theorem d_Law_law_845 : decode c_Law_law 845 = .ok (.iconst 1, 1) := by decide +kernel
theorem d_Law_law_846 : decode c_Law_law 846 = .ok (.iadd, 1) := by decide +kernel
theorem d_Law_law_847 : decode c_Law_law 847 = .ok (.iaload, 1) := by decide +kernel
theorem d_Law_law_848 : decode c_Law_law 848 = .ok (.invokevirtual 108, 3) := by decide +kernel
theorem d_Law_law_851 : decode c_Law_law 851 = .ok (.if_icmp .eq 5, 3) := by decide +kernel
theorem d_Law_law_854 : decode c_Law_law 854 = .ok (.iconst 0, 1) := by decide +kernel
theorem d_Law_law_855 : decode c_Law_law 855 = .ok (.ireturn, 1) := by decide +kernel
theorem d_Law_law_856 : decode c_Law_law 856 = .ok (.iinc 4 6, 3) := by decide +kernel
theorem d_Law_law_859 : decode c_Law_law 859 = .ok (.goto (-836), 3) := by decide +kernel
theorem d_Law_law_862 : decode c_Law_law 862 = .ok (.iconst 1, 1) := by decide +kernel
theorem d_Law_law_863 : decode c_Law_law 863 = .ok (.ireturn, 1) := by decide +kernel
end
section
/-! THE PICTURE OF THE MACHINE: every method of the class, of the reference and of the law is walked over ONE world (the list of all cells that the law's run has made), with all locals and the operand stack as lists. The words that every method may use are those of am_tbl. -/
def am_gw : Cond → Bool
  | .arrayClass _ => true
  | w => w.onTables && w.keepsFace
def am_tbl : List Cond := lw_tbl.filter am_gw
theorem am_word {args a' : Array Value} {s U : State} (hW : s.WarmedH U.vm) {w : Cond} (hg : am_gw w = true) (h : w.before args s = true) : w.before a' U = true := by
  have key : ∀ w : Cond, (w.onTables && w.keepsFace) = true → w.before args s = true → w.before a' U = true := by
    intro w hg h
    simp only [Bool.and_eq_true] at hg
    have h1 := Cond.before_shiftedFace (State.Shifted.of_warmed hW) w hg.2 h
    rw [Cond.onTables_vm (A := args) (A' := a') (U := s) (U' := U) U.vm w hg.1, State.setVm_self] at h1
    exact h1
  cases w with
  | arrayClass ty => exact word_at hW (Or.inr ⟨ty, rfl⟩) h
  | _ => exact key _ hg h
/-- the launch, the numbers of classes and slots, the array classes of int, Grammar, long; the address of UNTOLD; the script; and whether it is given that UNTOLD's array is of the class "[I" (1) or not (0) -/
abbrev am_X : Type := Launch × va_G × ClassId × ClassId × ClassId × Nat × Nat × Nat × (Nat → Int32) × Nat
abbrev am_l (X : am_X) : Launch := X.1
abbrev am_D (X : am_X) : va_G := X.2.1
abbrev am_I (X : am_X) : ClassId := X.2.2.1
abbrev am_Gr (X : am_X) : ClassId := X.2.2.2.1
abbrev am_J (X : am_X) : ClassId := X.2.2.2.2.1
abbrev am_U (X : am_X) : Nat := X.2.2.2.2.2.1
abbrev am_b (X : am_X) : Nat := X.2.2.2.2.2.2.1
abbrev am_n (X : am_X) : Nat := X.2.2.2.2.2.2.2.1
abbrev am_xs (X : am_X) : Nat → Int32 := X.2.2.2.2.2.2.2.2.1
abbrev am_ok (X : am_X) : Nat := X.2.2.2.2.2.2.2.2.2
abbrev am_tys (X : am_X) : List (ClassId × FieldType) := [(am_I X, .int), (am_Gr X, .object "SegmentForms$Grammar"), (am_J X, .long)]
/-- a method: its name, its bytes, its locals, what it returns, its table -/
abbrev am_M : Type := MethodName × ByteArray × Nat × Option FieldType × List (Nat × Nat × Nat × Nat)
abbrev am_y (M : am_M) : MethodName := M.1
abbrev am_c (M : am_M) : ByteArray := M.2.1
abbrev am_nL (M : am_M) : Nat := M.2.2.1
abbrev am_ret (M : am_M) : Option FieldType := M.2.2.2.1
abbrev am_hh (M : am_M) : List (Nat × Nat × Nat × Nat) := M.2.2.2.2
/-- how a method ends: with a value (or none), or by throwing an object of a class -/
abbrev am_O : Type := Option Value ⊕ String
abbrev am_cl : List vw_C := [(R_Check, T_Check, 8), (R_Grammar, T_Grammar, 5), (R_Layer, T_Layer, 2), (R_Message, T_Message, 6), (R_Reader, T_Reader, 4), (R_ServiceSigns, T_ServiceSigns, 1), (R_SignRow, T_SignRow, 2), (R_Writer, T_Writer, 3), (R_Forms, T_Forms, 8), (R_Model, T_Model, 33)]
/-- the signs that UNTOLD holds -/
def am_untold : Nat → Int32 := fun k => match k with
  | 0 => 58
  | 1 => 43
  | 2 => 63
  | 3 => 42
  | _ => 39
/-- UNTOLD's cell, as old as the run -/
def am_UT (X : am_X) (A : Nat → Prop) (U : State) (H : Heap) : Prop := ∃ cell : Cell, H[am_U X]? = some cell ∧ (U.isArrayOf cell .int ∧ (am_ok X = 1 → cell.cls = am_I X)) ∧ cell.vm ≠ .unknown ∧ cell.vm.isStatics = false ∧ cell.slots = (Array.ofFn (n := 5) fun j => Value.int (am_untold j.val)) ∧ ¬ A (am_U X)
theorem am_UT.kept {X : am_X} {A : Nat → Prop} {U : State} {H H1 : Heap} (h : am_UT X A U H) (hq : ∀ a : Nat, a < H.size → ¬ A a → H1[a]? = H[a]?) : am_UT X A U H1 := by
  obtain ⟨cell, h1, h2, h3, h4, h5, h6⟩ := h
  exact ⟨cell, by rw [hq _ (Array.getElem?_eq_some_iff.mp h1).1 h6]; exact h1, h2, h3, h4, h5, h6⟩
theorem am_UT.moved {X : am_X} {A : Nat → Prop} {u U : State} {H : Heap} (hvm : u.vm.Alike U.vm) (h : am_UT X A u H) : am_UT X A U H := by
  obtain ⟨cell, h1, ⟨h2, h2'⟩, h3⟩ := h
  exact ⟨cell, h1, ⟨State.isArrayOf_alike hvm h2, h2'⟩, h3⟩
theorem am_UT.narrow {X : am_X} {A B : Nat → Prop} {U : State} {H : Heap} (h : am_UT X A U H) (hAB : ∀ q, B q → A q) : am_UT X B U H := by
  obtain ⟨cell, h1, h2, h3, h4, h5, h6⟩ := h
  exact ⟨cell, h1, h2, h3, h4, h5, fun z => h6 (hAB _ z)⟩
/-- texts of exceptions: class, entry, text -/
def am_strs : List (String × Nat × String) := [("SegmentForms", 100, "no such kind or tag"), ("SegmentForms", 105, "no such least or most"), ("SegmentForms", 116, "too many rows, or no such level here"), ("SegmentForms", 161, "no such what"), ("SegmentForms", 195, "no such place"), ("SegmentForms", 207, "no message"), ("SegmentForms", 209, "no such segment")]
/-- pairs of exceptions of which the first isn't the second -/
def am_ncs : List (String × String) := [("java/lang/IllegalStateException", "java/lang/IllegalArgumentException")]
/-- FLAG 2 of am_X: the start of part 95, where UNTOLD's array is of a class 'GapInts' (number 31) whose own 'clone' never ends -/
def gx_y : MethodName := ⟨"GapInts", "clone", "()Ljava/lang/Object;"⟩
def gx_w : List Cond := [.selects "GapInts" ⟨"java/lang/Object", "clone", "()Ljava/lang/Object;"⟩ gx_y, .code gx_y ⟨#[0xa7, 0, 0]⟩ 1 (some (.object "java/lang/Object")), .initialized "GapInts", .instanceMethod gx_y]
def gx_E (X : am_X) (A : Nat → Prop) (U : State) (H : Heap) : Prop := U.vm.findClass "GapInts" = some 31 ∧ (∀ w ∈ gx_w, w.before #[] U = true) ∧ ∃ cell : Cell, H[am_U X]? = some cell ∧ cell.cls = 31 ∧ cell.vm = .none ∧ ¬ A (am_U X)
theorem gx_E.to {X : am_X} {A B : Nat → Prop} {s U : State} {H H1 : Heap} (h : gx_E X A s H) (hW : s.WarmedH U.vm) (hq : ∀ a : Nat, a < H.size → ¬ A a → H1[a]? = H[a]?) (hAB : ∀ q, B q → A q) : gx_E X B U H1 := by
  obtain ⟨h1, h2, cell, h3, h4, h5, h6⟩ := h
  have hg : ∀ w ∈ gx_w, am_gw w = true := by decide +kernel
  exact ⟨by rw [hW.alike.findClass]; exact h1, fun w hw => am_word hW (hg w hw) (h2 w hw), cell, by rw [hq _ (Array.getElem?_eq_some_iff.mp h3).1 h6]; exact h3, h4, h5, fun z => h6 (hAB _ z)⟩
/-- what holds of the tables and of old cells, wherever the law's run stands -/
def am_Gt (X : am_X) (A : Nat → Prop) (U : State) (H : Heap) : Prop :=
  va_K (am_D X) am_cl (am_tys X) U ∧ va_Z "SegmentForms$ServiceSigns" "UNTOLD" "[I" (.ref (am_U X)) A U H ∧ am_UT X A U H ∧
  vx_Zq Bundle.tN "UNASSIGNED_STACK" Bundle.steD A U H ∧ vx_Zq Bundle.tN "SUPPRESSED_SENTINEL" Bundle.listD A U H ∧
  va_X (am_b X) (am_n X) (am_xs X) U H ∧ am_b X < H.size ∧ ¬ A (am_b X) ∧
  (∀ q ∈ am_strs, ∃ sa, vk_R q.1 q.2.1 q.2.2 sa U) ∧ (∀ q ∈ am_ncs, va_Nc q.1 q.2 U) ∧ va_AO "SegmentForms$Grammar" U ∧ (am_l X).stackTraces = false ∧ (am_ok X = 2 → gx_E X A U H)
theorem am_Gt.to {X : am_X} {A B : Nat → Prop} {s U : State} {H H1 : Heap} (h : am_Gt X A s H) (hW : s.WarmedH U.vm) (hz : H.size ≤ H1.size) (hq : ∀ a : Nat, a < H.size → ¬ A a → H1[a]? = H[a]?) (hAB : ∀ q, q < H1.size → B q → A q) (hAB' : ∀ q, B q → A q) : am_Gt X B U H1 := by
  obtain ⟨h1, h2, h3, h4, h5, h6, h7, h8, h9, h10, h11, h12, h13⟩ := h
  refine ⟨va_K.moved hW.alike h1, ((va_Z.moved hW.alike h2).kept hq).narrow hAB', ((am_UT.moved hW.alike h3).kept hq).narrow hAB', ((vx_Zq.moved hW.alike h4).kept hq).narrow hAB', ((vx_Zq.moved hW.alike h5).kept hq).narrow hAB', ?_, Nat.lt_of_lt_of_le h7 hz, fun z => h8 (hAB' _ z), ?_, fun q hq' => va_Nc.moved hW.alike (h10 q hq'), va_AO.moved hW.alike h11, h12, fun hk => (h13 hk).to hW hq hAB'⟩
  · exact (va_X.moved hW.alike h6).kept (hq _ h7 h8)
  · intro q hq'
    obtain ⟨sa, hsa⟩ := h9 q hq'
    exact ⟨sa, vk_R.warm hW hsa⟩
end
section
/-! THE JUDGEMENT AW: 'the method M, at pc with locals ls, operand stack st and world ws, with frames for d calls more, and mc cells of ms slots to make, comes to an end that Post allows'. -/
/-- locals: the value .retAddr 0 stands for one of which nothing is known -/
def am_L (L : Array Slot) (n : Nat) (ls : List Value) : Prop := L.size = n ∧ lv_wf L ∧ ls.length = n ∧ (∀ v ∈ ls, v.category = 1) ∧ ∀ (i : Nat) (v : Value), ls[i]? = some v → v ≠ .retAddr 0 → L[i]? = some (.val v)
def am_lv (ls : List Value) : List (Nat × Value) := (ls.zipIdx.filter (fun q => decide (q.1 ≠ Value.retAddr 0))).map (fun q => (q.2, q.1))
theorem am_L.has {L : Array Slot} {n : Nat} {ls : List Value} (h : am_L L n ls) : lv_has L n (am_lv ls) := by
  refine ⟨h.1, h.2.1, fun q hq => ?_⟩
  obtain ⟨x, hx, rfl⟩ := List.mem_map.mp hq
  obtain ⟨hx1, hx2⟩ := List.mem_filter.mp hx
  exact h.2.2.2.2 x.2 x.1 (List.mk_mem_zipIdx_iff_getElem?.mp hx1) (by simpa using hx2)
theorem am_L.set {L L' : Array Slot} {n i : Nat} {ls : List Value} {x : Value} (h : am_L L n ls) (hc : x.category = 1) (h' : lv_has L' n ((i, x) :: (am_lv ls).filter (fun q => !(q.1 == i) && !(q.1 + 1 == i && q.2.category == 2)))) : am_L L' n (ls.set i x) := by
  refine ⟨h'.1, h'.2.1, by rw [List.length_set]; exact h.2.2.1, fun v hv => ?_, fun j v hj hne => ?_⟩
  · rcases List.mem_or_eq_of_mem_set hv with h1 | h1
    · exact h.2.2.2.1 v h1
    · rw [h1]; exact hc
  · refine h'.2.2 (j, v) ?_
    by_cases e : i = j
    · subst e
      have hlt : i < (ls.set i x).length := (List.getElem?_eq_some_iff.mp hj).1
      rw [List.length_set] at hlt
      rw [List.getElem?_set_self hlt] at hj
      cases hj
      exact List.mem_cons_self
    · rw [List.getElem?_set_ne e] at hj
      refine List.mem_cons_of_mem _ (List.mem_filter.mpr ⟨?_, ?_⟩)
      · exact List.mem_map.mpr ⟨(v, j), List.mem_filter.mpr ⟨List.mk_mem_zipIdx_iff_getElem?.mpr hj, by simpa using hne⟩, rfl⟩
      · have hv1 := h.2.2.2.1 v (List.mem_of_getElem? hj)
        have e2 : ¬ j = i := fun z => e z.symm
        simp [e2, hv1]
theorem am_L.at {L : Array Slot} {n i : Nat} {ls : List Value} {v : Value} (h : am_L L n ls) (hi : ls[i]? = some v) (hv : v ≠ .retAddr 0) : L[i]? = some (.val v) := h.2.2.2.2 i v hi hv
def am_cw (M : am_M) : Cond := match am_hh M with
  | [] => .code (am_y M) (am_c M) (am_nL M) (am_ret M)
  | hh => .codeWith (am_y M) (am_c M) (am_nL M) (am_ret M) hh
abbrev am_ws (M : am_M) : List Cond := am_cw M :: am_tbl
abbrev am_rm (d mc ms : Nat) : Room := { frames := d, cells := mc, slots := ms, locals := 64 * d }
/-- what the walk knows of its own frame -/
def am_F (M : am_M) (p : Program) (s : State) (m : MethodId) (args : Array Value) (meth : Method) (c : Code) : Prop :=
  p.tables.exec = Jvm.exec ∧ c.code = am_c M ∧ meth.sig.returnType = am_ret M ∧ c.maxLocals = am_nL M ∧ s.vm.findClass (am_y M).cls = some m.cls ∧ (∀ w ∈ am_tbl, w.before args s = true) ∧ meth.locks = false ∧ c.exceptionTable.toList = tableOf (am_hh M) ∧ meth.name = (am_y M).name
def am_Qc (X : am_X) (A : Nat → Prop) (Post : am_O → va_W → Prop) : Array Value → State → Outcome → State → Prop := fun _ st o t =>
  (∃ (v : Option Value) (ws' : va_W), o = .returned v ∧ Post (.inl v) ws' ∧ va_P (am_D X) am_cl ws' t.heap ∧ va_D A ws') ∧ va_F A st t
def am_XC (X : am_X) (A : Nat → Prop) (Post : am_O → va_W → Prop) : String → State → State → Prop := fun E st t =>
  (∃ ws' : va_W, Post (.inr E) ws' ∧ va_P (am_D X) am_cl ws' t.heap ∧ va_D A ws') ∧ va_F A st t
/-- what a walk is to come to: a state of the machine, said of the frame's own start -/
abbrev am_QT : Type := Program → Env → State → Array Value → List Frame → (Nat → Prop) → Nat → Nat → State → Prop
/-- .. an end of the method that P allows -/
def am_E (X : am_X) (P : am_O → va_W → Prop) : am_QT := fun _ _ s args below A kc ks => vx_MQ below (am_Qc X A P) (am_XC X A P) args s kc ks A
def AW (X : am_X) (M : am_M) (d mc ms pc : Nat) (ls st : List Value) (ws : va_W) (Post : am_QT) : Prop :=
  ∀ (p : Program) (e : Env) (R : Room) (s : State) (m : MethodId) (args : Array Value) (below : List Frame) (meth : Method) (c : Code) (H : Heap) (locs : List Loc) (cells slots : Nat) (L : Array Slot) (A : Nat → Prop) (kc ks : Nat),
    am_F M p s m args meth c → am_Gt X A s s.heap → (∀ q, s.heap.size ≤ q → A q) → d ≤ R.frames → 64 * d ≤ R.locals → cells + mc ≤ kc → slots + ms ≤ ks → kc ≤ R.cells → ks ≤ R.slots →
    va_P (am_D X) am_cl ws H → va_D A ws → va_S A s.heap H locs → am_L L (am_nL M) ls →
    W p (am_l X) e R s m args below meth c H locs cells slots (Post p e s args below A kc ks) (F0 m pc L st)
def AMet (X : am_X) (M : am_M) (d mc ms : Nat) (As : List Value) (ws : va_W) (Post : am_O → va_W → Prop) : Prop :=
  ∀ sz : Nat, vx_Met (am_l X) (am_y M) (am_ws M) (am_rm d mc ms) (va_Pc As (fun U => U.heap.size = sz ∧ va_P (am_D X) am_cl ws U.heap ∧ va_D (fun _ => True) ws ∧ am_Gt X (va_A ws sz) U U.heap)) (am_Qc X (va_A ws sz) Post) (am_XC X (va_A ws sz) Post) mc ms (va_A ws sz)
/-- less is asked of the end -/
theorem AW.imp {X : am_X} {M : am_M} {d mc ms pc : Nat} {ls st : List Value} {ws : va_W} {P P' : am_O → va_W → Prop} (h : AW X M d mc ms pc ls st ws (am_E X P)) (hp : ∀ o w, P o w → P' o w) : AW X M d mc ms pc ls st ws (am_E X P') := by
  intro p e R s m args below meth c H locs cells slots L A kc ks a1 a2 a3 a4 a5 a6 a7 a8 a9 a10 a11 a12 a13 T hT XX
  obtain ⟨t, b1, o, b2, b3, b4⟩ := h p e R s m args below meth c H locs cells slots L A kc ks a1 a2 a3 a4 a5 a6 a7 a8 a9 a10 a11 a12 a13 T hT XX
  refine ⟨t, b1, o, b2, b3, ?_⟩
  rcases b4 with ⟨⟨⟨v, w, c1, c2, c3⟩, c4⟩, c5⟩ | ⟨q, c1, E, ce, LL, ⟨⟨w, c2, c3⟩, c4⟩, c5⟩
  · exact Or.inl ⟨⟨⟨v, w, c1, hp _ _ c2, c3⟩, c4⟩, c5⟩
  · exact Or.inr ⟨q, c1, E, ce, LL, ⟨⟨w, hp _ _ c2, c3⟩, c4⟩, c5⟩
/-- more room is no harm -/
theorem AW.room {X : am_X} {M : am_M} {d d' mc mc' ms ms' pc : Nat} {ls st : List Value} {ws : va_W} {P : am_QT} (h : AW X M d mc ms pc ls st ws P) (h1 : d ≤ d') (h2 : mc ≤ mc') (h3 : ms ≤ ms') : AW X M d' mc' ms' pc ls st ws P := by
  intro p e R s m args below meth c H locs cells slots L A kc ks a1 a2 a3 a4 a5 a6 a7 a8 a9 a10 a11 a12 a13
  exact h p e R s m args below meth c H locs cells slots L A kc ks a1 a2 a3 (by omega) (by omega) (by omega) (by omega) a8 a9 a10 a11 a12 a13
/-- a method out of its walk -/
theorem AMet.of {X : am_X} {M : am_M} {d mc ms : Nat} {As : List Value} {ws : va_W} {Post : am_O → va_W → Prop} (hy : plainName (am_y M).cls = true) (hl : As.length ≤ am_nL M) (hc : ∀ v ∈ As, v.category = 1)
    (h : AW X M d mc ms 0 (As ++ List.replicate (am_nL M - As.length) (.retAddr 0)) [] ws (am_E X Post)) : AMet X M d mc ms As ws Post := by
  intro sz
  have hsl : ∀ As : List Value, (∀ v ∈ As, v.category = 1) → lg_sl As = As.map Slot.val := by
    intro As
    induction As with
    | nil => intro _; rfl
    | cons a t ih =>
      intro hc
      have h1 := ih (fun v hv => hc v (List.mem_cons_of_mem _ hv))
      have h2 : ¬ a.category = 2 := by rw [hc a List.mem_cons_self]; decide
      simp only [lg_sl, List.flatMap_cons, if_neg h2, List.map_cons] at h1 ⊢
      rw [h1]; rfl
  have hlen : (lg_sl As).length = As.length := by rw [hsl As hc, List.length_map]
  have body : ∀ p e s m args below meth c s₁, BodyLoose p (am_l X) (am_y M) (headSpec (am_ws M) (am_rm d mc ms)) (am_c M) (am_nL M) (am_ret M) e s m args below meth c s₁ → c.maxLocals = am_nL M → c.exceptionTable.toList = tableOf (am_hh M) →
      (va_Pc As (fun U => U.heap.size = sz ∧ va_P (am_D X) am_cl ws U.heap ∧ va_D (fun _ => True) ws ∧ am_Gt X (va_A ws sz) U U.heap)) args s →
      W p (am_l X) e (headSpec (am_ws M) (am_rm d mc ms)).room s m args below meth c s.heap [] 0 0 (vx_MQ below (am_Qc X (va_A ws sz) Post) (am_XC X (va_A ws sz) Post) args s mc ms (va_A ws sz)) (entryFrame m args (am_nL M)) := by
    intro p e s m args below meth c s₁ B hml ht hv
    obtain ⟨rfl, hsz, hP, hD0, hG⟩ := hv
    subst hsz
    have hts : ∀ w ∈ am_ws M, w.before As.toArray s = true := atoms_spec (ws := am_ws M) B.pre
    rw [lg_entry_eq]
    have hL := lv_entry As (n := am_nL M) (by rw [hlen]; exact hl)
    refine h p e _ s m As.toArray below meth c s.heap [] 0 0 _ (va_A ws s.heap.size) mc ms ⟨B.exec, B.bytes, B.returns, hml, findClass_of_methodNamed B.named, fun w hw => hts w (List.mem_cons_of_mem _ hw), B.notSynchronized, ht, (name_of_methodNamed B.named B.method).1⟩ hG (fun q hq => Or.inr hq) (Nat.le_refl _) (Nat.le_refl _) (by omega) (by omega) (Nat.le_refl _) (Nat.le_refl _) hP (hD0.self (sz := s.heap.size)) va_S.rf ?_
    refine ⟨hL.1, hL.2.1, by rw [List.length_append, List.length_replicate]; omega, fun v hv => ?_, fun i v hi hne => ?_⟩
    · rcases List.mem_append.mp hv with h1 | h1
      · exact hc v h1
      · rw [(List.mem_replicate.mp h1).2]; rfl
    · by_cases hi2 : i < As.length
      · rw [List.getElem?_append_left hi2] at hi
        rw [hsl As hc, List.getElem?_toArray, List.getElem?_append_left (by rw [List.length_map]; exact hi2), List.getElem?_map, hi]; rfl
      · rw [List.getElem?_append_right (by omega)] at hi
        have := List.mem_replicate.mp (List.mem_of_getElem? hi)
        exact absurd this.2 hne
  cases hh : am_hh M with
  | nil =>
    have hcw : am_cw M = Cond.code (am_y M) (am_c M) (am_nL M) (am_ret M) := by unfold am_cw; rw [hh]
    refine vx_ofW (cc := am_c M) (maxL := am_nL M) (ret := am_ret M) hy (by show am_cw M :: am_tbl = _; rw [hcw]) ?_
    intro p e s m args below meth c s₁ B hml ht hv
    refine body p e s m args below meth c s₁ B hml ?_ hv
    rw [hh]
    cases hz : c.exceptionTable.toList with
    | nil => rfl
    | cons a t => exact (ht a (by rw [hz]; exact List.mem_cons_self)).elim
  | cons a t =>
    have hcw : am_cw M = Cond.codeWith (am_y M) (am_c M) (am_nL M) (am_ret M) (am_hh M) := by unfold am_cw; rw [hh]
    refine vx_ofWH (cc := am_c M) (maxL := am_nL M) (ret := am_ret M) (hh := am_hh M) hy (by show am_cw M :: am_tbl = _; rw [hcw]) ?_
    intro p e s m args below meth c s₁ B hml hv
    refine body p e s m args below meth c s₁ B hml ?_ hv
    have hts : ∀ w ∈ am_ws M, w.before args s = true := atoms_spec (ws := am_ws M) B.pre
    have h9 := hts (am_cw M) List.mem_cons_self
    rw [hcw] at h9
    exact vx_table (x := am_y M) B h9
end
section
section AwRows
variable {X : am_X} {M : am_M} {d mc ms pc : Nat} {ls st : List Value} {ws : va_W} {Post : am_QT} {P : am_O → va_W → Prop}
theorem aw_iconst {n : Int} {v : Int32} (hd : decode (am_c M) pc = .ok (.iconst n, 1)) (hv : Int32.ofInt n = v) (k : AW X M d mc ms (pc + 1) ls (.int v :: st) ws Post) : AW X M d mc ms pc ls st ws Post := by
  intro p e R s m args below meth c H locs cells slots L A kc ks a1 a2 a3 a4 a5 a6 a7 a8 a9 a10 a11 a12 a13
  exact lv_iconst a1.1 a1.2.1 hd hv (k p e R s m args below meth c H locs cells slots L A kc ks a1 a2 a3 a4 a5 a6 a7 a8 a9 a10 a11 a12 a13)
theorem aw_bipush {n : Int} {v : Int32} (hd : decode (am_c M) pc = .ok (.bipush n, 2)) (hv : (Int8.ofInt n).toInt32 = v) (k : AW X M d mc ms (pc + 2) ls (.int v :: st) ws Post) : AW X M d mc ms pc ls st ws Post := by
  intro p e R s m args below meth c H locs cells slots L A kc ks a1 a2 a3 a4 a5 a6 a7 a8 a9 a10 a11 a12 a13
  exact lv_bipush a1.1 a1.2.1 hd hv (k p e R s m args below meth c H locs cells slots L A kc ks a1 a2 a3 a4 a5 a6 a7 a8 a9 a10 a11 a12 a13)
theorem aw_sipush {n : Int} {v : Int32} (hd : decode (am_c M) pc = .ok (.sipush n, 3)) (hv : (Int16.ofInt n).toInt32 = v) (k : AW X M d mc ms (pc + 3) ls (.int v :: st) ws Post) : AW X M d mc ms pc ls st ws Post := by
  intro p e R s m args below meth c H locs cells slots L A kc ks a1 a2 a3 a4 a5 a6 a7 a8 a9 a10 a11 a12 a13
  exact lv_sipush a1.1 a1.2.1 hd hv (k p e R s m args below meth c H locs cells slots L A kc ks a1 a2 a3 a4 a5 a6 a7 a8 a9 a10 a11 a12 a13)
theorem aw_null  (hd : decode (am_c M) pc = .ok (.aconst_null, 1)) (k : AW X M d mc ms (pc + 1) ls (.null :: st) ws Post) : AW X M d mc ms pc ls st ws Post := by
  intro p e R s m args below meth c H locs cells slots L A kc ks a1 a2 a3 a4 a5 a6 a7 a8 a9 a10 a11 a12 a13
  exact lv_null a1.1 a1.2.1 hd (k p e R s m args below meth c H locs cells slots L A kc ks a1 a2 a3 a4 a5 a6 a7 a8 a9 a10 a11 a12 a13)
theorem aw_ldc {i : Nat} {v : Int32} (hd : decode (am_c M) pc = .ok (.ldc i, 2)) (hc : Cond.constant (am_y M).cls i v ∈ am_tbl) (k : AW X M d mc ms (pc + 2) ls (.int v :: st) ws Post) : AW X M d mc ms pc ls st ws Post := by
  intro p e R s m args below meth c H locs cells slots L A kc ks a1 a2 a3 a4 a5 a6 a7 a8 a9 a10 a11 a12 a13
  exact lv_ldc a1.1 a1.2.1 a1.2.2.2.2.1 (a1.2.2.2.2.2.1 _ hc) hd (k p e R s m args below meth c H locs cells slots L A kc ks a1 a2 a3 a4 a5 a6 a7 a8 a9 a10 a11 a12 a13)
theorem aw_iload_n {i : Fin 4} {x : Int32} (hd : decode (am_c M) pc = .ok (.iload_n i, 1)) (hl : ls[(i : Nat)]? = some (.int x)) (k : AW X M d mc ms (pc + 1) ls (.int x :: st) ws Post) : AW X M d mc ms pc ls st ws Post := by
  intro p e R s m args below meth c H locs cells slots L A kc ks a1 a2 a3 a4 a5 a6 a7 a8 a9 a10 a11 a12 a13
  exact lv_iload_n a1.1 a1.2.1 hd rfl (a13.at hl (by simp)) (k p e R s m args below meth c H locs cells slots L A kc ks a1 a2 a3 a4 a5 a6 a7 a8 a9 a10 a11 a12 a13)
theorem aw_iload {i : Nat} {x : Int32} (hd : decode (am_c M) pc = .ok (.iload i, 2)) (hl : ls[i]? = some (.int x)) (k : AW X M d mc ms (pc + 2) ls (.int x :: st) ws Post) : AW X M d mc ms pc ls st ws Post := by
  intro p e R s m args below meth c H locs cells slots L A kc ks a1 a2 a3 a4 a5 a6 a7 a8 a9 a10 a11 a12 a13
  exact lv_iload a1.1 a1.2.1 hd (a13.at hl (by simp)) (k p e R s m args below meth c H locs cells slots L A kc ks a1 a2 a3 a4 a5 a6 a7 a8 a9 a10 a11 a12 a13)
theorem aw_aload_n {i : Fin 4} {x : Nat} (hd : decode (am_c M) pc = .ok (.aload_n i, 1)) (hl : ls[(i : Nat)]? = some (.ref x)) (k : AW X M d mc ms (pc + 1) ls (.ref x :: st) ws Post) : AW X M d mc ms pc ls st ws Post := by
  intro p e R s m args below meth c H locs cells slots L A kc ks a1 a2 a3 a4 a5 a6 a7 a8 a9 a10 a11 a12 a13
  exact lv_aload_n a1.1 a1.2.1 hd rfl (a13.at hl (by simp)) (k p e R s m args below meth c H locs cells slots L A kc ks a1 a2 a3 a4 a5 a6 a7 a8 a9 a10 a11 a12 a13)
theorem aw_aload {i : Nat} {x : Nat} (hd : decode (am_c M) pc = .ok (.aload i, 2)) (hl : ls[i]? = some (.ref x)) (k : AW X M d mc ms (pc + 2) ls (.ref x :: st) ws Post) : AW X M d mc ms pc ls st ws Post := by
  intro p e R s m args below meth c H locs cells slots L A kc ks a1 a2 a3 a4 a5 a6 a7 a8 a9 a10 a11 a12 a13
  exact lv_aload a1.1 a1.2.1 hd (a13.at hl (by simp)) (k p e R s m args below meth c H locs cells slots L A kc ks a1 a2 a3 a4 a5 a6 a7 a8 a9 a10 a11 a12 a13)
theorem aw_aload_nN {i : Fin 4} (hd : decode (am_c M) pc = .ok (.aload_n i, 1)) (hl : ls[(i : Nat)]? = some (.null)) (k : AW X M d mc ms (pc + 1) ls (.null :: st) ws Post) : AW X M d mc ms pc ls st ws Post := by
  intro p e R s m args below meth c H locs cells slots L A kc ks a1 a2 a3 a4 a5 a6 a7 a8 a9 a10 a11 a12 a13
  exact lv_aload_nN a1.1 a1.2.1 hd rfl (a13.at hl (by simp)) (k p e R s m args below meth c H locs cells slots L A kc ks a1 a2 a3 a4 a5 a6 a7 a8 a9 a10 a11 a12 a13)
theorem aw_aloadN {i : Nat} (hd : decode (am_c M) pc = .ok (.aload i, 2)) (hl : ls[i]? = some (.null)) (k : AW X M d mc ms (pc + 2) ls (.null :: st) ws Post) : AW X M d mc ms pc ls st ws Post := by
  intro p e R s m args below meth c H locs cells slots L A kc ks a1 a2 a3 a4 a5 a6 a7 a8 a9 a10 a11 a12 a13
  exact lv_aloadN a1.1 a1.2.1 hd (a13.at hl (by simp)) (k p e R s m args below meth c H locs cells slots L A kc ks a1 a2 a3 a4 a5 a6 a7 a8 a9 a10 a11 a12 a13)
theorem aw_istore_n {i : Fin 4} {x : Int32} (hd : decode (am_c M) pc = .ok (.istore_n i, 1)) (hi : (i : Nat) < am_nL M) (k : AW X M d mc ms (pc + 1) (ls.set (i : Nat) (.int x)) st ws Post) : AW X M d mc ms pc ls (.int x :: st) ws Post := by
  intro p e R s m args below meth c H locs cells slots L A kc ks a1 a2 a3 a4 a5 a6 a7 a8 a9 a10 a11 a12 a13
  exact lv_istore_n a1.1 a1.2.1 hd rfl a13.has hi rfl (fun L2 h2 => k p e R s m args below meth c H locs cells slots L2 A kc ks a1 a2 a3 a4 a5 a6 a7 a8 a9 a10 a11 a12 (a13.set rfl h2))
theorem aw_istore {i : Nat} {x : Int32} (hd : decode (am_c M) pc = .ok (.istore i, 2)) (hi : i < am_nL M) (k : AW X M d mc ms (pc + 2) (ls.set i (.int x)) st ws Post) : AW X M d mc ms pc ls (.int x :: st) ws Post := by
  intro p e R s m args below meth c H locs cells slots L A kc ks a1 a2 a3 a4 a5 a6 a7 a8 a9 a10 a11 a12 a13
  exact lv_istore a1.1 a1.2.1 hd a13.has hi rfl (fun L2 h2 => k p e R s m args below meth c H locs cells slots L2 A kc ks a1 a2 a3 a4 a5 a6 a7 a8 a9 a10 a11 a12 (a13.set rfl h2))
theorem aw_astore_n {i : Fin 4} {x : Nat} (hd : decode (am_c M) pc = .ok (.astore_n i, 1)) (hi : (i : Nat) < am_nL M) (k : AW X M d mc ms (pc + 1) (ls.set (i : Nat) (.ref x)) st ws Post) : AW X M d mc ms pc ls (.ref x :: st) ws Post := by
  intro p e R s m args below meth c H locs cells slots L A kc ks a1 a2 a3 a4 a5 a6 a7 a8 a9 a10 a11 a12 a13
  exact lv_astore_n a1.1 a1.2.1 hd rfl a13.has hi rfl (fun L2 h2 => k p e R s m args below meth c H locs cells slots L2 A kc ks a1 a2 a3 a4 a5 a6 a7 a8 a9 a10 a11 a12 (a13.set rfl h2))
theorem aw_astore {i : Nat} {x : Nat} (hd : decode (am_c M) pc = .ok (.astore i, 2)) (hi : i < am_nL M) (k : AW X M d mc ms (pc + 2) (ls.set i (.ref x)) st ws Post) : AW X M d mc ms pc ls (.ref x :: st) ws Post := by
  intro p e R s m args below meth c H locs cells slots L A kc ks a1 a2 a3 a4 a5 a6 a7 a8 a9 a10 a11 a12 a13
  exact lv_astore a1.1 a1.2.1 hd a13.has hi rfl (fun L2 h2 => k p e R s m args below meth c H locs cells slots L2 A kc ks a1 a2 a3 a4 a5 a6 a7 a8 a9 a10 a11 a12 (a13.set rfl h2))
theorem aw_astore_nN {i : Fin 4} (hd : decode (am_c M) pc = .ok (.astore_n i, 1)) (hi : (i : Nat) < am_nL M) (k : AW X M d mc ms (pc + 1) (ls.set (i : Nat) (.null)) st ws Post) : AW X M d mc ms pc ls (.null :: st) ws Post := by
  intro p e R s m args below meth c H locs cells slots L A kc ks a1 a2 a3 a4 a5 a6 a7 a8 a9 a10 a11 a12 a13
  exact lv_astore_nN a1.1 a1.2.1 hd rfl a13.has hi rfl (fun L2 h2 => k p e R s m args below meth c H locs cells slots L2 A kc ks a1 a2 a3 a4 a5 a6 a7 a8 a9 a10 a11 a12 (a13.set rfl h2))
theorem aw_astoreN {i : Nat} (hd : decode (am_c M) pc = .ok (.astore i, 2)) (hi : i < am_nL M) (k : AW X M d mc ms (pc + 2) (ls.set i (.null)) st ws Post) : AW X M d mc ms pc ls (.null :: st) ws Post := by
  intro p e R s m args below meth c H locs cells slots L A kc ks a1 a2 a3 a4 a5 a6 a7 a8 a9 a10 a11 a12 a13
  exact lv_astoreN a1.1 a1.2.1 hd a13.has hi rfl (fun L2 h2 => k p e R s m args below meth c H locs cells slots L2 A kc ks a1 a2 a3 a4 a5 a6 a7 a8 a9 a10 a11 a12 (a13.set rfl h2))
theorem aw_iinc {i : Nat} {n : Int} {x v : Int32} (hd : decode (am_c M) pc = .ok (.iinc i n, 3)) (hl : ls[i]? = some (.int x)) (hv : x + Int32.ofInt n = v) (k : AW X M d mc ms (pc + 3) (ls.set i (.int v)) st ws Post) : AW X M d mc ms pc ls st ws Post := by
  intro p e R s m args below meth c H locs cells slots L A kc ks a1 a2 a3 a4 a5 a6 a7 a8 a9 a10 a11 a12 a13
  have hi : i < am_nL M := by rw [← a13.2.2.1]; exact (List.getElem?_eq_some_iff.mp hl).1
  have hm : (i, Value.int x) ∈ am_lv ls := List.mem_map.mpr ⟨(.int x, i), List.mem_filter.mpr ⟨List.mk_mem_zipIdx_iff_getElem?.mpr hl, by simp⟩, rfl⟩
  obtain ⟨q, hq⟩ := List.getElem?_of_mem hm
  exact lv_iinc a1.1 a1.2.1 hd a13.has (k := q) hq hv hi rfl (fun L2 h2 => k p e R s m args below meth c H locs cells slots L2 A kc ks a1 a2 a3 a4 a5 a6 a7 a8 a9 a10 a11 a12 (a13.set rfl h2))
theorem aw_iadd {x y : Int32} (hd : decode (am_c M) pc = .ok (.iadd, 1)) (k : AW X M d mc ms (pc + 1) ls (.int (x + y) :: st) ws Post) : AW X M d mc ms pc ls (.int y :: .int x :: st) ws Post := by
  intro p e R s m args below meth c H locs cells slots L A kc ks a1 a2 a3 a4 a5 a6 a7 a8 a9 a10 a11 a12 a13
  exact lv_iadd a1.1 a1.2.1 hd (k p e R s m args below meth c H locs cells slots L A kc ks a1 a2 a3 a4 a5 a6 a7 a8 a9 a10 a11 a12 a13)
theorem aw_isub {x y : Int32} (hd : decode (am_c M) pc = .ok (.isub, 1)) (k : AW X M d mc ms (pc + 1) ls (.int (x - y) :: st) ws Post) : AW X M d mc ms pc ls (.int y :: .int x :: st) ws Post := by
  intro p e R s m args below meth c H locs cells slots L A kc ks a1 a2 a3 a4 a5 a6 a7 a8 a9 a10 a11 a12 a13
  exact lv_isub a1.1 a1.2.1 hd (k p e R s m args below meth c H locs cells slots L A kc ks a1 a2 a3 a4 a5 a6 a7 a8 a9 a10 a11 a12 a13)
theorem aw_imul {x y : Int32} (hd : decode (am_c M) pc = .ok (.imul, 1)) (k : AW X M d mc ms (pc + 1) ls (.int (x * y) :: st) ws Post) : AW X M d mc ms pc ls (.int y :: .int x :: st) ws Post := by
  intro p e R s m args below meth c H locs cells slots L A kc ks a1 a2 a3 a4 a5 a6 a7 a8 a9 a10 a11 a12 a13
  exact lv_imul a1.1 a1.2.1 hd (k p e R s m args below meth c H locs cells slots L A kc ks a1 a2 a3 a4 a5 a6 a7 a8 a9 a10 a11 a12 a13)
theorem aw_iand {x y : Int32} (hd : decode (am_c M) pc = .ok (.iand, 1)) (k : AW X M d mc ms (pc + 1) ls (.int (x &&& y) :: st) ws Post) : AW X M d mc ms pc ls (.int y :: .int x :: st) ws Post := by
  intro p e R s m args below meth c H locs cells slots L A kc ks a1 a2 a3 a4 a5 a6 a7 a8 a9 a10 a11 a12 a13
  exact lv_iand a1.1 a1.2.1 hd (k p e R s m args below meth c H locs cells slots L A kc ks a1 a2 a3 a4 a5 a6 a7 a8 a9 a10 a11 a12 a13)
theorem aw_ishr {x y : Int32} (hd : decode (am_c M) pc = .ok (.ishr, 1)) (k : AW X M d mc ms (pc + 1) ls (.int (x >>> (y &&& 31)) :: st) ws Post) : AW X M d mc ms pc ls (.int y :: .int x :: st) ws Post := by
  intro p e R s m args below meth c H locs cells slots L A kc ks a1 a2 a3 a4 a5 a6 a7 a8 a9 a10 a11 a12 a13
  exact lv_ishr a1.1 a1.2.1 hd (k p e R s m args below meth c H locs cells slots L A kc ks a1 a2 a3 a4 a5 a6 a7 a8 a9 a10 a11 a12 a13)
theorem aw_idiv {x y : Int32} (hd : decode (am_c M) pc = .ok (.idiv, 1)) (hne : ¬ y = 0) (k : AW X M d mc ms (pc + 1) ls (.int (x / y) :: st) ws Post) : AW X M d mc ms pc ls (.int y :: .int x :: st) ws Post := by
  intro p e R s m args below meth c H locs cells slots L A kc ks a1 a2 a3 a4 a5 a6 a7 a8 a9 a10 a11 a12 a13
  exact lv_idiv a1.1 a1.2.1 hd hne (k p e R s m args below meth c H locs cells slots L A kc ks a1 a2 a3 a4 a5 a6 a7 a8 a9 a10 a11 a12 a13)
theorem aw_irem {x y : Int32} (hd : decode (am_c M) pc = .ok (.irem, 1)) (hne : ¬ y = 0) (k : AW X M d mc ms (pc + 1) ls (.int (x - x / y * y) :: st) ws Post) : AW X M d mc ms pc ls (.int y :: .int x :: st) ws Post := by
  intro p e R s m args below meth c H locs cells slots L A kc ks a1 a2 a3 a4 a5 a6 a7 a8 a9 a10 a11 a12 a13
  exact lv_irem a1.1 a1.2.1 hd hne (k p e R s m args below meth c H locs cells slots L A kc ks a1 a2 a3 a4 a5 a6 a7 a8 a9 a10 a11 a12 a13)
theorem aw_i2l {x : Int32} (hd : decode (am_c M) pc = .ok (.i2l, 1)) (k : AW X M d mc ms (pc + 1) ls (.long x.toInt64 :: st) ws Post) : AW X M d mc ms pc ls (.int x :: st) ws Post := by
  intro p e R s m args below meth c H locs cells slots L A kc ks a1 a2 a3 a4 a5 a6 a7 a8 a9 a10 a11 a12 a13
  exact lv_i2l a1.1 a1.2.1 hd rfl (k p e R s m args below meth c H locs cells slots L A kc ks a1 a2 a3 a4 a5 a6 a7 a8 a9 a10 a11 a12 a13)
theorem aw_lcmp {x y : Int64} (hd : decode (am_c M) pc = .ok (.lcmp, 1)) (k : AW X M d mc ms (pc + 1) ls (.int (lg_cmp x y) :: st) ws Post) : AW X M d mc ms pc ls (.long y :: .long x :: st) ws Post := by
  intro p e R s m args below meth c H locs cells slots L A kc ks a1 a2 a3 a4 a5 a6 a7 a8 a9 a10 a11 a12 a13
  exact W.lcmp a1.1 a1.2.1 hd (k p e R s m args below meth c H locs cells slots L A kc ks a1 a2 a3 a4 a5 a6 a7 a8 a9 a10 a11 a12 a13)
theorem aw_dup {v : Value} (hd : decode (am_c M) pc = .ok (.dup, 1)) (hv : v.category = 1) (k : AW X M d mc ms (pc + 1) ls (v :: v :: st) ws Post) : AW X M d mc ms pc ls (v :: st) ws Post := by
  intro p e R s m args below meth c H locs cells slots L A kc ks a1 a2 a3 a4 a5 a6 a7 a8 a9 a10 a11 a12 a13
  exact lv_dup a1.1 a1.2.1 hd hv (k p e R s m args below meth c H locs cells slots L A kc ks a1 a2 a3 a4 a5 a6 a7 a8 a9 a10 a11 a12 a13)
theorem aw_dup2 {v u : Value} (hd : decode (am_c M) pc = .ok (.dup2, 1)) (hv : v.category = 1) (hu : u.category = 1) (k : AW X M d mc ms (pc + 1) ls (v :: u :: v :: u :: st) ws Post) : AW X M d mc ms pc ls (v :: u :: st) ws Post := by
  intro p e R s m args below meth c H locs cells slots L A kc ks a1 a2 a3 a4 a5 a6 a7 a8 a9 a10 a11 a12 a13
  exact lv_dup2_11 a1.1 a1.2.1 hd hv hu (k p e R s m args below meth c H locs cells slots L A kc ks a1 a2 a3 a4 a5 a6 a7 a8 a9 a10 a11 a12 a13)
theorem aw_pop {v : Value} (hd : decode (am_c M) pc = .ok (.pop, 1)) (hv : v.category = 1) (k : AW X M d mc ms (pc + 1) ls st ws Post) : AW X M d mc ms pc ls (v :: st) ws Post := by
  intro p e R s m args below meth c H locs cells slots L A kc ks a1 a2 a3 a4 a5 a6 a7 a8 a9 a10 a11 a12 a13
  exact lv_pop a1.1 a1.2.1 hd hv (k p e R s m args below meth c H locs cells slots L A kc ks a1 a2 a3 a4 a5 a6 a7 a8 a9 a10 a11 a12 a13)
theorem aw_if_eq {x : Int32} {off : Int} (hd : decode (am_c M) pc = .ok (.ifCond .eq off, 3)) (tgt : Nat) (ht : (pc : Int) + off = (tgt : Int)) (kt : x = 0 → AW X M d mc ms tgt ls st ws Post) (kf : ¬ x = 0 → AW X M d mc ms (pc + 3) ls st ws Post) : AW X M d mc ms pc ls (.int x :: st) ws Post := by
  intro p e R s m args below meth c H locs cells slots L A kc ks a1 a2 a3 a4 a5 a6 a7 a8 a9 a10 a11 a12 a13
  exact lv_if_eq a1.1 a1.2.1 hd ht (fun h => kt h p e R s m args below meth c H locs cells slots L A kc ks a1 a2 a3 a4 a5 a6 a7 a8 a9 a10 a11 a12 a13) (fun h => kf h p e R s m args below meth c H locs cells slots L A kc ks a1 a2 a3 a4 a5 a6 a7 a8 a9 a10 a11 a12 a13)
theorem aw_icmp_eq {x y : Int32} {off : Int} (hd : decode (am_c M) pc = .ok (.if_icmp .eq off, 3)) (tgt : Nat) (ht : (pc : Int) + off = (tgt : Int)) (kt : x = y → AW X M d mc ms tgt ls st ws Post) (kf : ¬ x = y → AW X M d mc ms (pc + 3) ls st ws Post) : AW X M d mc ms pc ls (.int y :: .int x :: st) ws Post := by
  intro p e R s m args below meth c H locs cells slots L A kc ks a1 a2 a3 a4 a5 a6 a7 a8 a9 a10 a11 a12 a13
  exact lv_icmp_eq a1.1 a1.2.1 hd ht (fun h => kt h p e R s m args below meth c H locs cells slots L A kc ks a1 a2 a3 a4 a5 a6 a7 a8 a9 a10 a11 a12 a13) (fun h => kf h p e R s m args below meth c H locs cells slots L A kc ks a1 a2 a3 a4 a5 a6 a7 a8 a9 a10 a11 a12 a13)
theorem aw_if_ne {x : Int32} {off : Int} (hd : decode (am_c M) pc = .ok (.ifCond .ne off, 3)) (tgt : Nat) (ht : (pc : Int) + off = (tgt : Int)) (kt : ¬ x = 0 → AW X M d mc ms tgt ls st ws Post) (kf : x = 0 → AW X M d mc ms (pc + 3) ls st ws Post) : AW X M d mc ms pc ls (.int x :: st) ws Post := by
  intro p e R s m args below meth c H locs cells slots L A kc ks a1 a2 a3 a4 a5 a6 a7 a8 a9 a10 a11 a12 a13
  exact lv_if_ne a1.1 a1.2.1 hd ht (fun h => kt h p e R s m args below meth c H locs cells slots L A kc ks a1 a2 a3 a4 a5 a6 a7 a8 a9 a10 a11 a12 a13) (fun h => kf h p e R s m args below meth c H locs cells slots L A kc ks a1 a2 a3 a4 a5 a6 a7 a8 a9 a10 a11 a12 a13)
theorem aw_icmp_ne {x y : Int32} {off : Int} (hd : decode (am_c M) pc = .ok (.if_icmp .ne off, 3)) (tgt : Nat) (ht : (pc : Int) + off = (tgt : Int)) (kt : ¬ x = y → AW X M d mc ms tgt ls st ws Post) (kf : x = y → AW X M d mc ms (pc + 3) ls st ws Post) : AW X M d mc ms pc ls (.int y :: .int x :: st) ws Post := by
  intro p e R s m args below meth c H locs cells slots L A kc ks a1 a2 a3 a4 a5 a6 a7 a8 a9 a10 a11 a12 a13
  exact lv_icmp_ne a1.1 a1.2.1 hd ht (fun h => kt h p e R s m args below meth c H locs cells slots L A kc ks a1 a2 a3 a4 a5 a6 a7 a8 a9 a10 a11 a12 a13) (fun h => kf h p e R s m args below meth c H locs cells slots L A kc ks a1 a2 a3 a4 a5 a6 a7 a8 a9 a10 a11 a12 a13)
theorem aw_if_lt {x : Int32} {off : Int} (hd : decode (am_c M) pc = .ok (.ifCond .lt off, 3)) (tgt : Nat) (ht : (pc : Int) + off = (tgt : Int)) (kt : x < 0 → AW X M d mc ms tgt ls st ws Post) (kf : ¬ x < 0 → AW X M d mc ms (pc + 3) ls st ws Post) : AW X M d mc ms pc ls (.int x :: st) ws Post := by
  intro p e R s m args below meth c H locs cells slots L A kc ks a1 a2 a3 a4 a5 a6 a7 a8 a9 a10 a11 a12 a13
  exact lv_if_lt a1.1 a1.2.1 hd ht (fun h => kt h p e R s m args below meth c H locs cells slots L A kc ks a1 a2 a3 a4 a5 a6 a7 a8 a9 a10 a11 a12 a13) (fun h => kf h p e R s m args below meth c H locs cells slots L A kc ks a1 a2 a3 a4 a5 a6 a7 a8 a9 a10 a11 a12 a13)
theorem aw_icmp_lt {x y : Int32} {off : Int} (hd : decode (am_c M) pc = .ok (.if_icmp .lt off, 3)) (tgt : Nat) (ht : (pc : Int) + off = (tgt : Int)) (kt : x < y → AW X M d mc ms tgt ls st ws Post) (kf : ¬ x < y → AW X M d mc ms (pc + 3) ls st ws Post) : AW X M d mc ms pc ls (.int y :: .int x :: st) ws Post := by
  intro p e R s m args below meth c H locs cells slots L A kc ks a1 a2 a3 a4 a5 a6 a7 a8 a9 a10 a11 a12 a13
  exact lv_icmp_lt a1.1 a1.2.1 hd ht (fun h => kt h p e R s m args below meth c H locs cells slots L A kc ks a1 a2 a3 a4 a5 a6 a7 a8 a9 a10 a11 a12 a13) (fun h => kf h p e R s m args below meth c H locs cells slots L A kc ks a1 a2 a3 a4 a5 a6 a7 a8 a9 a10 a11 a12 a13)
theorem aw_if_ge {x : Int32} {off : Int} (hd : decode (am_c M) pc = .ok (.ifCond .ge off, 3)) (tgt : Nat) (ht : (pc : Int) + off = (tgt : Int)) (kt : 0 ≤ x → AW X M d mc ms tgt ls st ws Post) (kf : ¬ 0 ≤ x → AW X M d mc ms (pc + 3) ls st ws Post) : AW X M d mc ms pc ls (.int x :: st) ws Post := by
  intro p e R s m args below meth c H locs cells slots L A kc ks a1 a2 a3 a4 a5 a6 a7 a8 a9 a10 a11 a12 a13
  exact lv_if_ge a1.1 a1.2.1 hd ht (fun h => kt h p e R s m args below meth c H locs cells slots L A kc ks a1 a2 a3 a4 a5 a6 a7 a8 a9 a10 a11 a12 a13) (fun h => kf h p e R s m args below meth c H locs cells slots L A kc ks a1 a2 a3 a4 a5 a6 a7 a8 a9 a10 a11 a12 a13)
theorem aw_icmp_ge {x y : Int32} {off : Int} (hd : decode (am_c M) pc = .ok (.if_icmp .ge off, 3)) (tgt : Nat) (ht : (pc : Int) + off = (tgt : Int)) (kt : y ≤ x → AW X M d mc ms tgt ls st ws Post) (kf : ¬ y ≤ x → AW X M d mc ms (pc + 3) ls st ws Post) : AW X M d mc ms pc ls (.int y :: .int x :: st) ws Post := by
  intro p e R s m args below meth c H locs cells slots L A kc ks a1 a2 a3 a4 a5 a6 a7 a8 a9 a10 a11 a12 a13
  exact lv_icmp_ge a1.1 a1.2.1 hd ht (fun h => kt h p e R s m args below meth c H locs cells slots L A kc ks a1 a2 a3 a4 a5 a6 a7 a8 a9 a10 a11 a12 a13) (fun h => kf h p e R s m args below meth c H locs cells slots L A kc ks a1 a2 a3 a4 a5 a6 a7 a8 a9 a10 a11 a12 a13)
theorem aw_if_gt {x : Int32} {off : Int} (hd : decode (am_c M) pc = .ok (.ifCond .gt off, 3)) (tgt : Nat) (ht : (pc : Int) + off = (tgt : Int)) (kt : 0 < x → AW X M d mc ms tgt ls st ws Post) (kf : ¬ 0 < x → AW X M d mc ms (pc + 3) ls st ws Post) : AW X M d mc ms pc ls (.int x :: st) ws Post := by
  intro p e R s m args below meth c H locs cells slots L A kc ks a1 a2 a3 a4 a5 a6 a7 a8 a9 a10 a11 a12 a13
  exact lv_if_gt a1.1 a1.2.1 hd ht (fun h => kt h p e R s m args below meth c H locs cells slots L A kc ks a1 a2 a3 a4 a5 a6 a7 a8 a9 a10 a11 a12 a13) (fun h => kf h p e R s m args below meth c H locs cells slots L A kc ks a1 a2 a3 a4 a5 a6 a7 a8 a9 a10 a11 a12 a13)
theorem aw_icmp_gt {x y : Int32} {off : Int} (hd : decode (am_c M) pc = .ok (.if_icmp .gt off, 3)) (tgt : Nat) (ht : (pc : Int) + off = (tgt : Int)) (kt : y < x → AW X M d mc ms tgt ls st ws Post) (kf : ¬ y < x → AW X M d mc ms (pc + 3) ls st ws Post) : AW X M d mc ms pc ls (.int y :: .int x :: st) ws Post := by
  intro p e R s m args below meth c H locs cells slots L A kc ks a1 a2 a3 a4 a5 a6 a7 a8 a9 a10 a11 a12 a13
  exact lv_icmp_gt a1.1 a1.2.1 hd ht (fun h => kt h p e R s m args below meth c H locs cells slots L A kc ks a1 a2 a3 a4 a5 a6 a7 a8 a9 a10 a11 a12 a13) (fun h => kf h p e R s m args below meth c H locs cells slots L A kc ks a1 a2 a3 a4 a5 a6 a7 a8 a9 a10 a11 a12 a13)
theorem aw_if_le {x : Int32} {off : Int} (hd : decode (am_c M) pc = .ok (.ifCond .le off, 3)) (tgt : Nat) (ht : (pc : Int) + off = (tgt : Int)) (kt : x ≤ 0 → AW X M d mc ms tgt ls st ws Post) (kf : ¬ x ≤ 0 → AW X M d mc ms (pc + 3) ls st ws Post) : AW X M d mc ms pc ls (.int x :: st) ws Post := by
  intro p e R s m args below meth c H locs cells slots L A kc ks a1 a2 a3 a4 a5 a6 a7 a8 a9 a10 a11 a12 a13
  exact lv_if_le a1.1 a1.2.1 hd ht (fun h => kt h p e R s m args below meth c H locs cells slots L A kc ks a1 a2 a3 a4 a5 a6 a7 a8 a9 a10 a11 a12 a13) (fun h => kf h p e R s m args below meth c H locs cells slots L A kc ks a1 a2 a3 a4 a5 a6 a7 a8 a9 a10 a11 a12 a13)
theorem aw_icmp_le {x y : Int32} {off : Int} (hd : decode (am_c M) pc = .ok (.if_icmp .le off, 3)) (tgt : Nat) (ht : (pc : Int) + off = (tgt : Int)) (kt : x ≤ y → AW X M d mc ms tgt ls st ws Post) (kf : ¬ x ≤ y → AW X M d mc ms (pc + 3) ls st ws Post) : AW X M d mc ms pc ls (.int y :: .int x :: st) ws Post := by
  intro p e R s m args below meth c H locs cells slots L A kc ks a1 a2 a3 a4 a5 a6 a7 a8 a9 a10 a11 a12 a13
  exact lv_icmp_le a1.1 a1.2.1 hd ht (fun h => kt h p e R s m args below meth c H locs cells slots L A kc ks a1 a2 a3 a4 a5 a6 a7 a8 a9 a10 a11 a12 a13) (fun h => kf h p e R s m args below meth c H locs cells slots L A kc ks a1 a2 a3 a4 a5 a6 a7 a8 a9 a10 a11 a12 a13)
theorem aw_goto {off : Int} (hd : decode (am_c M) pc = .ok (.goto off, 3)) (tgt : Nat) (ht : (pc : Int) + off = (tgt : Int)) (k : AW X M d mc ms tgt ls st ws Post) : AW X M d mc ms pc ls st ws Post := by
  intro p e R s m args below meth c H locs cells slots L A kc ks a1 a2 a3 a4 a5 a6 a7 a8 a9 a10 a11 a12 a13
  exact lv_goto a1.1 a1.2.1 hd ht (k p e R s m args below meth c H locs cells slots L A kc ks a1 a2 a3 a4 a5 a6 a7 a8 a9 a10 a11 a12 a13)
theorem aw_ifnull {x : Nat} {off : Int} (hd : decode (am_c M) pc = .ok (.ifnull off, 3)) (k : AW X M d mc ms (pc + 3) ls st ws Post) : AW X M d mc ms pc ls (.ref x :: st) ws Post := by
  intro p e R s m args below meth c H locs cells slots L A kc ks a1 a2 a3 a4 a5 a6 a7 a8 a9 a10 a11 a12 a13
  exact lv_ifnull a1.1 a1.2.1 hd (k p e R s m args below meth c H locs cells slots L A kc ks a1 a2 a3 a4 a5 a6 a7 a8 a9 a10 a11 a12 a13)
theorem aw_ifnullN {off : Int} (hd : decode (am_c M) pc = .ok (.ifnull off, 3)) (tgt : Nat) (ht : (pc : Int) + off = (tgt : Int)) (k : AW X M d mc ms tgt ls st ws Post) : AW X M d mc ms pc ls (.null :: st) ws Post := by
  intro p e R s m args below meth c H locs cells slots L A kc ks a1 a2 a3 a4 a5 a6 a7 a8 a9 a10 a11 a12 a13
  exact lv_ifnullN a1.1 a1.2.1 hd ht (k p e R s m args below meth c H locs cells slots L A kc ks a1 a2 a3 a4 a5 a6 a7 a8 a9 a10 a11 a12 a13)
theorem aw_ifnonnull {x : Nat} {off : Int} (hd : decode (am_c M) pc = .ok (.ifnonnull off, 3)) (tgt : Nat) (ht : (pc : Int) + off = (tgt : Int)) (k : AW X M d mc ms tgt ls st ws Post) : AW X M d mc ms pc ls (.ref x :: st) ws Post := by
  intro p e R s m args below meth c H locs cells slots L A kc ks a1 a2 a3 a4 a5 a6 a7 a8 a9 a10 a11 a12 a13
  exact lv_ifnonnull a1.1 a1.2.1 hd ht (k p e R s m args below meth c H locs cells slots L A kc ks a1 a2 a3 a4 a5 a6 a7 a8 a9 a10 a11 a12 a13)
theorem aw_ifnonnullN {off : Int} (hd : decode (am_c M) pc = .ok (.ifnonnull off, 3)) (k : AW X M d mc ms (pc + 3) ls st ws Post) : AW X M d mc ms pc ls (.null :: st) ws Post := by
  intro p e R s m args below meth c H locs cells slots L A kc ks a1 a2 a3 a4 a5 a6 a7 a8 a9 a10 a11 a12 a13
  exact lv_ifnonnullN a1.1 a1.2.1 hd (k p e R s m args below meth c H locs cells slots L A kc ks a1 a2 a3 a4 a5 a6 a7 a8 a9 a10 a11 a12 a13)
theorem aw_tableIn {dflt lo hi : Int} {offs : Array Int} {len : Nat} {x : Int32} {off : Int} (hd : decode (am_c M) pc = .ok (.tableswitch dflt lo hi offs, len)) (tgt : Nat) (h1 : ¬ x.toInt < lo) (h2 : ¬ hi < x.toInt) (ho : offs[(x.toInt - lo).toNat]? = some off) (ht : (pc : Int) + off = (tgt : Int)) (k : AW X M d mc ms tgt ls st ws Post) : AW X M d mc ms pc ls (.int x :: st) ws Post := by
  intro p e R s m args below meth c H locs cells slots L A kc ks a1 a2 a3 a4 a5 a6 a7 a8 a9 a10 a11 a12 a13
  exact lv_tableIn a1.1 a1.2.1 hd h1 h2 ho ht (k p e R s m args below meth c H locs cells slots L A kc ks a1 a2 a3 a4 a5 a6 a7 a8 a9 a10 a11 a12 a13)
theorem aw_tableOut {dflt lo hi : Int} {offs : Array Int} {len : Nat} {x : Int32} (hd : decode (am_c M) pc = .ok (.tableswitch dflt lo hi offs, len)) (tgt : Nat) (h : x.toInt < lo ∨ hi < x.toInt) (ht : (pc : Int) + dflt = (tgt : Int)) (k : AW X M d mc ms tgt ls st ws Post) : AW X M d mc ms pc ls (.int x :: st) ws Post := by
  intro p e R s m args below meth c H locs cells slots L A kc ks a1 a2 a3 a4 a5 a6 a7 a8 a9 a10 a11 a12 a13
  exact lv_tableOut a1.1 a1.2.1 hd h ht (k p e R s m args below meth c H locs cells slots L A kc ks a1 a2 a3 a4 a5 a6 a7 a8 a9 a10 a11 a12 a13)
/-- the entry 'idx' of the class 'own' is the field k of the class ci: its name's words are among am_tbl -/
def am_fl (own : String) (idx ci k : Nat) (fin : Bool) (ty : FieldType) : Prop := ∃ (C : String) (T : u_T) (N : Nat) (ty0 : Nat → FieldType), am_cl[ci]? = some (C, T, N) ∧ k < N ∧ Cond.fieldLink own idx (T k).1 (T k).2.1 (T k).2.2.1 ∈ am_tbl ∧ (∀ w ∈ u_ws C T N, w ∈ am_tbl) ∧ (∀ j, j < N → parseFieldDescriptor (T j).2.2.1 = some (ty0 j)) ∧ ty0 k = ty ∧ (∀ a, a < N → ∀ b, b < N → a ≠ b → (T a).2.1 ≠ (T b).2.1) ∧ (T k).2.2.2 = fin
theorem aw_getf {idx ci j : Nat} {fin : Bool} {ty : FieldType} {a : Nat} {fs : List Value} {v : Value} (hd : decode (am_c M) pc = .ok (.getfield idx, 3)) (hf : am_fl (am_y M).cls idx ci j fin ty) (q0 : Nat) (hc : ws[q0]? = some (a, .inr (ci, fs))) (hv : fs[j]? = some v) (k : AW X M d mc ms (pc + 3) ls (v :: st) ws Post) : AW X M d mc ms pc ls (.ref a :: st) ws Post := by
  intro p e R s m args below meth c H locs cells slots L A kc ks a1 a2 a3 a4 a5 a6 a7 a8 a9 a10 a11 a12 a13
  obtain ⟨C, T, N, ty0, h1, h2, h3, h4, -⟩ := hf
  exact va_get a1.1 a1.2.1 a1.2.2.2.2.2.1 h4 a1.2.2.2.2.1 a2.1 a10 q0 hc h1 j h2 (a1.2.2.2.2.2.1 _ h3) (fun _ h9 => h9) hv hd (k p e R s m args below meth c H locs cells slots L A kc ks a1 a2 a3 a4 a5 a6 a7 a8 a9 a10 a11 a12 a13)
theorem aw_putf {idx ci j : Nat} {ty : FieldType} {a : Nat} {fs : List Value} {v : Value} (hd : decode (am_c M) pc = .ok (.putfield idx, 3)) (hf : am_fl (am_y M).cls idx ci j false ty) (q0 : Nat) (hc : ws[q0]? = some (a, .inr (ci, fs))) (hn : narrow ty v = v) (hfit : fits ty v = true) (hj : j < fs.length) (k : AW X M d mc ms (pc + 3) ls st (ws.set q0 (a, .inr (ci, fs.set j v))) Post) : AW X M d mc ms pc ls (v :: .ref a :: st) ws Post := by
  intro p e R s m args below meth c H locs cells slots L A kc ks a1 a2 a3 a4 a5 a6 a7 a8 a9 a10 a11 a12 a13
  obtain ⟨C, T, N, ty0, h1, h2, h3, h4, h5, h6, h7, h8⟩ := hf
  exact va_put a1.1 a1.2.1 a1.2.2.2.2.2.1 h4 ty0 h5 h7 a1.2.2.2.2.1 a2.1 a10 a11 a12 q0 hc h1 j h2 (a1.2.2.2.2.2.1 _ h3) (fun _ h9 => h9) h8 (h5 j h2) (by rw [h6]; exact hn) (by rw [h6]; exact hfit) hj hd (fun H1 locs1 b1 b2 b3 => k p e R s m args below meth c H1 locs1 cells slots L A kc ks a1 a2 a3 a4 a5 a6 a7 a8 a9 b1 b2 b3 a13)
/-- a final field in its own class' constructor -/
theorem aw_putF {idx ci j : Nat} {ty : FieldType} {a : Nat} {fs : List Value} {v : Value} (hd : decode (am_c M) pc = .ok (.putfield idx, 3)) (hf : am_fl (am_y M).cls idx ci j true ty) (hO : ∃ (T : u_T) (N : Nat), am_cl[ci]? = some ((am_y M).cls, T, N) ∧ (T j).1 = (am_y M).cls) (hi : (am_y M).name = "<init>") (q0 : Nat) (hc : ws[q0]? = some (a, .inr (ci, fs))) (hn : narrow ty v = v) (hfit : fits ty v = true) (hj : j < fs.length) (k : AW X M d mc ms (pc + 3) ls st (ws.set q0 (a, .inr (ci, fs.set j v))) Post) : AW X M d mc ms pc ls (v :: .ref a :: st) ws Post := by
  intro p e R s m args below meth c H locs cells slots L A kc ks a1 a2 a3 a4 a5 a6 a7 a8 a9 a10 a11 a12 a13
  obtain ⟨C, T, N, ty0, h1, h2, h3, h4, h5, h6, h7, h8⟩ := hf
  obtain ⟨T', N', g1, g2⟩ := hO
  cases h1.symm.trans g1
  exact va_putF a1.1 a1.2.1 a1.2.2.2.2.2.1 h4 ty0 h5 h7 a1.2.2.2.2.1 a2.1 a10 a11 a12 q0 hc h1 j h2 (a1.2.2.2.2.2.1 _ h3) (fun _ h9 => h9) h8 (a1.2.2.2.2.2.2.2.2.trans hi) g2 (h5 j h2) (by rw [h6]; exact hn) (by rw [h6]; exact hfit) hj hd (fun H1 locs1 b1 b2 b3 => k p e R s m args below meth c H1 locs1 cells slots L A kc ks a1 a2 a3 a4 a5 a6 a7 a8 a9 b1 b2 b3 a13)
theorem aw_iald {a n : Nat} {f : Nat → Int32} {i : Int32} (hd : decode (am_c M) pc = .ok (.iaload, 1)) (q0 : Nat) (hc : ws[q0]? = some (a, .inl (am_I X, n, .inl f))) (j : Nat) (hi : i = nI j) (hj : j < n) (hn : n < 2 ^ 31) (k : AW X M d mc ms (pc + 1) ls (.int (f j) :: st) ws Post) : AW X M d mc ms pc ls (.int i :: .ref a :: st) ws Post := by
  intro p e R s m args below meth c H locs cells slots L A kc ks a1 a2 a3 a4 a5 a6 a7 a8 a9 a10 a11 a12 a13
  subst hi
  refine va_iald a1.1 a1.2.1 a2.1 a10 q0 0 hc rfl (vp_in_nI hj hn) hd ?_
  rw [nI_clamp (Nat.lt_trans hj hn)]
  exact k p e R s m args below meth c H locs cells slots L A kc ks a1 a2 a3 a4 a5 a6 a7 a8 a9 a10 a11 a12 a13
theorem aw_iast {a n : Nat} {f : Nat → Int32} {i x : Int32} (hd : decode (am_c M) pc = .ok (.iastore, 1)) (q0 : Nat) (hc : ws[q0]? = some (a, .inl (am_I X, n, .inl f))) (j : Nat) (hi : i = nI j) (hj : j < n) (hn : n < 2 ^ 31) (k : AW X M d mc ms (pc + 1) ls st (ws.set q0 (a, .inl (am_I X, n, .inl (upd f j x)))) Post) : AW X M d mc ms pc ls (.int x :: .int i :: .ref a :: st) ws Post := by
  intro p e R s m args below meth c H locs cells slots L A kc ks a1 a2 a3 a4 a5 a6 a7 a8 a9 a10 a11 a12 a13
  subst hi
  refine va_iast a1.1 a1.2.1 a2.1 a10 a11 a12 q0 0 hc rfl (vp_in_nI hj hn) hd (fun H1 locs1 b1 b2 b3 => ?_)
  rw [nI_clamp (Nat.lt_trans hj hn)] at b1 b2
  exact k p e R s m args below meth c H1 locs1 cells slots L A kc ks a1 a2 a3 a4 a5 a6 a7 a8 a9 b1 b2 b3 a13
theorem aw_lald {a n : Nat} {f : Nat → Int64} {i : Int32} (hd : decode (am_c M) pc = .ok (.laload, 1)) (q0 : Nat) (hc : ws[q0]? = some (a, .inl (am_J X, n, .inr (.inl f)))) (j : Nat) (hi : i = nI j) (hj : j < n) (hn : n < 2 ^ 31) (k : AW X M d mc ms (pc + 1) ls (.long (f j) :: st) ws Post) : AW X M d mc ms pc ls (.int i :: .ref a :: st) ws Post := by
  intro p e R s m args below meth c H locs cells slots L A kc ks a1 a2 a3 a4 a5 a6 a7 a8 a9 a10 a11 a12 a13
  subst hi
  refine va_lald a1.1 a1.2.1 a2.1 a10 q0 2 hc rfl (vp_in_nI hj hn) hd ?_
  rw [nI_clamp (Nat.lt_trans hj hn)]
  exact k p e R s m args below meth c H locs cells slots L A kc ks a1 a2 a3 a4 a5 a6 a7 a8 a9 a10 a11 a12 a13
theorem aw_last {a n : Nat} {f : Nat → Int64} {i : Int32} {x : Int64} (hd : decode (am_c M) pc = .ok (.lastore, 1)) (q0 : Nat) (hc : ws[q0]? = some (a, .inl (am_J X, n, .inr (.inl f)))) (j : Nat) (hi : i = nI j) (hj : j < n) (hn : n < 2 ^ 31) (k : AW X M d mc ms (pc + 1) ls st (ws.set q0 (a, .inl (am_J X, n, .inr (.inl (vp_updL f j x))))) Post) : AW X M d mc ms pc ls (.long x :: .int i :: .ref a :: st) ws Post := by
  intro p e R s m args below meth c H locs cells slots L A kc ks a1 a2 a3 a4 a5 a6 a7 a8 a9 a10 a11 a12 a13
  subst hi
  refine va_last a1.1 a1.2.1 a2.1 a10 a11 a12 q0 2 hc rfl (vp_in_nI hj hn) hd (fun H1 locs1 b1 b2 b3 => ?_)
  rw [nI_clamp (Nat.lt_trans hj hn)] at b1 b2
  exact k p e R s m args below meth c H1 locs1 cells slots L A kc ks a1 a2 a3 a4 a5 a6 a7 a8 a9 b1 b2 b3 a13
theorem aw_alen {a n : Nat} {f : Nat → Int32} (hd : decode (am_c M) pc = .ok (.arraylength, 1)) (q0 : Nat) (hc : ws[q0]? = some (a, .inl (am_I X, n, .inl f))) (k : AW X M d mc ms (pc + 1) ls (.int (nI n) :: st) ws Post) : AW X M d mc ms pc ls (.ref a :: st) ws Post := by
  intro p e R s m args below meth c H locs cells slots L A kc ks a1 a2 a3 a4 a5 a6 a7 a8 a9 a10 a11 a12 a13
  exact va_alen a1.1 a1.2.1 a2.1 a10 q0 0 hc (ty := .int) rfl rfl hd (k p e R s m args below meth c H locs cells slots L A kc ks a1 a2 a3 a4 a5 a6 a7 a8 a9 a10 a11 a12 a13)
theorem aw_alenG {a n : Nat} {f : Nat → Option Nat} (hd : decode (am_c M) pc = .ok (.arraylength, 1)) (q0 : Nat) (hc : ws[q0]? = some (a, .inl (am_Gr X, n, .inr (.inr (.inr (.inr f)))))) (k : AW X M d mc ms (pc + 1) ls (.int (nI n) :: st) ws Post) : AW X M d mc ms pc ls (.ref a :: st) ws Post := by
  intro p e R s m args below meth c H locs cells slots L A kc ks a1 a2 a3 a4 a5 a6 a7 a8 a9 a10 a11 a12 a13
  exact va_alen a1.1 a1.2.1 a2.1 a10 q0 1 hc (ty := .object "SegmentForms$Grammar") rfl rfl hd (k p e R s m args below meth c H locs cells slots L A kc ks a1 a2 a3 a4 a5 a6 a7 a8 a9 a10 a11 a12 a13)
theorem aw_aald {a n : Nat} {f : Nat → Option Nat} {i : Int32} (hd : decode (am_c M) pc = .ok (.aaload, 1)) (q0 : Nat) (hc : ws[q0]? = some (a, .inl (am_Gr X, n, .inr (.inr (.inr (.inr f)))))) (j : Nat) (hi : i = nI j) (hj : j < n) (hn : n < 2 ^ 31) (k : AW X M d mc ms (pc + 1) ls (va_rf (f j) :: st) ws Post) : AW X M d mc ms pc ls (.int i :: .ref a :: st) ws Post := by
  intro p e R s m args below meth c H locs cells slots L A kc ks a1 a2 a3 a4 a5 a6 a7 a8 a9 a10 a11 a12 a13
  subst hi
  refine va_aldq a1.1 a1.2.1 a2.1 a10 q0 1 hc rfl (vp_in_nI hj hn) hd ?_
  rw [nI_clamp (Nat.lt_trans hj hn)]
  exact k p e R s m args below meth c H locs cells slots L A kc ks a1 a2 a3 a4 a5 a6 a7 a8 a9 a10 a11 a12 a13
theorem aw_aast {a n v ci : Nat} {f : Nat → Option Nat} {i : Int32} {fs : List Value} (hd : decode (am_c M) pc = .ok (.aastore, 1)) (q0 : Nat) (hc : ws[q0]? = some (a, .inl (am_Gr X, n, .inr (.inr (.inr (.inr f)))))) (qk : Nat) (hv : ws[qk]? = some (v, .inr (1, fs))) (j : Nat) (hi : i = nI j) (hj : j < n) (hn : n < 2 ^ 31) (k : AW X M d mc ms (pc + 1) ls st (ws.set q0 (a, .inl (am_Gr X, n, .inr (.inr (.inr (.inr (va_up f j (some v)))))))) Post) : AW X M d mc ms pc ls (.ref v :: .int i :: .ref a :: st) ws Post := by
  intro p e R s m args below meth c H locs cells slots L A kc ks a1 a2 a3 a4 a5 a6 a7 a8 a9 a10 a11 a12 a13
  subst hi
  refine va_astq a1.1 a1.2.1 a2.1 a10 a11 a12 q0 1 qk 1 (r := (R_Grammar, T_Grammar, 5)) hc rfl hv rfl (vp_in_nI hj hn) hd (fun H1 locs1 b1 b2 b3 => ?_)
  rw [nI_clamp (Nat.lt_trans hj hn)] at b1 b2
  exact k p e R s m args below meth c H1 locs1 cells slots L A kc ks a1 a2 a3 a4 a5 a6 a7 a8 a9 b1 b2 b3 a13
theorem aw_sld {i : Int32} (hd : decode (am_c M) pc = .ok (.iaload, 1)) (j : Nat) (hi : i = nI j) (hj : j < am_n X) (hn : am_n X < 2 ^ 31) (k : AW X M d mc ms (pc + 1) ls (.int (am_xs X j) :: st) ws Post) : AW X M d mc ms pc ls (.int i :: .ref (am_b X) :: st) ws Post := by
  intro p e R s m args below meth c H locs cells slots L A kc ks a1 a2 a3 a4 a5 a6 a7 a8 a9 a10 a11 a12 a13
  subst hi
  refine va_sld a1.1 a1.2.1 a2.2.2.2.2.2.1 a2.2.2.2.2.2.2.1 a2.2.2.2.2.2.2.2.1 a12 (vp_in_nI hj hn) hd ?_
  rw [nI_clamp (Nat.lt_trans hj hn)]
  exact k p e R s m args below meth c H locs cells slots L A kc ks a1 a2 a3 a4 a5 a6 a7 a8 a9 a10 a11 a12 a13
theorem aw_slen (hd : decode (am_c M) pc = .ok (.arraylength, 1)) (k : AW X M d mc ms (pc + 1) ls (.int (nI (am_n X)) :: st) ws Post) : AW X M d mc ms pc ls (.ref (am_b X) :: st) ws Post := by
  intro p e R s m args below meth c H locs cells slots L A kc ks a1 a2 a3 a4 a5 a6 a7 a8 a9 a10 a11 a12 a13
  exact va_slen a1.1 a1.2.1 a2.2.2.2.2.2.1 a2.2.2.2.2.2.2.1 a2.2.2.2.2.2.2.2.1 a12 hd (k p e R s m args below meth c H locs cells slots L A kc ks a1 a2 a3 a4 a5 a6 a7 a8 a9 a10 a11 a12 a13)
theorem am_UT.T {A : Nat → Prop} {U : State} {H : Heap} (h : am_UT X A U H) : va_T .int (am_U X) 5 (fun j => .int (am_untold j)) A U H := by
  obtain ⟨cell, h1, ⟨h2, -⟩, h3, h4, h5, h6⟩ := h
  exact ⟨cell, h1, h2, h3, by rw [h5]; simp, by rw [h5]; simp; rfl, fun j hj => by rw [h5]; simp [Array.getElem?_ofFn, hj], h6⟩
theorem aw_uld {i : Int32} (hd : decode (am_c M) pc = .ok (.iaload, 1)) (j : Nat) (hi : i = nI j) (hj : j < 5) (k : AW X M d mc ms (pc + 1) ls (.int (am_untold j) :: st) ws Post) : AW X M d mc ms pc ls (.int i :: .ref (am_U X) :: st) ws Post := by
  intro p e R s m args below meth c H locs cells slots L A kc ks a1 a2 a3 a4 a5 a6 a7 a8 a9 a10 a11 a12 a13
  subst hi
  exact va_ti a1.1 a1.2.1 (am_UT.T a2.2.2.1) a12 (vp_in_nI hj (by decide)) (by rw [nI_clamp (Nat.lt_trans hj (by decide))]) hd (k p e R s m args below meth c H locs cells slots L A kc ks a1 a2 a3 a4 a5 a6 a7 a8 a9 a10 a11 a12 a13)
theorem aw_ulen (hd : decode (am_c M) pc = .ok (.arraylength, 1)) (k : AW X M d mc ms (pc + 1) ls (.int (nI 5) :: st) ws Post) : AW X M d mc ms pc ls (.ref (am_U X) :: st) ws Post := by
  intro p e R s m args below meth c H locs cells slots L A kc ks a1 a2 a3 a4 a5 a6 a7 a8 a9 a10 a11 a12 a13
  exact va_tlen a1.1 a1.2.1 (am_UT.T a2.2.2.1) a12 rfl hd (k p e R s m args below meth c H locs cells slots L A kc ks a1 a2 a3 a4 a5 a6 a7 a8 a9 a10 a11 a12 a13)
theorem aw_gets {idx : Nat} (hd : decode (am_c M) pc = .ok (.getstatic idx, 3)) (hf : Cond.fieldLink (am_y M).cls idx "SegmentForms$ServiceSigns" "UNTOLD" "[I" ∈ am_tbl) (k : AW X M d mc ms (pc + 3) ls (.ref (am_U X) :: st) ws Post) : AW X M d mc ms pc ls st ws Post := by
  intro p e R s m args below meth c H locs cells slots L A kc ks a1 a2 a3 a4 a5 a6 a7 a8 a9 a10 a11 a12 a13
  exact va_gets a1.1 a1.2.1 a2.2.1 a12 a1.2.2.2.2.1 (a1.2.2.2.2.2.1 _ hf) (fun _ h9 => h9) hd (k p e R s m args below meth c H locs cells slots L A kc ks a1 a2 a3 a4 a5 a6 a7 a8 a9 a10 a11 a12 a13)
theorem aw_iret {v : Int32} (hd : decode (am_c M) pc = .ok (.ireturn, 1)) (hr : am_ret M = some .int) (hp : P (.inl (some (.int v))) ws) : AW X M d mc ms pc ls [.int v] ws (am_E X P) := by
  intro p e R s m args below meth c H locs cells slots L A kc ks a1 a2 a3 a4 a5 a6 a7 a8 a9 a10 a11 a12 a13
  exact vx_ret (W.widen (k := kc) (n := ks) (by omega) (by omega) (W.iret (free := A) a1.1 a1.2.1 (a1.2.2.1.trans hr) (fun t ht _ => ⟨⟨_, ws, rfl, hp, by rw [ht]; exact a10, a11⟩, a12.F ht⟩) a12.2.2 hd a1.2.2.2.2.2.2.1))
theorem aw_zret {v : Int32} (hd : decode (am_c M) pc = .ok (.ireturn, 1)) (hr : am_ret M = some .boolean) (hv : v = 0 ∨ v = 1) (hp : P (.inl (some (.int v))) ws) : AW X M d mc ms pc ls [.int v] ws (am_E X P) := by
  intro p e R s m args below meth c H locs cells slots L A kc ks a1 a2 a3 a4 a5 a6 a7 a8 a9 a10 a11 a12 a13
  exact vx_ret (W.widen (k := kc) (n := ks) (by omega) (by omega) (W.zret (free := A) a1.1 a1.2.1 (a1.2.2.1.trans hr) (by rcases hv with rfl | rfl <;> decide) (fun t ht _ => ⟨⟨_, ws, rfl, hp, by rw [ht]; exact a10, a11⟩, a12.F ht⟩) a12.2.2 hd a1.2.2.2.2.2.2.1))
theorem aw_vret (hd : decode (am_c M) pc = .ok (.return_, 1)) (hr : am_ret M = none) (hp : P (.inl none) ws) : AW X M d mc ms pc ls [] ws (am_E X P) := by
  intro p e R s m args below meth c H locs cells slots L A kc ks a1 a2 a3 a4 a5 a6 a7 a8 a9 a10 a11 a12 a13
  exact vx_ret (W.widen (k := kc) (n := ks) (by omega) (by omega) (W.vret (free := A) a1.1 a1.2.1 (a1.2.2.1.trans hr) (fun t ht _ => ⟨⟨_, ws, rfl, hp, by rw [ht]; exact a10, a11⟩, a12.F ht⟩) a12.2.2 hd a1.2.2.2.2.2.2.1))
theorem aw_aret {v : Value} {nm : String} (hd : decode (am_c M) pc = .ok (.areturn, 1)) (hr : am_ret M = some (.object nm)) (hv : v = .null ∨ ∃ a, v = .ref a) (hp : P (.inl (some v)) ws) : AW X M d mc ms pc ls [v] ws (am_E X P) := by
  intro p e R s m args below meth c H locs cells slots L A kc ks a1 a2 a3 a4 a5 a6 a7 a8 a9 a10 a11 a12 a13
  exact vx_ret (W.widen (k := kc) (n := ks) (by omega) (by omega) (W.aret (free := A) a1.1 a1.2.1 (a1.2.2.1.trans hr) (Or.inl ⟨nm, rfl⟩) hv (fun t ht _ => ⟨⟨_, ws, rfl, hp, by rw [ht]; exact a10, a11⟩, a12.F ht⟩) a12.2.2 hd a1.2.2.2.2.2.2.1))
end AwRows
end
section
/-! CALLS in the picture -/
theorem am_free {A : Nat → Prop} {ws : va_W} {H0 H : Heap} {locs : List Loc} (hD : va_D A ws) (hS : va_S A H0 H locs) (hA : ∀ q, H0.size ≤ q → A q) : ∀ q, va_A ws H.size q → A q := by
  intro q h
  rcases h with ⟨k, e, h⟩ | h
  · exact hD.2 k _ h
  · exact hA q (Nat.le_trans hS.1 h)
/-- the words of a call -/
def am_cb (own : String) (idx : Nat) (M' : am_M) (n : Nat) : Prop := Cond.methodLink own idx (am_y M') ∈ am_tbl ∧ Cond.initialized (am_y M').cls ∈ am_tbl ∧ Cond.code (am_y M') (am_c M') (am_nL M') (am_ret M') ∈ am_tbl ∧ am_hh M' = [] ∧ ((am_y M').cls ≠ "java/lang/invoke/MethodHandle" ∧ (am_y M').cls ≠ "java/lang/invoke/VarHandle") ∧ (parseMethodDescriptor (am_y M').desc).map (fun z => z.parameters.length) = some n ∧ am_nL M' ≤ 45
def am_cv (own : String) (idx : Nat) (M' : am_M) (n : Nat) : Prop := am_cb own idx M' n ∧ Cond.instanceMethod (am_y M') ∈ am_tbl ∧ Cond.selects (am_y M').cls (am_y M') (am_y M') ∈ am_tbl
def am_cs (own : String) (idx : Nat) (M' : am_M) (n : Nat) : Prop := am_cb own idx M' n ∧ Cond.static (am_y M') ∈ am_tbl
def am_ci (own : String) (idx : Nat) (M' : am_M) (n : Nat) : Prop := am_cb own idx M' n ∧ Cond.instanceMethod (am_y M') ∈ am_tbl ∧ (am_y M').name = "<init>" ∧ am_ret M' = none
theorem am_hws {M : am_M} {args : Array Value} {s : State} (hts : ∀ w ∈ am_tbl, w.before args s = true) (hc : am_cw M ∈ am_tbl) : ∀ w ∈ am_ws M, ∀ (a' : Array Value) (U : State), s.WarmedH U.vm → w.before a' U = true := by
  intro w hw a' U hW
  have key : ∀ w ∈ am_tbl, w.before a' U = true := fun w h => am_word hW (List.mem_filter.mp h).2 (hts w h)
  rcases List.mem_cons.mp hw with rfl | h
  · exact key _ hc
  · exact key _ h
theorem am_CallB {M M' : am_M} {R : Room} {s : State} {args : Array Value} {idx n d d' mc ms : Nat} (hts : ∀ w ∈ am_tbl, w.before args s = true) (h : am_cb (am_y M).cls idx M' n) (hd : d' + 1 ≤ d) (h1 : d ≤ R.frames) (h2 : 64 * d ≤ R.locals) :
    CallB R s args (am_y M).cls idx (am_y M') (am_c M') (am_nL M') (am_ret M') (am_ws M') (am_rm d' mc ms) mc ms n := by
  obtain ⟨w1, w2, w3, w4, w5, w6, w7⟩ := h
  have hcw : am_cw M' = Cond.code (am_y M') (am_c M') (am_nL M') (am_ret M') := by unfold am_cw; rw [w4]
  refine ⟨rfl, rfl, by show d' + 1 ≤ _; omega, by show 8 + (am_nL M' + 11) + 64 * d' ≤ _; omega, am_hws hts (by rw [hcw]; exact w3), by rw [← hcw]; exact List.mem_cons_self, hts _ w3, hts _ w2, w5, fun sig hs => ?_, hts _ w1⟩
  rw [hs] at w6
  exact (Option.some.inj w6).symm
/-- what a callee asks at its entry holds here -/
theorem am_pre {X : am_X} {A : Nat → Prop} {s : State} {H : Heap} {locs : List Loc} {ws : va_W} {As : List Value} (a2 : am_Gt X A s s.heap) (a3 : ∀ q, s.heap.size ≤ q → A q) (a10 : va_P (am_D X) am_cl ws H) (a11 : va_D A ws) (a12 : va_S A s.heap H locs) :
    FrameBlind (va_Pc As (fun U => U.heap.size = H.size ∧ va_P (am_D X) am_cl ws U.heap ∧ va_D (fun _ => True) ws ∧ am_Gt X (va_A ws H.size) U U.heap)) ∧ ∀ U : State, U.heap = H → s.WarmedH U.vm → va_Pc As (fun U => U.heap.size = H.size ∧ va_P (am_D X) am_cl ws U.heap ∧ va_D (fun _ => True) ws ∧ am_Gt X (va_A ws H.size) U U.heap) As.toArray U := by
  refine ⟨fun a U g mk q => ?_, fun U hU hW => ⟨rfl, by rw [hU], by rw [hU]; exact a10, a11.weaken (fun _ _ _ _ => trivial), ?_⟩⟩
  · obtain ⟨q0, q1, qP, qD, qG⟩ := q
    exact ⟨q0, q1, qP, qD, qG.to (U := U.calling g mk a) (State.WarmedH.refl U) (Nat.le_refl _) (fun _ _ _ => rfl) (fun _ _ h => h) (fun _ h => h)⟩
  · rw [hU]
    exact a2.to hW a12.1 a12.2.1 (fun q _ h => am_free a11 a12 a3 q h) (fun q h => am_free a11 a12 a3 q h)
section AmCalls
variable {X : am_X} {M M' : am_M} {d d' mc ms mc' ms' pc : Nat} {ls st : List Value} {ws : va_W} {QQ : am_QT} {Post Post' : am_O → va_W → Prop}
/-- behind a call that may throw, where this method catches nothing -/
theorem am_go {p : Program} {e : Env} {R : Room} {s : State} {m : MethodId} {args : Array Value} {below : List Frame} {meth : Method} {c : Code} {H : Heap} {locs : List Loc} {cells slots : Nat} {L : Array Slot} {A : Nat → Prop} {kc ks : Nat} {rest : List Value} {av : Array Value}
    (a1 : am_F M p s m args meth c) (a2 : am_Gt X A s s.heap) (a3 : ∀ q, s.heap.size ≤ q → A q) (a4 : d ≤ R.frames) (a5 : 64 * d ≤ R.locals) (a6 : cells + (mc' + mc) ≤ kc) (a7 : slots + (ms' + ms) ≤ ks) (a8 : kc ≤ R.cells) (a9 : ks ≤ R.slots) (a10 : va_P (am_D X) am_cl ws H) (a11 : va_D A ws) (a12 : va_S A s.heap H locs) (a13 : am_L L (am_nL M) ls)
    (hr : vx_Run p (am_l X) e R s m args below meth c H locs cells slots mc' ms' (F0 m pc L st) rest (am_Qc X (va_A ws H.size) Post' av) (am_XC X (va_A ws H.size) Post') (va_A ws H.size))
    (hh : am_hh M = []) (kk : ∀ v ws', Post' (.inl v) ws' → AW X M d mc ms (pc + 3) ls (v.toList ++ rest) ws' (am_E X Post)) (kx : ∀ E ws', Post' (.inr E) ws' → Post (.inr E) ws') :
    W p (am_l X) e R s m args below meth c H locs cells slots (am_E X Post p e s args below A kc ks) (F0 m pc L st) := by
  intro T hT XX
  have hfr := am_free a11 a12 a3
  rcases hr T hT XX with ⟨v, st₀, t, T', LL, h0, X', hL, e1, e2, ⟨⟨v', ws', hv, hp, hP', hD'⟩, hF⟩, st1⟩ | ⟨q, st₀, t, T', LL, E, ce, h0, X', hL, e1, e2, ⟨⟨ws', hp, hP', hD'⟩, hF⟩, hce, hcv, hcl, st1⟩
  · cases hv
    obtain ⟨k1, k2, k3⟩ := vx_keep h0 e1 a12 (fun q _ h => hfr q h) hfr hL hF
    obtain ⟨t2, b1, b2⟩ := kk v ws' hp p e R s m args below meth c T'.heap (locs ++ LL) (cells + mc') (slots + ms') L A kc ks a1 a2 a3 a4 a5 (by omega) (by omega) a8 a9 (by rw [e1]; exact hP') (hD'.weaken (fun k q h1 h2 => hfr _ (hD'.2 k q h1))) k3 a13 T' rfl X'
    exact ⟨t2, st1 t2 b1, b2⟩
  · obtain ⟨k1, k2, k3⟩ := vx_keep h0 e1 a12 (fun q _ h => hfr q h) hfr hL hF
    obtain ⟨t2, b1, b2⟩ := vx_out (Qc := am_Qc X A Post) (XC := am_XC X A Post) (free := A) (mc := kc) (ms := ks) (H := T'.heap) (pc := pc) (ls := L) (rest := rest) (by rw [a1.2.2.2.2.2.2.2.1, hh]; exact fun x hx => by cases hx) a1.2.2.2.2.2.2.1 (by rw [e1]; exact hce) hcv hcl (fun t9 ht9 _ => ⟨⟨ws', kx E ws' hp, by rw [ht9, e1]; exact hP', hD'.weaken (fun k q h1 h2 => hfr _ (hD'.2 k q h1))⟩, k3.F ht9⟩) k3.2.2 (by omega) (by omega) T' rfl X'
    exact ⟨t2, st1.trans b1, b2⟩
theorem aw_callV {idx n a ci : Nat} {As rest : List Value} {fs : List Value} {C : vw_C} (hd : decode (am_c M) pc = .ok (.invokevirtual idx, 3)) (hl : am_cv (am_y M).cls idx M' n) (hC : AMet X M' d' mc' ms' (.ref a :: As) ws Post') (hn : As.length = n) (hdd : d' + 1 ≤ d) (q0 : Nat) (hr : ws[q0]? = some (a, .inr (ci, fs))) (hcl : am_cl[ci]? = some C) (hCn : C.1 = (am_y M').cls) (hrest : (rest.map fun v => v.category).sum ≤ 8) (hh : am_hh M = [])
    (kk : ∀ v ws', Post' (.inl v) ws' → AW X M d mc ms (pc + 3) ls (v.toList ++ rest) ws' (am_E X Post)) (kx : ∀ E ws', Post' (.inr E) ws' → Post (.inr E) ws') : AW X M d (mc' + mc) (ms' + ms) pc ls (As.reverse ++ .ref a :: rest) ws (am_E X Post) := by
  intro p e R s m args below meth c H locs cells slots L A kc ks a1 a2 a3 a4 a5 a6 a7 a8 a9 a10 a11 a12 a13
  obtain ⟨hb, hi, hs⟩ := hl
  have hrec := va_recv a2.1 a10 (ci := ci) (q0 := q0) hcl hr
  rw [hCn] at hrec
  have hpre := am_pre (As := .ref a :: As) a2 a3 a10 a11 a12
  exact am_go a1 a2 a3 a4 a5 a6 a7 a8 a9 a10 a11 a12 a13 (vx_runV (C := (am_y M').cls) (As := As) (rest := rest) ⟨a1.1, a1.2.1, a1.2.2.2.1, a1.2.2.2.2.1, a1.2.2.2.2.2.1⟩ (hC H.size) ⟨am_CallB a1.2.2.2.2.2.1 hb hdd a4 a5, a1.2.2.2.2.2.1 _ hi, a1.2.2.2.2.2.1 _ hs⟩ ⟨hpre.1, hrec, hpre.2⟩ rfl hn a13.1 rfl (lv_room hrest) hd ⟨by omega, by omega⟩) hh kk kx
theorem aw_callS {idx n : Nat} {As rest : List Value} (hd : decode (am_c M) pc = .ok (.invokestatic idx, 3)) (hl : am_cs (am_y M).cls idx M' n) (hC : AMet X M' d' mc' ms' As ws Post') (hn : As.length = n) (hdd : d' + 1 ≤ d) (hrest : (rest.map fun v => v.category).sum ≤ 8) (hh : am_hh M = [])
    (kk : ∀ v ws', Post' (.inl v) ws' → AW X M d mc ms (pc + 3) ls (v.toList ++ rest) ws' (am_E X Post)) (kx : ∀ E ws', Post' (.inr E) ws' → Post (.inr E) ws') : AW X M d (mc' + mc) (ms' + ms) pc ls (As.reverse ++ rest) ws (am_E X Post) := by
  intro p e R s m args below meth c H locs cells slots L A kc ks a1 a2 a3 a4 a5 a6 a7 a8 a9 a10 a11 a12 a13
  obtain ⟨hb, hi⟩ := hl
  have hpre := am_pre (As := As) a2 a3 a10 a11 a12
  exact am_go a1 a2 a3 a4 a5 a6 a7 a8 a9 a10 a11 a12 a13 (vx_runS (As := As) (rest := rest) ⟨a1.1, a1.2.1, a1.2.2.2.1, a1.2.2.2.2.1, a1.2.2.2.2.2.1⟩ (hC H.size) ⟨am_CallB a1.2.2.2.2.2.1 hb hdd a4 a5, a1.2.2.2.2.2.1 _ hi⟩ hpre rfl hn a13.1 rfl (lv_room hrest) hd ⟨by omega, by omega⟩) hh kk kx
/-- a callee that never throws -/
theorem am_toMet {l : Launch} {y : MethodName} {wsy : List Cond} {rm : Room} {Pc : Array Value → State → Prop} {Qc : Array Value → State → Outcome → State → Prop} {XC : String → State → State → Prop} {free : Addr → Prop} (h : vx_Met l y wsy rm Pc Qc XC mc ms free) (hx : ∀ E s t, ¬ XC E s t) : Met l y wsy rm Pc Qc mc ms free := by
  intro p e h1 h2 h3 s m args below h4 h5 h6 h7
  obtain ⟨n, o, b1, b2, b3, b4⟩ := h p e h1 h2 h3 s m args below h4 h5 h6 h7
  refine ⟨n, o, b1, b2, b3, ?_⟩
  rcases b4 with b4 | ⟨q, -, E, ce, L, hE, -⟩
  · exact b4
  · exact (hx _ _ _ hE).elim
theorem aw_callI {idx n a : Nat} {As rest : List Value} (hd : decode (am_c M) pc = .ok (.invokespecial idx, 3)) (hl : am_ci (am_y M).cls idx M' n) (hC : AMet X M' d' mc' ms' (.ref a :: As) ws Post') (hn : As.length = n) (hdd : d' + 1 ≤ d) (hrest : (rest.map fun v => v.category).sum ≤ 8)
    (kk : ∀ v ws', Post' (.inl v) ws' → AW X M d mc ms (pc + 3) ls (v.toList ++ rest) ws' QQ) (kx : ∀ E ws', ¬ Post' (.inr E) ws') : AW X M d (mc' + mc) (ms' + ms) pc ls (As.reverse ++ .ref a :: rest) ws QQ := by
  intro p e R s m args below meth c H locs cells slots L A kc ks a1 a2 a3 a4 a5 a6 a7 a8 a9 a10 a11 a12 a13
  obtain ⟨hb, hi, hnm, hret⟩ := hl
  have hpre := am_pre (As := .ref a :: As) a2 a3 a10 a11 a12
  have hcb := am_CallB (M := M) (mc := mc') (ms := ms') a1.2.2.2.2.2.1 hb hdd a4 a5
  rw [hret] at hcb
  have hr := va_runI (As := As) (rest := rest) (locs := locs) (cells := cells) (slots := slots) (below := below) (meth := meth) (e := e) (g := F0 m pc L (As.reverse ++ .ref a :: rest)) ⟨a1.1, a1.2.1, a1.2.2.2.1, a1.2.2.2.2.1, a1.2.2.2.2.2.1⟩ (am_toMet (hC H.size) (fun E s t h => by obtain ⟨⟨w, h1, -⟩, -⟩ := h; exact kx E w h1)) ⟨hcb, hnm, a1.2.2.2.2.2.1 _ hi⟩ hpre rfl hn a13.1 rfl (lv_room hrest) hd ⟨by omega, by omega⟩
  intro T hT XX
  have hfr := am_free a11 a12 a3
  obtain ⟨v, st₀, t, T', LL, h0, X', hL, e1, e2, ⟨⟨v', ws', hv, hp, hP', hD'⟩, hF⟩, st1⟩ := hr T hT XX
  cases hv
  obtain ⟨k1, k2, k3⟩ := vx_keep h0 e1 a12 (fun q _ h => hfr q h) hfr hL hF
  obtain ⟨t2, b1, b2⟩ := kk v ws' hp p e R s m args below meth c T'.heap (locs ++ LL) (cells + mc') (slots + ms') L A kc ks a1 a2 a3 a4 a5 (by omega) (by omega) a8 a9 (by rw [e1]; exact hP') (hD'.weaken (fun k q h1 h2 => hfr _ (hD'.2 k q h1))) k3 a13 T' rfl X'
  exact ⟨t2, st1 t2 b1, b2⟩
/-- Object's own constructor -/
theorem aw_objInit {idx a : Nat} {rest : List Value} (hd : decode (am_c M) pc = .ok (.invokespecial idx, 3)) (h1 : Cond.methodLink (am_y M).cls idx Lib.objectInit ∈ am_tbl) (h2 : Cond.instanceMethod Lib.objectInit ∈ am_tbl) (h3 : Cond.code Lib.objectInit ⟨#[0xb1]⟩ 1 none ∈ am_tbl) (hdd : 1 ≤ d) (hrest : (rest.map fun v => v.category).sum ≤ 8)
    (k : AW X M d mc ms (pc + 3) ls rest ws QQ) : AW X M d mc ms pc ls (.ref a :: rest) ws QQ := by
  intro p e R s m args below meth c H locs cells slots L A kc ks a1 a2 a3 a4 a5 a6 a7 a8 a9 a10 a11 a12 a13
  refine W.objInit a1.1 a1.2.1 a1.2.2.2.2.1 (a1.2.2.2.2.2.1 _ h1) (a1.2.2.2.2.2.1 _ h2) (a1.2.2.2.2.2.1 _ h3) rfl (by rw [a1.2.2.2.1]; exact a13.1) rfl hd (by omega) (by have := lv_room (m := m) (pc := pc) (ls := L) (rest := .ref a :: rest) hrest; omega) ?_
  exact k p e R s m args below meth c H locs cells slots L A kc ks a1 a2 a3 a4 a5 a6 a7 a8 a9 a10 a11 a12 a13
/-- a new object of the class ci -/
theorem aw_new {idx ci : Nat} {C : String} {T : u_T} {N : Nat} {ty : Nat → FieldType} {fs : List Value} (hd : decode (am_c M) pc = .ok (.new idx, 3)) (hc : am_cl[ci]? = some (C, T, N)) (hin : ∀ w ∈ u_ws C T N, w ∈ am_tbl) (hty : ∀ k, k < N → parseFieldDescriptor (T k).2.2.1 = some (ty k)) (h1 : Cond.classLink (am_y M).cls idx C ∈ am_tbl) (h2 : Cond.instantiable C N ∈ am_tbl) (h3 : Cond.initialized C ∈ am_tbl) (hfs : ∀ j, j < N → defaultValue (ty j) = vp_V fs j)
    (k : ∀ q : Nat, AW X M d mc ms (pc + 3) ls (.ref q :: st) (ws ++ [(q, .inr (ci, fs))]) QQ) : AW X M d (1 + mc) (N + ms) pc ls st ws QQ := by
  intro p e R s m args below meth c H locs cells slots L A kc ks a1 a2 a3 a4 a5 a6 a7 a8 a9 a10 a11 a12 a13
  refine va_new a1.1 a1.2.1 a1.2.2.2.2.2.1 hin ty hty a1.2.2.2.2.1 (a1.2.2.2.2.2.1 _ h1) (a1.2.2.2.2.2.1 _ h2) (a1.2.2.2.2.2.1 _ h3) a2.1 a10 a11 a12 a3 hc hfs (by omega) (by omega) hd (fun q H1 b1 b2 b3 => ?_)
  exact k q p e R s m args below meth c H1 locs (cells + 1) (slots + N) L A kc ks a1 a2 a3 a4 a5 (by omega) (by omega) a8 a9 b1 b2 b3 a13
/-- a new int array -/
theorem aw_newi {n : Int32} {N : Nat} (hd : decode (am_c M) pc = .ok (.newarray .int, 2)) (hn : n = nI N) (hN : N ≤ 100000) (h1 : Cond.arrayClass .int ∈ am_tbl)
    (k : ∀ q : Nat, AW X M d mc ms (pc + 2) ls (.ref q :: st) (ws ++ [(q, .inl (am_I X, N, .inl (fun _ => 0)))]) QQ) : AW X M d (1 + mc) (N + ms) pc ls (.int n :: st) ws QQ := by
  intro p e R s m args below meth c H locs cells slots L A kc ks a1 a2 a3 a4 a5 a6 a7 a8 a9 a10 a11 a12 a13
  subst hn
  refine va_newa a1.1 a1.2.1 (atype := .int) (a1.2.2.2.2.2.1 _ h1) (ty := .int) rfl a2.1 a10 a11 a12 a3 (N' := N) (a0 := (N, .inl (fun _ => 0))) (fun cA => rfl) (nI_pos (by omega)) (nI_clamp (by omega)) (by show N * 4 ≤ _; omega) (by omega) (by omega) hd (fun q cA H1 hK b1 b2 b3 => ?_)
  have e1 := va_nm_int (hK.2 3 _ rfl).2
  have e2 := va_nm_int (a2.1.2 0 _ rfl).2
  have e3 : cA = am_I X := Option.some.inj (e1.symm.trans e2)
  subst e3
  exact k q p e R s m args below meth c H1 locs (cells + 1) (slots + N) L A kc ks a1 a2 a3 a4 a5 (by omega) (by omega) a8 a9 b1 b2 b3 a13
/-- a new array of longs -/
theorem aw_newl {n : Int32} {N : Nat} (hd : decode (am_c M) pc = .ok (.newarray .long, 2)) (hn : n = nI N) (hN : N ≤ 100000) (h1 : Cond.arrayClass .long ∈ am_tbl)
    (k : ∀ q : Nat, AW X M d mc ms (pc + 2) ls (.ref q :: st) (ws ++ [(q, .inl (am_J X, N, .inr (.inl (fun _ => 0))))]) QQ) : AW X M d (1 + mc) (N + ms) pc ls (.int n :: st) ws QQ := by
  intro p e R s m args below meth c H locs cells slots L A kc ks a1 a2 a3 a4 a5 a6 a7 a8 a9 a10 a11 a12 a13
  subst hn
  refine va_newa a1.1 a1.2.1 (atype := .long) (a1.2.2.2.2.2.1 _ h1) (ty := .long) rfl a2.1 a10 a11 a12 a3 (N' := N) (a0 := (N, .inr (.inl (fun _ => 0)))) (fun cA => rfl) (nI_pos (by omega)) (nI_clamp (by omega)) (by show N * 8 ≤ _; omega) (by omega) (by omega) hd (fun q cA H1 hK b1 b2 b3 => ?_)
  have e1 := va_nm_long (hK.2 3 _ rfl).2
  have e2 := va_nm_long (a2.1.2 2 _ rfl).2
  have e3 : cA = am_J X := Option.some.inj (e1.symm.trans e2)
  subst e3
  exact k q p e R s m args below meth c H1 locs (cells + 1) (slots + N) L A kc ks a1 a2 a3 a4 a5 (by omega) (by omega) a8 a9 b1 b2 b3 a13
/-- a new array of Grammars -/
theorem aw_newg {idx : Nat} {n : Int32} {N : Nat} (hd : decode (am_c M) pc = .ok (.anewarray idx, 3)) (hn : n = nI N) (hN : N ≤ 100000) (h1 : Cond.classLink (am_y M).cls idx "SegmentForms$Grammar" ∈ am_tbl)
    (k : ∀ q : Nat, AW X M d mc ms (pc + 3) ls (.ref q :: st) (ws ++ [(q, .inl (am_Gr X, N, .inr (.inr (.inr (.inr (fun _ => none))))))]) QQ) : AW X M d (1 + mc) (N + ms) pc ls (.int n :: st) ws QQ := by
  intro p e R s m args below meth c H locs cells slots L A kc ks a1 a2 a3 a4 a5 a6 a7 a8 a9 a10 a11 a12 a13
  subst hn
  refine va_newq a1.1 a1.2.1 a1.2.2.2.2.1 (a1.2.2.2.2.2.1 _ h1) a2.2.2.2.2.2.2.2.2.2.2.1 a2.1 a10 a11 a12 a3 (N' := N) (nI_pos (by omega)) (nI_clamp (by omega)) (by omega) (by omega) (by omega) hd (fun q cA H1 hK b1 b2 b3 => ?_)
  obtain ⟨kA, comp, -, -, -, e1⟩ := (hK.2 3 _ rfl).2
  obtain ⟨kA2, comp2, -, -, -, e2⟩ := (a2.1.2 1 _ rfl).2
  have e3 : cA = am_Gr X := Option.some.inj (e1.symm.trans e2)
  subst e3
  exact k q p e R s m args below meth c H1 locs (cells + 1) (slots + N) L A kc ks a1 a2 a3 a4 a5 (by omega) (by omega) a8 a9 b1 b2 b3 a13
end AmCalls
end
section
/-! THROWING AND CATCHING in the picture. The search through a method's table, an entry that is linked at its first use: it takes the object, or the search goes on over the warmer tables. -/
section CkGo
variable {Q : Handler → Pre} {E : CtlPost} {e : Env} {d : Bool} {acts : List Action} {s : State} {f : JFrame} {a : Addr}
theorem ck_yes {x : ExceptionTableEntry} {t : List ExceptionTableEntry} {c : ClassId} {cell : Cell} (hx : covers x f.pc = true) (h0 : x.catchType ≠ 0)
    (hl : s.vm.ClassLinks e.platform f.method.cls x.catchType c) (hcell : s.heap[a]? = some cell) (hobj : ∀ k, cell.vm ≠ .statics k)
    (hk : ∃ k, s.vm.classes[cell.cls]? = some k) (hc : ∃ k, s.vm.classes[c]? = some k) (hfit : s.vm.assignable cell.cls c = true) :
    wp (findHandler.go f a (x :: t)) Q E e d acts s ↔ Q (.found x.handlerPc) d acts (s.setVm (s.vm.noted f.method.cls x.catchType (.cls c))) := by
  simp only [covers] at hx
  obtain ⟨ha, ht⟩ := (resolveClass_links e.toSetting hl).op (op := VmOp.resolveClass f.method.cls x.catchType) rfl
  have hal : s.vm.Alike (s.vm.noted f.method.cls x.catchType (.cls c)) := (Vm.Alike.refl s.vm).noted _ _ _
  obtain ⟨k1, hk1⟩ := hk
  obtain ⟨k2, hk2⟩ := hc
  obtain ⟨k1', hk1', -⟩ := hal.2.2 _ _ hk1
  obtain ⟨k2', hk2', -⟩ := hal.2.2 _ _ hk2
  have hf' : (s.vm.noted f.method.cls x.catchType (.cls c)).assignable cell.cls c = true := by rw [hal.assignable]; exact hfit
  simp [findHandler.go, hx, h0, ha, ht, hcell, hobj, hk1', hk2', hf', VmOp.dirties, VmOp.acts]
theorem ck_no {x : ExceptionTableEntry} {t : List ExceptionTableEntry} {c : ClassId} {cell : Cell} (hx : covers x f.pc = true) (h0 : x.catchType ≠ 0)
    (hl : s.vm.ClassLinks e.platform f.method.cls x.catchType c) (hcell : s.heap[a]? = some cell) (hobj : ∀ k, cell.vm ≠ .statics k)
    (hk : ∃ k, s.vm.classes[cell.cls]? = some k) (hc : ∃ k, s.vm.classes[c]? = some k) (hno : s.vm.assignable cell.cls c = false) :
    wp (findHandler.go f a (x :: t)) Q E e d acts s ↔ wp (findHandler.go f a t) Q E e d acts (s.setVm (s.vm.noted f.method.cls x.catchType (.cls c))) := by
  simp only [covers] at hx
  obtain ⟨ha, ht⟩ := (resolveClass_links e.toSetting hl).op (op := VmOp.resolveClass f.method.cls x.catchType) rfl
  have hal : s.vm.Alike (s.vm.noted f.method.cls x.catchType (.cls c)) := (Vm.Alike.refl s.vm).noted _ _ _
  obtain ⟨k1, hk1⟩ := hk
  obtain ⟨k2, hk2⟩ := hc
  obtain ⟨k1', hk1', -⟩ := hal.2.2 _ _ hk1
  obtain ⟨k2', hk2', -⟩ := hal.2.2 _ _ hk2
  have hf' : (s.vm.noted f.method.cls x.catchType (.cls c)).assignable cell.cls c = false := by rw [hal.assignable]; exact hno
  simp [findHandler.go, hx, h0, ha, ht, hcell, hobj, hk1', hk2', hf', VmOp.dirties, VmOp.acts]
end CkGo
def ck_P (pl : Platform) (s0 : State) (d : ClassId) (pc : Nat) (thrown : ClassId) (y : ExceptionTableEntry) : Prop :=
  covers y pc = false ∨ (y.catchType ≠ 0 ∧ ∃ c, s0.vm.ClassLinks pl d y.catchType c ∧ s0.vm.assignable thrown c = false)
theorem ck_walk {e : Env} {s0 : State} {f : JFrame} {a : Addr} {cell : Cell} (hobj : ∀ k, cell.vm ≠ .statics k) (hk0 : ∃ k, s0.vm.classes[cell.cls]? = some k)
    (x : ExceptionTableEntry) (rest : List ExceptionTableEntry) (hx : covers x f.pc = true) (h0 : x.catchType ≠ 0) {cx : ClassId} (hl : s0.vm.ClassLinks e.platform f.method.cls x.catchType cx) (hfit : s0.vm.assignable cell.cls cx = true) :
    ∀ (pre : List ExceptionTableEntry) (S : State), s0.WarmedH S.vm → S.heap[a]? = some cell → (∀ y ∈ pre, ck_P e.platform s0 f.method.cls f.pc cell.cls y) →
      ∃ vm', s0.WarmedH vm' ∧ ∀ (Q : Handler → Pre) (E : CtlPost) (d : Bool) (acts : List Action), wp (findHandler.go f a (pre ++ x :: rest)) Q E e d acts S ↔ Q (.found x.handlerPc) d acts (S.setVm vm') := by
  obtain ⟨k0, hk0⟩ := hk0
  intro pre
  induction pre with
  | nil =>
    intro S hW hcell _
    obtain ⟨k0', hk0', -⟩ := hW.alike.2.2 _ _ hk0
    obtain ⟨dk, _, _, kt, hd, _, _, _, _, hkt, _, hopen⟩ := hl.here
    obtain ⟨kt', hkt', -⟩ := hW.alike.2.2 _ _ hkt
    exact ⟨_, hW.noted hd hopen (State.rightAt_cls hl), fun Q E d acts => ck_yes hx h0 (hW.classLinks hl) hcell hobj ⟨k0', hk0'⟩ ⟨kt', hkt'⟩ (by rw [hW.alike.assignable]; exact hfit)⟩
  | cons y ys ih =>
    intro S hW hcell hpass
    obtain ⟨k0', hk0', -⟩ := hW.alike.2.2 _ _ hk0
    have hrest : ∀ z ∈ ys, ck_P e.platform s0 f.method.cls f.pc cell.cls z := fun z hz => hpass z (List.mem_cons_of_mem _ hz)
    by_cases hcov : covers y f.pc = true
    · rcases hpass y List.mem_cons_self with h | ⟨g0, c, gl, hno⟩
      · rw [h] at hcov; cases hcov
      · obtain ⟨dk, _, _, kt, hd, _, _, _, _, hkt, _, hopen⟩ := gl.here
        obtain ⟨kt', hkt', -⟩ := hW.alike.2.2 _ _ hkt
        obtain ⟨vm', hW', hq⟩ := ih (S.setVm (S.vm.noted f.method.cls y.catchType (.cls c))) (hW.noted hd hopen (State.rightAt_cls gl)) hcell hrest
        exact ⟨vm', hW', fun Q E d acts => (ck_no hcov g0 (hW.classLinks gl) hcell hobj ⟨k0', hk0'⟩ ⟨kt', hkt'⟩ (by rw [hW.alike.assignable]; exact hno)).trans (hq Q E d acts)⟩
    · obtain ⟨vm', hW', hq⟩ := ih S hW hcell hrest
      exact ⟨vm', hW', fun Q E d acts => (Jvm.W.findHandler_go_skip (by simpa using hcov)).trans (hq Q E d acts)⟩
/-- what is thrown over the frame g is caught by the row x of its method's table -/
theorem ck_caught {p : Program} {l : Launch} {e : Env} {R : Room} {s : State} {m : MethodId} {args : Array Value} {below : List Frame} {meth : Method} {c : Code} {T : State} {locs : List Loc} {cells slots : Nat} (X : Stand p l e R s m args below meth c T locs cells slots) (a : Addr) {g : JFrame} (hg : g.method = m) {cell : Cell} (hcell : T.heap[a]? = some cell) (hobj : cell.vm.isStatics = false)
    (hk0 : ∃ k, s.vm.classes[cell.cls]? = some k) (pre : List ExceptionTableEntry) (x : ExceptionTableEntry) (rest : List ExceptionTableEntry) (hsplit : c.exceptionTable.toList = pre ++ x :: rest)
    (hpass : ∀ y ∈ pre, ck_P e.platform s m.cls g.pc cell.cls y) (hx : covers x g.pc = true) (h0 : x.catchType ≠ 0) {cx : ClassId} (hl : s.vm.ClassLinks e.platform m.cls x.catchType cx) (hfit : s.vm.assignable cell.cls cx = true) :
    ∃ vm', Stand p l e R s m args below meth c (T.setVm vm') locs cells slots ∧
      ∀ target, Steps p.tables e below ((T.setVm vm').setTop { g with pc := x.handlerPc, stack := [.ref a] }) target → Steps p.tables e below ((T.setTop g).pushFrame (.throwing a)) target := by
  subst hg
  obtain ⟨vm', hW', hq⟩ := ck_walk (e := e) (s0 := s) (f := g) (a := a) (VmData.ne_statics_of hobj) hk0 x rest hx h0 hl hfit pre ((T.setTop g).pushFrame (.throwing a)) X.warmed hcell hpass
  have hfind : ∀ (Q : Handler → Pre) (E : CtlPost) (d : Bool) (acts : List Action), wp (findHandler g a) Q E e d acts ((T.setTop g).pushFrame (.throwing a)) ↔ Q (.found x.handlerPc) d acts (((T.setTop g).pushFrame (.throwing a)).setVm vm') := by
    intro Q E d acts
    rw [Jvm.W.findHandler_eq (s := (T.setTop g).pushFrame (.throwing a)) (meth := meth) (code := c) X.method' X.code, hsplit]
    exact hq Q E d acts
  refine ⟨vm', X.noted hW', fun target hrest => ?_⟩
  obtain ⟨hgo, hw⟩ := X.here.throwing a (g := g)
  refine Steps.head hgo hw ?_
  have hstep : ∀ r : List Frame, (stepThrowing e ((T.setTop g).pushFrame (.throwing a)) a (.java g :: r)).Is ((((T.setTop g).pushFrame (.throwing a)).setVm vm').setFrames (.java { g with pc := x.handlerPc, stack := [.ref a] } :: r)) [] := by
    intro r
    simp only [stepThrowing, searchFrame, vmDo]
    generalize hr : Sem.go _ e false [] ((T.setTop g).pushFrame (.throwing a)) = res
    obtain ⟨as, rfl, ha⟩ := Sem.eq_ok_of hr (a := Handler.found x.handlerPc) (s' := ((T.setTop g).pushFrame (.throwing a)).setVm vm') (acts' := []) (by simp [hfind _ _ _ _])
    exact ⟨rfl, ha⟩
  have hsv : ∀ (u : State) (F G : List Frame), ((u.setFrames F).setVm vm').setFrames G = (u.setVm vm').setFrames G := by
    intro u F G
    have h1 : (u.setFrames F).setVm vm' = (u.setVm vm').setFrames F := rfl
    rw [h1, State.setFrames_setFrames]
  rw [stepThread_throwing (frames_entered X.here.top _), (hstep _).1]
  obtain ⟨g₀, hg0⟩ := Option.isSome_iff_exists.mp X.here.top
  obtain ⟨r, hr⟩ := State.topJava?_eq_some.mp hg0
  have hr' : (T.setVm vm').frames = .java g₀ :: r := hr
  rw [State.setTop_of_frames _ hr'] at hrest
  rw [hr, List.tail_cons, State.pushFrame, hsv, State.setTop_of_frames _ hr, hsv]
  exact hrest

section AmThrows
variable {X : am_X} {M M' : am_M} {d d' mc ms mc' ms' pc : Nat} {ls st : List Value} {ws : va_W} {QQ : am_QT} {Post Post' : am_O → va_W → Prop}
/-- 'throw new E("text")' in a method that catches nothing -/
theorem aw_throw {ik is ic : Nat} {E text : String} {names : List String} {rest : List Value} (d0 : decode (am_c M) pc = .ok (.new ik, 3)) (d3 : decode (am_c M) (pc + 3) = .ok (.dup, 1)) (d4 : decode (am_c M) (pc + 4) = .ok (.ldc is, 2)) (d6 : decode (am_c M) (pc + 6) = .ok (.invokespecial ic, 3)) (d9 : decode (am_c M) (pc + 9) = .ok (.athrow, 1))
    (hE : Bundle.fit E = true) (hnames : ∀ n ∈ names, Bundle.fit n = true) (w1 : Cond.classLink (am_y M).cls ik E ∈ am_tbl) (w2 : Cond.initialized E ∈ am_tbl) (w3 : ∀ w ∈ vx_atS (am_y M).cls ic E names, w ∈ am_tbl) (hgood : ∀ w ∈ Cond.classLink (am_y M).cls ik E :: Cond.initialized E :: vx_atS (am_y M).cls ic E names, vx_ot w = true)
    (hs : ((am_y M).cls, is, text) ∈ am_strs) (hd : 8 ≤ d) (hn : names.length ≤ 3) (hrest : (rest.map fun v => v.category).sum ≤ 8) (hh : am_hh M = []) (hp : Post (.inr E) ws) : AW X M d (1 + mc) (6 + ms) pc ls rest ws (am_E X Post) := by
  intro p e R s m args below meth c H locs cells slots L A kc ks a1 a2 a3 a4 a5 a6 a7 a8 a9 a10 a11 a12 a13
  obtain ⟨h1, h2, h3, h4, h5, h6, h7, h8, h9, h10, h11, h12, -⟩ := a2
  obtain ⟨sa, hsa⟩ := h9 _ hs
  refine vx_throwS a1.1 a1.2.1 h12 (A := A) a1.2.2.2.2.1 hE hnames (a1.2.2.2.2.2.1 _ w1) (a1.2.2.2.2.2.1 _ w2) hsa (fun w hw => a1.2.2.2.2.2.1 _ (w3 w hw)) hgood h4 h5 a12 (by rw [a1.2.2.2.1]; exact a13.1) d0 d3 d4 d6 d9 (by rw [a1.2.2.2.2.2.2.2.1, hh]; exact fun x hx => by cases hx) (by omega) (by omega) (by omega) (by omega) a1.2.2.2.2.2.2.1 (fun t ht hz hq => ?_) a12.2.2 (by omega) (by omega)
  refine ⟨⟨ws, hp, a10.kept (fun k x hx => hq x.1 ((a10 k x hx).lt)), a11⟩, Nat.le_trans a12.1 hz, fun q hq1 hq2 => ?_⟩
  rw [hq q (Nat.lt_of_lt_of_le hq1 a12.1)]
  exact a12.2.1 q hq1 hq2
/-- the table of M catches E at pc, and goes on at a place of which K holds -/
def am_catch (M : am_M) (pc : Nat) (E : String) (K : Nat → Prop) : Prop := ∃ (pre : List ExceptionTableEntry) (x : ExceptionTableEntry) (suf : List ExceptionTableEntry) (nm : String), tableOf (am_hh M) = pre ++ x :: suf ∧
  (∀ z ∈ pre, covers z pc = false ∨ (z.catchType ≠ 0 ∧ ∃ n9 : String, Cond.classLink (am_y M).cls z.catchType n9 ∈ am_tbl ∧ (E, n9) ∈ am_ncs)) ∧ covers x pc = true ∧ x.catchType ≠ 0 ∧ Cond.classLink (am_y M).cls x.catchType nm ∈ am_tbl ∧ Cond.castable E nm ∈ am_tbl ∧ K x.handlerPc
theorem aw_callVC {idx n a ci : Nat} {As rest : List Value} {fs : List Value} {C : vw_C} (hd : decode (am_c M) pc = .ok (.invokevirtual idx, 3)) (hl : am_cv (am_y M).cls idx M' n) (hC : AMet X M' d' mc' ms' (.ref a :: As) ws Post') (hn : As.length = n) (hdd : d' + 1 ≤ d) (q0 : Nat) (hr : ws[q0]? = some (a, .inr (ci, fs))) (hcl : am_cl[ci]? = some C) (hCn : C.1 = (am_y M').cls) (hrest : (rest.map fun v => v.category).sum ≤ 8)
    (kk : ∀ v ws', Post' (.inl v) ws' → AW X M d mc ms (pc + 3) ls (v.toList ++ rest) ws' (am_E X Post)) (kx : ∀ E ws', Post' (.inr E) ws' → am_catch M pc E (fun hpc => ∀ q, AW X M d mc ms hpc ls [.ref q] ws' (am_E X Post))) : AW X M d (mc' + mc) (ms' + ms) pc ls (As.reverse ++ .ref a :: rest) ws (am_E X Post) := by
  intro p e R s m args below meth c H locs cells slots L A kc ks a1 a2 a3 a4 a5 a6 a7 a8 a9 a10 a11 a12 a13
  obtain ⟨hb, hi, hs⟩ := hl
  have hrec := va_recv a2.1 a10 (ci := ci) (q0 := q0) hcl hr
  rw [hCn] at hrec
  have hpre := am_pre (As := .ref a :: As) a2 a3 a10 a11 a12
  have hrun := vx_runV (C := (am_y M').cls) (As := As) (rest := rest) (locs := locs) (cells := cells) (slots := slots) (below := below) (meth := meth) (e := e) (g := F0 m pc L (As.reverse ++ .ref a :: rest)) ⟨a1.1, a1.2.1, a1.2.2.2.1, a1.2.2.2.2.1, a1.2.2.2.2.2.1⟩ (hC H.size) ⟨am_CallB a1.2.2.2.2.2.1 hb hdd a4 a5, a1.2.2.2.2.2.1 _ hi, a1.2.2.2.2.2.1 _ hs⟩ ⟨hpre.1, hrec, hpre.2⟩ rfl hn a13.1 rfl (lv_room hrest) hd ⟨by omega, by omega⟩
  intro T hT XX
  have hfr := am_free a11 a12 a3
  rcases hrun T hT XX with ⟨v, st₀, t, T', LL, h0, X', hL, e1, e2, ⟨⟨v', ws', hv, hp, hP', hD'⟩, hF⟩, st1⟩ | ⟨q, st₀, t, T', LL, E, ce, h0, X', hL, e1, e2, ⟨⟨ws', hp, hP', hD'⟩, hF⟩, hce, hcv, hcl9, st1⟩
  · cases hv
    obtain ⟨k1, k2, k3⟩ := vx_keep h0 e1 a12 (fun q _ h => hfr q h) hfr hL hF
    obtain ⟨t2, b1, b2⟩ := kk v ws' hp p e R s m args below meth c T'.heap (locs ++ LL) (cells + mc') (slots + ms') L A kc ks a1 a2 a3 a4 a5 (by omega) (by omega) a8 a9 (by rw [e1]; exact hP') (hD'.weaken (fun k q h1 h2 => hfr _ (hD'.2 k q h1))) k3 a13 T' rfl X'
    exact ⟨t2, st1 t2 b1, b2⟩
  · obtain ⟨k1, k2, k3⟩ := vx_keep h0 e1 a12 (fun q _ h => hfr q h) hfr hL hF
    obtain ⟨pre, x, suf, nm, hsp, hpass, hx, hx0, hlk, hcs, hK⟩ := kx E ws' hp
    have hpl : e.platform.magicAccessors = ({} : Platform).magicAccessors := by rw [X'.admits.platform]
    obtain ⟨c3, c4, hc3, hc4, hasg⟩ := Cond.castable_spec (a1.2.2.2.2.2.1 _ hcs)
    cases Option.some.inj (hc3.symm.trans hcl9)
    obtain ⟨c5, hc5, hcl5⟩ := Cond.classLink_spec a1.2.2.2.2.1 (a1.2.2.2.2.2.1 _ hlk) e.platform hpl
    cases Option.some.inj (hc4.symm.trans hc5)
    obtain ⟨vm', X2, st2⟩ := ck_caught X' q (g := F0 m pc L rest) rfl (cell := ce) (by rw [e1]; exact hce) (by rw [hcv]; rfl) (by obtain ⟨k9, h9, -⟩ := Vm.findClass_spec hcl9; exact ⟨k9, h9⟩) pre x suf (by rw [a1.2.2.2.2.2.2.2.1]; exact hsp)
      (fun z hz => by
        rcases hpass z hz with h | ⟨hz0, n9, hl1, hn1⟩
        · exact Or.inl h
        · obtain ⟨c6, hc6, hcl6⟩ := Cond.classLink_spec a1.2.2.2.2.1 (a1.2.2.2.2.2.1 _ hl1) e.platform hpl
          obtain ⟨a8, b8, g1, g2, g3⟩ := a2.2.2.2.2.2.2.2.2.2.1 _ hn1
          cases Option.some.inj (g1.symm.trans hcl9)
          cases Option.some.inj (g2.symm.trans hc6)
          exact Or.inr ⟨hz0, _, hcl6, g3⟩) hx hx0 hcl5 hasg
    obtain ⟨t2, b1, b2⟩ := hK q p e R s m args below meth c T'.heap (locs ++ LL) (cells + mc') (slots + ms') L A kc ks a1 a2 a3 a4 a5 (by omega) (by omega) a8 a9 (by rw [e1]; exact hP') (hD'.weaken (fun k q h1 h2 => hfr _ (hD'.2 k q h1))) k3 a13 (T'.setVm vm') rfl X2
    exact ⟨t2, st1.trans (st2 t2 b1), b2⟩
/-- a static call of a method with a table of its own, which never throws -/
theorem aw_callSC {idx n : Nat} {As rest : List Value} (hd : decode (am_c M) pc = .ok (.invokestatic idx, 3)) (hl : Cond.methodLink (am_y M).cls idx (am_y M') ∈ am_tbl ∧ Cond.initialized (am_y M').cls ∈ am_tbl ∧ Cond.codeWith (am_y M') (am_c M') (am_nL M') (am_ret M') (am_hh M') ∈ am_tbl ∧ am_hh M' ≠ [] ∧ ((am_y M').cls ≠ "java/lang/invoke/MethodHandle" ∧ (am_y M').cls ≠ "java/lang/invoke/VarHandle") ∧ (parseMethodDescriptor (am_y M').desc).map (fun z => z.parameters.length) = some n ∧ am_nL M' ≤ 45 ∧ Cond.static (am_y M') ∈ am_tbl) (hC : AMet X M' d' mc' ms' As ws Post') (hn : As.length = n) (hdd : d' + 1 ≤ d) (hrest : (rest.map fun v => v.category).sum ≤ 8)
    (kk : ∀ v ws', Post' (.inl v) ws' → AW X M d mc ms (pc + 3) ls (v.toList ++ rest) ws' QQ) (kx : ∀ E ws', ¬ Post' (.inr E) ws') : AW X M d (mc' + mc) (ms' + ms) pc ls (As.reverse ++ rest) ws QQ := by
  intro p e R s m args below meth c H locs cells slots L A kc ks a1 a2 a3 a4 a5 a6 a7 a8 a9 a10 a11 a12 a13
  obtain ⟨w1, w2, w3, w4, w5, w6, w7, w8⟩ := hl
  have hcw : am_cw M' = Cond.codeWith (am_y M') (am_c M') (am_nL M') (am_ret M') (am_hh M') := by
    unfold am_cw
    cases hz : am_hh M' with
    | nil => exact absurd hz w4
    | cons a t => rfl
  have hts := a1.2.2.2.2.2.1
  have hpre := am_pre (As := As) a2 a3 a10 a11 a12
  have hcs : vx_CSW R s args (am_y M).cls idx (am_y M') (am_c M') (am_nL M') (am_ret M') (am_hh M') (am_ws M') (am_rm d' mc' ms') mc' ms' n := by
    refine ⟨⟨rfl, rfl, by show d' + 1 ≤ _; omega, by show 8 + (am_nL M' + 11) + 64 * d' ≤ _; omega, am_hws hts (by rw [hcw]; exact w3), by rw [← hcw]; exact List.mem_cons_self⟩, hts _ w3, hts _ w2, w5, fun sig hs => ?_, hts _ w1, hts _ w8⟩
    rw [hs] at w6
    exact (Option.some.inj w6).symm
  have hr := vx_runSW (As := As) (rest := rest) (locs := locs) (cells := cells) (slots := slots) (below := below) (meth := meth) (e := e) (g := F0 m pc L (As.reverse ++ rest)) ⟨a1.1, a1.2.1, a1.2.2.2.1, a1.2.2.2.2.1, a1.2.2.2.2.2.1⟩ (am_toMet (hC H.size) (fun E s t h => by obtain ⟨⟨w, h1, -⟩, -⟩ := h; exact kx E w h1)) hcs hpre rfl hn a13.1 rfl (lv_room hrest) hd ⟨by omega, by omega⟩
  intro T hT XX
  have hfr := am_free a11 a12 a3
  obtain ⟨v, st₀, t, T', LL, h0, X', hL, e1, e2, ⟨⟨v', ws', hv, hp, hP', hD'⟩, hF⟩, st1⟩ := hr T hT XX
  cases hv
  obtain ⟨k1, k2, k3⟩ := vx_keep h0 e1 a12 (fun q _ h => hfr q h) hfr hL hF
  obtain ⟨t2, b1, b2⟩ := kk v ws' hp p e R s m args below meth c T'.heap (locs ++ LL) (cells + mc') (slots + ms') L A kc ks a1 a2 a3 a4 a5 (by omega) (by omega) a8 a9 (by rw [e1]; exact hP') (hD'.weaken (fun k q h1 h2 => hfr _ (hD'.2 k q h1))) k3 a13 T' rfl X'
  exact ⟨t2, st1 t2 b1, b2⟩
/-- UNTOLD.clone() and its cast to int[] -/
theorem aw_uclone {idx i2 : Nat} {rest : List Value} (hd : decode (am_c M) pc = .ok (.invokevirtual idx, 3)) (hd2 : decode (am_c M) (pc + 3) = .ok (.checkcast i2, 3)) (w1 : Cond.methodLink (am_y M).cls idx ⟨"[I", "clone", "()Ljava/lang/Object;"⟩ ∈ am_tbl) (w2 : Cond.sameMethod "[I" "java/lang/Object" "clone" "()Ljava/lang/Object;" ∈ am_tbl)
    (w3 : Cond.native ⟨"java/lang/Object", "clone", "()Ljava/lang/Object;"⟩ ∈ am_tbl) (w4 : Cond.instanceMethod ⟨"java/lang/Object", "clone", "()Ljava/lang/Object;"⟩ ∈ am_tbl) (w5 : Cond.selects "[I" ⟨"[I", "clone", "()Ljava/lang/Object;"⟩ ⟨"java/lang/Object", "clone", "()Ljava/lang/Object;"⟩ ∈ am_tbl) (w6 : Cond.castable "[I" "java/lang/Cloneable" ∈ am_tbl) (w7 : Cond.classLink (am_y M).cls i2 "[I" ∈ am_tbl)
    (hok : am_ok X = 1) (hdd : 1 ≤ d) (hrest : (rest.map fun v => v.category).sum ≤ 8) (k : ∀ q : Nat, AW X M d mc ms (pc + 6) ls (.ref q :: rest) (ws ++ [(q, .inl (am_I X, 5, .inl am_untold))]) QQ) : AW X M d (1 + mc) (5 + ms) pc ls (.ref (am_U X) :: rest) ws QQ := by
  intro p e R s m args below meth c H locs cells slots L A kc ks a1 a2 a3 a4 a5 a6 a7 a8 a9 a10 a11 a12 a13
  obtain ⟨cell, u1, ⟨-, u2⟩, u3, u4, u5, u6⟩ := am_UT.kept (U := s) a2.2.2.1 a12.2.1
  have u2 := u2 hok
  have hts := a1.2.2.2.2.2.1
  have hnm := va_nm_int (a2.1.2 0 _ rfl).2
  obtain ⟨c0, t0', f1, f2, f3⟩ := Cond.castable_spec (hts _ w6)
  cases hnm.symm.trans f1
  intro T hT XX
  obtain ⟨-, kA, hkA, comp, hkind⟩ := State.isArrayOf_alike XX.warmed.alike ((a2.1.2 0 _ rfl).1 0 (fun _ => .null))
  obtain ⟨-, kS, hkS, compS, hkindS⟩ := (a2.1.2 0 _ rfl).1 0 (fun _ => .null)
  have hsz : cell.slots.size = 5 := by rw [u5]; simp
  obtain ⟨vm', X', st1⟩ := XX.cloneArray a1.1 a1.2.2.2.2.1 (hts _ w1) (hts _ w2) (hts _ w3) (hts _ w4) (hts _ w5) (a := am_U X) (cell := cell) (by rw [hT]; exact u1) (fun k h => by rw [h] at u4; cases u4) u3 (by rw [u2]; exact hnm) f2 (by rw [u2]; exact f3)
    (fun i v hv => by
      rw [u2]
      have hk' : T.vm.classes[am_I X]? = some kA := hkA
      rw [u5] at hv
      simp only [Array.getElem?_ofFn] at hv
      split at hv
      · cases hv
        simp [State.fitsSlot, State.slotType?, hk', hkind, fits]
      · cases hv)
    (g := F0 m pc L (.ref (am_U X) :: rest)) rfl (by rw [a1.2.2.2.1]; exact a13.1) rfl (by rw [a1.2.1]; exact hd) (by omega) (by have := lv_room (m := m) (pc := pc) (ls := L) (rest := rest) hrest; show 2 * 0 + _ + 14 ≤ _; omega) (by omega) (by omega) (hloader := by rw [u2]; exact Vm.clonesLoader_of_array hkS hkindS)
  have hce : ({ cls := cell.cls, slots := cell.slots } : Cell) = vp_cell (am_I X) (5, .inl am_untold) := by rw [u2, u5]; rfl
  rw [hce, hsz] at X'
  rw [hce] at st1
  generalize hH1 : H.push (vp_cell (am_I X) (5, .inl am_untold)) = H1
  have z1 : H1.size = H.size + 1 := by rw [← hH1, Array.size_push]
  have e1 : H1[H.size]? = some (vp_cell (am_I X) (5, .inl am_untold)) := by rw [← hH1, Array.getElem?_push_size]
  have o1 : ∀ q : Nat, q < H.size → H1[q]? = H[q]? := fun q hq => by rw [← hH1, Array.getElem?_push, if_neg (Nat.ne_of_lt hq)]
  have hP1 : va_P (am_D X) am_cl (ws ++ [(H.size, .inl (am_I X, 5, .inl am_untold))]) H1 := (a10.kept (fun k x hx => o1 x.1 ((a10 k x hx).lt))).app (fun k x hx => by
    have hz : k < 1 := (List.getElem?_eq_some_iff.mp hx).1
    rw [show k = 0 by omega] at hx
    cases hx
    exact e1)
  have hD1 : va_D A (ws ++ [(H.size, .inl (am_I X, 5, .inl am_untold))]) := a11.push a10 rfl (a3 _ a12.1)
  have hS1 : va_S A s.heap H1 locs := ⟨Nat.le_trans a12.1 (by omega), fun x h1 h2 => (o1 x (Nat.lt_of_lt_of_le h1 a12.1)).trans (a12.2.1 x h1 h2), a12.2.2⟩
  have KK : W p (am_l X) e R s m args below meth c H1 locs (cells + 1) (slots + 5) (QQ p e s args below A kc ks) (F0 m (pc + 3) L (.ref H.size :: rest)) :=
    va_castA a1.1 a1.2.1 a1.2.2.2.2.1 (hts _ w7) hP1 ws.length (x := (5, .inl am_untold)) (cA := am_I X) (by simp) hnm hd2 (k H.size p e R s m args below meth c H1 locs (cells + 1) (slots + 5) L A kc ks a1 a2 a3 a4 a5 (by omega) (by omega) a8 a9 hP1 hD1 hS1 a13)
  obtain ⟨t2, b1, b2⟩ := KK _ (by rw [← hH1, ← hT]; rfl) X'
  refine ⟨t2, st1 t2 ?_, b2⟩
  rw [hT]
  exact b1
end AmThrows
end
section
/-! WHAT THE STATEMENT GIVES AT THE LAW'S ENTRY, in the picture's words -/
theorem am_len {args : Array Value} {s : State} {t : Term} {z : Int32} {N : Nat} (hz : z = nI N) (hN : N < 2 ^ 31) (h : (Term.length t).eval args s none [] s = some (.int z)) : ∃ a cell, t.eval args s none [] s = some (.ref a) ∧ s.arrayAt? a = some cell ∧ cell.slots.size = N := by
  simp only [Term.eval, Option.bind_eq_bind] at h
  cases ht : t.eval args s none [] s with
  | none => simp [ht] at h
  | some x =>
    cases x <;> simp [ht] at h
    case ref a =>
      obtain ⟨cell, hcell, h⟩ := Option.bind_eq_some_iff.mp h
      by_cases hn : cell.slots.size < 2147483648
      · rw [if_pos hn] at h
        cases h
        refine ⟨a, cell, rfl, hcell, ?_⟩
        have e1 : nI cell.slots.size = nI N := hz
        have e2 := congrArg Int32.toNatClampNeg e1
        rwa [nI_clamp hn, nI_clamp hN] at e2
      · rw [if_neg hn] at h; cases h
theorem am_untold_at {args : Array Value} {s : State} (h : (Jvm.Cond.and given_1 narrow_1).before args s = true) : ∃ tU cell, (Term.static "SegmentForms$ServiceSigns" "UNTOLD" "[I").eval args s none [] s = some (.ref tU) ∧ s.heap[tU]? = some cell ∧ s.isArrayOf cell .int ∧ cell.vm ≠ .unknown ∧ cell.vm.isStatics = false ∧ cell.slots = (Array.ofFn (n := 5) fun j => Value.int (am_untold j.val)) := by
  have hs := flat_of_before _ h
  have harr : (Cond.arrayOf (.static "SegmentForms$ServiceSigns" "UNTOLD" "[I") .int).before args s = true := hs _ (by decide +kernel)
  have hlen : (Cond.eq (.length (.static "SegmentForms$ServiceSigns" "UNTOLD" "[I")) (.int 5)).before args s = true := hs _ (by decide +kernel)
  have h0 : (Cond.eq (.elem (.static "SegmentForms$ServiceSigns" "UNTOLD" "[I") (.int 0)) (.int 58)).before args s = true := hs _ (by decide +kernel)
  have h1 : (Cond.eq (.elem (.static "SegmentForms$ServiceSigns" "UNTOLD" "[I") (.int 1)) (.int 43)).before args s = true := hs _ (by decide +kernel)
  have h2 : (Cond.eq (.elem (.static "SegmentForms$ServiceSigns" "UNTOLD" "[I") (.int 2)) (.int 63)).before args s = true := hs _ (by decide +kernel)
  have h3 : (Cond.eq (.elem (.static "SegmentForms$ServiceSigns" "UNTOLD" "[I") (.int 3)) (.int 42)).before args s = true := hs _ (by decide +kernel)
  have h4 : (Cond.eq (.elem (.static "SegmentForms$ServiceSigns" "UNTOLD" "[I") (.int 4)) (.int 39)).before args s = true := hs _ (by decide +kernel)
  obtain ⟨a, cell, ht, hat, hsz⟩ := am_len (N := 5) rfl (by decide) (va_eqt hlen)
  obtain ⟨hcell, hkn, hst, -⟩ := State.arrayAt?_spec hat
  obtain ⟨hof, -⟩ := Cond.arrayOf_spec harr ht hcell
  have el : ∀ (j : Nat) (z v : Int32), z = nI j → j < 2 ^ 31 → (Term.elem (.static "SegmentForms$ServiceSigns" "UNTOLD" "[I") (.int z)).eval args s none [] s = some (.int v) → cell.slots[j]? = some (.int v) := by
    intro j z v hz hj he
    obtain ⟨a2, i, cell2, g1, g2, g3, g4, g5⟩ := Term.elem_spec he
    cases ht.symm.trans g1
    cases hat.symm.trans g3
    have e : (Term.int z).eval args s none [] s = some (.int z) := rfl
    cases g2.symm.trans e
    rw [hz, nI_clamp hj] at g5
    exact g5
  have e0 := el 0 0 58 rfl (by decide) (va_eqt h0)
  have e1 := el 1 1 43 rfl (by decide) (va_eqt h1)
  have e2 := el 2 2 63 rfl (by decide) (va_eqt h2)
  have e3 := el 3 3 42 rfl (by decide) (va_eqt h3)
  have e4 := el 4 4 39 rfl (by decide) (va_eqt h4)
  refine ⟨a, cell, ht, hcell, hof, hkn, hst, ?_⟩
  refine Array.ext_getElem? fun i => ?_
  rw [Array.getElem?_ofFn]
  by_cases hi : i < 5
  · rw [dif_pos hi]
    rcases (show i = 0 ∨ i = 1 ∨ i = 2 ∨ i = 3 ∨ i = 4 by omega) with rfl | rfl | rfl | rfl | rfl
    · exact e0
    · exact e1
    · exact e2
    · exact e3
    · exact e4
  · rw [dif_neg hi]
    exact Array.getElem?_eq_none (by omega)
/-- the start: 'k' is the flag; at 1 it must be given that UNTOLD's array is of the class "[I", at 2 what gx_E says -/
theorem am_begin {l : Launch} {args : Array Value} {s : State} {b L : Nat} {xs : Nat → Int32} (hl : l.stackTraces = false) (hts : ∀ w ∈ lw_tbl, w.before args s = true) (hgv : (Jvm.Cond.and given_1 narrow_1).before args s = true) (hX : va_X b L xs s s.heap) (hbl : b < s.heap.size) (k : Nat)
    (hk1 : k = 1 → ∀ (tU : Nat) (cell : Cell), (Term.static "SegmentForms$ServiceSigns" "UNTOLD" "[I").eval args s none [] s = some (.ref tU) → s.heap[tU]? = some cell → s.vm.findClass "[I" = some cell.cls)
    (hk2 : k = 2 → ∀ (X : am_X), (Term.static "SegmentForms$ServiceSigns" "UNTOLD" "[I").eval args s none [] s = some (.ref (am_U X)) → gx_E X (fun q => s.heap.size ≤ q) s s.heap) :
    ∃ (D : va_G) (cI cG cJ : ClassId) (tU : Nat), am_Gt (l, D, cI, cG, cJ, tU, b, L, xs, k) (fun q => s.heap.size ≤ q) s s.heap := by
  have hs := flat_of_before _ hgv
  have hA : ∀ a : Nat, a < s.heap.size → ¬ (fun q : Nat => s.heap.size ≤ q) a := fun a h => Nat.not_le.mpr h
  obtain ⟨c0, i0, k0⟩ := u_known (C := R_Check) (T := T_Check) (N := 8) (n := 8) hts (by decide +kernel) (hts (.instantiable R_Check 8) (by decide +kernel))
  obtain ⟨c1, i1, k1⟩ := u_known (C := R_Grammar) (T := T_Grammar) (N := 5) (n := 5) hts (by decide +kernel) (hts (.instantiable R_Grammar 5) (by decide +kernel))
  obtain ⟨c2, i2, k2⟩ := u_known (C := R_Layer) (T := T_Layer) (N := 2) (n := 2) hts (by decide +kernel) (hts (.instantiable R_Layer 2) (by decide +kernel))
  obtain ⟨c3, i3, k3⟩ := u_known (C := R_Message) (T := T_Message) (N := 6) (n := 6) hts (by decide +kernel) (hts (.instantiable R_Message 6) (by decide +kernel))
  obtain ⟨c4, i4, k4⟩ := u_known (C := R_Reader) (T := T_Reader) (N := 4) (n := 4) hts (by decide +kernel) (hts (.instantiable R_Reader 4) (by decide +kernel))
  obtain ⟨c5, i5, k5⟩ := u_known (C := R_ServiceSigns) (T := T_ServiceSigns) (N := 1) (n := 1) hts (by decide +kernel) (hts (.instantiable R_ServiceSigns 1) (by decide +kernel))
  obtain ⟨c6, i6, k6⟩ := u_known (C := R_SignRow) (T := T_SignRow) (N := 2) (n := 2) hts (by decide +kernel) (hts (.instantiable R_SignRow 2) (by decide +kernel))
  obtain ⟨c7, i7, k7⟩ := u_known (C := R_Writer) (T := T_Writer) (N := 3) (n := 3) hts (by decide +kernel) (hts (.instantiable R_Writer 3) (by decide +kernel))
  obtain ⟨c8, i8, k8⟩ := u_known (C := R_Forms) (T := T_Forms) (N := 8) (n := 8) hts (by decide +kernel) (hts (.instantiable R_Forms 8) (by decide +kernel))
  obtain ⟨c9, i9, k9⟩ := u_known (C := R_Model) (T := T_Model) (N := 33) (n := 33) hts (by decide +kernel) (hts (.instantiable R_Model 33) (by decide +kernel))
  obtain ⟨cI, kI, pI, hI1, hI2, hI3⟩ := Cond.arrayClass_spec (type := .int) (hts (.arrayClass .int) (by decide +kernel))
  obtain ⟨cJ, kJ, pJ, hJ1, hJ2, hJ3⟩ := Cond.arrayClass_spec (type := .long) (hts (.arrayClass .long) (by decide +kernel))
  have hAO : (Cond.arrayOver (.object "SegmentForms$Grammar")).before args s = true := hts _ (by decide +kernel)
  obtain ⟨pG, cG, kG, hG1, -, hG3, hG4, hG5⟩ := Cond.arrayOver_spec hAO
  obtain ⟨tU, cell, hU, hUc, hUa, hUk, hUs, hUv⟩ := am_untold_at hgv
  have hUlt : tU < s.heap.size := (Array.getElem?_eq_some_iff.mp hUc).1
  refine ⟨(fun j => [c0, c1, c2, c3, c4, c5, c6, c7, c8, c9].getD j 0, fun j => [i0, i1, i2, i3, i4, i5, i6, i7, i8, i9].getD j (fun _ => 0)), cI, cG, cJ, tU, ⟨?_, ?_⟩, ?_, ?_, ?_, ?_, hX, hbl, hA b hbl, ?_, ?_, va_AO.of hAO, hl, fun hk => hk2 hk _ hU⟩
  · intro j q hq
    match j, hq with
    | 0, hq => cases hq; exact k0
    | 1, hq => cases hq; exact k1
    | 2, hq => cases hq; exact k2
    | 3, hq => cases hq; exact k3
    | 4, hq => cases hq; exact k4
    | 5, hq => cases hq; exact k5
    | 6, hq => cases hq; exact k6
    | 7, hq => cases hq; exact k7
    | 8, hq => cases hq; exact k8
    | 9, hq => cases hq; exact k9
    | j + 10, hq => simp [am_cl] at hq
  · intro j q hq
    match j, hq with
    | 0, hq => cases hq; exact ⟨fun n z => ⟨fun k h => (by cases h), kI, hI2, pI, hI3⟩, hI1⟩
    | 1, hq => cases hq; exact ⟨fun n z => ⟨fun k h => (by cases h), kG, hG3, pG, hG4⟩, kG, pG, hG3, hG4, hG1, hG5⟩
    | 2, hq => cases hq; exact ⟨fun n z => ⟨fun k h => (by cases h), kJ, hJ2, pJ, hJ3⟩, hJ1⟩
    | j + 3, hq => simp [am_tys] at hq
  · exact va_Zof (hts _ (by decide +kernel)) (hts _ (by decide +kernel)) hU hA
  · refine ⟨cell, hUc, ⟨hUa, fun hk => ?_⟩, hUk, hUs, hUv, hA tU hUlt⟩
    have e1 := hk1 hk tU cell hU hUc
    have e2 := va_nm_int (s := s) (cA := cI) hI1
    exact Option.some.inj (e1.symm.trans e2)
  · exact vx_Zqof (hts _ (by decide +kernel)) (hts _ (by decide +kernel)) (hs _ (by decide +kernel)) hA
  · exact vx_Zqof (hts _ (by decide +kernel)) (hts _ (by decide +kernel)) (hs _ (by decide +kernel)) hA
  · intro q hq
    have hex : ∀ i : Nat, ∀ tx : String, (Cond.stringRef "SegmentForms" i tx).before args s = true → (Cond.exactly (.string "SegmentForms" i) "java/lang/String").before args s = true → ∃ sa, vk_R "SegmentForms" i tx sa s := by
      intro i tx g1 g2
      have g3 : ∃ sa, (Term.string "SegmentForms" i).eval args s none [] s = some (.ref sa) := by
        cases hv : (Term.string "SegmentForms" i).eval args s none [] s with
        | none => simp [Cond.before, Cond.holds, Cond.value, hv] at g2
        | some v =>
          cases v with
          | ref sa => exact ⟨sa, rfl⟩
          | _ => cases hc : s.vm.findClass "java/lang/String" <;> simp [Cond.before, Cond.holds, Cond.value, hv, hc] at g2
      obtain ⟨sa, g3⟩ := g3
      exact ⟨sa, vk_R.of g1 g3⟩
    simp only [am_strs, List.mem_cons, List.not_mem_nil, or_false] at hq
    rcases hq with rfl | rfl | rfl | rfl | rfl | rfl | rfl <;> exact hex _ _ (hts _ (by decide +kernel)) (hs _ (by decide +kernel))
  · intro q hq
    simp only [am_ncs, List.mem_cons, List.not_mem_nil, or_false] at hq
    subst hq
    exact va_Nc.of (hs (.not (.castable "java/lang/IllegalStateException" "java/lang/IllegalArgumentException")) (by decide +kernel))
end
