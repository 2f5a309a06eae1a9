section
-- PART A of the kit's skeleton, then the printed names (claim/NAMES.whole.lean.txt): names, fields, codes; then the words of the tables, one list for all
-- ===== PART A: goes FIRST, ahead of the names: the tables' words, and 'selects' of the private methods out of them =====
/-- a private method of a class that the tables say can be made, by its rows of tables_1 -/
def lw_okq (q : MethodName × Nat) : Prop := (q.1.cls ≠ "java/lang/invoke/MethodHandle" ∧ q.1.cls ≠ "java/lang/invoke/VarHandle") ∧ Cond.instantiable q.1.cls q.2 ∈ tables_1 ∧ Cond.privateMethod q.1 ∈ tables_1 ∧ Cond.instanceMethod q.1 ∈ tables_1
theorem lw_p0 : lw_okq (⟨"SelfScale$Reader", "begin", "()V"⟩, 8) := ⟨⟨by decide +kernel, by decide +kernel⟩, List.mem_of_getElem? (i := 51) (by decide +kernel), List.mem_of_getElem? (i := 286) (by decide +kernel), List.mem_of_getElem? (i := 287) (by decide +kernel)⟩
theorem lw_p1 : lw_okq (⟨"SelfScale$Reader", "token", "()I"⟩, 8) := ⟨⟨by decide +kernel, by decide +kernel⟩, List.mem_of_getElem? (i := 51) (by decide +kernel), List.mem_of_getElem? (i := 294) (by decide +kernel), List.mem_of_getElem? (i := 295) (by decide +kernel)⟩
theorem lw_p2 : lw_okq (⟨"SelfScale$Reader", "endOfBlanks", "(I)I"⟩, 8) := ⟨⟨by decide +kernel, by decide +kernel⟩, List.mem_of_getElem? (i := 51) (by decide +kernel), List.mem_of_getElem? (i := 298) (by decide +kernel), List.mem_of_getElem? (i := 299) (by decide +kernel)⟩
theorem lw_p3 : lw_okq (⟨"SelfScale$Reader", "endOfWord", "(I)I"⟩, 8) := ⟨⟨by decide +kernel, by decide +kernel⟩, List.mem_of_getElem? (i := 51) (by decide +kernel), List.mem_of_getElem? (i := 317) (by decide +kernel), List.mem_of_getElem? (i := 318) (by decide +kernel)⟩
theorem lw_p4 : lw_okq (⟨"SelfScale$Reader", "wordToken", "()I"⟩, 8) := ⟨⟨by decide +kernel, by decide +kernel⟩, List.mem_of_getElem? (i := 51) (by decide +kernel), List.mem_of_getElem? (i := 321) (by decide +kernel), List.mem_of_getElem? (i := 322) (by decide +kernel)⟩
theorem lw_p5 : lw_okq (⟨"SelfScale$Reader", "endOfDigits", "(I)I"⟩, 8) := ⟨⟨by decide +kernel, by decide +kernel⟩, List.mem_of_getElem? (i := 51) (by decide +kernel), List.mem_of_getElem? (i := 384) (by decide +kernel), List.mem_of_getElem? (i := 385) (by decide +kernel)⟩
theorem lw_p6 : lw_okq (⟨"SelfScale$Reader", "numberToken", "()I"⟩, 8) := ⟨⟨by decide +kernel, by decide +kernel⟩, List.mem_of_getElem? (i := 51) (by decide +kernel), List.mem_of_getElem? (i := 388) (by decide +kernel), List.mem_of_getElem? (i := 389) (by decide +kernel)⟩
theorem lw_p7 : lw_okq (⟨"SelfScale$Reader", "mayBegin", "(I)Z"⟩, 8) := ⟨⟨by decide +kernel, by decide +kernel⟩, List.mem_of_getElem? (i := 51) (by decide +kernel), List.mem_of_getElem? (i := 392) (by decide +kernel), List.mem_of_getElem? (i := 393) (by decide +kernel)⟩
theorem lw_p8 : lw_okq (⟨"SelfScale$Reader", "mayTake", "(I)Z"⟩, 8) := ⟨⟨by decide +kernel, by decide +kernel⟩, List.mem_of_getElem? (i := 51) (by decide +kernel), List.mem_of_getElem? (i := 400) (by decide +kernel), List.mem_of_getElem? (i := 401) (by decide +kernel)⟩
theorem lw_p9 : lw_okq (⟨"SelfScale$Reader", "take", "(I)V"⟩, 8) := ⟨⟨by decide +kernel, by decide +kernel⟩, List.mem_of_getElem? (i := 51) (by decide +kernel), List.mem_of_getElem? (i := 404) (by decide +kernel), List.mem_of_getElem? (i := 405) (by decide +kernel)⟩
theorem lw_p10 : lw_okq (⟨"SelfScale", "isItem", "(I)Z"⟩, 9) := ⟨⟨by decide +kernel, by decide +kernel⟩, List.mem_of_getElem? (i := 19) (by decide +kernel), List.mem_of_getElem? (i := 455) (by decide +kernel), List.mem_of_getElem? (i := 456) (by decide +kernel)⟩
theorem lw_p11 : lw_okq (⟨"SelfScale", "isSet", "(I)Z"⟩, 9) := ⟨⟨by decide +kernel, by decide +kernel⟩, List.mem_of_getElem? (i := 19) (by decide +kernel), List.mem_of_getElem? (i := 470) (by decide +kernel), List.mem_of_getElem? (i := 471) (by decide +kernel)⟩
theorem lw_p12 : lw_okq (⟨"SelfScale", "isLine", "(I)Z"⟩, 9) := ⟨⟨by decide +kernel, by decide +kernel⟩, List.mem_of_getElem? (i := 19) (by decide +kernel), List.mem_of_getElem? (i := 516) (by decide +kernel), List.mem_of_getElem? (i := 517) (by decide +kernel)⟩
theorem lw_p13 : lw_okq (⟨"SelfScale", "known", "()LSelfScale$Worlds;"⟩, 9) := ⟨⟨by decide +kernel, by decide +kernel⟩, List.mem_of_getElem? (i := 19) (by decide +kernel), List.mem_of_getElem? (i := 545) (by decide +kernel), List.mem_of_getElem? (i := 546) (by decide +kernel)⟩
theorem lw_p14 : lw_okq (⟨"SelfScale$Worlds", "writeCodes", "()V"⟩, 11) := ⟨⟨by decide +kernel, by decide +kernel⟩, List.mem_of_getElem? (i := 160) (by decide +kernel), List.mem_of_getElem? (i := 557) (by decide +kernel), List.mem_of_getElem? (i := 558) (by decide +kernel)⟩
theorem lw_p15 : lw_okq (⟨"SelfScale$Worlds", "codeOf", "(II)I"⟩, 11) := ⟨⟨by decide +kernel, by decide +kernel⟩, List.mem_of_getElem? (i := 160) (by decide +kernel), List.mem_of_getElem? (i := 563) (by decide +kernel), List.mem_of_getElem? (i := 564) (by decide +kernel)⟩
def lw_privs_1 : List (MethodName × Nat) := [(⟨"SelfScale$Reader", "begin", "()V"⟩, 8), (⟨"SelfScale$Reader", "token", "()I"⟩, 8), (⟨"SelfScale$Reader", "endOfBlanks", "(I)I"⟩, 8), (⟨"SelfScale$Reader", "endOfWord", "(I)I"⟩, 8), (⟨"SelfScale$Reader", "wordToken", "()I"⟩, 8), (⟨"SelfScale$Reader", "endOfDigits", "(I)I"⟩, 8), (⟨"SelfScale$Reader", "numberToken", "()I"⟩, 8), (⟨"SelfScale$Reader", "mayBegin", "(I)Z"⟩, 8), (⟨"SelfScale$Reader", "mayTake", "(I)Z"⟩, 8), (⟨"SelfScale$Reader", "take", "(I)V"⟩, 8), (⟨"SelfScale", "isItem", "(I)Z"⟩, 9), (⟨"SelfScale", "isSet", "(I)Z"⟩, 9), (⟨"SelfScale", "isLine", "(I)Z"⟩, 9), (⟨"SelfScale", "known", "()LSelfScale$Worlds;"⟩, 9), (⟨"SelfScale$Worlds", "writeCodes", "()V"⟩, 11), (⟨"SelfScale$Worlds", "codeOf", "(II)I"⟩, 11)]
theorem lw_r1 : ∀ q ∈ lw_privs_1, lw_okq q := List.forall_mem_cons.mpr ⟨lw_p0, List.forall_mem_cons.mpr ⟨lw_p1, List.forall_mem_cons.mpr ⟨lw_p2, List.forall_mem_cons.mpr ⟨lw_p3, List.forall_mem_cons.mpr ⟨lw_p4, List.forall_mem_cons.mpr ⟨lw_p5, List.forall_mem_cons.mpr ⟨lw_p6, List.forall_mem_cons.mpr ⟨lw_p7, List.forall_mem_cons.mpr ⟨lw_p8, List.forall_mem_cons.mpr ⟨lw_p9, List.forall_mem_cons.mpr ⟨lw_p10, List.forall_mem_cons.mpr ⟨lw_p11, List.forall_mem_cons.mpr ⟨lw_p12, List.forall_mem_cons.mpr ⟨lw_p13, List.forall_mem_cons.mpr ⟨lw_p14, List.forall_mem_cons.mpr ⟨lw_p15, fun _ h => absurd h List.not_mem_nil⟩⟩⟩⟩⟩⟩⟩⟩⟩⟩⟩⟩⟩⟩⟩⟩
theorem lw_p16 : lw_okq (⟨"SelfScale$Worlds", "meetWorldsWith", "(I)V"⟩, 11) := ⟨⟨by decide +kernel, by decide +kernel⟩, List.mem_of_getElem? (i := 160) (by decide +kernel), List.mem_of_getElem? (i := 574) (by decide +kernel), List.mem_of_getElem? (i := 575) (by decide +kernel)⟩
theorem lw_p17 : lw_okq (⟨"SelfScale$Worlds", "code", "(II)I"⟩, 11) := ⟨⟨by decide +kernel, by decide +kernel⟩, List.mem_of_getElem? (i := 160) (by decide +kernel), List.mem_of_getElem? (i := 578) (by decide +kernel), List.mem_of_getElem? (i := 579) (by decide +kernel)⟩
theorem lw_p18 : lw_okq (⟨"SelfScale$Worlds", "leastOf", "(I)I"⟩, 11) := ⟨⟨by decide +kernel, by decide +kernel⟩, List.mem_of_getElem? (i := 160) (by decide +kernel), List.mem_of_getElem? (i := 583) (by decide +kernel), List.mem_of_getElem? (i := 584) (by decide +kernel)⟩
theorem lw_p19 : lw_okq (⟨"SelfScale$Worlds", "mostOf", "(I)I"⟩, 11) := ⟨⟨by decide +kernel, by decide +kernel⟩, List.mem_of_getElem? (i := 160) (by decide +kernel), List.mem_of_getElem? (i := 588) (by decide +kernel), List.mem_of_getElem? (i := 589) (by decide +kernel)⟩
theorem lw_p20 : lw_okq (⟨"SelfScale$Worlds", "meet", "(II)V"⟩, 11) := ⟨⟨by decide +kernel, by decide +kernel⟩, List.mem_of_getElem? (i := 160) (by decide +kernel), List.mem_of_getElem? (i := 592) (by decide +kernel), List.mem_of_getElem? (i := 593) (by decide +kernel)⟩
theorem lw_p21 : lw_okq (⟨"SelfScale$Worlds", "leave", "(II)V"⟩, 11) := ⟨⟨by decide +kernel, by decide +kernel⟩, List.mem_of_getElem? (i := 160) (by decide +kernel), List.mem_of_getElem? (i := 602) (by decide +kernel), List.mem_of_getElem? (i := 603) (by decide +kernel)⟩
theorem lw_p22 : lw_okq (⟨"SelfScale$Plan", "shownIn", "(II)I"⟩, 5) := ⟨⟨by decide +kernel, by decide +kernel⟩, List.mem_of_getElem? (i := 202) (by decide +kernel), List.mem_of_getElem? (i := 659) (by decide +kernel), List.mem_of_getElem? (i := 660) (by decide +kernel)⟩
theorem lw_p23 : lw_okq (⟨"SelfScale$Plan", "isSureBy", "(II)Z"⟩, 5) := ⟨⟨by decide +kernel, by decide +kernel⟩, List.mem_of_getElem? (i := 202) (by decide +kernel), List.mem_of_getElem? (i := 683) (by decide +kernel), List.mem_of_getElem? (i := 684) (by decide +kernel)⟩
theorem lw_p24 : lw_okq (⟨"SelfScale$Plan", "isSureByTwo", "(II)Z"⟩, 5) := ⟨⟨by decide +kernel, by decide +kernel⟩, List.mem_of_getElem? (i := 202) (by decide +kernel), List.mem_of_getElem? (i := 693) (by decide +kernel), List.mem_of_getElem? (i := 694) (by decide +kernel)⟩
theorem lw_p25 : lw_okq (⟨"SelfScale$Plan", "stillUnsure", "(IIII)I"⟩, 5) := ⟨⟨by decide +kernel, by decide +kernel⟩, List.mem_of_getElem? (i := 202) (by decide +kernel), List.mem_of_getElem? (i := 698) (by decide +kernel), List.mem_of_getElem? (i := 699) (by decide +kernel)⟩
theorem lw_p26 : lw_okq (⟨"SelfScale$Worlds", "chance", "(III)J"⟩, 11) := ⟨⟨by decide +kernel, by decide +kernel⟩, List.mem_of_getElem? (i := 160) (by decide +kernel), List.mem_of_getElem? (i := 724) (by decide +kernel), List.mem_of_getElem? (i := 725) (by decide +kernel)⟩
theorem lw_p27 : lw_okq (⟨"SelfScale$Scale", "outcomeFrom", "(I)I"⟩, 5) := ⟨⟨by decide +kernel, by decide +kernel⟩, List.mem_of_getElem? (i := 57) (by decide +kernel), List.mem_of_getElem? (i := 757) (by decide +kernel), List.mem_of_getElem? (i := 758) (by decide +kernel)⟩
theorem lw_p28 : lw_okq (⟨"SelfScale$Kinds", "asThing", "(I)I"⟩, 3) := ⟨⟨by decide +kernel, by decide +kernel⟩, List.mem_of_getElem? (i := 144) (by decide +kernel), List.mem_of_getElem? (i := 775) (by decide +kernel), List.mem_of_getElem? (i := 776) (by decide +kernel)⟩
theorem lw_p29 : lw_okq (⟨"SelfScale$Kinds", "asSack", "(I)I"⟩, 3) := ⟨⟨by decide +kernel, by decide +kernel⟩, List.mem_of_getElem? (i := 144) (by decide +kernel), List.mem_of_getElem? (i := 780) (by decide +kernel), List.mem_of_getElem? (i := 781) (by decide +kernel)⟩
theorem lw_p30 : lw_okq (⟨"SelfScale$Kinds", "asLead", "(I)I"⟩, 3) := ⟨⟨by decide +kernel, by decide +kernel⟩, List.mem_of_getElem? (i := 144) (by decide +kernel), List.mem_of_getElem? (i := 786) (by decide +kernel), List.mem_of_getElem? (i := 787) (by decide +kernel)⟩
theorem lw_p31 : lw_okq (⟨"SelfScale$Kinds", "asFlour", "(I)I"⟩, 3) := ⟨⟨by decide +kernel, by decide +kernel⟩, List.mem_of_getElem? (i := 144) (by decide +kernel), List.mem_of_getElem? (i := 791) (by decide +kernel), List.mem_of_getElem? (i := 792) (by decide +kernel)⟩
def lw_privs_2 : List (MethodName × Nat) := [(⟨"SelfScale$Worlds", "meetWorldsWith", "(I)V"⟩, 11), (⟨"SelfScale$Worlds", "code", "(II)I"⟩, 11), (⟨"SelfScale$Worlds", "leastOf", "(I)I"⟩, 11), (⟨"SelfScale$Worlds", "mostOf", "(I)I"⟩, 11), (⟨"SelfScale$Worlds", "meet", "(II)V"⟩, 11), (⟨"SelfScale$Worlds", "leave", "(II)V"⟩, 11), (⟨"SelfScale$Plan", "shownIn", "(II)I"⟩, 5), (⟨"SelfScale$Plan", "isSureBy", "(II)Z"⟩, 5), (⟨"SelfScale$Plan", "isSureByTwo", "(II)Z"⟩, 5), (⟨"SelfScale$Plan", "stillUnsure", "(IIII)I"⟩, 5), (⟨"SelfScale$Worlds", "chance", "(III)J"⟩, 11), (⟨"SelfScale$Scale", "outcomeFrom", "(I)I"⟩, 5), (⟨"SelfScale$Kinds", "asThing", "(I)I"⟩, 3), (⟨"SelfScale$Kinds", "asSack", "(I)I"⟩, 3), (⟨"SelfScale$Kinds", "asLead", "(I)I"⟩, 3), (⟨"SelfScale$Kinds", "asFlour", "(I)I"⟩, 3)]
theorem lw_r2 : ∀ q ∈ lw_privs_2, lw_okq q := List.forall_mem_cons.mpr ⟨lw_p16, List.forall_mem_cons.mpr ⟨lw_p17, List.forall_mem_cons.mpr ⟨lw_p18, List.forall_mem_cons.mpr ⟨lw_p19, List.forall_mem_cons.mpr ⟨lw_p20, List.forall_mem_cons.mpr ⟨lw_p21, List.forall_mem_cons.mpr ⟨lw_p22, List.forall_mem_cons.mpr ⟨lw_p23, List.forall_mem_cons.mpr ⟨lw_p24, List.forall_mem_cons.mpr ⟨lw_p25, List.forall_mem_cons.mpr ⟨lw_p26, List.forall_mem_cons.mpr ⟨lw_p27, List.forall_mem_cons.mpr ⟨lw_p28, List.forall_mem_cons.mpr ⟨lw_p29, List.forall_mem_cons.mpr ⟨lw_p30, List.forall_mem_cons.mpr ⟨lw_p31, fun _ h => absurd h List.not_mem_nil⟩⟩⟩⟩⟩⟩⟩⟩⟩⟩⟩⟩⟩⟩⟩⟩
theorem lw_p32 : lw_okq (⟨"SelfScale$Kinds", "asGold", "(I)I"⟩, 3) := ⟨⟨by decide +kernel, by decide +kernel⟩, List.mem_of_getElem? (i := 144) (by decide +kernel), List.mem_of_getElem? (i := 797) (by decide +kernel), List.mem_of_getElem? (i := 798) (by decide +kernel)⟩
theorem lw_p33 : lw_okq (⟨"SelfScale$Kinds", "asBaby", "(I)I"⟩, 3) := ⟨⟨by decide +kernel, by decide +kernel⟩, List.mem_of_getElem? (i := 144) (by decide +kernel), List.mem_of_getElem? (i := 802) (by decide +kernel), List.mem_of_getElem? (i := 803) (by decide +kernel)⟩
theorem lw_p34 : lw_okq (⟨"SelfScale", "imageOf", "(I)LSelfScale$Image;"⟩, 9) := ⟨⟨by decide +kernel, by decide +kernel⟩, List.mem_of_getElem? (i := 19) (by decide +kernel), List.mem_of_getElem? (i := 817) (by decide +kernel), List.mem_of_getElem? (i := 818) (by decide +kernel)⟩
theorem lw_p35 : lw_okq (⟨"SelfScaleModel", "nextToken", "()V"⟩, 20) := ⟨⟨by decide +kernel, by decide +kernel⟩, List.mem_of_getElem? (i := 855) (by decide +kernel), List.mem_of_getElem? (i := 939) (by decide +kernel), List.mem_of_getElem? (i := 940) (by decide +kernel)⟩
theorem lw_p36 : lw_okq (⟨"SelfScaleModel", "here", "()I"⟩, 20) := ⟨⟨by decide +kernel, by decide +kernel⟩, List.mem_of_getElem? (i := 855) (by decide +kernel), List.mem_of_getElem? (i := 943) (by decide +kernel), List.mem_of_getElem? (i := 944) (by decide +kernel)⟩
theorem lw_p37 : lw_okq (⟨"SelfScaleModel", "readItem", "()V"⟩, 20) := ⟨⟨by decide +kernel, by decide +kernel⟩, List.mem_of_getElem? (i := 855) (by decide +kernel), List.mem_of_getElem? (i := 949) (by decide +kernel), List.mem_of_getElem? (i := 950) (by decide +kernel)⟩
theorem lw_p38 : lw_okq (⟨"SelfScaleModel", "due", "(Z)I"⟩, 20) := ⟨⟨by decide +kernel, by decide +kernel⟩, List.mem_of_getElem? (i := 855) (by decide +kernel), List.mem_of_getElem? (i := 953) (by decide +kernel), List.mem_of_getElem? (i := 954) (by decide +kernel)⟩
theorem lw_p39 : lw_okq (⟨"SelfScaleModel", "number", "(II)I"⟩, 20) := ⟨⟨by decide +kernel, by decide +kernel⟩, List.mem_of_getElem? (i := 855) (by decide +kernel), List.mem_of_getElem? (i := 957) (by decide +kernel), List.mem_of_getElem? (i := 958) (by decide +kernel)⟩
theorem lw_p40 : lw_okq (⟨"SelfScaleModel", "isThing", "(I)Z"⟩, 20) := ⟨⟨by decide +kernel, by decide +kernel⟩, List.mem_of_getElem? (i := 855) (by decide +kernel), List.mem_of_getElem? (i := 965) (by decide +kernel), List.mem_of_getElem? (i := 966) (by decide +kernel)⟩
theorem lw_p41 : lw_okq (⟨"SelfScaleModel", "isSet", "(I)Z"⟩, 20) := ⟨⟨by decide +kernel, by decide +kernel⟩, List.mem_of_getElem? (i := 855) (by decide +kernel), List.mem_of_getElem? (i := 973) (by decide +kernel), List.mem_of_getElem? (i := 974) (by decide +kernel)⟩
theorem lw_p42 : lw_okq (⟨"SelfScaleModel", "trueSum", "(I)I"⟩, 20) := ⟨⟨by decide +kernel, by decide +kernel⟩, List.mem_of_getElem? (i := 855) (by decide +kernel), List.mem_of_getElem? (i := 977) (by decide +kernel), List.mem_of_getElem? (i := 978) (by decide +kernel)⟩
theorem lw_p43 : lw_okq (⟨"SelfScaleModel", "put", "(III)V"⟩, 20) := ⟨⟨by decide +kernel, by decide +kernel⟩, List.mem_of_getElem? (i := 855) (by decide +kernel), List.mem_of_getElem? (i := 981) (by decide +kernel), List.mem_of_getElem? (i := 982) (by decide +kernel)⟩
theorem lw_p44 : lw_okq (⟨"SelfScaleModel", "isLine", "(I)Z"⟩, 20) := ⟨⟨by decide +kernel, by decide +kernel⟩, List.mem_of_getElem? (i := 855) (by decide +kernel), List.mem_of_getElem? (i := 993) (by decide +kernel), List.mem_of_getElem? (i := 994) (by decide +kernel)⟩
theorem lw_p45 : lw_okq (⟨"SelfScaleModel", "isOne", "(I)Z"⟩, 20) := ⟨⟨by decide +kernel, by decide +kernel⟩, List.mem_of_getElem? (i := 855) (by decide +kernel), List.mem_of_getElem? (i := 1005) (by decide +kernel), List.mem_of_getElem? (i := 1006) (by decide +kernel)⟩
theorem lw_p46 : lw_okq (⟨"SelfScaleModel", "many", "(II)I"⟩, 20) := ⟨⟨by decide +kernel, by decide +kernel⟩, List.mem_of_getElem? (i := 855) (by decide +kernel), List.mem_of_getElem? (i := 1009) (by decide +kernel), List.mem_of_getElem? (i := 1010) (by decide +kernel)⟩
theorem lw_p47 : lw_okq (⟨"SelfScaleModel", "worlds", "()I"⟩, 20) := ⟨⟨by decide +kernel, by decide +kernel⟩, List.mem_of_getElem? (i := 855) (by decide +kernel), List.mem_of_getElem? (i := 1013) (by decide +kernel), List.mem_of_getElem? (i := 1014) (by decide +kernel)⟩
def lw_privs_3 : List (MethodName × Nat) := [(⟨"SelfScale$Kinds", "asGold", "(I)I"⟩, 3), (⟨"SelfScale$Kinds", "asBaby", "(I)I"⟩, 3), (⟨"SelfScale", "imageOf", "(I)LSelfScale$Image;"⟩, 9), (⟨"SelfScaleModel", "nextToken", "()V"⟩, 20), (⟨"SelfScaleModel", "here", "()I"⟩, 20), (⟨"SelfScaleModel", "readItem", "()V"⟩, 20), (⟨"SelfScaleModel", "due", "(Z)I"⟩, 20), (⟨"SelfScaleModel", "number", "(II)I"⟩, 20), (⟨"SelfScaleModel", "isThing", "(I)Z"⟩, 20), (⟨"SelfScaleModel", "isSet", "(I)Z"⟩, 20), (⟨"SelfScaleModel", "trueSum", "(I)I"⟩, 20), (⟨"SelfScaleModel", "put", "(III)V"⟩, 20), (⟨"SelfScaleModel", "isLine", "(I)Z"⟩, 20), (⟨"SelfScaleModel", "isOne", "(I)Z"⟩, 20), (⟨"SelfScaleModel", "many", "(II)I"⟩, 20), (⟨"SelfScaleModel", "worlds", "()I"⟩, 20)]
theorem lw_r3 : ∀ q ∈ lw_privs_3, lw_okq q := List.forall_mem_cons.mpr ⟨lw_p32, List.forall_mem_cons.mpr ⟨lw_p33, List.forall_mem_cons.mpr ⟨lw_p34, List.forall_mem_cons.mpr ⟨lw_p35, List.forall_mem_cons.mpr ⟨lw_p36, List.forall_mem_cons.mpr ⟨lw_p37, List.forall_mem_cons.mpr ⟨lw_p38, List.forall_mem_cons.mpr ⟨lw_p39, List.forall_mem_cons.mpr ⟨lw_p40, List.forall_mem_cons.mpr ⟨lw_p41, List.forall_mem_cons.mpr ⟨lw_p42, List.forall_mem_cons.mpr ⟨lw_p43, List.forall_mem_cons.mpr ⟨lw_p44, List.forall_mem_cons.mpr ⟨lw_p45, List.forall_mem_cons.mpr ⟨lw_p46, List.forall_mem_cons.mpr ⟨lw_p47, fun _ h => absurd h List.not_mem_nil⟩⟩⟩⟩⟩⟩⟩⟩⟩⟩⟩⟩⟩⟩⟩⟩
theorem lw_p48 : lw_okq (⟨"SelfScaleModel", "canBe", "(I)Z"⟩, 20) := ⟨⟨by decide +kernel, by decide +kernel⟩, List.mem_of_getElem? (i := 855) (by decide +kernel), List.mem_of_getElem? (i := 1017) (by decide +kernel), List.mem_of_getElem? (i := 1018) (by decide +kernel)⟩
theorem lw_p49 : lw_okq (⟨"SelfScaleModel", "go", "(I)V"⟩, 20) := ⟨⟨by decide +kernel, by decide +kernel⟩, List.mem_of_getElem? (i := 855) (by decide +kernel), List.mem_of_getElem? (i := 1021) (by decide +kernel), List.mem_of_getElem? (i := 1022) (by decide +kernel)⟩
theorem lw_p50 : lw_okq (⟨"SelfScaleModel", "falseLines", "()I"⟩, 20) := ⟨⟨by decide +kernel, by decide +kernel⟩, List.mem_of_getElem? (i := 855) (by decide +kernel), List.mem_of_getElem? (i := 1025) (by decide +kernel), List.mem_of_getElem? (i := 1026) (by decide +kernel)⟩
theorem lw_p51 : lw_okq (⟨"SelfScaleModel", "laughIn", "(I)I"⟩, 20) := ⟨⟨by decide +kernel, by decide +kernel⟩, List.mem_of_getElem? (i := 855) (by decide +kernel), List.mem_of_getElem? (i := 1029) (by decide +kernel), List.mem_of_getElem? (i := 1030) (by decide +kernel)⟩
theorem lw_p52 : lw_okq (⟨"SelfScaleModel", "shownOf", "(I)I"⟩, 20) := ⟨⟨by decide +kernel, by decide +kernel⟩, List.mem_of_getElem? (i := 855) (by decide +kernel), List.mem_of_getElem? (i := 1033) (by decide +kernel), List.mem_of_getElem? (i := 1034) (by decide +kernel)⟩
theorem lw_p53 : lw_okq (⟨"SelfScaleModel", "worstOf", "(I)I"⟩, 20) := ⟨⟨by decide +kernel, by decide +kernel⟩, List.mem_of_getElem? (i := 855) (by decide +kernel), List.mem_of_getElem? (i := 1052) (by decide +kernel), List.mem_of_getElem? (i := 1053) (by decide +kernel)⟩
theorem lw_p54 : lw_okq (⟨"SelfScaleModel", "isKnown", "(I)Z"⟩, 20) := ⟨⟨by decide +kernel, by decide +kernel⟩, List.mem_of_getElem? (i := 855) (by decide +kernel), List.mem_of_getElem? (i := 1060) (by decide +kernel), List.mem_of_getElem? (i := 1061) (by decide +kernel)⟩
theorem lw_p55 : lw_okq (⟨"SelfScaleModel", "part", "(III)V"⟩, 20) := ⟨⟨by decide +kernel, by decide +kernel⟩, List.mem_of_getElem? (i := 855) (by decide +kernel), List.mem_of_getElem? (i := 1064) (by decide +kernel), List.mem_of_getElem? (i := 1065) (by decide +kernel)⟩
theorem lw_p56 : lw_okq (⟨"SelfScaleModel", "anyBad", "()Z"⟩, 20) := ⟨⟨by decide +kernel, by decide +kernel⟩, List.mem_of_getElem? (i := 855) (by decide +kernel), List.mem_of_getElem? (i := 1068) (by decide +kernel), List.mem_of_getElem? (i := 1069) (by decide +kernel)⟩
theorem lw_p57 : lw_okq (⟨"SelfScaleModel", "isEnough", "(II)Z"⟩, 20) := ⟨⟨by decide +kernel, by decide +kernel⟩, List.mem_of_getElem? (i := 855) (by decide +kernel), List.mem_of_getElem? (i := 1072) (by decide +kernel), List.mem_of_getElem? (i := 1073) (by decide +kernel)⟩
theorem lw_p58 : lw_okq (⟨"SelfScaleModel", "copy", "(II)V"⟩, 20) := ⟨⟨by decide +kernel, by decide +kernel⟩, List.mem_of_getElem? (i := 855) (by decide +kernel), List.mem_of_getElem? (i := 1112) (by decide +kernel), List.mem_of_getElem? (i := 1113) (by decide +kernel)⟩
def lw_privs_4 : List (MethodName × Nat) := [(⟨"SelfScaleModel", "canBe", "(I)Z"⟩, 20), (⟨"SelfScaleModel", "go", "(I)V"⟩, 20), (⟨"SelfScaleModel", "falseLines", "()I"⟩, 20), (⟨"SelfScaleModel", "laughIn", "(I)I"⟩, 20), (⟨"SelfScaleModel", "shownOf", "(I)I"⟩, 20), (⟨"SelfScaleModel", "worstOf", "(I)I"⟩, 20), (⟨"SelfScaleModel", "isKnown", "(I)Z"⟩, 20), (⟨"SelfScaleModel", "part", "(III)V"⟩, 20), (⟨"SelfScaleModel", "anyBad", "()Z"⟩, 20), (⟨"SelfScaleModel", "isEnough", "(II)Z"⟩, 20), (⟨"SelfScaleModel", "copy", "(II)V"⟩, 20)]
theorem lw_r4 : ∀ q ∈ lw_privs_4, lw_okq q := List.forall_mem_cons.mpr ⟨lw_p48, List.forall_mem_cons.mpr ⟨lw_p49, List.forall_mem_cons.mpr ⟨lw_p50, List.forall_mem_cons.mpr ⟨lw_p51, List.forall_mem_cons.mpr ⟨lw_p52, List.forall_mem_cons.mpr ⟨lw_p53, List.forall_mem_cons.mpr ⟨lw_p54, List.forall_mem_cons.mpr ⟨lw_p55, List.forall_mem_cons.mpr ⟨lw_p56, List.forall_mem_cons.mpr ⟨lw_p57, List.forall_mem_cons.mpr ⟨lw_p58, fun _ h => absurd h List.not_mem_nil⟩⟩⟩⟩⟩⟩⟩⟩⟩⟩⟩
def lw_privs : List (MethodName × Nat) := lw_privs_1 ++ (lw_privs_2 ++ (lw_privs_3 ++ (lw_privs_4)))
def lw_tbl : List Cond := k2_sels lw_privs ++ tables_1
theorem lw_privs_ok : ∀ q ∈ lw_privs, lw_okq q := by
  show ∀ q ∈ lw_privs_1 ++ (lw_privs_2 ++ (lw_privs_3 ++ (lw_privs_4))), lw_okq q
  exact List.forall_mem_append.mpr ⟨lw_r1, List.forall_mem_append.mpr ⟨lw_r2, List.forall_mem_append.mpr ⟨lw_r3, lw_r4⟩⟩⟩
def RX0 : String := "SelfScale$Book"
def TX0 : u_T := fun k => match k with
  | 0 => ("SelfScale$Book", "sets", "LSelfScale$Row;", true)
  | 1 => ("SelfScale$Book", "shown", "LSelfScale$Row;", true)
  | 2 => ("SelfScale$Book", "laughs", "LSelfScale$Row;", true)
  | _ => ("SelfScale$Book", "lines", "I", false)
def tyX0 : Nat → FieldType := fun k => match k with
  | 0 => .object "SelfScale$Row"
  | 1 => .object "SelfScale$Row"
  | 2 => .object "SelfScale$Row"
  | _ => .int
abbrev wsX00 : List Cond := u_ws RX0 TX0 4
theorem nmX0 : ∀ a, a < 4 → ∀ b, b < 4 → a ≠ b → (TX0 a).2.1 ≠ (TX0 b).2.1 := by decide +kernel
theorem tyX0_ok : ∀ k, k < 4 → parseFieldDescriptor (TX0 k).2.2.1 = some (tyX0 k) := by decide +kernel
abbrev cX0_init : ByteArray := prog_2_method_1_code
def yX0_init : MethodName := ⟨RX0, "<init>", "()V"⟩
abbrev cX0_lines : ByteArray := prog_2_method_2_code
def yX0_lines : MethodName := ⟨RX0, "lines", "()I"⟩
abbrev cX0_isFull : ByteArray := prog_2_method_3_code
def yX0_isFull : MethodName := ⟨RX0, "isFull", "()Z"⟩
abbrev cX0_wipe : ByteArray := prog_2_method_4_code
def yX0_wipe : MethodName := ⟨RX0, "wipe", "()V"⟩
abbrev cX0_add : ByteArray := prog_2_method_5_code
def yX0_add : MethodName := ⟨RX0, "add", "(III)V"⟩
abbrev cX0_dropLatest : ByteArray := prog_2_method_6_code
def yX0_dropLatest : MethodName := ⟨RX0, "dropLatest", "()V"⟩
abbrev cX0_copyFrom : ByteArray := prog_2_method_7_code
def yX0_copyFrom : MethodName := ⟨RX0, "copyFrom", "(LSelfScale$Book;)V"⟩
abbrev cX0_setOf : ByteArray := prog_2_method_8_code
def yX0_setOf : MethodName := ⟨RX0, "setOf", "(I)I"⟩
abbrev cX0_shownOf : ByteArray := prog_2_method_9_code
def yX0_shownOf : MethodName := ⟨RX0, "shownOf", "(I)I"⟩
abbrev cX0_laughOf : ByteArray := prog_2_method_10_code
def yX0_laughOf : MethodName := ⟨RX0, "laughOf", "(I)I"⟩
abbrev cX0_linesWith : ByteArray := prog_2_method_11_code
def yX0_linesWith : MethodName := ⟨RX0, "linesWith", "(I)I"⟩
abbrev cX0_unheardLines : ByteArray := prog_2_method_12_code
def yX0_unheardLines : MethodName := ⟨RX0, "unheardLines", "()I"⟩
def RX1 : String := "SelfScale$Image"
def TX1 : u_T := fun k => match k with
  | 0 => ("SelfScale$Image", "kept", "LSelfScale$Book;", true)
  | _ => ("SelfScale$Image", "isKept", "Z", false)
def tyX1 : Nat → FieldType := fun k => match k with
  | 0 => .object "SelfScale$Book"
  | _ => .boolean
abbrev wsX10 : List Cond := u_ws RX1 TX1 2
theorem nmX1 : ∀ a, a < 2 → ∀ b, b < 2 → a ≠ b → (TX1 a).2.1 ≠ (TX1 b).2.1 := by decide +kernel
theorem tyX1_ok : ∀ k, k < 2 → parseFieldDescriptor (TX1 k).2.2.1 = some (tyX1 k) := by decide +kernel
abbrev cX1_init : ByteArray := prog_3_method_1_code
def yX1_init : MethodName := ⟨RX1, "<init>", "()V"⟩
abbrev cX1_take : ByteArray := prog_3_method_2_code
def yX1_take : MethodName := ⟨RX1, "take", "(LSelfScale$Book;)V"⟩
abbrev cX1_drop : ByteArray := prog_3_method_3_code
def yX1_drop : MethodName := ⟨RX1, "drop", "()V"⟩
abbrev cX1_isKept : ByteArray := prog_3_method_4_code
def yX1_isKept : MethodName := ⟨RX1, "isKept", "()Z"⟩
abbrev cX1_kept : ByteArray := prog_3_method_5_code
def yX1_kept : MethodName := ⟨RX1, "kept", "()LSelfScale$Book;"⟩
def RX2 : String := "SelfScale$Kinds"
def TX2 : u_T := fun k => match k with
  | 0 => ("SelfScale$Kinds", "scale", "LSelfScale$Scale;", true)
  | 1 => ("SelfScale$Kinds", "book", "LSelfScale$Book;", true)
  | _ => ("SelfScale$Kinds", "asked", "J", false)
def tyX2 : Nat → FieldType := fun k => match k with
  | 0 => .object "SelfScale$Scale"
  | 1 => .object "SelfScale$Book"
  | _ => .long
abbrev wsX20 : List Cond := u_ws RX2 TX2 3
theorem nmX2 : ∀ a, a < 3 → ∀ b, b < 3 → a ≠ b → (TX2 a).2.1 ≠ (TX2 b).2.1 := by decide +kernel
theorem tyX2_ok : ∀ k, k < 3 → parseFieldDescriptor (TX2 k).2.2.1 = some (tyX2 k) := by decide +kernel
abbrev cX2_init : ByteArray := prog_4_method_1_code
def yX2_init : MethodName := ⟨RX2, "<init>", "(LSelfScale$Scale;LSelfScale$Book;)V"⟩
abbrev cX2_asked : ByteArray := prog_4_method_2_code
def yX2_asked : MethodName := ⟨RX2, "asked", "()J"⟩
abbrev cX2_markAs : ByteArray := prog_4_method_3_code
def yX2_markAs : MethodName := ⟨RX2, "markAs", "(II)I"⟩
abbrev cX2_asThing : ByteArray := prog_4_method_4_code
def yX2_asThing : MethodName := ⟨RX2, "asThing", "(I)I"⟩
abbrev cX2_asSack : ByteArray := prog_4_method_5_code
def yX2_asSack : MethodName := ⟨RX2, "asSack", "(I)I"⟩
abbrev cX2_asLead : ByteArray := prog_4_method_6_code
def yX2_asLead : MethodName := ⟨RX2, "asLead", "(I)I"⟩
abbrev cX2_asFlour : ByteArray := prog_4_method_7_code
def yX2_asFlour : MethodName := ⟨RX2, "asFlour", "(I)I"⟩
abbrev cX2_asGold : ByteArray := prog_4_method_8_code
def yX2_asGold : MethodName := ⟨RX2, "asGold", "(I)I"⟩
abbrev cX2_asBaby : ByteArray := prog_4_method_9_code
def yX2_asBaby : MethodName := ⟨RX2, "asBaby", "(I)I"⟩
def RX3 : String := "SelfScale$Plan"
def TX3 : u_T := fun k => match k with
  | 0 => ("SelfScale$Plan", "scale", "LSelfScale$Scale;", true)
  | 1 => ("SelfScale$Plan", "worlds", "LSelfScale$Worlds;", true)
  | 2 => ("SelfScale$Plan", "leftByShown", "LSelfScale$Row;", true)
  | 3 => ("SelfScale$Plan", "seenByOne", "LSelfScale$Row;", true)
  | _ => ("SelfScale$Plan", "seenByTwo", "LSelfScale$Row;", true)
def tyX3 : Nat → FieldType := fun k => match k with
  | 0 => .object "SelfScale$Scale"
  | 1 => .object "SelfScale$Worlds"
  | 2 => .object "SelfScale$Row"
  | 3 => .object "SelfScale$Row"
  | _ => .object "SelfScale$Row"
abbrev wsX30 : List Cond := u_ws RX3 TX3 5
theorem nmX3 : ∀ a, a < 5 → ∀ b, b < 5 → a ≠ b → (TX3 a).2.1 ≠ (TX3 b).2.1 := by decide +kernel
theorem tyX3_ok : ∀ k, k < 5 → parseFieldDescriptor (TX3 k).2.2.1 = some (tyX3 k) := by decide +kernel
abbrev cX3_init : ByteArray := prog_5_method_1_code
def yX3_init : MethodName := ⟨RX3, "<init>", "(LSelfScale$Scale;LSelfScale$Worlds;)V"⟩
abbrev cX3_bestSet : ByteArray := prog_5_method_2_code
def yX3_bestSet : MethodName := ⟨RX3, "bestSet", "()I"⟩
abbrev cX3_worstOf : ByteArray := prog_5_method_3_code
def yX3_worstOf : MethodName := ⟨RX3, "worstOf", "(I)I"⟩
abbrev cX3_weighingsFor : ByteArray := prog_5_method_4_code
def yX3_weighingsFor : MethodName := ⟨RX3, "weighingsFor", "(I)I"⟩
abbrev cX3_isSureBy : ByteArray := prog_5_method_5_code
def yX3_isSureBy : MethodName := ⟨RX3, "isSureBy", "(II)Z"⟩
abbrev cX3_isSureByTwo : ByteArray := prog_5_method_6_code
def yX3_isSureByTwo : MethodName := ⟨RX3, "isSureByTwo", "(II)Z"⟩
abbrev cX3_stillUnsure : ByteArray := prog_5_method_7_code
def yX3_stillUnsure : MethodName := ⟨RX3, "stillUnsure", "(IIII)I"⟩
abbrev cX3_isTorn : ByteArray := prog_5_method_8_code
def yX3_isTorn : MethodName := ⟨RX3, "isTorn", "(LSelfScale$Row;II)Z"⟩
abbrev cX3_shownIn : ByteArray := prog_5_method_9_code
def yX3_shownIn : MethodName := ⟨RX3, "shownIn", "(II)I"⟩
def RX4 : String := "SelfScale$Reader"
def TX4 : u_T := fun k => match k with
  | 0 => ("SelfScale$Reader", "text", "LSelfScale$Text;", true)
  | 1 => ("SelfScale$Reader", "told", "LSelfScale$Scale;", true)
  | 2 => ("SelfScale$Reader", "items", "I", false)
  | 3 => ("SelfScale$Reader", "isOwnTold", "Z", false)
  | 4 => ("SelfScale$Reader", "areFiguresTold", "Z", false)
  | 5 => ("SelfScale$Reader", "start", "I", false)
  | 6 => ("SelfScale$Reader", "end", "I", false)
  | _ => ("SelfScale$Reader", "number", "I", false)
def tyX4 : Nat → FieldType := fun k => match k with
  | 0 => .object "SelfScale$Text"
  | 1 => .object "SelfScale$Scale"
  | 2 => .int
  | 3 => .boolean
  | 4 => .boolean
  | 5 => .int
  | 6 => .int
  | _ => .int
abbrev wsX40 : List Cond := u_ws RX4 TX4 8
theorem nmX4 : ∀ a, a < 8 → ∀ b, b < 8 → a ≠ b → (TX4 a).2.1 ≠ (TX4 b).2.1 := by decide +kernel
theorem tyX4_ok : ∀ k, k < 8 → parseFieldDescriptor (TX4 k).2.2.1 = some (tyX4 k) := by decide +kernel
abbrev cX4_init : ByteArray := prog_6_method_1_code
def yX4_init : MethodName := ⟨RX4, "<init>", "(LSelfScale$Text;)V"⟩
abbrev cX4_told : ByteArray := prog_6_method_2_code
def yX4_told : MethodName := ⟨RX4, "told", "()LSelfScale$Scale;"⟩
abbrev cX4_items : ByteArray := prog_6_method_3_code
def yX4_items : MethodName := ⟨RX4, "items", "()I"⟩
abbrev cX4_read : ByteArray := prog_6_method_4_code
def yX4_read : MethodName := ⟨RX4, "read", "()I"⟩
abbrev cX4_begin : ByteArray := prog_6_method_5_code
def yX4_begin : MethodName := ⟨RX4, "begin", "()V"⟩
abbrev cX4_mayBegin : ByteArray := prog_6_method_6_code
def yX4_mayBegin : MethodName := ⟨RX4, "mayBegin", "(I)Z"⟩
abbrev cX4_mayTake : ByteArray := prog_6_method_7_code
def yX4_mayTake : MethodName := ⟨RX4, "mayTake", "(I)Z"⟩
abbrev cX4_take : ByteArray := prog_6_method_8_code
def yX4_take : MethodName := ⟨RX4, "take", "(I)V"⟩
abbrev cX4_token : ByteArray := prog_6_method_9_code
def yX4_token : MethodName := ⟨RX4, "token", "()I"⟩
abbrev cX4_wordToken : ByteArray := prog_6_method_10_code
def yX4_wordToken : MethodName := ⟨RX4, "wordToken", "()I"⟩
abbrev cX4_numberToken : ByteArray := prog_6_method_11_code
def yX4_numberToken : MethodName := ⟨RX4, "numberToken", "()I"⟩
abbrev cX4_endOfBlanks : ByteArray := prog_6_method_12_code
def yX4_endOfBlanks : MethodName := ⟨RX4, "endOfBlanks", "(I)I"⟩
abbrev cX4_endOfWord : ByteArray := prog_6_method_13_code
def yX4_endOfWord : MethodName := ⟨RX4, "endOfWord", "(I)I"⟩
abbrev cX4_endOfDigits : ByteArray := prog_6_method_14_code
def yX4_endOfDigits : MethodName := ⟨RX4, "endOfDigits", "(I)I"⟩
abbrev cX4_isLetter : ByteArray := prog_6_method_15_code
def yX4_isLetter : MethodName := ⟨RX4, "isLetter", "(I)Z"⟩
abbrev cX4_isDigit : ByteArray := prog_6_method_16_code
def yX4_isDigit : MethodName := ⟨RX4, "isDigit", "(I)Z"⟩
def RX5 : String := "SelfScale$Row"
def TX5 : u_T := fun k => match k with
  | _ => ("SelfScale$Row", "cells", "[I", true)
def tyX5 : Nat → FieldType := fun k => match k with
  | _ => .array .int
abbrev wsX50 : List Cond := u_ws RX5 TX5 1
theorem nmX5 : ∀ a, a < 1 → ∀ b, b < 1 → a ≠ b → (TX5 a).2.1 ≠ (TX5 b).2.1 := by decide +kernel
theorem tyX5_ok : ∀ k, k < 1 → parseFieldDescriptor (TX5 k).2.2.1 = some (tyX5 k) := by decide +kernel
abbrev cX5_init : ByteArray := prog_7_method_1_code
def yX5_init : MethodName := ⟨RX5, "<init>", "(I)V"⟩
abbrev cX5_get : ByteArray := prog_7_method_2_code
def yX5_get : MethodName := ⟨RX5, "get", "(I)I"⟩
abbrev cX5_put : ByteArray := prog_7_method_3_code
def yX5_put : MethodName := ⟨RX5, "put", "(II)V"⟩
abbrev cX5_add : ByteArray := prog_7_method_4_code
def yX5_add : MethodName := ⟨RX5, "add", "(II)V"⟩
abbrev cX5_join : ByteArray := prog_7_method_5_code
def yX5_join : MethodName := ⟨RX5, "join", "(II)V"⟩
abbrev cX5_wipe : ByteArray := prog_7_method_6_code
def yX5_wipe : MethodName := ⟨RX5, "wipe", "()V"⟩
abbrev cX5_copyFrom : ByteArray := prog_7_method_7_code
def yX5_copyFrom : MethodName := ⟨RX5, "copyFrom", "(LSelfScale$Row;)V"⟩
def RX6 : String := "SelfScale$Scale"
def TX6 : u_T := fun k => match k with
  | 0 => ("SelfScale$Scale", "weights", "LSelfScale$Row;", true)
  | 1 => ("SelfScale$Scale", "outcomes", "LSelfScale$Row;", true)
  | 2 => ("SelfScale$Scale", "things", "I", false)
  | 3 => ("SelfScale$Scale", "own", "I", false)
  | _ => ("SelfScale$Scale", "figures", "I", false)
def tyX6 : Nat → FieldType := fun k => match k with
  | 0 => .object "SelfScale$Row"
  | 1 => .object "SelfScale$Row"
  | 2 => .int
  | 3 => .int
  | _ => .int
abbrev wsX60 : List Cond := u_ws RX6 TX6 5
theorem nmX6 : ∀ a, a < 5 → ∀ b, b < 5 → a ≠ b → (TX6 a).2.1 ≠ (TX6 b).2.1 := by decide +kernel
theorem tyX6_ok : ∀ k, k < 5 → parseFieldDescriptor (TX6 k).2.2.1 = some (tyX6 k) := by decide +kernel
abbrev cX6_init : ByteArray := prog_8_method_1_code
def yX6_init : MethodName := ⟨RX6, "<init>", "()V"⟩
abbrev cX6_reset : ByteArray := prog_8_method_2_code
def yX6_reset : MethodName := ⟨RX6, "reset", "()V"⟩
abbrev cX6_copyFrom : ByteArray := prog_8_method_3_code
def yX6_copyFrom : MethodName := ⟨RX6, "copyFrom", "(LSelfScale$Scale;)V"⟩
abbrev cX6_addThing : ByteArray := prog_8_method_4_code
def yX6_addThing : MethodName := ⟨RX6, "addThing", "(I)V"⟩
abbrev cX6_setOwn : ByteArray := prog_8_method_5_code
def yX6_setOwn : MethodName := ⟨RX6, "setOwn", "(I)V"⟩
abbrev cX6_setFigures : ByteArray := prog_8_method_6_code
def yX6_setFigures : MethodName := ⟨RX6, "setFigures", "(I)V"⟩
abbrev cX6_things : ByteArray := prog_8_method_7_code
def yX6_things : MethodName := ⟨RX6, "things", "()I"⟩
abbrev cX6_sets : ByteArray := prog_8_method_8_code
def yX6_sets : MethodName := ⟨RX6, "sets", "()I"⟩
abbrev cX6_own : ByteArray := prog_8_method_9_code
def yX6_own : MethodName := ⟨RX6, "own", "()I"⟩
abbrev cX6_figures : ByteArray := prog_8_method_10_code
def yX6_figures : MethodName := ⟨RX6, "figures", "()I"⟩
abbrev cX6_weightOf : ByteArray := prog_8_method_11_code
def yX6_weightOf : MethodName := ⟨RX6, "weightOf", "(I)I"⟩
abbrev cX6_loadOf : ByteArray := prog_8_method_12_code
def yX6_loadOf : MethodName := ⟨RX6, "loadOf", "(I)I"⟩
abbrev cX6_leftOver : ByteArray := prog_8_method_13_code
def yX6_leftOver : MethodName := ⟨RX6, "leftOver", "(I)I"⟩
abbrev cX6_sidesOf : ByteArray := prog_8_method_14_code
def yX6_sidesOf : MethodName := ⟨RX6, "sidesOf", "(I)I"⟩
abbrev cX6_shownByTurns : ByteArray := prog_8_method_15_code
def yX6_shownByTurns : MethodName := ⟨RX6, "shownByTurns", "()I"⟩
abbrev cX6_outcomeFrom : ByteArray := prog_8_method_16_code
def yX6_outcomeFrom : MethodName := ⟨RX6, "outcomeFrom", "(I)I"⟩
def RX7 : String := "SelfScale$Text"
def TX7 : u_T := fun k => match k with
  | 0 => ("SelfScale$Text", "bytes", "LSelfScale$Row;", true)
  | _ => ("SelfScale$Text", "length", "I", false)
def tyX7 : Nat → FieldType := fun k => match k with
  | 0 => .object "SelfScale$Row"
  | _ => .int
abbrev wsX70 : List Cond := u_ws RX7 TX7 2
theorem nmX7 : ∀ a, a < 2 → ∀ b, b < 2 → a ≠ b → (TX7 a).2.1 ≠ (TX7 b).2.1 := by decide +kernel
theorem tyX7_ok : ∀ k, k < 2 → parseFieldDescriptor (TX7 k).2.2.1 = some (tyX7 k) := by decide +kernel
abbrev cX7_init : ByteArray := prog_9_method_1_code
def yX7_init : MethodName := ⟨RX7, "<init>", "()V"⟩
abbrev cX7_length : ByteArray := prog_9_method_2_code
def yX7_length : MethodName := ⟨RX7, "length", "()I"⟩
abbrev cX7_byteAt : ByteArray := prog_9_method_3_code
def yX7_byteAt : MethodName := ⟨RX7, "byteAt", "(I)I"⟩
abbrev cX7_append : ByteArray := prog_9_method_4_code
def yX7_append : MethodName := ⟨RX7, "append", "(I)V"⟩
abbrev cX7_wipe : ByteArray := prog_9_method_5_code
def yX7_wipe : MethodName := ⟨RX7, "wipe", "()V"⟩
abbrev cX7_has : ByteArray := prog_9_method_6_code
def yX7_has : MethodName := ⟨RX7, "has", "(Ljava/lang/String;II)Z"⟩
def RX8 : String := "SelfScale$Worlds"
def TX8 : u_T := fun k => match k with
  | 0 => ("SelfScale$Worlds", "scale", "LSelfScale$Scale;", true)
  | 1 => ("SelfScale$Worlds", "book", "LSelfScale$Book;", true)
  | 2 => ("SelfScale$Worlds", "codes", "LSelfScale$Row;", true)
  | 3 => ("SelfScale$Worlds", "leftBits", "LSelfScale$Row;", true)
  | 4 => ("SelfScale$Worlds", "leftByWeight", "LSelfScale$Row;", true)
  | 5 => ("SelfScale$Worlds", "leftByLaughs", "LSelfScale$Row;", true)
  | 6 => ("SelfScale$Worlds", "laughedByLaughs", "LSelfScale$Row;", true)
  | 7 => ("SelfScale$Worlds", "isKnown", "Z", false)
  | 8 => ("SelfScale$Worlds", "left", "I", false)
  | 9 => ("SelfScale$Worlds", "fewestFalse", "I", false)
  | _ => ("SelfScale$Worlds", "everFalse", "I", false)
def tyX8 : Nat → FieldType := fun k => match k with
  | 0 => .object "SelfScale$Scale"
  | 1 => .object "SelfScale$Book"
  | 2 => .object "SelfScale$Row"
  | 3 => .object "SelfScale$Row"
  | 4 => .object "SelfScale$Row"
  | 5 => .object "SelfScale$Row"
  | 6 => .object "SelfScale$Row"
  | 7 => .boolean
  | 8 => .int
  | 9 => .int
  | _ => .int
abbrev wsX80 : List Cond := u_ws RX8 TX8 11
theorem nmX8 : ∀ a, a < 11 → ∀ b, b < 11 → a ≠ b → (TX8 a).2.1 ≠ (TX8 b).2.1 := by decide +kernel
theorem tyX8_ok : ∀ k, k < 11 → parseFieldDescriptor (TX8 k).2.2.1 = some (tyX8 k) := by decide +kernel
abbrev cX8_init : ByteArray := prog_10_method_1_code
def yX8_init : MethodName := ⟨RX8, "<init>", "(LSelfScale$Scale;LSelfScale$Book;)V"⟩
abbrev cX8_forget : ByteArray := prog_10_method_2_code
def yX8_forget : MethodName := ⟨RX8, "forget", "()V"⟩
abbrev cX8_learn : ByteArray := prog_10_method_3_code
def yX8_learn : MethodName := ⟨RX8, "learn", "()V"⟩
abbrev cX8_left : ByteArray := prog_10_method_4_code
def yX8_left : MethodName := ⟨RX8, "left", "()I"⟩
abbrev cX8_leftWith : ByteArray := prog_10_method_5_code
def yX8_leftWith : MethodName := ⟨RX8, "leftWith", "(II)I"⟩
abbrev cX8_onlyWeightOf : ByteArray := prog_10_method_6_code
def yX8_onlyWeightOf : MethodName := ⟨RX8, "onlyWeightOf", "(I)I"⟩
abbrev cX8_fewestFalse : ByteArray := prog_10_method_7_code
def yX8_fewestFalse : MethodName := ⟨RX8, "fewestFalse", "()I"⟩
abbrev cX8_everFalse : ByteArray := prog_10_method_8_code
def yX8_everFalse : MethodName := ⟨RX8, "everFalse", "()I"⟩
abbrev cX8_surelyLaughed : ByteArray := prog_10_method_9_code
def yX8_surelyLaughed : MethodName := ⟨RX8, "surelyLaughed", "(I)I"⟩
abbrev cX8_chances : ByteArray := prog_10_method_10_code
def yX8_chances : MethodName := ⟨RX8, "chances", "(III)J"⟩
abbrev cX8_allChances : ByteArray := prog_10_method_11_code
def yX8_allChances : MethodName := ⟨RX8, "allChances", "(II)J"⟩
abbrev cX8_chance : ByteArray := prog_10_method_12_code
def yX8_chance : MethodName := ⟨RX8, "chance", "(III)J"⟩
abbrev cX8_leftAfter : ByteArray := prog_10_method_13_code
def yX8_leftAfter : MethodName := ⟨RX8, "leftAfter", "(I)I"⟩
abbrev cX8_weightIn : ByteArray := prog_10_method_14_code
def yX8_weightIn : MethodName := ⟨RX8, "weightIn", "(II)I"⟩
abbrev cX8_loadIn : ByteArray := prog_10_method_15_code
def yX8_loadIn : MethodName := ⟨RX8, "loadIn", "(II)I"⟩
abbrev cX8_writeCodes : ByteArray := prog_10_method_16_code
def yX8_writeCodes : MethodName := ⟨RX8, "writeCodes", "()V"⟩
abbrev cX8_codeOf : ByteArray := prog_10_method_17_code
def yX8_codeOf : MethodName := ⟨RX8, "codeOf", "(II)I"⟩
abbrev cX8_code : ByteArray := prog_10_method_18_code
def yX8_code : MethodName := ⟨RX8, "code", "(II)I"⟩
abbrev cX8_meetWorldsWith : ByteArray := prog_10_method_19_code
def yX8_meetWorldsWith : MethodName := ⟨RX8, "meetWorldsWith", "(I)V"⟩
abbrev cX8_leastOf : ByteArray := prog_10_method_20_code
def yX8_leastOf : MethodName := ⟨RX8, "leastOf", "(I)I"⟩
abbrev cX8_mostOf : ByteArray := prog_10_method_21_code
def yX8_mostOf : MethodName := ⟨RX8, "mostOf", "(I)I"⟩
abbrev cX8_meet : ByteArray := prog_10_method_22_code
def yX8_meet : MethodName := ⟨RX8, "meet", "(II)V"⟩
abbrev cX8_leave : ByteArray := prog_10_method_23_code
def yX8_leave : MethodName := ⟨RX8, "leave", "(II)V"⟩
def RX9 : String := "SelfScale"
def TX9 : u_T := fun k => match k with
  | 0 => ("SelfScale", "text", "LSelfScale$Text;", true)
  | 1 => ("SelfScale", "reader", "LSelfScale$Reader;", true)
  | 2 => ("SelfScale", "scale", "LSelfScale$Scale;", true)
  | 3 => ("SelfScale", "book", "LSelfScale$Book;", true)
  | 4 => ("SelfScale", "firstImage", "LSelfScale$Image;", true)
  | 5 => ("SelfScale", "secondImage", "LSelfScale$Image;", true)
  | 6 => ("SelfScale", "kinds", "LSelfScale$Kinds;", true)
  | 7 => ("SelfScale", "worlds", "LSelfScale$Worlds;", true)
  | _ => ("SelfScale", "plan", "LSelfScale$Plan;", true)
def tyX9 : Nat → FieldType := fun k => match k with
  | 0 => .object "SelfScale$Text"
  | 1 => .object "SelfScale$Reader"
  | 2 => .object "SelfScale$Scale"
  | 3 => .object "SelfScale$Book"
  | 4 => .object "SelfScale$Image"
  | 5 => .object "SelfScale$Image"
  | 6 => .object "SelfScale$Kinds"
  | 7 => .object "SelfScale$Worlds"
  | _ => .object "SelfScale$Plan"
abbrev wsX90 : List Cond := u_ws RX9 TX9 9
theorem nmX9 : ∀ a, a < 9 → ∀ b, b < 9 → a ≠ b → (TX9 a).2.1 ≠ (TX9 b).2.1 := by decide +kernel
theorem tyX9_ok : ∀ k, k < 9 → parseFieldDescriptor (TX9 k).2.2.1 = some (tyX9 k) := by decide +kernel
abbrev cX9_init : ByteArray := prog_1_method_1_code
def yX9_init : MethodName := ⟨RX9, "<init>", "()V"⟩
abbrev cX9_type : ByteArray := prog_1_method_2_code
def yX9_type : MethodName := ⟨RX9, "type", "(JI)I"⟩
abbrev cX9_clear : ByteArray := prog_1_method_3_code
def yX9_clear : MethodName := ⟨RX9, "clear", "()I"⟩
abbrev cX9_market : ByteArray := prog_1_method_4_code
def yX9_market : MethodName := ⟨RX9, "market", "()I"⟩
abbrev cX9_thing : ByteArray := prog_1_method_5_code
def yX9_thing : MethodName := ⟨RX9, "thing", "(I)I"⟩
abbrev cX9_weigh : ByteArray := prog_1_method_6_code
def yX9_weigh : MethodName := ⟨RX9, "weigh", "(III)I"⟩
abbrev cX9_tell : ByteArray := prog_1_method_7_code
def yX9_tell : MethodName := ⟨RX9, "tell", "(III)I"⟩
abbrev cX9_line : ByteArray := prog_1_method_8_code
def yX9_line : MethodName := ⟨RX9, "line", "(II)I"⟩
abbrev cX9_undo : ByteArray := prog_1_method_9_code
def yX9_undo : MethodName := ⟨RX9, "undo", "()I"⟩
abbrev cX9_could : ByteArray := prog_1_method_10_code
def yX9_could : MethodName := ⟨RX9, "could", "(II)I"⟩
abbrev cX9_sure : ByteArray := prog_1_method_11_code
def yX9_sure : MethodName := ⟨RX9, "sure", "(I)I"⟩
abbrev cX9_wrong : ByteArray := prog_1_method_12_code
def yX9_wrong : MethodName := ⟨RX9, "wrong", "(I)I"⟩
abbrev cX9_next : ByteArray := prog_1_method_13_code
def yX9_next : MethodName := ⟨RX9, "next", "(I)I"⟩
abbrev cX9_fewest : ByteArray := prog_1_method_14_code
def yX9_fewest : MethodName := ⟨RX9, "fewest", "(I)I"⟩
abbrev cX9_laugh : ByteArray := prog_1_method_15_code
def yX9_laugh : MethodName := ⟨RX9, "laugh", "(I)I"⟩
abbrev cX9_odds : ByteArray := prog_1_method_16_code
def yX9_odds : MethodName := ⟨RX9, "odds", "(IIII)J"⟩
abbrev cX9_sack : ByteArray := prog_1_method_17_code
def yX9_sack : MethodName := ⟨RX9, "sack", "(II)I"⟩
abbrev cX9_byTurns : ByteArray := prog_1_method_18_code
def yX9_byTurns : MethodName := ⟨RX9, "byTurns", "()I"⟩
abbrev cX9_mark : ByteArray := prog_1_method_19_code
def yX9_mark : MethodName := ⟨RX9, "mark", "(II)I"⟩
abbrev cX9_keep : ByteArray := prog_1_method_20_code
def yX9_keep : MethodName := ⟨RX9, "keep", "(I)I"⟩
abbrev cX9_back : ByteArray := prog_1_method_21_code
def yX9_back : MethodName := ⟨RX9, "back", "(I)I"⟩
abbrev cX9_count : ByteArray := prog_1_method_22_code
def yX9_count : MethodName := ⟨RX9, "count", "(I)I"⟩
abbrev cX9_trace : ByteArray := prog_1_method_23_code
def yX9_trace : MethodName := ⟨RX9, "trace", "()J"⟩
abbrev cX9_isBetween : ByteArray := prog_1_method_24_code
def yX9_isBetween : MethodName := ⟨RX9, "isBetween", "(III)Z"⟩
abbrev cX9_isItem : ByteArray := prog_1_method_25_code
def yX9_isItem : MethodName := ⟨RX9, "isItem", "(I)Z"⟩
abbrev cX9_isSet : ByteArray := prog_1_method_26_code
def yX9_isSet : MethodName := ⟨RX9, "isSet", "(I)Z"⟩
abbrev cX9_isLine : ByteArray := prog_1_method_27_code
def yX9_isLine : MethodName := ⟨RX9, "isLine", "(I)Z"⟩
abbrev cX9_known : ByteArray := prog_1_method_28_code
def yX9_known : MethodName := ⟨RX9, "known", "()LSelfScale$Worlds;"⟩
abbrev cX9_imageOf : ByteArray := prog_1_method_29_code
def yX9_imageOf : MethodName := ⟨RX9, "imageOf", "(I)LSelfScale$Image;"⟩
abbrev cX9_greatestDivisor : ByteArray := prog_1_method_30_code
def yX9_greatestDivisor : MethodName := ⟨RX9, "greatestDivisor", "(JJ)J"⟩
def RX10 : String := "SelfScaleModel"
def TX10 : u_T := fun k => match k with
  | 0 => ("SelfScaleModel", "trace", "J", false)
  | 1 => ("SelfScaleModel", "text", "[B", true)
  | 2 => ("SelfScaleModel", "typed", "I", false)
  | 3 => ("SelfScaleModel", "things", "[I", true)
  | 4 => ("SelfScaleModel", "weights", "[I", true)
  | 5 => ("SelfScaleModel", "figures", "[I", true)
  | 6 => ("SelfScaleModel", "at", "I", false)
  | 7 => ("SelfScaleModel", "start", "I", false)
  | 8 => ("SelfScaleModel", "sort", "I", false)
  | 9 => ("SelfScaleModel", "value", "I", false)
  | 10 => ("SelfScaleModel", "fault", "I", false)
  | 11 => ("SelfScaleModel", "told", "I", false)
  | 12 => ("SelfScaleModel", "lines", "[I", true)
  | 13 => ("SelfScaleModel", "row", "[I", true)
  | 14 => ("SelfScaleModel", "isKept", "[Z", true)
  | 15 => ("SelfScaleModel", "world", "[I", true)
  | 16 => ("SelfScaleModel", "shownMany", "[I", true)
  | 17 => ("SelfScaleModel", "seen", "[I", true)
  | 18 => ("SelfScaleModel", "isBad", "[Z", true)
  | _ => ("SelfScaleModel", "comes", "[I", true)
def tyX10 : Nat → FieldType := fun k => match k with
  | 0 => .long
  | 1 => .array .byte
  | 2 => .int
  | 3 => .array .int
  | 4 => .array .int
  | 5 => .array .int
  | 6 => .int
  | 7 => .int
  | 8 => .int
  | 9 => .int
  | 10 => .int
  | 11 => .int
  | 12 => .array .int
  | 13 => .array .int
  | 14 => .array .boolean
  | 15 => .array .int
  | 16 => .array .int
  | 17 => .array .int
  | 18 => .array .boolean
  | _ => .array .int
abbrev wsX100 : List Cond := u_ws RX10 TX10 20
theorem nmX10 : ∀ a, a < 20 → ∀ b, b < 20 → a ≠ b → (TX10 a).2.1 ≠ (TX10 b).2.1 := by decide +kernel
theorem tyX10_ok : ∀ k, k < 20 → parseFieldDescriptor (TX10 k).2.2.1 = some (tyX10 k) := by decide +kernel
abbrev cX10_init : ByteArray := prog_12_method_1_code
def yX10_init : MethodName := ⟨RX10, "<init>", "()V"⟩
abbrev cX10_in : ByteArray := prog_12_method_3_code
def yX10_in : MethodName := ⟨RX10, "in", "(III)Z"⟩
abbrev cX10_type : ByteArray := prog_12_method_4_code
def yX10_type : MethodName := ⟨RX10, "type", "(JI)I"⟩
abbrev cX10_clear : ByteArray := prog_12_method_5_code
def yX10_clear : MethodName := ⟨RX10, "clear", "()I"⟩
abbrev cX10_here : ByteArray := prog_12_method_6_code
def yX10_here : MethodName := ⟨RX10, "here", "()I"⟩
abbrev cX10_nextToken : ByteArray := prog_12_method_7_code
def yX10_nextToken : MethodName := ⟨RX10, "nextToken", "()V"⟩
abbrev cX10_due : ByteArray := prog_12_method_8_code
def yX10_due : MethodName := ⟨RX10, "due", "(Z)I"⟩
abbrev cX10_number : ByteArray := prog_12_method_9_code
def yX10_number : MethodName := ⟨RX10, "number", "(II)I"⟩
abbrev cX10_readItem : ByteArray := prog_12_method_10_code
def yX10_readItem : MethodName := ⟨RX10, "readItem", "()V"⟩
abbrev cX10_market : ByteArray := prog_12_method_11_code
def yX10_market : MethodName := ⟨RX10, "market", "()I"⟩
abbrev cX10_isThing : ByteArray := prog_12_method_12_code
def yX10_isThing : MethodName := ⟨RX10, "isThing", "(I)Z"⟩
abbrev cX10_thing : ByteArray := prog_12_method_13_code
def yX10_thing : MethodName := ⟨RX10, "thing", "(I)I"⟩
abbrev cX10_isSet : ByteArray := prog_12_method_14_code
def yX10_isSet : MethodName := ⟨RX10, "isSet", "(I)Z"⟩
abbrev cX10_trueSum : ByteArray := prog_12_method_15_code
def yX10_trueSum : MethodName := ⟨RX10, "trueSum", "(I)I"⟩
abbrev cX10_put : ByteArray := prog_12_method_16_code
def yX10_put : MethodName := ⟨RX10, "put", "(III)V"⟩
abbrev cX10_weigh : ByteArray := prog_12_method_17_code
def yX10_weigh : MethodName := ⟨RX10, "weigh", "(III)I"⟩
abbrev cX10_tell : ByteArray := prog_12_method_18_code
def yX10_tell : MethodName := ⟨RX10, "tell", "(III)I"⟩
abbrev cX10_isLine : ByteArray := prog_12_method_19_code
def yX10_isLine : MethodName := ⟨RX10, "isLine", "(I)Z"⟩
abbrev cX10_line : ByteArray := prog_12_method_20_code
def yX10_line : MethodName := ⟨RX10, "line", "(II)I"⟩
abbrev cX10_undo : ByteArray := prog_12_method_21_code
def yX10_undo : MethodName := ⟨RX10, "undo", "()I"⟩
abbrev cX10_worlds : ByteArray := prog_12_method_22_code
def yX10_worlds : MethodName := ⟨RX10, "worlds", "()I"⟩
abbrev cX10_go : ByteArray := prog_12_method_23_code
def yX10_go : MethodName := ⟨RX10, "go", "(I)V"⟩
abbrev cX10_shownOf : ByteArray := prog_12_method_24_code
def yX10_shownOf : MethodName := ⟨RX10, "shownOf", "(I)I"⟩
abbrev cX10_laughIn : ByteArray := prog_12_method_25_code
def yX10_laughIn : MethodName := ⟨RX10, "laughIn", "(I)I"⟩
abbrev cX10_falseLines : ByteArray := prog_12_method_26_code
def yX10_falseLines : MethodName := ⟨RX10, "falseLines", "()I"⟩
abbrev cX10_canBe : ByteArray := prog_12_method_27_code
def yX10_canBe : MethodName := ⟨RX10, "canBe", "(I)Z"⟩
abbrev cX10_many : ByteArray := prog_12_method_28_code
def yX10_many : MethodName := ⟨RX10, "many", "(II)I"⟩
abbrev cX10_isOne : ByteArray := prog_12_method_29_code
def yX10_isOne : MethodName := ⟨RX10, "isOne", "(I)Z"⟩
abbrev cX10_could : ByteArray := prog_12_method_30_code
def yX10_could : MethodName := ⟨RX10, "could", "(II)I"⟩
abbrev cX10_sure : ByteArray := prog_12_method_31_code
def yX10_sure : MethodName := ⟨RX10, "sure", "(I)I"⟩
abbrev cX10_bitsIn : ByteArray := prog_12_method_32_code
def yX10_bitsIn : MethodName := ⟨RX10, "bitsIn", "(I)I"⟩
abbrev cX10_wrong : ByteArray := prog_12_method_33_code
def yX10_wrong : MethodName := ⟨RX10, "wrong", "(I)I"⟩
abbrev cX10_worstOf : ByteArray := prog_12_method_34_code
def yX10_worstOf : MethodName := ⟨RX10, "worstOf", "(I)I"⟩
abbrev cX10_next : ByteArray := prog_12_method_35_code
def yX10_next : MethodName := ⟨RX10, "next", "(I)I"⟩
abbrev cX10_part : ByteArray := prog_12_method_36_code
def yX10_part : MethodName := ⟨RX10, "part", "(III)V"⟩
abbrev cX10_anyBad : ByteArray := prog_12_method_37_code
def yX10_anyBad : MethodName := ⟨RX10, "anyBad", "()Z"⟩
abbrev cX10_isEnough : ByteArray := prog_12_method_38_code
def yX10_isEnough : MethodName := ⟨RX10, "isEnough", "(II)Z"⟩
abbrev cX10_isKnown : ByteArray := prog_12_method_39_code
def yX10_isKnown : MethodName := ⟨RX10, "isKnown", "(I)Z"⟩
abbrev cX10_fewest : ByteArray := prog_12_method_40_code
def yX10_fewest : MethodName := ⟨RX10, "fewest", "(I)I"⟩
abbrev cX10_laugh : ByteArray := prog_12_method_41_code
def yX10_laugh : MethodName := ⟨RX10, "laugh", "(I)I"⟩
abbrev cX10_common : ByteArray := prog_12_method_42_code
def yX10_common : MethodName := ⟨RX10, "common", "(JJ)J"⟩
abbrev cX10_odds : ByteArray := prog_12_method_43_code
def yX10_odds : MethodName := ⟨RX10, "odds", "(IIII)J"⟩
abbrev cX10_sack : ByteArray := prog_12_method_44_code
def yX10_sack : MethodName := ⟨RX10, "sack", "(II)I"⟩
abbrev cX10_byTurns : ByteArray := prog_12_method_45_code
def yX10_byTurns : MethodName := ⟨RX10, "byTurns", "()I"⟩
abbrev cX10_mark : ByteArray := prog_12_method_46_code
def yX10_mark : MethodName := ⟨RX10, "mark", "(II)I"⟩
abbrev cX10_copy : ByteArray := prog_12_method_47_code
def yX10_copy : MethodName := ⟨RX10, "copy", "(II)V"⟩
abbrev cX10_keep : ByteArray := prog_12_method_48_code
def yX10_keep : MethodName := ⟨RX10, "keep", "(I)I"⟩
abbrev cX10_back : ByteArray := prog_12_method_49_code
def yX10_back : MethodName := ⟨RX10, "back", "(I)I"⟩
abbrev cX10_count : ByteArray := prog_12_method_50_code
def yX10_count : MethodName := ⟨RX10, "count", "(I)I"⟩
abbrev cX10_trace : ByteArray := prog_12_method_51_code
def yX10_trace : MethodName := ⟨RX10, "trace", "()J"⟩
def RJ6 : String := "java/lang/Integer"
abbrev cJ6_bitCount_0f7a4 : ByteArray := prog_13_method_49_code
def yJ6_bitCount_0f7a4 : MethodName := ⟨RJ6, "bitCount", "(I)I"⟩
def RJ9 : String := "java/lang/Math"
abbrev cJ9_max_7cf53 : ByteArray := prog_14_method_65_code
def yJ9_max_7cf53 : MethodName := ⟨RJ9, "max", "(II)I"⟩
abbrev cJ9_min_7cf53 : ByteArray := prog_14_method_69_code
def yJ9_min_7cf53 : MethodName := ⟨RJ9, "min", "(II)I"⟩
def RJ0 : String := "java/lang/String"
abbrev cJ0_length_8abf5 : ByteArray := prog_15_method_54_code
def yJ0_length_8abf5 : MethodName := ⟨RJ0, "length", "()I"⟩
abbrev cJ0_charAt_5068e : ByteArray := prog_15_method_56_code
def yJ0_charAt_5068e : MethodName := ⟨RJ0, "charAt", "(I)C"⟩
abbrev cJ0_coder_7d493 : ByteArray := prog_15_method_152_code
def yJ0_coder_7d493 : MethodName := ⟨RJ0, "coder", "()B"⟩
abbrev cJ0_isLatin1_aae02 : ByteArray := prog_15_method_154_code
def yJ0_isLatin1_aae02 : MethodName := ⟨RJ0, "isLatin1", "()Z"⟩
abbrev cJ0_checkIndex_df160 : ByteArray := prog_15_method_155_code
def yJ0_checkIndex_df160 : MethodName := ⟨RJ0, "checkIndex", "(II)V"⟩
def RJ1 : String := "java/lang/StringLatin1"
abbrev cJ1_charAt_3b067 : ByteArray := prog_16_method_2_code
def yJ1_charAt_3b067 : MethodName := ⟨RJ1, "charAt", "([BI)C"⟩
def RJ2 : String := "java/lang/StringUTF16"
abbrev cJ2_getChar_3b067 : ByteArray := prog_17_method_5_code
def yJ2_getChar_3b067 : MethodName := ⟨RJ2, "getChar", "([BI)C"⟩
abbrev cJ2_length_9d52b : ByteArray := prog_17_method_6_code
def yJ2_length_9d52b : MethodName := ⟨RJ2, "length", "([B)I"⟩
abbrev cJ2_charAt_3b067 : ByteArray := prog_17_method_83_code
def yJ2_charAt_3b067 : MethodName := ⟨RJ2, "charAt", "([BI)C"⟩
abbrev cJ2_checkIndex_2214a : ByteArray := prog_17_method_91_code
def yJ2_checkIndex_2214a : MethodName := ⟨RJ2, "checkIndex", "(I[B)V"⟩
def RJ3 : String := "jdk/internal/util/Preconditions"
abbrev cJ3_checkIndex_8e157 : ByteArray := prog_18_method_11_code
def yJ3_checkIndex_8e157 : MethodName := ⟨RJ3, "checkIndex", "(IILjava/util/function/BiFunction;)I"⟩
def RL : String := "SelfScaleLaw"
abbrev cL_law : ByteArray := code
def yL_law : MethodName := ⟨RL, "law", "([I)Z"⟩
def BIG : List Cond := lw_tbl.filter goodWord
theorem big_of {w : Cond} (h : w ∈ lw_tbl) (g : goodWord w = true) : w ∈ BIG := List.mem_filter.mpr ⟨h, g⟩
theorem big_tbl : ∀ w ∈ BIG, w ∈ lw_tbl := fun w h => (List.mem_filter.mp h).1
theorem big_good : ∀ w ∈ BIG, goodWord w = true := fun w h => (List.mem_filter.mp h).2
theorem tin_p : ∀ w ∈ k2_sels lw_privs, w ∈ lw_tbl := fun w h => List.mem_append_left _ h
theorem tin_1 : ∀ w ∈ tables_1_1, w ∈ lw_tbl := fun w h => List.mem_append_right _ (List.mem_append_left _ h)
theorem tin_2 : ∀ w ∈ tables_1_2, w ∈ lw_tbl := fun w h => List.mem_append_right _ (List.mem_append_right _ (List.mem_append_left _ h))
theorem tin_3 : ∀ w ∈ tables_1_3, w ∈ lw_tbl := fun w h => List.mem_append_right _ (List.mem_append_right _ (List.mem_append_right _ (List.mem_append_left _ h)))
theorem tin_4 : ∀ w ∈ tables_1_4, w ∈ lw_tbl := fun w h => List.mem_append_right _ (List.mem_append_right _ (List.mem_append_right _ (List.mem_append_right _ (List.mem_append_left _ h))))
theorem tin_5 : ∀ w ∈ tables_1_5, w ∈ lw_tbl := fun w h => List.mem_append_right _ (List.mem_append_right _ (List.mem_append_right _ (List.mem_append_right _ (List.mem_append_right _ h))))
theorem bw_1_119 : Cond.laysFinal "SelfScale$Book" "SelfScale$Book" "sets" "LSelfScale$Row;" ∈ BIG := big_of (tin_1 _ (List.mem_of_getElem? (i := 119) (by decide +kernel))) rfl
theorem bw_1_121 : Cond.laysFinal "SelfScale$Book" "SelfScale$Book" "shown" "LSelfScale$Row;" ∈ BIG := big_of (tin_1 _ (List.mem_of_getElem? (i := 121) (by decide +kernel))) rfl
theorem bw_1_123 : Cond.laysFinal "SelfScale$Book" "SelfScale$Book" "laughs" "LSelfScale$Row;" ∈ BIG := big_of (tin_1 _ (List.mem_of_getElem? (i := 123) (by decide +kernel))) rfl
theorem bw_1_125 : Cond.lays "SelfScale$Book" "SelfScale$Book" "lines" "I" ∈ BIG := big_of (tin_1 _ (List.mem_of_getElem? (i := 125) (by decide +kernel))) rfl
theorem bw_1_138 : Cond.laysFinal "SelfScale$Image" "SelfScale$Image" "kept" "LSelfScale$Book;" ∈ BIG := big_of (tin_1 _ (List.mem_of_getElem? (i := 138) (by decide +kernel))) rfl
theorem bw_1_140 : Cond.lays "SelfScale$Image" "SelfScale$Image" "isKept" "Z" ∈ BIG := big_of (tin_1 _ (List.mem_of_getElem? (i := 140) (by decide +kernel))) rfl
theorem bw_1_152 : Cond.laysFinal "SelfScale$Kinds" "SelfScale$Kinds" "scale" "LSelfScale$Scale;" ∈ BIG := big_of (tin_1 _ (List.mem_of_getElem? (i := 152) (by decide +kernel))) rfl
theorem bw_1_154 : Cond.laysFinal "SelfScale$Kinds" "SelfScale$Kinds" "book" "LSelfScale$Book;" ∈ BIG := big_of (tin_1 _ (List.mem_of_getElem? (i := 154) (by decide +kernel))) rfl
theorem bw_1_156 : Cond.lays "SelfScale$Kinds" "SelfScale$Kinds" "asked" "J" ∈ BIG := big_of (tin_1 _ (List.mem_of_getElem? (i := 156) (by decide +kernel))) rfl
theorem bw_1_214 : Cond.laysFinal "SelfScale$Plan" "SelfScale$Plan" "scale" "LSelfScale$Scale;" ∈ BIG := big_of (tin_1 _ (List.mem_of_getElem? (i := 214) (by decide +kernel))) rfl
theorem bw_1_216 : Cond.laysFinal "SelfScale$Plan" "SelfScale$Plan" "worlds" "LSelfScale$Worlds;" ∈ BIG := big_of (tin_1 _ (List.mem_of_getElem? (i := 216) (by decide +kernel))) rfl
theorem bw_1_218 : Cond.laysFinal "SelfScale$Plan" "SelfScale$Plan" "leftByShown" "LSelfScale$Row;" ∈ BIG := big_of (tin_1 _ (List.mem_of_getElem? (i := 218) (by decide +kernel))) rfl
theorem bw_1_220 : Cond.laysFinal "SelfScale$Plan" "SelfScale$Plan" "seenByOne" "LSelfScale$Row;" ∈ BIG := big_of (tin_1 _ (List.mem_of_getElem? (i := 220) (by decide +kernel))) rfl
theorem bw_1_222 : Cond.laysFinal "SelfScale$Plan" "SelfScale$Plan" "seenByTwo" "LSelfScale$Row;" ∈ BIG := big_of (tin_1 _ (List.mem_of_getElem? (i := 222) (by decide +kernel))) rfl
theorem bw_1_88 : Cond.laysFinal "SelfScale$Reader" "SelfScale$Reader" "text" "LSelfScale$Text;" ∈ BIG := big_of (tin_1 _ (List.mem_of_getElem? (i := 88) (by decide +kernel))) rfl
theorem bw_1_90 : Cond.laysFinal "SelfScale$Reader" "SelfScale$Reader" "told" "LSelfScale$Scale;" ∈ BIG := big_of (tin_1 _ (List.mem_of_getElem? (i := 90) (by decide +kernel))) rfl
theorem bw_1_92 : Cond.lays "SelfScale$Reader" "SelfScale$Reader" "items" "I" ∈ BIG := big_of (tin_1 _ (List.mem_of_getElem? (i := 92) (by decide +kernel))) rfl
theorem bw_1_94 : Cond.lays "SelfScale$Reader" "SelfScale$Reader" "isOwnTold" "Z" ∈ BIG := big_of (tin_1 _ (List.mem_of_getElem? (i := 94) (by decide +kernel))) rfl
theorem bw_1_96 : Cond.lays "SelfScale$Reader" "SelfScale$Reader" "areFiguresTold" "Z" ∈ BIG := big_of (tin_1 _ (List.mem_of_getElem? (i := 96) (by decide +kernel))) rfl
theorem bw_1_98 : Cond.lays "SelfScale$Reader" "SelfScale$Reader" "start" "I" ∈ BIG := big_of (tin_1 _ (List.mem_of_getElem? (i := 98) (by decide +kernel))) rfl
theorem bw_1_100 : Cond.lays "SelfScale$Reader" "SelfScale$Reader" "end" "I" ∈ BIG := big_of (tin_1 _ (List.mem_of_getElem? (i := 100) (by decide +kernel))) rfl
theorem bw_1_102 : Cond.lays "SelfScale$Reader" "SelfScale$Reader" "number" "I" ∈ BIG := big_of (tin_1 _ (List.mem_of_getElem? (i := 102) (by decide +kernel))) rfl
theorem bw_1_39 : Cond.laysFinal "SelfScale$Row" "SelfScale$Row" "cells" "[I" ∈ BIG := big_of (tin_1 _ (List.mem_of_getElem? (i := 39) (by decide +kernel))) rfl
theorem bw_1_69 : Cond.laysFinal "SelfScale$Scale" "SelfScale$Scale" "weights" "LSelfScale$Row;" ∈ BIG := big_of (tin_1 _ (List.mem_of_getElem? (i := 69) (by decide +kernel))) rfl
theorem bw_1_71 : Cond.laysFinal "SelfScale$Scale" "SelfScale$Scale" "outcomes" "LSelfScale$Row;" ∈ BIG := big_of (tin_1 _ (List.mem_of_getElem? (i := 71) (by decide +kernel))) rfl
theorem bw_1_73 : Cond.lays "SelfScale$Scale" "SelfScale$Scale" "things" "I" ∈ BIG := big_of (tin_1 _ (List.mem_of_getElem? (i := 73) (by decide +kernel))) rfl
theorem bw_1_75 : Cond.lays "SelfScale$Scale" "SelfScale$Scale" "own" "I" ∈ BIG := big_of (tin_1 _ (List.mem_of_getElem? (i := 75) (by decide +kernel))) rfl
theorem bw_1_77 : Cond.lays "SelfScale$Scale" "SelfScale$Scale" "figures" "I" ∈ BIG := big_of (tin_1 _ (List.mem_of_getElem? (i := 77) (by decide +kernel))) rfl
theorem bw_1_45 : Cond.laysFinal "SelfScale$Text" "SelfScale$Text" "bytes" "LSelfScale$Row;" ∈ BIG := big_of (tin_1 _ (List.mem_of_getElem? (i := 45) (by decide +kernel))) rfl
theorem bw_1_47 : Cond.lays "SelfScale$Text" "SelfScale$Text" "length" "I" ∈ BIG := big_of (tin_1 _ (List.mem_of_getElem? (i := 47) (by decide +kernel))) rfl
theorem bw_1_178 : Cond.laysFinal "SelfScale$Worlds" "SelfScale$Worlds" "scale" "LSelfScale$Scale;" ∈ BIG := big_of (tin_1 _ (List.mem_of_getElem? (i := 178) (by decide +kernel))) rfl
theorem bw_1_180 : Cond.laysFinal "SelfScale$Worlds" "SelfScale$Worlds" "book" "LSelfScale$Book;" ∈ BIG := big_of (tin_1 _ (List.mem_of_getElem? (i := 180) (by decide +kernel))) rfl
theorem bw_1_182 : Cond.laysFinal "SelfScale$Worlds" "SelfScale$Worlds" "codes" "LSelfScale$Row;" ∈ BIG := big_of (tin_1 _ (List.mem_of_getElem? (i := 182) (by decide +kernel))) rfl
theorem bw_1_184 : Cond.laysFinal "SelfScale$Worlds" "SelfScale$Worlds" "leftBits" "LSelfScale$Row;" ∈ BIG := big_of (tin_1 _ (List.mem_of_getElem? (i := 184) (by decide +kernel))) rfl
theorem bw_1_186 : Cond.laysFinal "SelfScale$Worlds" "SelfScale$Worlds" "leftByWeight" "LSelfScale$Row;" ∈ BIG := big_of (tin_1 _ (List.mem_of_getElem? (i := 186) (by decide +kernel))) rfl
theorem bw_1_188 : Cond.laysFinal "SelfScale$Worlds" "SelfScale$Worlds" "leftByLaughs" "LSelfScale$Row;" ∈ BIG := big_of (tin_1 _ (List.mem_of_getElem? (i := 188) (by decide +kernel))) rfl
theorem bw_1_190 : Cond.laysFinal "SelfScale$Worlds" "SelfScale$Worlds" "laughedByLaughs" "LSelfScale$Row;" ∈ BIG := big_of (tin_1 _ (List.mem_of_getElem? (i := 190) (by decide +kernel))) rfl
theorem bw_1_192 : Cond.lays "SelfScale$Worlds" "SelfScale$Worlds" "isKnown" "Z" ∈ BIG := big_of (tin_1 _ (List.mem_of_getElem? (i := 192) (by decide +kernel))) rfl
theorem bw_1_194 : Cond.lays "SelfScale$Worlds" "SelfScale$Worlds" "left" "I" ∈ BIG := big_of (tin_1 _ (List.mem_of_getElem? (i := 194) (by decide +kernel))) rfl
theorem bw_1_196 : Cond.lays "SelfScale$Worlds" "SelfScale$Worlds" "fewestFalse" "I" ∈ BIG := big_of (tin_1 _ (List.mem_of_getElem? (i := 196) (by decide +kernel))) rfl
theorem bw_1_198 : Cond.lays "SelfScale$Worlds" "SelfScale$Worlds" "everFalse" "I" ∈ BIG := big_of (tin_1 _ (List.mem_of_getElem? (i := 198) (by decide +kernel))) rfl
theorem bw_1_234 : Cond.laysFinal "SelfScale" "SelfScale" "text" "LSelfScale$Text;" ∈ BIG := big_of (tin_1 _ (List.mem_of_getElem? (i := 234) (by decide +kernel))) rfl
theorem bw_1_236 : Cond.laysFinal "SelfScale" "SelfScale" "reader" "LSelfScale$Reader;" ∈ BIG := big_of (tin_1 _ (List.mem_of_getElem? (i := 236) (by decide +kernel))) rfl
theorem bw_1_238 : Cond.laysFinal "SelfScale" "SelfScale" "scale" "LSelfScale$Scale;" ∈ BIG := big_of (tin_1 _ (List.mem_of_getElem? (i := 238) (by decide +kernel))) rfl
theorem bw_2_0 : Cond.laysFinal "SelfScale" "SelfScale" "book" "LSelfScale$Book;" ∈ BIG := big_of (tin_2 _ (List.mem_of_getElem? (i := 0) (by decide +kernel))) rfl
theorem bw_2_2 : Cond.laysFinal "SelfScale" "SelfScale" "firstImage" "LSelfScale$Image;" ∈ BIG := big_of (tin_2 _ (List.mem_of_getElem? (i := 2) (by decide +kernel))) rfl
theorem bw_2_4 : Cond.laysFinal "SelfScale" "SelfScale" "secondImage" "LSelfScale$Image;" ∈ BIG := big_of (tin_2 _ (List.mem_of_getElem? (i := 4) (by decide +kernel))) rfl
theorem bw_2_6 : Cond.laysFinal "SelfScale" "SelfScale" "kinds" "LSelfScale$Kinds;" ∈ BIG := big_of (tin_2 _ (List.mem_of_getElem? (i := 6) (by decide +kernel))) rfl
theorem bw_2_8 : Cond.laysFinal "SelfScale" "SelfScale" "worlds" "LSelfScale$Worlds;" ∈ BIG := big_of (tin_2 _ (List.mem_of_getElem? (i := 8) (by decide +kernel))) rfl
theorem bw_2_10 : Cond.laysFinal "SelfScale" "SelfScale" "plan" "LSelfScale$Plan;" ∈ BIG := big_of (tin_2 _ (List.mem_of_getElem? (i := 10) (by decide +kernel))) rfl
theorem bw_4_160 : Cond.lays "SelfScaleModel" "SelfScaleModel" "trace" "J" ∈ BIG := big_of (tin_4 _ (List.mem_of_getElem? (i := 160) (by decide +kernel))) rfl
theorem bw_4_162 : Cond.laysFinal "SelfScaleModel" "SelfScaleModel" "text" "[B" ∈ BIG := big_of (tin_4 _ (List.mem_of_getElem? (i := 162) (by decide +kernel))) rfl
theorem bw_4_164 : Cond.lays "SelfScaleModel" "SelfScaleModel" "typed" "I" ∈ BIG := big_of (tin_4 _ (List.mem_of_getElem? (i := 164) (by decide +kernel))) rfl
theorem bw_4_166 : Cond.laysFinal "SelfScaleModel" "SelfScaleModel" "things" "[I" ∈ BIG := big_of (tin_4 _ (List.mem_of_getElem? (i := 166) (by decide +kernel))) rfl
theorem bw_4_168 : Cond.laysFinal "SelfScaleModel" "SelfScaleModel" "weights" "[I" ∈ BIG := big_of (tin_4 _ (List.mem_of_getElem? (i := 168) (by decide +kernel))) rfl
theorem bw_4_170 : Cond.laysFinal "SelfScaleModel" "SelfScaleModel" "figures" "[I" ∈ BIG := big_of (tin_4 _ (List.mem_of_getElem? (i := 170) (by decide +kernel))) rfl
theorem bw_4_172 : Cond.lays "SelfScaleModel" "SelfScaleModel" "at" "I" ∈ BIG := big_of (tin_4 _ (List.mem_of_getElem? (i := 172) (by decide +kernel))) rfl
theorem bw_4_174 : Cond.lays "SelfScaleModel" "SelfScaleModel" "start" "I" ∈ BIG := big_of (tin_4 _ (List.mem_of_getElem? (i := 174) (by decide +kernel))) rfl
theorem bw_4_176 : Cond.lays "SelfScaleModel" "SelfScaleModel" "sort" "I" ∈ BIG := big_of (tin_4 _ (List.mem_of_getElem? (i := 176) (by decide +kernel))) rfl
theorem bw_4_178 : Cond.lays "SelfScaleModel" "SelfScaleModel" "value" "I" ∈ BIG := big_of (tin_4 _ (List.mem_of_getElem? (i := 178) (by decide +kernel))) rfl
theorem bw_4_180 : Cond.lays "SelfScaleModel" "SelfScaleModel" "fault" "I" ∈ BIG := big_of (tin_4 _ (List.mem_of_getElem? (i := 180) (by decide +kernel))) rfl
theorem bw_4_182 : Cond.lays "SelfScaleModel" "SelfScaleModel" "told" "I" ∈ BIG := big_of (tin_4 _ (List.mem_of_getElem? (i := 182) (by decide +kernel))) rfl
theorem bw_4_184 : Cond.laysFinal "SelfScaleModel" "SelfScaleModel" "lines" "[I" ∈ BIG := big_of (tin_4 _ (List.mem_of_getElem? (i := 184) (by decide +kernel))) rfl
theorem bw_4_186 : Cond.laysFinal "SelfScaleModel" "SelfScaleModel" "row" "[I" ∈ BIG := big_of (tin_4 _ (List.mem_of_getElem? (i := 186) (by decide +kernel))) rfl
theorem bw_4_188 : Cond.laysFinal "SelfScaleModel" "SelfScaleModel" "isKept" "[Z" ∈ BIG := big_of (tin_4 _ (List.mem_of_getElem? (i := 188) (by decide +kernel))) rfl
theorem bw_4_190 : Cond.laysFinal "SelfScaleModel" "SelfScaleModel" "world" "[I" ∈ BIG := big_of (tin_4 _ (List.mem_of_getElem? (i := 190) (by decide +kernel))) rfl
theorem bw_4_192 : Cond.laysFinal "SelfScaleModel" "SelfScaleModel" "shownMany" "[I" ∈ BIG := big_of (tin_4 _ (List.mem_of_getElem? (i := 192) (by decide +kernel))) rfl
theorem bw_4_194 : Cond.laysFinal "SelfScaleModel" "SelfScaleModel" "seen" "[I" ∈ BIG := big_of (tin_4 _ (List.mem_of_getElem? (i := 194) (by decide +kernel))) rfl
theorem bw_4_196 : Cond.laysFinal "SelfScaleModel" "SelfScaleModel" "isBad" "[Z" ∈ BIG := big_of (tin_4 _ (List.mem_of_getElem? (i := 196) (by decide +kernel))) rfl
theorem bw_4_198 : Cond.laysFinal "SelfScaleModel" "SelfScaleModel" "comes" "[I" ∈ BIG := big_of (tin_4 _ (List.mem_of_getElem? (i := 198) (by decide +kernel))) rfl
theorem bw_1_18 : Cond.classLink RL 7 RX9 ∈ BIG := big_of (tin_1 _ (List.mem_of_getElem? (i := 18) (by decide +kernel))) rfl
theorem bw_1_19 : Cond.instantiable RX9 9 ∈ BIG := big_of (tin_1 _ (List.mem_of_getElem? (i := 19) (by decide +kernel))) rfl
theorem bw_1_1 : Cond.initialized RX9 ∈ BIG := big_of (tin_1 _ (List.mem_of_getElem? (i := 1) (by decide +kernel))) rfl
theorem bw_4_134 : Cond.classLink RL 10 RX10 ∈ BIG := big_of (tin_4 _ (List.mem_of_getElem? (i := 134) (by decide +kernel))) rfl
theorem bw_4_135 : Cond.instantiable RX10 20 ∈ BIG := big_of (tin_4 _ (List.mem_of_getElem? (i := 135) (by decide +kernel))) rfl
theorem bw_1_11 : Cond.initialized RX10 ∈ BIG := big_of (tin_1 _ (List.mem_of_getElem? (i := 11) (by decide +kernel))) rfl
theorem bw_5_167 : Cond.constantLong RL 13 (4294967295) ∈ BIG := big_of (tin_5 _ (List.mem_of_getElem? (i := 167) (by decide +kernel))) rfl
theorem bw_1_20 : Cond.methodLink RL 9 yX9_init ∈ BIG := big_of (tin_1 _ (List.mem_of_getElem? (i := 20) (by decide +kernel))) rfl
theorem bw_1_21 : Cond.instanceMethod yX9_init ∈ BIG := big_of (tin_1 _ (List.mem_of_getElem? (i := 21) (by decide +kernel))) rfl
theorem bw_1_22 : Cond.code yX9_init cX9_init 1 none ∈ BIG := big_of (tin_1 _ (List.mem_of_getElem? (i := 22) (by decide +kernel))) rfl
theorem bw_1_23 : Cond.methodLink RX9 1 objectInit ∈ BIG := big_of (tin_1 _ (List.mem_of_getElem? (i := 23) (by decide +kernel))) rfl
theorem bw_1_24 : Cond.instanceMethod objectInit ∈ BIG := big_of (tin_1 _ (List.mem_of_getElem? (i := 24) (by decide +kernel))) rfl
theorem bw_1_25 : Cond.code objectInit ⟨#[0xb1]⟩ 1 none ∈ BIG := big_of (tin_1 _ (List.mem_of_getElem? (i := 25) (by decide +kernel))) rfl
theorem bw_1_26 : Cond.classLink RX9 7 RX7 ∈ BIG := big_of (tin_1 _ (List.mem_of_getElem? (i := 26) (by decide +kernel))) rfl
theorem bw_1_27 : Cond.instantiable RX7 2 ∈ BIG := big_of (tin_1 _ (List.mem_of_getElem? (i := 27) (by decide +kernel))) rfl
theorem bw_1_2 : Cond.initialized RX7 ∈ BIG := big_of (tin_1 _ (List.mem_of_getElem? (i := 2) (by decide +kernel))) rfl
theorem bw_1_225 : Cond.fieldLink RX9 10 "SelfScale" "text" "LSelfScale$Text;" ∈ BIG := big_of (tin_1 _ (List.mem_of_getElem? (i := 225) (by decide +kernel))) rfl
theorem bw_1_50 : Cond.classLink RX9 16 RX4 ∈ BIG := big_of (tin_1 _ (List.mem_of_getElem? (i := 50) (by decide +kernel))) rfl
theorem bw_1_51 : Cond.instantiable RX4 8 ∈ BIG := big_of (tin_1 _ (List.mem_of_getElem? (i := 51) (by decide +kernel))) rfl
theorem bw_1_4 : Cond.initialized RX4 ∈ BIG := big_of (tin_1 _ (List.mem_of_getElem? (i := 4) (by decide +kernel))) rfl
theorem bw_1_226 : Cond.fieldLink RX9 21 "SelfScale" "reader" "LSelfScale$Reader;" ∈ BIG := big_of (tin_1 _ (List.mem_of_getElem? (i := 226) (by decide +kernel))) rfl
theorem bw_1_105 : Cond.classLink RX9 25 RX6 ∈ BIG := big_of (tin_1 _ (List.mem_of_getElem? (i := 105) (by decide +kernel))) rfl
theorem bw_1_57 : Cond.instantiable RX6 5 ∈ BIG := big_of (tin_1 _ (List.mem_of_getElem? (i := 57) (by decide +kernel))) rfl
theorem bw_1_5 : Cond.initialized RX6 ∈ BIG := big_of (tin_1 _ (List.mem_of_getElem? (i := 5) (by decide +kernel))) rfl
theorem bw_1_227 : Cond.fieldLink RX9 28 "SelfScale" "scale" "LSelfScale$Scale;" ∈ BIG := big_of (tin_1 _ (List.mem_of_getElem? (i := 227) (by decide +kernel))) rfl
theorem bw_1_107 : Cond.classLink RX9 32 RX0 ∈ BIG := big_of (tin_1 _ (List.mem_of_getElem? (i := 107) (by decide +kernel))) rfl
theorem bw_1_108 : Cond.instantiable RX0 4 ∈ BIG := big_of (tin_1 _ (List.mem_of_getElem? (i := 108) (by decide +kernel))) rfl
theorem bw_1_6 : Cond.initialized RX0 ∈ BIG := big_of (tin_1 _ (List.mem_of_getElem? (i := 6) (by decide +kernel))) rfl
theorem bw_1_228 : Cond.fieldLink RX9 35 "SelfScale" "book" "LSelfScale$Book;" ∈ BIG := big_of (tin_1 _ (List.mem_of_getElem? (i := 228) (by decide +kernel))) rfl
theorem bw_1_128 : Cond.classLink RX9 39 RX1 ∈ BIG := big_of (tin_1 _ (List.mem_of_getElem? (i := 128) (by decide +kernel))) rfl
theorem bw_1_129 : Cond.instantiable RX1 2 ∈ BIG := big_of (tin_1 _ (List.mem_of_getElem? (i := 129) (by decide +kernel))) rfl
theorem bw_1_7 : Cond.initialized RX1 ∈ BIG := big_of (tin_1 _ (List.mem_of_getElem? (i := 7) (by decide +kernel))) rfl
theorem bw_1_229 : Cond.fieldLink RX9 42 "SelfScale" "firstImage" "LSelfScale$Image;" ∈ BIG := big_of (tin_1 _ (List.mem_of_getElem? (i := 229) (by decide +kernel))) rfl
theorem bw_1_230 : Cond.fieldLink RX9 46 "SelfScale" "secondImage" "LSelfScale$Image;" ∈ BIG := big_of (tin_1 _ (List.mem_of_getElem? (i := 230) (by decide +kernel))) rfl
theorem bw_1_143 : Cond.classLink RX9 49 RX2 ∈ BIG := big_of (tin_1 _ (List.mem_of_getElem? (i := 143) (by decide +kernel))) rfl
theorem bw_1_144 : Cond.instantiable RX2 3 ∈ BIG := big_of (tin_1 _ (List.mem_of_getElem? (i := 144) (by decide +kernel))) rfl
theorem bw_1_8 : Cond.initialized RX2 ∈ BIG := big_of (tin_1 _ (List.mem_of_getElem? (i := 8) (by decide +kernel))) rfl
theorem bw_1_231 : Cond.fieldLink RX9 54 "SelfScale" "kinds" "LSelfScale$Kinds;" ∈ BIG := big_of (tin_1 _ (List.mem_of_getElem? (i := 231) (by decide +kernel))) rfl
theorem bw_1_159 : Cond.classLink RX9 58 RX8 ∈ BIG := big_of (tin_1 _ (List.mem_of_getElem? (i := 159) (by decide +kernel))) rfl
theorem bw_1_160 : Cond.instantiable RX8 11 ∈ BIG := big_of (tin_1 _ (List.mem_of_getElem? (i := 160) (by decide +kernel))) rfl
theorem bw_1_9 : Cond.initialized RX8 ∈ BIG := big_of (tin_1 _ (List.mem_of_getElem? (i := 9) (by decide +kernel))) rfl
theorem bw_1_232 : Cond.fieldLink RX9 61 "SelfScale" "worlds" "LSelfScale$Worlds;" ∈ BIG := big_of (tin_1 _ (List.mem_of_getElem? (i := 232) (by decide +kernel))) rfl
theorem bw_1_201 : Cond.classLink RX9 65 RX3 ∈ BIG := big_of (tin_1 _ (List.mem_of_getElem? (i := 201) (by decide +kernel))) rfl
theorem bw_1_202 : Cond.instantiable RX3 5 ∈ BIG := big_of (tin_1 _ (List.mem_of_getElem? (i := 202) (by decide +kernel))) rfl
theorem bw_1_10 : Cond.initialized RX3 ∈ BIG := big_of (tin_1 _ (List.mem_of_getElem? (i := 10) (by decide +kernel))) rfl
theorem bw_1_233 : Cond.fieldLink RX9 70 "SelfScale" "plan" "LSelfScale$Plan;" ∈ BIG := big_of (tin_1 _ (List.mem_of_getElem? (i := 233) (by decide +kernel))) rfl
theorem bw_1_28 : Cond.methodLink RX9 9 yX7_init ∈ BIG := big_of (tin_1 _ (List.mem_of_getElem? (i := 28) (by decide +kernel))) rfl
theorem bw_1_29 : Cond.instanceMethod yX7_init ∈ BIG := big_of (tin_1 _ (List.mem_of_getElem? (i := 29) (by decide +kernel))) rfl
theorem bw_1_30 : Cond.code yX7_init cX7_init 1 none ∈ BIG := big_of (tin_1 _ (List.mem_of_getElem? (i := 30) (by decide +kernel))) rfl
theorem bw_1_31 : Cond.methodLink RX7 3 objectInit ∈ BIG := big_of (tin_1 _ (List.mem_of_getElem? (i := 31) (by decide +kernel))) rfl
theorem bw_1_32 : Cond.classLink RX7 9 RX5 ∈ BIG := big_of (tin_1 _ (List.mem_of_getElem? (i := 32) (by decide +kernel))) rfl
theorem bw_1_33 : Cond.instantiable RX5 1 ∈ BIG := big_of (tin_1 _ (List.mem_of_getElem? (i := 33) (by decide +kernel))) rfl
theorem bw_1_3 : Cond.initialized RX5 ∈ BIG := big_of (tin_1 _ (List.mem_of_getElem? (i := 3) (by decide +kernel))) rfl
theorem bw_1_43 : Cond.fieldLink RX7 14 "SelfScale$Text" "bytes" "LSelfScale$Row;" ∈ BIG := big_of (tin_1 _ (List.mem_of_getElem? (i := 43) (by decide +kernel))) rfl
theorem bw_1_34 : Cond.methodLink RX7 11 yX5_init ∈ BIG := big_of (tin_1 _ (List.mem_of_getElem? (i := 34) (by decide +kernel))) rfl
theorem bw_1_35 : Cond.instanceMethod yX5_init ∈ BIG := big_of (tin_1 _ (List.mem_of_getElem? (i := 35) (by decide +kernel))) rfl
theorem bw_1_36 : Cond.code yX5_init cX5_init 2 none ∈ BIG := big_of (tin_1 _ (List.mem_of_getElem? (i := 36) (by decide +kernel))) rfl
theorem bw_1_37 : Cond.methodLink RX5 1 objectInit ∈ BIG := big_of (tin_1 _ (List.mem_of_getElem? (i := 37) (by decide +kernel))) rfl
theorem bw_1_42 : Cond.arrayClass .int ∈ BIG := big_of (tin_1 _ (List.mem_of_getElem? (i := 42) (by decide +kernel))) rfl
theorem bw_1_38 : Cond.fieldLink RX5 7 "SelfScale$Row" "cells" "[I" ∈ BIG := big_of (tin_1 _ (List.mem_of_getElem? (i := 38) (by decide +kernel))) rfl
theorem bw_1_52 : Cond.methodLink RX9 18 yX4_init ∈ BIG := big_of (tin_1 _ (List.mem_of_getElem? (i := 52) (by decide +kernel))) rfl
theorem bw_1_53 : Cond.instanceMethod yX4_init ∈ BIG := big_of (tin_1 _ (List.mem_of_getElem? (i := 53) (by decide +kernel))) rfl
theorem bw_1_54 : Cond.code yX4_init cX4_init 2 none ∈ BIG := big_of (tin_1 _ (List.mem_of_getElem? (i := 54) (by decide +kernel))) rfl
theorem bw_1_55 : Cond.methodLink RX4 3 objectInit ∈ BIG := big_of (tin_1 _ (List.mem_of_getElem? (i := 55) (by decide +kernel))) rfl
theorem bw_1_56 : Cond.classLink RX4 9 RX6 ∈ BIG := big_of (tin_1 _ (List.mem_of_getElem? (i := 56) (by decide +kernel))) rfl
theorem bw_1_81 : Cond.fieldLink RX4 12 "SelfScale$Reader" "told" "LSelfScale$Scale;" ∈ BIG := big_of (tin_1 _ (List.mem_of_getElem? (i := 81) (by decide +kernel))) rfl
theorem bw_1_80 : Cond.fieldLink RX4 18 "SelfScale$Reader" "text" "LSelfScale$Text;" ∈ BIG := big_of (tin_1 _ (List.mem_of_getElem? (i := 80) (by decide +kernel))) rfl
theorem bw_1_58 : Cond.methodLink RX4 11 yX6_init ∈ BIG := big_of (tin_1 _ (List.mem_of_getElem? (i := 58) (by decide +kernel))) rfl
theorem bw_1_59 : Cond.instanceMethod yX6_init ∈ BIG := big_of (tin_1 _ (List.mem_of_getElem? (i := 59) (by decide +kernel))) rfl
theorem bw_1_60 : Cond.code yX6_init cX6_init 1 none ∈ BIG := big_of (tin_1 _ (List.mem_of_getElem? (i := 60) (by decide +kernel))) rfl
theorem bw_1_61 : Cond.methodLink RX6 3 objectInit ∈ BIG := big_of (tin_1 _ (List.mem_of_getElem? (i := 61) (by decide +kernel))) rfl
theorem bw_1_62 : Cond.classLink RX6 9 RX5 ∈ BIG := big_of (tin_1 _ (List.mem_of_getElem? (i := 62) (by decide +kernel))) rfl
theorem bw_1_64 : Cond.fieldLink RX6 14 "SelfScale$Scale" "weights" "LSelfScale$Row;" ∈ BIG := big_of (tin_1 _ (List.mem_of_getElem? (i := 64) (by decide +kernel))) rfl
theorem bw_1_65 : Cond.fieldLink RX6 20 "SelfScale$Scale" "outcomes" "LSelfScale$Row;" ∈ BIG := big_of (tin_1 _ (List.mem_of_getElem? (i := 65) (by decide +kernel))) rfl
theorem bw_1_68 : Cond.fieldLink RX6 23 "SelfScale$Scale" "figures" "I" ∈ BIG := big_of (tin_1 _ (List.mem_of_getElem? (i := 68) (by decide +kernel))) rfl
theorem bw_1_63 : Cond.methodLink RX6 11 yX5_init ∈ BIG := big_of (tin_1 _ (List.mem_of_getElem? (i := 63) (by decide +kernel))) rfl
theorem bw_1_106 : Cond.methodLink RX9 27 yX6_init ∈ BIG := big_of (tin_1 _ (List.mem_of_getElem? (i := 106) (by decide +kernel))) rfl
theorem bw_1_109 : Cond.methodLink RX9 34 yX0_init ∈ BIG := big_of (tin_1 _ (List.mem_of_getElem? (i := 109) (by decide +kernel))) rfl
theorem bw_1_110 : Cond.instanceMethod yX0_init ∈ BIG := big_of (tin_1 _ (List.mem_of_getElem? (i := 110) (by decide +kernel))) rfl
theorem bw_1_111 : Cond.code yX0_init cX0_init 1 none ∈ BIG := big_of (tin_1 _ (List.mem_of_getElem? (i := 111) (by decide +kernel))) rfl
theorem bw_1_112 : Cond.methodLink RX0 3 objectInit ∈ BIG := big_of (tin_1 _ (List.mem_of_getElem? (i := 112) (by decide +kernel))) rfl
theorem bw_1_113 : Cond.classLink RX0 9 RX5 ∈ BIG := big_of (tin_1 _ (List.mem_of_getElem? (i := 113) (by decide +kernel))) rfl
theorem bw_1_115 : Cond.fieldLink RX0 14 "SelfScale$Book" "sets" "LSelfScale$Row;" ∈ BIG := big_of (tin_1 _ (List.mem_of_getElem? (i := 115) (by decide +kernel))) rfl
theorem bw_1_116 : Cond.fieldLink RX0 20 "SelfScale$Book" "shown" "LSelfScale$Row;" ∈ BIG := big_of (tin_1 _ (List.mem_of_getElem? (i := 116) (by decide +kernel))) rfl
theorem bw_1_117 : Cond.fieldLink RX0 23 "SelfScale$Book" "laughs" "LSelfScale$Row;" ∈ BIG := big_of (tin_1 _ (List.mem_of_getElem? (i := 117) (by decide +kernel))) rfl
theorem bw_1_114 : Cond.methodLink RX0 11 yX5_init ∈ BIG := big_of (tin_1 _ (List.mem_of_getElem? (i := 114) (by decide +kernel))) rfl
theorem bw_1_130 : Cond.methodLink RX9 41 yX1_init ∈ BIG := big_of (tin_1 _ (List.mem_of_getElem? (i := 130) (by decide +kernel))) rfl
theorem bw_1_131 : Cond.instanceMethod yX1_init ∈ BIG := big_of (tin_1 _ (List.mem_of_getElem? (i := 131) (by decide +kernel))) rfl
theorem bw_1_132 : Cond.code yX1_init cX1_init 1 none ∈ BIG := big_of (tin_1 _ (List.mem_of_getElem? (i := 132) (by decide +kernel))) rfl
theorem bw_1_133 : Cond.methodLink RX1 1 objectInit ∈ BIG := big_of (tin_1 _ (List.mem_of_getElem? (i := 133) (by decide +kernel))) rfl
theorem bw_1_134 : Cond.classLink RX1 7 RX0 ∈ BIG := big_of (tin_1 _ (List.mem_of_getElem? (i := 134) (by decide +kernel))) rfl
theorem bw_1_136 : Cond.fieldLink RX1 10 "SelfScale$Image" "kept" "LSelfScale$Book;" ∈ BIG := big_of (tin_1 _ (List.mem_of_getElem? (i := 136) (by decide +kernel))) rfl
theorem bw_1_135 : Cond.methodLink RX1 9 yX0_init ∈ BIG := big_of (tin_1 _ (List.mem_of_getElem? (i := 135) (by decide +kernel))) rfl
theorem bw_1_145 : Cond.methodLink RX9 51 yX2_init ∈ BIG := big_of (tin_1 _ (List.mem_of_getElem? (i := 145) (by decide +kernel))) rfl
theorem bw_1_146 : Cond.instanceMethod yX2_init ∈ BIG := big_of (tin_1 _ (List.mem_of_getElem? (i := 146) (by decide +kernel))) rfl
theorem bw_1_147 : Cond.code yX2_init cX2_init 3 none ∈ BIG := big_of (tin_1 _ (List.mem_of_getElem? (i := 147) (by decide +kernel))) rfl
theorem bw_1_148 : Cond.methodLink RX2 3 objectInit ∈ BIG := big_of (tin_1 _ (List.mem_of_getElem? (i := 148) (by decide +kernel))) rfl
theorem bw_1_149 : Cond.fieldLink RX2 9 "SelfScale$Kinds" "scale" "LSelfScale$Scale;" ∈ BIG := big_of (tin_1 _ (List.mem_of_getElem? (i := 149) (by decide +kernel))) rfl
theorem bw_1_150 : Cond.fieldLink RX2 15 "SelfScale$Kinds" "book" "LSelfScale$Book;" ∈ BIG := big_of (tin_1 _ (List.mem_of_getElem? (i := 150) (by decide +kernel))) rfl
theorem bw_1_161 : Cond.methodLink RX9 60 yX8_init ∈ BIG := big_of (tin_1 _ (List.mem_of_getElem? (i := 161) (by decide +kernel))) rfl
theorem bw_1_162 : Cond.instanceMethod yX8_init ∈ BIG := big_of (tin_1 _ (List.mem_of_getElem? (i := 162) (by decide +kernel))) rfl
theorem bw_1_163 : Cond.code yX8_init cX8_init 3 none ∈ BIG := big_of (tin_1 _ (List.mem_of_getElem? (i := 163) (by decide +kernel))) rfl
theorem bw_1_164 : Cond.methodLink RX8 3 objectInit ∈ BIG := big_of (tin_1 _ (List.mem_of_getElem? (i := 164) (by decide +kernel))) rfl
theorem bw_1_165 : Cond.classLink RX8 9 RX5 ∈ BIG := big_of (tin_1 _ (List.mem_of_getElem? (i := 165) (by decide +kernel))) rfl
theorem bw_1_169 : Cond.fieldLink RX8 16 "SelfScale$Worlds" "codes" "LSelfScale$Row;" ∈ BIG := big_of (tin_1 _ (List.mem_of_getElem? (i := 169) (by decide +kernel))) rfl
theorem bw_1_170 : Cond.fieldLink RX8 20 "SelfScale$Worlds" "leftBits" "LSelfScale$Row;" ∈ BIG := big_of (tin_1 _ (List.mem_of_getElem? (i := 170) (by decide +kernel))) rfl
theorem bw_1_171 : Cond.fieldLink RX8 23 "SelfScale$Worlds" "leftByWeight" "LSelfScale$Row;" ∈ BIG := big_of (tin_1 _ (List.mem_of_getElem? (i := 171) (by decide +kernel))) rfl
theorem bw_1_172 : Cond.fieldLink RX8 26 "SelfScale$Worlds" "leftByLaughs" "LSelfScale$Row;" ∈ BIG := big_of (tin_1 _ (List.mem_of_getElem? (i := 172) (by decide +kernel))) rfl
theorem bw_1_173 : Cond.fieldLink RX8 29 "SelfScale$Worlds" "laughedByLaughs" "LSelfScale$Row;" ∈ BIG := big_of (tin_1 _ (List.mem_of_getElem? (i := 173) (by decide +kernel))) rfl
theorem bw_1_167 : Cond.fieldLink RX8 32 "SelfScale$Worlds" "scale" "LSelfScale$Scale;" ∈ BIG := big_of (tin_1 _ (List.mem_of_getElem? (i := 167) (by decide +kernel))) rfl
theorem bw_1_168 : Cond.fieldLink RX8 36 "SelfScale$Worlds" "book" "LSelfScale$Book;" ∈ BIG := big_of (tin_1 _ (List.mem_of_getElem? (i := 168) (by decide +kernel))) rfl
theorem bw_1_166 : Cond.methodLink RX8 13 yX5_init ∈ BIG := big_of (tin_1 _ (List.mem_of_getElem? (i := 166) (by decide +kernel))) rfl
theorem bw_1_203 : Cond.methodLink RX9 67 yX3_init ∈ BIG := big_of (tin_1 _ (List.mem_of_getElem? (i := 203) (by decide +kernel))) rfl
theorem bw_1_204 : Cond.instanceMethod yX3_init ∈ BIG := big_of (tin_1 _ (List.mem_of_getElem? (i := 204) (by decide +kernel))) rfl
theorem bw_1_205 : Cond.code yX3_init cX3_init 3 none ∈ BIG := big_of (tin_1 _ (List.mem_of_getElem? (i := 205) (by decide +kernel))) rfl
theorem bw_1_206 : Cond.methodLink RX3 3 objectInit ∈ BIG := big_of (tin_1 _ (List.mem_of_getElem? (i := 206) (by decide +kernel))) rfl
theorem bw_1_207 : Cond.classLink RX3 9 RX5 ∈ BIG := big_of (tin_1 _ (List.mem_of_getElem? (i := 207) (by decide +kernel))) rfl
theorem bw_1_211 : Cond.fieldLink RX3 14 "SelfScale$Plan" "leftByShown" "LSelfScale$Row;" ∈ BIG := big_of (tin_1 _ (List.mem_of_getElem? (i := 211) (by decide +kernel))) rfl
theorem bw_1_212 : Cond.fieldLink RX3 20 "SelfScale$Plan" "seenByOne" "LSelfScale$Row;" ∈ BIG := big_of (tin_1 _ (List.mem_of_getElem? (i := 212) (by decide +kernel))) rfl
theorem bw_1_213 : Cond.fieldLink RX3 23 "SelfScale$Plan" "seenByTwo" "LSelfScale$Row;" ∈ BIG := big_of (tin_1 _ (List.mem_of_getElem? (i := 213) (by decide +kernel))) rfl
theorem bw_1_209 : Cond.fieldLink RX3 26 "SelfScale$Plan" "scale" "LSelfScale$Scale;" ∈ BIG := big_of (tin_1 _ (List.mem_of_getElem? (i := 209) (by decide +kernel))) rfl
theorem bw_1_210 : Cond.fieldLink RX3 30 "SelfScale$Plan" "worlds" "LSelfScale$Worlds;" ∈ BIG := big_of (tin_1 _ (List.mem_of_getElem? (i := 210) (by decide +kernel))) rfl
theorem bw_1_208 : Cond.methodLink RX3 11 yX5_init ∈ BIG := big_of (tin_1 _ (List.mem_of_getElem? (i := 208) (by decide +kernel))) rfl
theorem bw_4_136 : Cond.methodLink RL 12 yX10_init ∈ BIG := big_of (tin_4 _ (List.mem_of_getElem? (i := 136) (by decide +kernel))) rfl
theorem bw_4_137 : Cond.instanceMethod yX10_init ∈ BIG := big_of (tin_4 _ (List.mem_of_getElem? (i := 137) (by decide +kernel))) rfl
theorem bw_4_138 : Cond.code yX10_init cX10_init 1 none ∈ BIG := big_of (tin_4 _ (List.mem_of_getElem? (i := 138) (by decide +kernel))) rfl
theorem bw_4_139 : Cond.methodLink RX10 1 objectInit ∈ BIG := big_of (tin_4 _ (List.mem_of_getElem? (i := 139) (by decide +kernel))) rfl
theorem bw_2_209 : Cond.arrayClass .byte ∈ BIG := big_of (tin_2 _ (List.mem_of_getElem? (i := 209) (by decide +kernel))) rfl
theorem bw_4_141 : Cond.fieldLink RX10 7 "SelfScaleModel" "text" "[B" ∈ BIG := big_of (tin_4 _ (List.mem_of_getElem? (i := 141) (by decide +kernel))) rfl
theorem bw_4_143 : Cond.fieldLink RX10 13 "SelfScaleModel" "things" "[I" ∈ BIG := big_of (tin_4 _ (List.mem_of_getElem? (i := 143) (by decide +kernel))) rfl
theorem bw_4_144 : Cond.fieldLink RX10 17 "SelfScaleModel" "weights" "[I" ∈ BIG := big_of (tin_4 _ (List.mem_of_getElem? (i := 144) (by decide +kernel))) rfl
theorem bw_4_145 : Cond.fieldLink RX10 20 "SelfScaleModel" "figures" "[I" ∈ BIG := big_of (tin_4 _ (List.mem_of_getElem? (i := 145) (by decide +kernel))) rfl
theorem bw_4_152 : Cond.fieldLink RX10 23 "SelfScaleModel" "lines" "[I" ∈ BIG := big_of (tin_4 _ (List.mem_of_getElem? (i := 152) (by decide +kernel))) rfl
theorem bw_4_153 : Cond.fieldLink RX10 26 "SelfScaleModel" "row" "[I" ∈ BIG := big_of (tin_4 _ (List.mem_of_getElem? (i := 153) (by decide +kernel))) rfl
theorem bw_4_201 : Cond.arrayClass .boolean ∈ BIG := big_of (tin_4 _ (List.mem_of_getElem? (i := 201) (by decide +kernel))) rfl
theorem bw_4_154 : Cond.fieldLink RX10 29 "SelfScaleModel" "isKept" "[Z" ∈ BIG := big_of (tin_4 _ (List.mem_of_getElem? (i := 154) (by decide +kernel))) rfl
theorem bw_4_155 : Cond.fieldLink RX10 33 "SelfScaleModel" "world" "[I" ∈ BIG := big_of (tin_4 _ (List.mem_of_getElem? (i := 155) (by decide +kernel))) rfl
theorem bw_4_156 : Cond.fieldLink RX10 36 "SelfScaleModel" "shownMany" "[I" ∈ BIG := big_of (tin_4 _ (List.mem_of_getElem? (i := 156) (by decide +kernel))) rfl
theorem bw_4_157 : Cond.fieldLink RX10 39 "SelfScaleModel" "seen" "[I" ∈ BIG := big_of (tin_4 _ (List.mem_of_getElem? (i := 157) (by decide +kernel))) rfl
theorem bw_4_158 : Cond.fieldLink RX10 42 "SelfScaleModel" "isBad" "[Z" ∈ BIG := big_of (tin_4 _ (List.mem_of_getElem? (i := 158) (by decide +kernel))) rfl
theorem bw_4_159 : Cond.fieldLink RX10 45 "SelfScaleModel" "comes" "[I" ∈ BIG := big_of (tin_4 _ (List.mem_of_getElem? (i := 159) (by decide +kernel))) rfl
theorem bw_2_13 : Cond.methodLink RL 15 yX9_type ∈ BIG := big_of (tin_2 _ (List.mem_of_getElem? (i := 13) (by decide +kernel))) rfl
theorem bw_2_14 : Cond.instanceMethod yX9_type ∈ BIG := big_of (tin_2 _ (List.mem_of_getElem? (i := 14) (by decide +kernel))) rfl
theorem bw_2_15 : Cond.selects RX9 yX9_type yX9_type ∈ BIG := big_of (tin_2 _ (List.mem_of_getElem? (i := 15) (by decide +kernel))) rfl
theorem bw_2_16 : Cond.code yX9_type cX9_type 5 (some .int) ∈ BIG := big_of (tin_2 _ (List.mem_of_getElem? (i := 16) (by decide +kernel))) rfl
theorem bw_2_17 : Cond.methodLink RX9 74 yX7_length ∈ BIG := big_of (tin_2 _ (List.mem_of_getElem? (i := 17) (by decide +kernel))) rfl
theorem bw_2_18 : Cond.instanceMethod yX7_length ∈ BIG := big_of (tin_2 _ (List.mem_of_getElem? (i := 18) (by decide +kernel))) rfl
theorem bw_2_19 : Cond.selects RX7 yX7_length yX7_length ∈ BIG := big_of (tin_2 _ (List.mem_of_getElem? (i := 19) (by decide +kernel))) rfl
theorem bw_2_20 : Cond.code yX7_length cX7_length 1 (some .int) ∈ BIG := big_of (tin_2 _ (List.mem_of_getElem? (i := 20) (by decide +kernel))) rfl
theorem bw_1_44 : Cond.fieldLink RX7 20 "SelfScale$Text" "length" "I" ∈ BIG := big_of (tin_1 _ (List.mem_of_getElem? (i := 44) (by decide +kernel))) rfl
theorem bw_2_21 : Cond.methodLink RX9 78 yX7_append ∈ BIG := big_of (tin_2 _ (List.mem_of_getElem? (i := 21) (by decide +kernel))) rfl
theorem bw_2_22 : Cond.instanceMethod yX7_append ∈ BIG := big_of (tin_2 _ (List.mem_of_getElem? (i := 22) (by decide +kernel))) rfl
theorem bw_2_23 : Cond.selects RX7 yX7_append yX7_append ∈ BIG := big_of (tin_2 _ (List.mem_of_getElem? (i := 23) (by decide +kernel))) rfl
theorem bw_2_24 : Cond.code yX7_append cX7_append 2 none ∈ BIG := big_of (tin_2 _ (List.mem_of_getElem? (i := 24) (by decide +kernel))) rfl
theorem bw_2_25 : Cond.methodLink RX7 28 yX5_put ∈ BIG := big_of (tin_2 _ (List.mem_of_getElem? (i := 25) (by decide +kernel))) rfl
theorem bw_2_26 : Cond.instanceMethod yX5_put ∈ BIG := big_of (tin_2 _ (List.mem_of_getElem? (i := 26) (by decide +kernel))) rfl
theorem bw_2_27 : Cond.selects RX5 yX5_put yX5_put ∈ BIG := big_of (tin_2 _ (List.mem_of_getElem? (i := 27) (by decide +kernel))) rfl
theorem bw_2_28 : Cond.code yX5_put cX5_put 3 none ∈ BIG := big_of (tin_2 _ (List.mem_of_getElem? (i := 28) (by decide +kernel))) rfl
theorem bw_4_202 : Cond.methodLink RL 19 yX10_type ∈ BIG := big_of (tin_4 _ (List.mem_of_getElem? (i := 202) (by decide +kernel))) rfl
theorem bw_4_203 : Cond.instanceMethod yX10_type ∈ BIG := big_of (tin_4 _ (List.mem_of_getElem? (i := 203) (by decide +kernel))) rfl
theorem bw_4_204 : Cond.selects RX10 yX10_type yX10_type ∈ BIG := big_of (tin_4 _ (List.mem_of_getElem? (i := 204) (by decide +kernel))) rfl
theorem bw_4_205 : Cond.code yX10_type cX10_type 5 (some .int) ∈ BIG := big_of (tin_4 _ (List.mem_of_getElem? (i := 205) (by decide +kernel))) rfl
theorem bw_4_142 : Cond.fieldLink RX10 52 "SelfScaleModel" "typed" "I" ∈ BIG := big_of (tin_4 _ (List.mem_of_getElem? (i := 142) (by decide +kernel))) rfl
theorem bw_4_209 : Cond.constantLong RX10 56 (255) ∈ BIG := big_of (tin_4 _ (List.mem_of_getElem? (i := 209) (by decide +kernel))) rfl
theorem bw_4_206 : Cond.methodLink RX10 48 yX10_in ∈ BIG := big_of (tin_4 _ (List.mem_of_getElem? (i := 206) (by decide +kernel))) rfl
theorem bw_4_207 : Cond.static yX10_in ∈ BIG := big_of (tin_4 _ (List.mem_of_getElem? (i := 207) (by decide +kernel))) rfl
theorem bw_4_208 : Cond.code yX10_in cX10_in 3 (some .boolean) ∈ BIG := big_of (tin_4 _ (List.mem_of_getElem? (i := 208) (by decide +kernel))) rfl
theorem bw_2_29 : Cond.methodLink RL 20 yX9_clear ∈ BIG := big_of (tin_2 _ (List.mem_of_getElem? (i := 29) (by decide +kernel))) rfl
theorem bw_2_30 : Cond.instanceMethod yX9_clear ∈ BIG := big_of (tin_2 _ (List.mem_of_getElem? (i := 30) (by decide +kernel))) rfl
theorem bw_2_31 : Cond.selects RX9 yX9_clear yX9_clear ∈ BIG := big_of (tin_2 _ (List.mem_of_getElem? (i := 31) (by decide +kernel))) rfl
theorem bw_2_32 : Cond.code yX9_clear cX9_clear 2 (some .int) ∈ BIG := big_of (tin_2 _ (List.mem_of_getElem? (i := 32) (by decide +kernel))) rfl
theorem bw_2_33 : Cond.methodLink RX9 82 yX7_wipe ∈ BIG := big_of (tin_2 _ (List.mem_of_getElem? (i := 33) (by decide +kernel))) rfl
theorem bw_2_34 : Cond.instanceMethod yX7_wipe ∈ BIG := big_of (tin_2 _ (List.mem_of_getElem? (i := 34) (by decide +kernel))) rfl
theorem bw_2_35 : Cond.selects RX7 yX7_wipe yX7_wipe ∈ BIG := big_of (tin_2 _ (List.mem_of_getElem? (i := 35) (by decide +kernel))) rfl
theorem bw_2_36 : Cond.code yX7_wipe cX7_wipe 1 none ∈ BIG := big_of (tin_2 _ (List.mem_of_getElem? (i := 36) (by decide +kernel))) rfl
theorem bw_4_210 : Cond.methodLink RL 24 yX10_clear ∈ BIG := big_of (tin_4 _ (List.mem_of_getElem? (i := 210) (by decide +kernel))) rfl
theorem bw_4_211 : Cond.instanceMethod yX10_clear ∈ BIG := big_of (tin_4 _ (List.mem_of_getElem? (i := 211) (by decide +kernel))) rfl
theorem bw_4_212 : Cond.selects RX10 yX10_clear yX10_clear ∈ BIG := big_of (tin_4 _ (List.mem_of_getElem? (i := 212) (by decide +kernel))) rfl
theorem bw_4_213 : Cond.code yX10_clear cX10_clear 2 (some .int) ∈ BIG := big_of (tin_4 _ (List.mem_of_getElem? (i := 213) (by decide +kernel))) rfl
theorem bw_2_37 : Cond.methodLink RL 25 yX9_market ∈ BIG := big_of (tin_2 _ (List.mem_of_getElem? (i := 37) (by decide +kernel))) rfl
theorem bw_2_38 : Cond.instanceMethod yX9_market ∈ BIG := big_of (tin_2 _ (List.mem_of_getElem? (i := 38) (by decide +kernel))) rfl
theorem bw_2_39 : Cond.selects RX9 yX9_market yX9_market ∈ BIG := big_of (tin_2 _ (List.mem_of_getElem? (i := 39) (by decide +kernel))) rfl
theorem bw_2_40 : Cond.code yX9_market cX9_market 2 (some .int) ∈ BIG := big_of (tin_2 _ (List.mem_of_getElem? (i := 40) (by decide +kernel))) rfl
theorem bw_2_41 : Cond.methodLink RX9 85 yX4_read ∈ BIG := big_of (tin_2 _ (List.mem_of_getElem? (i := 41) (by decide +kernel))) rfl
theorem bw_2_42 : Cond.instanceMethod yX4_read ∈ BIG := big_of (tin_2 _ (List.mem_of_getElem? (i := 42) (by decide +kernel))) rfl
theorem bw_2_43 : Cond.selects RX4 yX4_read yX4_read ∈ BIG := big_of (tin_2 _ (List.mem_of_getElem? (i := 43) (by decide +kernel))) rfl
theorem bw_2_44 : Cond.code yX4_read cX4_read 3 (some .int) ∈ BIG := big_of (tin_2 _ (List.mem_of_getElem? (i := 44) (by decide +kernel))) rfl
theorem bw_1_85 : Cond.fieldLink RX4 40 "SelfScale$Reader" "start" "I" ∈ BIG := big_of (tin_1 _ (List.mem_of_getElem? (i := 85) (by decide +kernel))) rfl
theorem bw_1_82 : Cond.fieldLink RX4 22 "SelfScale$Reader" "items" "I" ∈ BIG := big_of (tin_1 _ (List.mem_of_getElem? (i := 82) (by decide +kernel))) rfl
theorem bw_2_45 : Cond.methodLink RX4 26 yX4_begin ∈ BIG := big_of (tin_2 _ (List.mem_of_getElem? (i := 45) (by decide +kernel))) rfl
theorem bw_2_47 : Cond.instanceMethod yX4_begin ∈ BIG := big_of (tin_2 _ (List.mem_of_getElem? (i := 47) (by decide +kernel))) rfl
theorem bw_p_0 : Cond.selects RX4 yX4_begin yX4_begin ∈ BIG := big_of (tin_p _ (List.mem_of_getElem? (i := 0) (by decide +kernel))) rfl
theorem bw_2_48 : Cond.code yX4_begin cX4_begin 1 none ∈ BIG := big_of (tin_2 _ (List.mem_of_getElem? (i := 48) (by decide +kernel))) rfl
theorem bw_1_83 : Cond.fieldLink RX4 50 "SelfScale$Reader" "isOwnTold" "Z" ∈ BIG := big_of (tin_1 _ (List.mem_of_getElem? (i := 83) (by decide +kernel))) rfl
theorem bw_1_84 : Cond.fieldLink RX4 54 "SelfScale$Reader" "areFiguresTold" "Z" ∈ BIG := big_of (tin_1 _ (List.mem_of_getElem? (i := 84) (by decide +kernel))) rfl
theorem bw_1_86 : Cond.fieldLink RX4 57 "SelfScale$Reader" "end" "I" ∈ BIG := big_of (tin_1 _ (List.mem_of_getElem? (i := 86) (by decide +kernel))) rfl
theorem bw_2_49 : Cond.methodLink RX4 47 yX6_reset ∈ BIG := big_of (tin_2 _ (List.mem_of_getElem? (i := 49) (by decide +kernel))) rfl
theorem bw_2_50 : Cond.instanceMethod yX6_reset ∈ BIG := big_of (tin_2 _ (List.mem_of_getElem? (i := 50) (by decide +kernel))) rfl
theorem bw_2_51 : Cond.selects RX6 yX6_reset yX6_reset ∈ BIG := big_of (tin_2 _ (List.mem_of_getElem? (i := 51) (by decide +kernel))) rfl
theorem bw_2_52 : Cond.code yX6_reset cX6_reset 1 none ∈ BIG := big_of (tin_2 _ (List.mem_of_getElem? (i := 52) (by decide +kernel))) rfl
theorem bw_1_66 : Cond.fieldLink RX6 27 "SelfScale$Scale" "things" "I" ∈ BIG := big_of (tin_1 _ (List.mem_of_getElem? (i := 66) (by decide +kernel))) rfl
theorem bw_1_67 : Cond.fieldLink RX6 30 "SelfScale$Scale" "own" "I" ∈ BIG := big_of (tin_1 _ (List.mem_of_getElem? (i := 67) (by decide +kernel))) rfl
theorem bw_2_53 : Cond.methodLink RX4 29 yX4_token ∈ BIG := big_of (tin_2 _ (List.mem_of_getElem? (i := 53) (by decide +kernel))) rfl
theorem bw_2_55 : Cond.instanceMethod yX4_token ∈ BIG := big_of (tin_2 _ (List.mem_of_getElem? (i := 55) (by decide +kernel))) rfl
theorem bw_p_1 : Cond.selects RX4 yX4_token yX4_token ∈ BIG := big_of (tin_p _ (List.mem_of_getElem? (i := 1) (by decide +kernel))) rfl
theorem bw_2_56 : Cond.code yX4_token cX4_token 2 (some .int) ∈ BIG := big_of (tin_2 _ (List.mem_of_getElem? (i := 56) (by decide +kernel))) rfl
theorem bw_2_57 : Cond.methodLink RX4 79 yX4_endOfBlanks ∈ BIG := big_of (tin_2 _ (List.mem_of_getElem? (i := 57) (by decide +kernel))) rfl
theorem bw_2_59 : Cond.instanceMethod yX4_endOfBlanks ∈ BIG := big_of (tin_2 _ (List.mem_of_getElem? (i := 59) (by decide +kernel))) rfl
theorem bw_p_2 : Cond.selects RX4 yX4_endOfBlanks yX4_endOfBlanks ∈ BIG := big_of (tin_p _ (List.mem_of_getElem? (i := 2) (by decide +kernel))) rfl
theorem bw_2_60 : Cond.code yX4_endOfBlanks cX4_endOfBlanks 3 (some .int) ∈ BIG := big_of (tin_2 _ (List.mem_of_getElem? (i := 60) (by decide +kernel))) rfl
theorem bw_2_61 : Cond.methodLink RX4 116 yX7_length ∈ BIG := big_of (tin_2 _ (List.mem_of_getElem? (i := 61) (by decide +kernel))) rfl
theorem bw_2_62 : Cond.methodLink RX4 83 yX7_byteAt ∈ BIG := big_of (tin_2 _ (List.mem_of_getElem? (i := 62) (by decide +kernel))) rfl
theorem bw_2_63 : Cond.instanceMethod yX7_byteAt ∈ BIG := big_of (tin_2 _ (List.mem_of_getElem? (i := 63) (by decide +kernel))) rfl
theorem bw_2_64 : Cond.selects RX7 yX7_byteAt yX7_byteAt ∈ BIG := big_of (tin_2 _ (List.mem_of_getElem? (i := 64) (by decide +kernel))) rfl
theorem bw_2_65 : Cond.code yX7_byteAt cX7_byteAt 2 (some .int) ∈ BIG := big_of (tin_2 _ (List.mem_of_getElem? (i := 65) (by decide +kernel))) rfl
theorem bw_2_66 : Cond.methodLink RX7 24 yX5_get ∈ BIG := big_of (tin_2 _ (List.mem_of_getElem? (i := 66) (by decide +kernel))) rfl
theorem bw_2_67 : Cond.instanceMethod yX5_get ∈ BIG := big_of (tin_2 _ (List.mem_of_getElem? (i := 67) (by decide +kernel))) rfl
theorem bw_2_68 : Cond.selects RX5 yX5_get yX5_get ∈ BIG := big_of (tin_2 _ (List.mem_of_getElem? (i := 68) (by decide +kernel))) rfl
theorem bw_2_69 : Cond.code yX5_get cX5_get 2 (some .int) ∈ BIG := big_of (tin_2 _ (List.mem_of_getElem? (i := 69) (by decide +kernel))) rfl
theorem bw_2_70 : Cond.methodLink RX4 88 yX4_isLetter ∈ BIG := big_of (tin_2 _ (List.mem_of_getElem? (i := 70) (by decide +kernel))) rfl
theorem bw_2_71 : Cond.static yX4_isLetter ∈ BIG := big_of (tin_2 _ (List.mem_of_getElem? (i := 71) (by decide +kernel))) rfl
theorem bw_2_72 : Cond.code yX4_isLetter cX4_isLetter 1 (some .boolean) ∈ BIG := big_of (tin_2 _ (List.mem_of_getElem? (i := 72) (by decide +kernel))) rfl
theorem bw_2_74 : Cond.static yX9_isBetween ∈ BIG := big_of (tin_2 _ (List.mem_of_getElem? (i := 74) (by decide +kernel))) rfl
theorem bw_2_75 : Cond.code yX9_isBetween cX9_isBetween 3 (some .boolean) ∈ BIG := big_of (tin_2 _ (List.mem_of_getElem? (i := 75) (by decide +kernel))) rfl
theorem bw_2_76 : Cond.methodLink RX4 91 yX4_endOfWord ∈ BIG := big_of (tin_2 _ (List.mem_of_getElem? (i := 76) (by decide +kernel))) rfl
theorem bw_2_78 : Cond.instanceMethod yX4_endOfWord ∈ BIG := big_of (tin_2 _ (List.mem_of_getElem? (i := 78) (by decide +kernel))) rfl
theorem bw_p_3 : Cond.selects RX4 yX4_endOfWord yX4_endOfWord ∈ BIG := big_of (tin_p _ (List.mem_of_getElem? (i := 3) (by decide +kernel))) rfl
theorem bw_2_79 : Cond.code yX4_endOfWord cX4_endOfWord 3 (some .int) ∈ BIG := big_of (tin_2 _ (List.mem_of_getElem? (i := 79) (by decide +kernel))) rfl
theorem bw_2_80 : Cond.methodLink RX4 94 yX4_wordToken ∈ BIG := big_of (tin_2 _ (List.mem_of_getElem? (i := 80) (by decide +kernel))) rfl
theorem bw_2_82 : Cond.instanceMethod yX4_wordToken ∈ BIG := big_of (tin_2 _ (List.mem_of_getElem? (i := 82) (by decide +kernel))) rfl
theorem bw_p_4 : Cond.selects RX4 yX4_wordToken yX4_wordToken ∈ BIG := big_of (tin_p _ (List.mem_of_getElem? (i := 4) (by decide +kernel))) rfl
theorem bw_2_83 : Cond.code yX4_wordToken cX4_wordToken 1 (some .int) ∈ BIG := big_of (tin_2 _ (List.mem_of_getElem? (i := 83) (by decide +kernel))) rfl
theorem bw_2_85 : Cond.methodLink RX4 108 yX7_has ∈ BIG := big_of (tin_2 _ (List.mem_of_getElem? (i := 85) (by decide +kernel))) rfl
theorem bw_2_86 : Cond.instanceMethod yX7_has ∈ BIG := big_of (tin_2 _ (List.mem_of_getElem? (i := 86) (by decide +kernel))) rfl
theorem bw_2_87 : Cond.selects RX7 yX7_has yX7_has ∈ BIG := big_of (tin_2 _ (List.mem_of_getElem? (i := 87) (by decide +kernel))) rfl
theorem bw_2_88 : Cond.code yX7_has cX7_has 5 (some .boolean) ∈ BIG := big_of (tin_2 _ (List.mem_of_getElem? (i := 88) (by decide +kernel))) rfl
theorem bw_2_89 : Cond.methodLink RX7 32 yJ0_length_8abf5 ∈ BIG := big_of (tin_2 _ (List.mem_of_getElem? (i := 89) (by decide +kernel))) rfl
theorem bw_2_90 : Cond.instanceMethod yJ0_length_8abf5 ∈ BIG := big_of (tin_2 _ (List.mem_of_getElem? (i := 90) (by decide +kernel))) rfl
theorem bw_2_91 : Cond.selects RJ0 yJ0_length_8abf5 yJ0_length_8abf5 ∈ BIG := big_of (tin_2 _ (List.mem_of_getElem? (i := 91) (by decide +kernel))) rfl
theorem bw_1_12 : Cond.initialized RJ0 ∈ BIG := big_of (tin_1 _ (List.mem_of_getElem? (i := 12) (by decide +kernel))) rfl
theorem bw_2_92 : Cond.code yJ0_length_8abf5 cJ0_length_8abf5 1 (some .int) ∈ BIG := big_of (tin_2 _ (List.mem_of_getElem? (i := 92) (by decide +kernel))) rfl
theorem bw_5_168 : Cond.fieldLink RJ0 9 "java/lang/String" "value" "[B" ∈ BIG := big_of (tin_5 _ (List.mem_of_getElem? (i := 168) (by decide +kernel))) rfl
theorem bw_2_93 : Cond.methodLink RJ0 335 yJ0_coder_7d493 ∈ BIG := big_of (tin_2 _ (List.mem_of_getElem? (i := 93) (by decide +kernel))) rfl
theorem bw_2_94 : Cond.instanceMethod yJ0_coder_7d493 ∈ BIG := big_of (tin_2 _ (List.mem_of_getElem? (i := 94) (by decide +kernel))) rfl
theorem bw_2_95 : Cond.selects RJ0 yJ0_coder_7d493 yJ0_coder_7d493 ∈ BIG := big_of (tin_2 _ (List.mem_of_getElem? (i := 95) (by decide +kernel))) rfl
theorem bw_2_96 : Cond.code yJ0_coder_7d493 cJ0_coder_7d493 1 (some .byte) ∈ BIG := big_of (tin_2 _ (List.mem_of_getElem? (i := 96) (by decide +kernel))) rfl
theorem bw_2_97 : Cond.fieldLink RJ0 38 "java/lang/String" "COMPACT_STRINGS" "Z" ∈ BIG := big_of (tin_2 _ (List.mem_of_getElem? (i := 97) (by decide +kernel))) rfl
theorem bw_5_169 : Cond.fieldLink RJ0 15 "java/lang/String" "coder" "B" ∈ BIG := big_of (tin_5 _ (List.mem_of_getElem? (i := 169) (by decide +kernel))) rfl
theorem bw_2_99 : Cond.methodLink RX7 37 yX7_byteAt ∈ BIG := big_of (tin_2 _ (List.mem_of_getElem? (i := 99) (by decide +kernel))) rfl
theorem bw_2_100 : Cond.methodLink RX7 40 yJ0_charAt_5068e ∈ BIG := big_of (tin_2 _ (List.mem_of_getElem? (i := 100) (by decide +kernel))) rfl
theorem bw_2_101 : Cond.instanceMethod yJ0_charAt_5068e ∈ BIG := big_of (tin_2 _ (List.mem_of_getElem? (i := 101) (by decide +kernel))) rfl
theorem bw_2_102 : Cond.selects RJ0 yJ0_charAt_5068e yJ0_charAt_5068e ∈ BIG := big_of (tin_2 _ (List.mem_of_getElem? (i := 102) (by decide +kernel))) rfl
theorem bw_2_103 : Cond.code yJ0_charAt_5068e cJ0_charAt_5068e 2 (some .char) ∈ BIG := big_of (tin_2 _ (List.mem_of_getElem? (i := 103) (by decide +kernel))) rfl
theorem bw_2_104 : Cond.methodLink RJ0 492 yJ0_isLatin1_aae02 ∈ BIG := big_of (tin_2 _ (List.mem_of_getElem? (i := 104) (by decide +kernel))) rfl
theorem bw_2_105 : Cond.instanceMethod yJ0_isLatin1_aae02 ∈ BIG := big_of (tin_2 _ (List.mem_of_getElem? (i := 105) (by decide +kernel))) rfl
theorem bw_2_106 : Cond.selects RJ0 yJ0_isLatin1_aae02 yJ0_isLatin1_aae02 ∈ BIG := big_of (tin_2 _ (List.mem_of_getElem? (i := 106) (by decide +kernel))) rfl
theorem bw_2_107 : Cond.code yJ0_isLatin1_aae02 cJ0_isLatin1_aae02 1 (some .boolean) ∈ BIG := big_of (tin_2 _ (List.mem_of_getElem? (i := 107) (by decide +kernel))) rfl
theorem bw_2_108 : Cond.methodLink RJ0 495 yJ1_charAt_3b067 ∈ BIG := big_of (tin_2 _ (List.mem_of_getElem? (i := 108) (by decide +kernel))) rfl
theorem bw_2_109 : Cond.static yJ1_charAt_3b067 ∈ BIG := big_of (tin_2 _ (List.mem_of_getElem? (i := 109) (by decide +kernel))) rfl
theorem bw_1_13 : Cond.initialized RJ1 ∈ BIG := big_of (tin_1 _ (List.mem_of_getElem? (i := 13) (by decide +kernel))) rfl
theorem bw_2_110 : Cond.code yJ1_charAt_3b067 cJ1_charAt_3b067 2 (some .char) ∈ BIG := big_of (tin_2 _ (List.mem_of_getElem? (i := 110) (by decide +kernel))) rfl
theorem bw_2_111 : Cond.methodLink RJ1 9 yJ0_checkIndex_df160 ∈ BIG := big_of (tin_2 _ (List.mem_of_getElem? (i := 111) (by decide +kernel))) rfl
theorem bw_2_112 : Cond.static yJ0_checkIndex_df160 ∈ BIG := big_of (tin_2 _ (List.mem_of_getElem? (i := 112) (by decide +kernel))) rfl
theorem bw_2_113 : Cond.code yJ0_checkIndex_df160 cJ0_checkIndex_df160 2 none ∈ BIG := big_of (tin_2 _ (List.mem_of_getElem? (i := 113) (by decide +kernel))) rfl
theorem bw_2_114 : Cond.fieldLink RJ0 1053 "jdk/internal/util/Preconditions" "SIOOBE_FORMATTER" "Ljava/util/function/BiFunction;" ∈ BIG := big_of (tin_2 _ (List.mem_of_getElem? (i := 114) (by decide +kernel))) rfl
theorem bw_2_116 : Cond.methodLink RJ0 1059 yJ3_checkIndex_8e157 ∈ BIG := big_of (tin_2 _ (List.mem_of_getElem? (i := 116) (by decide +kernel))) rfl
theorem bw_2_117 : Cond.static yJ3_checkIndex_8e157 ∈ BIG := big_of (tin_2 _ (List.mem_of_getElem? (i := 117) (by decide +kernel))) rfl
theorem bw_1_14 : Cond.initialized RJ3 ∈ BIG := big_of (tin_1 _ (List.mem_of_getElem? (i := 14) (by decide +kernel))) rfl
theorem bw_2_118 : Cond.code yJ3_checkIndex_8e157 cJ3_checkIndex_8e157 3 (some .int) ∈ BIG := big_of (tin_2 _ (List.mem_of_getElem? (i := 118) (by decide +kernel))) rfl
theorem bw_2_119 : Cond.methodLink RJ0 498 yJ2_charAt_3b067 ∈ BIG := big_of (tin_2 _ (List.mem_of_getElem? (i := 119) (by decide +kernel))) rfl
theorem bw_2_120 : Cond.static yJ2_charAt_3b067 ∈ BIG := big_of (tin_2 _ (List.mem_of_getElem? (i := 120) (by decide +kernel))) rfl
theorem bw_1_15 : Cond.initialized RJ2 ∈ BIG := big_of (tin_1 _ (List.mem_of_getElem? (i := 15) (by decide +kernel))) rfl
theorem bw_2_121 : Cond.code yJ2_charAt_3b067 cJ2_charAt_3b067 2 (some .char) ∈ BIG := big_of (tin_2 _ (List.mem_of_getElem? (i := 121) (by decide +kernel))) rfl
theorem bw_2_122 : Cond.methodLink RJ2 67 yJ2_checkIndex_2214a ∈ BIG := big_of (tin_2 _ (List.mem_of_getElem? (i := 122) (by decide +kernel))) rfl
theorem bw_2_123 : Cond.static yJ2_checkIndex_2214a ∈ BIG := big_of (tin_2 _ (List.mem_of_getElem? (i := 123) (by decide +kernel))) rfl
theorem bw_2_124 : Cond.code yJ2_checkIndex_2214a cJ2_checkIndex_2214a 2 none ∈ BIG := big_of (tin_2 _ (List.mem_of_getElem? (i := 124) (by decide +kernel))) rfl
theorem bw_2_125 : Cond.methodLink RJ2 48 yJ2_length_9d52b ∈ BIG := big_of (tin_2 _ (List.mem_of_getElem? (i := 125) (by decide +kernel))) rfl
theorem bw_2_126 : Cond.static yJ2_length_9d52b ∈ BIG := big_of (tin_2 _ (List.mem_of_getElem? (i := 126) (by decide +kernel))) rfl
theorem bw_2_127 : Cond.code yJ2_length_9d52b cJ2_length_9d52b 1 (some .int) ∈ BIG := big_of (tin_2 _ (List.mem_of_getElem? (i := 127) (by decide +kernel))) rfl
theorem bw_2_128 : Cond.methodLink RJ2 414 yJ0_checkIndex_df160 ∈ BIG := big_of (tin_2 _ (List.mem_of_getElem? (i := 128) (by decide +kernel))) rfl
theorem bw_2_129 : Cond.methodLink RJ2 71 yJ2_getChar_3b067 ∈ BIG := big_of (tin_2 _ (List.mem_of_getElem? (i := 129) (by decide +kernel))) rfl
theorem bw_2_130 : Cond.static yJ2_getChar_3b067 ∈ BIG := big_of (tin_2 _ (List.mem_of_getElem? (i := 130) (by decide +kernel))) rfl
theorem bw_2_131 : Cond.code yJ2_getChar_3b067 cJ2_getChar_3b067 2 (some .char) ∈ BIG := big_of (tin_2 _ (List.mem_of_getElem? (i := 131) (by decide +kernel))) rfl
theorem bw_2_132 : Cond.fieldLink RJ2 44 "java/lang/StringUTF16" "$assertionsDisabled" "Z" ∈ BIG := big_of (tin_2 _ (List.mem_of_getElem? (i := 132) (by decide +kernel))) rfl
theorem bw_2_134 : Cond.fieldLink RJ2 59 "java/lang/StringUTF16" "HI_BYTE_SHIFT" "I" ∈ BIG := big_of (tin_2 _ (List.mem_of_getElem? (i := 134) (by decide +kernel))) rfl
theorem bw_2_136 : Cond.fieldLink RJ2 63 "java/lang/StringUTF16" "LO_BYTE_SHIFT" "I" ∈ BIG := big_of (tin_2 _ (List.mem_of_getElem? (i := 136) (by decide +kernel))) rfl
theorem bw_2_140 : Cond.methodLink RX4 97 yX4_isDigit ∈ BIG := big_of (tin_2 _ (List.mem_of_getElem? (i := 140) (by decide +kernel))) rfl
theorem bw_2_141 : Cond.static yX4_isDigit ∈ BIG := big_of (tin_2 _ (List.mem_of_getElem? (i := 141) (by decide +kernel))) rfl
theorem bw_2_142 : Cond.code yX4_isDigit cX4_isDigit 1 (some .boolean) ∈ BIG := big_of (tin_2 _ (List.mem_of_getElem? (i := 142) (by decide +kernel))) rfl
theorem bw_2_143 : Cond.methodLink RX4 100 yX4_endOfDigits ∈ BIG := big_of (tin_2 _ (List.mem_of_getElem? (i := 143) (by decide +kernel))) rfl
theorem bw_2_145 : Cond.instanceMethod yX4_endOfDigits ∈ BIG := big_of (tin_2 _ (List.mem_of_getElem? (i := 145) (by decide +kernel))) rfl
theorem bw_p_5 : Cond.selects RX4 yX4_endOfDigits yX4_endOfDigits ∈ BIG := big_of (tin_p _ (List.mem_of_getElem? (i := 5) (by decide +kernel))) rfl
theorem bw_2_146 : Cond.code yX4_endOfDigits cX4_endOfDigits 3 (some .int) ∈ BIG := big_of (tin_2 _ (List.mem_of_getElem? (i := 146) (by decide +kernel))) rfl
theorem bw_2_147 : Cond.methodLink RX4 103 yX4_numberToken ∈ BIG := big_of (tin_2 _ (List.mem_of_getElem? (i := 147) (by decide +kernel))) rfl
theorem bw_2_149 : Cond.instanceMethod yX4_numberToken ∈ BIG := big_of (tin_2 _ (List.mem_of_getElem? (i := 149) (by decide +kernel))) rfl
theorem bw_p_6 : Cond.selects RX4 yX4_numberToken yX4_numberToken ∈ BIG := big_of (tin_p _ (List.mem_of_getElem? (i := 6) (by decide +kernel))) rfl
theorem bw_2_150 : Cond.code yX4_numberToken cX4_numberToken 2 (some .int) ∈ BIG := big_of (tin_2 _ (List.mem_of_getElem? (i := 150) (by decide +kernel))) rfl
theorem bw_1_87 : Cond.fieldLink RX4 63 "SelfScale$Reader" "number" "I" ∈ BIG := big_of (tin_1 _ (List.mem_of_getElem? (i := 87) (by decide +kernel))) rfl
theorem bw_2_151 : Cond.methodLink RX4 33 yX4_mayBegin ∈ BIG := big_of (tin_2 _ (List.mem_of_getElem? (i := 151) (by decide +kernel))) rfl
theorem bw_2_153 : Cond.instanceMethod yX4_mayBegin ∈ BIG := big_of (tin_2 _ (List.mem_of_getElem? (i := 153) (by decide +kernel))) rfl
theorem bw_p_7 : Cond.selects RX4 yX4_mayBegin yX4_mayBegin ∈ BIG := big_of (tin_p _ (List.mem_of_getElem? (i := 7) (by decide +kernel))) rfl
theorem bw_2_154 : Cond.code yX4_mayBegin cX4_mayBegin 2 (some .boolean) ∈ BIG := big_of (tin_2 _ (List.mem_of_getElem? (i := 154) (by decide +kernel))) rfl
theorem bw_2_155 : Cond.methodLink RX4 60 yX6_things ∈ BIG := big_of (tin_2 _ (List.mem_of_getElem? (i := 155) (by decide +kernel))) rfl
theorem bw_2_156 : Cond.instanceMethod yX6_things ∈ BIG := big_of (tin_2 _ (List.mem_of_getElem? (i := 156) (by decide +kernel))) rfl
theorem bw_2_157 : Cond.selects RX6 yX6_things yX6_things ∈ BIG := big_of (tin_2 _ (List.mem_of_getElem? (i := 157) (by decide +kernel))) rfl
theorem bw_2_158 : Cond.code yX6_things cX6_things 1 (some .int) ∈ BIG := big_of (tin_2 _ (List.mem_of_getElem? (i := 158) (by decide +kernel))) rfl
theorem bw_2_159 : Cond.methodLink RX4 37 yX4_mayTake ∈ BIG := big_of (tin_2 _ (List.mem_of_getElem? (i := 159) (by decide +kernel))) rfl
theorem bw_2_161 : Cond.instanceMethod yX4_mayTake ∈ BIG := big_of (tin_2 _ (List.mem_of_getElem? (i := 161) (by decide +kernel))) rfl
theorem bw_p_8 : Cond.selects RX4 yX4_mayTake yX4_mayTake ∈ BIG := big_of (tin_p _ (List.mem_of_getElem? (i := 8) (by decide +kernel))) rfl
theorem bw_2_162 : Cond.code yX4_mayTake cX4_mayTake 2 (some .boolean) ∈ BIG := big_of (tin_2 _ (List.mem_of_getElem? (i := 162) (by decide +kernel))) rfl
theorem bw_2_163 : Cond.methodLink RX4 43 yX4_take ∈ BIG := big_of (tin_2 _ (List.mem_of_getElem? (i := 163) (by decide +kernel))) rfl
theorem bw_2_165 : Cond.instanceMethod yX4_take ∈ BIG := big_of (tin_2 _ (List.mem_of_getElem? (i := 165) (by decide +kernel))) rfl
theorem bw_p_9 : Cond.selects RX4 yX4_take yX4_take ∈ BIG := big_of (tin_p _ (List.mem_of_getElem? (i := 9) (by decide +kernel))) rfl
theorem bw_2_166 : Cond.code yX4_take cX4_take 2 none ∈ BIG := big_of (tin_2 _ (List.mem_of_getElem? (i := 166) (by decide +kernel))) rfl
theorem bw_2_167 : Cond.methodLink RX4 70 yX6_addThing ∈ BIG := big_of (tin_2 _ (List.mem_of_getElem? (i := 167) (by decide +kernel))) rfl
theorem bw_2_168 : Cond.instanceMethod yX6_addThing ∈ BIG := big_of (tin_2 _ (List.mem_of_getElem? (i := 168) (by decide +kernel))) rfl
theorem bw_2_169 : Cond.selects RX6 yX6_addThing yX6_addThing ∈ BIG := big_of (tin_2 _ (List.mem_of_getElem? (i := 169) (by decide +kernel))) rfl
theorem bw_2_170 : Cond.code yX6_addThing cX6_addThing 2 none ∈ BIG := big_of (tin_2 _ (List.mem_of_getElem? (i := 170) (by decide +kernel))) rfl
theorem bw_2_171 : Cond.methodLink RX6 37 yX5_put ∈ BIG := big_of (tin_2 _ (List.mem_of_getElem? (i := 171) (by decide +kernel))) rfl
theorem bw_2_172 : Cond.methodLink RX4 73 yX6_setOwn ∈ BIG := big_of (tin_2 _ (List.mem_of_getElem? (i := 172) (by decide +kernel))) rfl
theorem bw_2_173 : Cond.instanceMethod yX6_setOwn ∈ BIG := big_of (tin_2 _ (List.mem_of_getElem? (i := 173) (by decide +kernel))) rfl
theorem bw_2_174 : Cond.selects RX6 yX6_setOwn yX6_setOwn ∈ BIG := big_of (tin_2 _ (List.mem_of_getElem? (i := 174) (by decide +kernel))) rfl
theorem bw_2_175 : Cond.code yX6_setOwn cX6_setOwn 2 none ∈ BIG := big_of (tin_2 _ (List.mem_of_getElem? (i := 175) (by decide +kernel))) rfl
theorem bw_2_176 : Cond.methodLink RX4 76 yX6_setFigures ∈ BIG := big_of (tin_2 _ (List.mem_of_getElem? (i := 176) (by decide +kernel))) rfl
theorem bw_2_177 : Cond.instanceMethod yX6_setFigures ∈ BIG := big_of (tin_2 _ (List.mem_of_getElem? (i := 177) (by decide +kernel))) rfl
theorem bw_2_178 : Cond.selects RX6 yX6_setFigures yX6_setFigures ∈ BIG := big_of (tin_2 _ (List.mem_of_getElem? (i := 178) (by decide +kernel))) rfl
theorem bw_2_179 : Cond.code yX6_setFigures cX6_setFigures 2 none ∈ BIG := big_of (tin_2 _ (List.mem_of_getElem? (i := 179) (by decide +kernel))) rfl
theorem bw_2_180 : Cond.methodLink RX9 88 yX4_told ∈ BIG := big_of (tin_2 _ (List.mem_of_getElem? (i := 180) (by decide +kernel))) rfl
theorem bw_2_181 : Cond.instanceMethod yX4_told ∈ BIG := big_of (tin_2 _ (List.mem_of_getElem? (i := 181) (by decide +kernel))) rfl
theorem bw_2_182 : Cond.selects RX4 yX4_told yX4_told ∈ BIG := big_of (tin_2 _ (List.mem_of_getElem? (i := 182) (by decide +kernel))) rfl
theorem bw_2_183 : Cond.code yX4_told cX4_told 1 (some (.object "SelfScale$Scale")) ∈ BIG := big_of (tin_2 _ (List.mem_of_getElem? (i := 183) (by decide +kernel))) rfl
theorem bw_2_184 : Cond.methodLink RX9 92 yX6_copyFrom ∈ BIG := big_of (tin_2 _ (List.mem_of_getElem? (i := 184) (by decide +kernel))) rfl
theorem bw_2_185 : Cond.instanceMethod yX6_copyFrom ∈ BIG := big_of (tin_2 _ (List.mem_of_getElem? (i := 185) (by decide +kernel))) rfl
theorem bw_2_186 : Cond.selects RX6 yX6_copyFrom yX6_copyFrom ∈ BIG := big_of (tin_2 _ (List.mem_of_getElem? (i := 186) (by decide +kernel))) rfl
theorem bw_2_187 : Cond.code yX6_copyFrom cX6_copyFrom 2 none ∈ BIG := big_of (tin_2 _ (List.mem_of_getElem? (i := 187) (by decide +kernel))) rfl
theorem bw_2_188 : Cond.methodLink RX6 33 yX5_copyFrom ∈ BIG := big_of (tin_2 _ (List.mem_of_getElem? (i := 188) (by decide +kernel))) rfl
theorem bw_2_189 : Cond.instanceMethod yX5_copyFrom ∈ BIG := big_of (tin_2 _ (List.mem_of_getElem? (i := 189) (by decide +kernel))) rfl
theorem bw_2_190 : Cond.selects RX5 yX5_copyFrom yX5_copyFrom ∈ BIG := big_of (tin_2 _ (List.mem_of_getElem? (i := 190) (by decide +kernel))) rfl
theorem bw_2_191 : Cond.code yX5_copyFrom cX5_copyFrom 3 none ∈ BIG := big_of (tin_2 _ (List.mem_of_getElem? (i := 191) (by decide +kernel))) rfl
theorem bw_2_192 : Cond.methodLink RX5 13 yX5_get ∈ BIG := big_of (tin_2 _ (List.mem_of_getElem? (i := 192) (by decide +kernel))) rfl
theorem bw_2_193 : Cond.methodLink RX9 96 yX0_wipe ∈ BIG := big_of (tin_2 _ (List.mem_of_getElem? (i := 193) (by decide +kernel))) rfl
theorem bw_2_194 : Cond.instanceMethod yX0_wipe ∈ BIG := big_of (tin_2 _ (List.mem_of_getElem? (i := 194) (by decide +kernel))) rfl
theorem bw_2_195 : Cond.selects RX0 yX0_wipe yX0_wipe ∈ BIG := big_of (tin_2 _ (List.mem_of_getElem? (i := 195) (by decide +kernel))) rfl
theorem bw_2_196 : Cond.code yX0_wipe cX0_wipe 1 none ∈ BIG := big_of (tin_2 _ (List.mem_of_getElem? (i := 196) (by decide +kernel))) rfl
theorem bw_1_118 : Cond.fieldLink RX0 26 "SelfScale$Book" "lines" "I" ∈ BIG := big_of (tin_1 _ (List.mem_of_getElem? (i := 118) (by decide +kernel))) rfl
theorem bw_2_197 : Cond.methodLink RX9 97 yX1_drop ∈ BIG := big_of (tin_2 _ (List.mem_of_getElem? (i := 197) (by decide +kernel))) rfl
theorem bw_2_198 : Cond.instanceMethod yX1_drop ∈ BIG := big_of (tin_2 _ (List.mem_of_getElem? (i := 198) (by decide +kernel))) rfl
theorem bw_2_199 : Cond.selects RX1 yX1_drop yX1_drop ∈ BIG := big_of (tin_2 _ (List.mem_of_getElem? (i := 199) (by decide +kernel))) rfl
theorem bw_2_200 : Cond.code yX1_drop cX1_drop 1 none ∈ BIG := big_of (tin_2 _ (List.mem_of_getElem? (i := 200) (by decide +kernel))) rfl
theorem bw_1_137 : Cond.fieldLink RX1 20 "SelfScale$Image" "isKept" "Z" ∈ BIG := big_of (tin_1 _ (List.mem_of_getElem? (i := 137) (by decide +kernel))) rfl
theorem bw_2_201 : Cond.methodLink RX9 100 yX8_forget ∈ BIG := big_of (tin_2 _ (List.mem_of_getElem? (i := 201) (by decide +kernel))) rfl
theorem bw_2_202 : Cond.instanceMethod yX8_forget ∈ BIG := big_of (tin_2 _ (List.mem_of_getElem? (i := 202) (by decide +kernel))) rfl
theorem bw_2_203 : Cond.selects RX8 yX8_forget yX8_forget ∈ BIG := big_of (tin_2 _ (List.mem_of_getElem? (i := 203) (by decide +kernel))) rfl
theorem bw_2_204 : Cond.code yX8_forget cX8_forget 1 none ∈ BIG := big_of (tin_2 _ (List.mem_of_getElem? (i := 204) (by decide +kernel))) rfl
theorem bw_1_174 : Cond.fieldLink RX8 40 "SelfScale$Worlds" "isKnown" "Z" ∈ BIG := big_of (tin_1 _ (List.mem_of_getElem? (i := 174) (by decide +kernel))) rfl
theorem bw_2_205 : Cond.methodLink RX9 103 yX4_items ∈ BIG := big_of (tin_2 _ (List.mem_of_getElem? (i := 205) (by decide +kernel))) rfl
theorem bw_2_206 : Cond.instanceMethod yX4_items ∈ BIG := big_of (tin_2 _ (List.mem_of_getElem? (i := 206) (by decide +kernel))) rfl
theorem bw_2_207 : Cond.selects RX4 yX4_items yX4_items ∈ BIG := big_of (tin_2 _ (List.mem_of_getElem? (i := 207) (by decide +kernel))) rfl
theorem bw_2_208 : Cond.code yX4_items cX4_items 1 (some .int) ∈ BIG := big_of (tin_2 _ (List.mem_of_getElem? (i := 208) (by decide +kernel))) rfl
theorem bw_4_214 : Cond.methodLink RL 28 yX10_market ∈ BIG := big_of (tin_4 _ (List.mem_of_getElem? (i := 214) (by decide +kernel))) rfl
theorem bw_4_215 : Cond.instanceMethod yX10_market ∈ BIG := big_of (tin_4 _ (List.mem_of_getElem? (i := 215) (by decide +kernel))) rfl
theorem bw_4_216 : Cond.selects RX10 yX10_market yX10_market ∈ BIG := big_of (tin_4 _ (List.mem_of_getElem? (i := 216) (by decide +kernel))) rfl
theorem bw_4_217 : Cond.code yX10_market cX10_market 3 (some .int) ∈ BIG := big_of (tin_4 _ (List.mem_of_getElem? (i := 217) (by decide +kernel))) rfl
theorem bw_4_146 : Cond.fieldLink RX10 58 "SelfScaleModel" "at" "I" ∈ BIG := big_of (tin_4 _ (List.mem_of_getElem? (i := 146) (by decide +kernel))) rfl
theorem bw_4_150 : Cond.fieldLink RX10 76 "SelfScaleModel" "fault" "I" ∈ BIG := big_of (tin_4 _ (List.mem_of_getElem? (i := 150) (by decide +kernel))) rfl
theorem bw_4_151 : Cond.fieldLink RX10 86 "SelfScaleModel" "told" "I" ∈ BIG := big_of (tin_4 _ (List.mem_of_getElem? (i := 151) (by decide +kernel))) rfl
theorem bw_4_148 : Cond.fieldLink RX10 71 "SelfScaleModel" "sort" "I" ∈ BIG := big_of (tin_4 _ (List.mem_of_getElem? (i := 148) (by decide +kernel))) rfl
theorem bw_4_218 : Cond.methodLink RX10 79 yX10_nextToken ∈ BIG := big_of (tin_4 _ (List.mem_of_getElem? (i := 218) (by decide +kernel))) rfl
theorem bw_4_220 : Cond.instanceMethod yX10_nextToken ∈ BIG := big_of (tin_4 _ (List.mem_of_getElem? (i := 220) (by decide +kernel))) rfl
theorem bw_p_35 : Cond.selects RX10 yX10_nextToken yX10_nextToken ∈ BIG := big_of (tin_p _ (List.mem_of_getElem? (i := 35) (by decide +kernel))) rfl
theorem bw_4_221 : Cond.code yX10_nextToken cX10_nextToken 5 none ∈ BIG := big_of (tin_4 _ (List.mem_of_getElem? (i := 221) (by decide +kernel))) rfl
theorem bw_4_147 : Cond.fieldLink RX10 65 "SelfScaleModel" "start" "I" ∈ BIG := big_of (tin_4 _ (List.mem_of_getElem? (i := 147) (by decide +kernel))) rfl
theorem bw_4_149 : Cond.fieldLink RX10 68 "SelfScaleModel" "value" "I" ∈ BIG := big_of (tin_4 _ (List.mem_of_getElem? (i := 149) (by decide +kernel))) rfl
theorem bw_4_226 : Cond.constant RX10 74 (10793230) ∈ BIG := big_of (tin_4 _ (List.mem_of_getElem? (i := 226) (by decide +kernel))) rfl
theorem bw_4_227 : Cond.constant RX10 75 (91029992) ∈ BIG := big_of (tin_4 _ (List.mem_of_getElem? (i := 227) (by decide +kernel))) rfl
theorem bw_4_222 : Cond.methodLink RX10 61 yX10_here ∈ BIG := big_of (tin_4 _ (List.mem_of_getElem? (i := 222) (by decide +kernel))) rfl
theorem bw_4_224 : Cond.instanceMethod yX10_here ∈ BIG := big_of (tin_4 _ (List.mem_of_getElem? (i := 224) (by decide +kernel))) rfl
theorem bw_p_36 : Cond.selects RX10 yX10_here yX10_here ∈ BIG := big_of (tin_p _ (List.mem_of_getElem? (i := 36) (by decide +kernel))) rfl
theorem bw_4_225 : Cond.code yX10_here cX10_here 1 (some .int) ∈ BIG := big_of (tin_4 _ (List.mem_of_getElem? (i := 225) (by decide +kernel))) rfl
theorem bw_4_228 : Cond.methodLink RX10 93 yX10_readItem ∈ BIG := big_of (tin_4 _ (List.mem_of_getElem? (i := 228) (by decide +kernel))) rfl
theorem bw_4_230 : Cond.instanceMethod yX10_readItem ∈ BIG := big_of (tin_4 _ (List.mem_of_getElem? (i := 230) (by decide +kernel))) rfl
theorem bw_p_37 : Cond.selects RX10 yX10_readItem yX10_readItem ∈ BIG := big_of (tin_p _ (List.mem_of_getElem? (i := 37) (by decide +kernel))) rfl
theorem bw_4_231 : Cond.code yX10_readItem cX10_readItem 2 none ∈ BIG := big_of (tin_4 _ (List.mem_of_getElem? (i := 231) (by decide +kernel))) rfl
theorem bw_4_232 : Cond.methodLink RX10 82 yX10_due ∈ BIG := big_of (tin_4 _ (List.mem_of_getElem? (i := 232) (by decide +kernel))) rfl
theorem bw_4_234 : Cond.instanceMethod yX10_due ∈ BIG := big_of (tin_4 _ (List.mem_of_getElem? (i := 234) (by decide +kernel))) rfl
theorem bw_p_38 : Cond.selects RX10 yX10_due yX10_due ∈ BIG := big_of (tin_p _ (List.mem_of_getElem? (i := 38) (by decide +kernel))) rfl
theorem bw_4_235 : Cond.code yX10_due cX10_due 3 (some .int) ∈ BIG := big_of (tin_4 _ (List.mem_of_getElem? (i := 235) (by decide +kernel))) rfl
theorem bw_4_236 : Cond.methodLink RX10 89 yX10_number ∈ BIG := big_of (tin_4 _ (List.mem_of_getElem? (i := 236) (by decide +kernel))) rfl
theorem bw_4_238 : Cond.instanceMethod yX10_number ∈ BIG := big_of (tin_4 _ (List.mem_of_getElem? (i := 238) (by decide +kernel))) rfl
theorem bw_p_39 : Cond.selects RX10 yX10_number yX10_number ∈ BIG := big_of (tin_p _ (List.mem_of_getElem? (i := 39) (by decide +kernel))) rfl
theorem bw_4_239 : Cond.code yX10_number cX10_number 3 (some .int) ∈ BIG := big_of (tin_4 _ (List.mem_of_getElem? (i := 239) (by decide +kernel))) rfl
theorem bw_2_210 : Cond.methodLink RL 29 yX9_thing ∈ BIG := big_of (tin_2 _ (List.mem_of_getElem? (i := 210) (by decide +kernel))) rfl
theorem bw_2_211 : Cond.instanceMethod yX9_thing ∈ BIG := big_of (tin_2 _ (List.mem_of_getElem? (i := 211) (by decide +kernel))) rfl
theorem bw_2_212 : Cond.selects RX9 yX9_thing yX9_thing ∈ BIG := big_of (tin_2 _ (List.mem_of_getElem? (i := 212) (by decide +kernel))) rfl
theorem bw_2_213 : Cond.code yX9_thing cX9_thing 2 (some .int) ∈ BIG := big_of (tin_2 _ (List.mem_of_getElem? (i := 213) (by decide +kernel))) rfl
theorem bw_2_214 : Cond.methodLink RX9 106 yX9_isItem ∈ BIG := big_of (tin_2 _ (List.mem_of_getElem? (i := 214) (by decide +kernel))) rfl
theorem bw_2_216 : Cond.instanceMethod yX9_isItem ∈ BIG := big_of (tin_2 _ (List.mem_of_getElem? (i := 216) (by decide +kernel))) rfl
theorem bw_p_10 : Cond.selects RX9 yX9_isItem yX9_isItem ∈ BIG := big_of (tin_p _ (List.mem_of_getElem? (i := 10) (by decide +kernel))) rfl
theorem bw_2_217 : Cond.code yX9_isItem cX9_isItem 2 (some .boolean) ∈ BIG := big_of (tin_2 _ (List.mem_of_getElem? (i := 217) (by decide +kernel))) rfl
theorem bw_2_218 : Cond.methodLink RX9 179 yX6_things ∈ BIG := big_of (tin_2 _ (List.mem_of_getElem? (i := 218) (by decide +kernel))) rfl
theorem bw_2_219 : Cond.methodLink RX9 117 yX9_isBetween ∈ BIG := big_of (tin_2 _ (List.mem_of_getElem? (i := 219) (by decide +kernel))) rfl
theorem bw_2_220 : Cond.methodLink RX9 110 yX6_weightOf ∈ BIG := big_of (tin_2 _ (List.mem_of_getElem? (i := 220) (by decide +kernel))) rfl
theorem bw_2_221 : Cond.instanceMethod yX6_weightOf ∈ BIG := big_of (tin_2 _ (List.mem_of_getElem? (i := 221) (by decide +kernel))) rfl
theorem bw_2_222 : Cond.selects RX6 yX6_weightOf yX6_weightOf ∈ BIG := big_of (tin_2 _ (List.mem_of_getElem? (i := 222) (by decide +kernel))) rfl
theorem bw_2_223 : Cond.code yX6_weightOf cX6_weightOf 2 (some .int) ∈ BIG := big_of (tin_2 _ (List.mem_of_getElem? (i := 223) (by decide +kernel))) rfl
theorem bw_2_224 : Cond.methodLink RX6 41 yX5_get ∈ BIG := big_of (tin_2 _ (List.mem_of_getElem? (i := 224) (by decide +kernel))) rfl
theorem bw_5_0 : Cond.methodLink RL 33 yX10_thing ∈ BIG := big_of (tin_5 _ (List.mem_of_getElem? (i := 0) (by decide +kernel))) rfl
theorem bw_5_1 : Cond.instanceMethod yX10_thing ∈ BIG := big_of (tin_5 _ (List.mem_of_getElem? (i := 1) (by decide +kernel))) rfl
theorem bw_5_2 : Cond.selects RX10 yX10_thing yX10_thing ∈ BIG := big_of (tin_5 _ (List.mem_of_getElem? (i := 2) (by decide +kernel))) rfl
theorem bw_5_3 : Cond.code yX10_thing cX10_thing 2 (some .int) ∈ BIG := big_of (tin_5 _ (List.mem_of_getElem? (i := 3) (by decide +kernel))) rfl
theorem bw_5_4 : Cond.methodLink RX10 96 yX10_isThing ∈ BIG := big_of (tin_5 _ (List.mem_of_getElem? (i := 4) (by decide +kernel))) rfl
theorem bw_5_6 : Cond.instanceMethod yX10_isThing ∈ BIG := big_of (tin_5 _ (List.mem_of_getElem? (i := 6) (by decide +kernel))) rfl
theorem bw_p_40 : Cond.selects RX10 yX10_isThing yX10_isThing ∈ BIG := big_of (tin_p _ (List.mem_of_getElem? (i := 40) (by decide +kernel))) rfl
theorem bw_5_7 : Cond.code yX10_isThing cX10_isThing 2 (some .boolean) ∈ BIG := big_of (tin_5 _ (List.mem_of_getElem? (i := 7) (by decide +kernel))) rfl
theorem bw_2_225 : Cond.methodLink RL 34 yX9_weigh ∈ BIG := big_of (tin_2 _ (List.mem_of_getElem? (i := 225) (by decide +kernel))) rfl
theorem bw_2_226 : Cond.instanceMethod yX9_weigh ∈ BIG := big_of (tin_2 _ (List.mem_of_getElem? (i := 226) (by decide +kernel))) rfl
theorem bw_2_227 : Cond.selects RX9 yX9_weigh yX9_weigh ∈ BIG := big_of (tin_2 _ (List.mem_of_getElem? (i := 227) (by decide +kernel))) rfl
theorem bw_2_228 : Cond.code yX9_weigh cX9_weigh 5 (some .int) ∈ BIG := big_of (tin_2 _ (List.mem_of_getElem? (i := 228) (by decide +kernel))) rfl
theorem bw_2_229 : Cond.methodLink RX9 114 yX9_isSet ∈ BIG := big_of (tin_2 _ (List.mem_of_getElem? (i := 229) (by decide +kernel))) rfl
theorem bw_2_231 : Cond.instanceMethod yX9_isSet ∈ BIG := big_of (tin_2 _ (List.mem_of_getElem? (i := 231) (by decide +kernel))) rfl
theorem bw_p_11 : Cond.selects RX9 yX9_isSet yX9_isSet ∈ BIG := big_of (tin_p _ (List.mem_of_getElem? (i := 11) (by decide +kernel))) rfl
theorem bw_2_232 : Cond.code yX9_isSet cX9_isSet 2 (some .boolean) ∈ BIG := big_of (tin_2 _ (List.mem_of_getElem? (i := 232) (by decide +kernel))) rfl
theorem bw_2_233 : Cond.methodLink RX9 249 yX6_sets ∈ BIG := big_of (tin_2 _ (List.mem_of_getElem? (i := 233) (by decide +kernel))) rfl
theorem bw_2_234 : Cond.instanceMethod yX6_sets ∈ BIG := big_of (tin_2 _ (List.mem_of_getElem? (i := 234) (by decide +kernel))) rfl
theorem bw_2_235 : Cond.selects RX6 yX6_sets yX6_sets ∈ BIG := big_of (tin_2 _ (List.mem_of_getElem? (i := 235) (by decide +kernel))) rfl
theorem bw_2_236 : Cond.code yX6_sets cX6_sets 1 (some .int) ∈ BIG := big_of (tin_2 _ (List.mem_of_getElem? (i := 236) (by decide +kernel))) rfl
theorem bw_2_237 : Cond.methodLink RX9 121 yX0_isFull ∈ BIG := big_of (tin_2 _ (List.mem_of_getElem? (i := 237) (by decide +kernel))) rfl
theorem bw_2_238 : Cond.instanceMethod yX0_isFull ∈ BIG := big_of (tin_2 _ (List.mem_of_getElem? (i := 238) (by decide +kernel))) rfl
theorem bw_2_239 : Cond.selects RX0 yX0_isFull yX0_isFull ∈ BIG := big_of (tin_2 _ (List.mem_of_getElem? (i := 239) (by decide +kernel))) rfl
theorem bw_3_0 : Cond.code yX0_isFull cX0_isFull 1 (some .boolean) ∈ BIG := big_of (tin_3 _ (List.mem_of_getElem? (i := 0) (by decide +kernel))) rfl
theorem bw_3_1 : Cond.methodLink RX9 125 yX6_loadOf ∈ BIG := big_of (tin_3 _ (List.mem_of_getElem? (i := 1) (by decide +kernel))) rfl
theorem bw_3_2 : Cond.instanceMethod yX6_loadOf ∈ BIG := big_of (tin_3 _ (List.mem_of_getElem? (i := 2) (by decide +kernel))) rfl
theorem bw_3_3 : Cond.selects RX6 yX6_loadOf yX6_loadOf ∈ BIG := big_of (tin_3 _ (List.mem_of_getElem? (i := 3) (by decide +kernel))) rfl
theorem bw_3_4 : Cond.code yX6_loadOf cX6_loadOf 4 (some .int) ∈ BIG := big_of (tin_3 _ (List.mem_of_getElem? (i := 4) (by decide +kernel))) rfl
theorem bw_3_5 : Cond.methodLink RX9 128 yX6_own ∈ BIG := big_of (tin_3 _ (List.mem_of_getElem? (i := 5) (by decide +kernel))) rfl
theorem bw_3_6 : Cond.instanceMethod yX6_own ∈ BIG := big_of (tin_3 _ (List.mem_of_getElem? (i := 6) (by decide +kernel))) rfl
theorem bw_3_7 : Cond.selects RX6 yX6_own yX6_own ∈ BIG := big_of (tin_3 _ (List.mem_of_getElem? (i := 7) (by decide +kernel))) rfl
theorem bw_3_8 : Cond.code yX6_own cX6_own 1 (some .int) ∈ BIG := big_of (tin_3 _ (List.mem_of_getElem? (i := 8) (by decide +kernel))) rfl
theorem bw_3_9 : Cond.methodLink RX9 131 yX6_leftOver ∈ BIG := big_of (tin_3 _ (List.mem_of_getElem? (i := 9) (by decide +kernel))) rfl
theorem bw_3_10 : Cond.instanceMethod yX6_leftOver ∈ BIG := big_of (tin_3 _ (List.mem_of_getElem? (i := 10) (by decide +kernel))) rfl
theorem bw_3_11 : Cond.selects RX6 yX6_leftOver yX6_leftOver ∈ BIG := big_of (tin_3 _ (List.mem_of_getElem? (i := 11) (by decide +kernel))) rfl
theorem bw_3_12 : Cond.code yX6_leftOver cX6_leftOver 2 (some .int) ∈ BIG := big_of (tin_3 _ (List.mem_of_getElem? (i := 12) (by decide +kernel))) rfl
theorem bw_3_13 : Cond.methodLink RX9 134 yX0_add ∈ BIG := big_of (tin_3 _ (List.mem_of_getElem? (i := 13) (by decide +kernel))) rfl
theorem bw_3_14 : Cond.instanceMethod yX0_add ∈ BIG := big_of (tin_3 _ (List.mem_of_getElem? (i := 14) (by decide +kernel))) rfl
theorem bw_3_15 : Cond.selects RX0 yX0_add yX0_add ∈ BIG := big_of (tin_3 _ (List.mem_of_getElem? (i := 15) (by decide +kernel))) rfl
theorem bw_3_16 : Cond.code yX0_add cX0_add 4 none ∈ BIG := big_of (tin_3 _ (List.mem_of_getElem? (i := 16) (by decide +kernel))) rfl
theorem bw_3_17 : Cond.methodLink RX0 30 yX0_isFull ∈ BIG := big_of (tin_3 _ (List.mem_of_getElem? (i := 17) (by decide +kernel))) rfl
theorem bw_3_18 : Cond.methodLink RX0 34 yX5_put ∈ BIG := big_of (tin_3 _ (List.mem_of_getElem? (i := 18) (by decide +kernel))) rfl
theorem bw_5_8 : Cond.methodLink RL 38 yX10_weigh ∈ BIG := big_of (tin_5 _ (List.mem_of_getElem? (i := 8) (by decide +kernel))) rfl
theorem bw_5_9 : Cond.instanceMethod yX10_weigh ∈ BIG := big_of (tin_5 _ (List.mem_of_getElem? (i := 9) (by decide +kernel))) rfl
theorem bw_5_10 : Cond.selects RX10 yX10_weigh yX10_weigh ∈ BIG := big_of (tin_5 _ (List.mem_of_getElem? (i := 10) (by decide +kernel))) rfl
theorem bw_5_11 : Cond.code yX10_weigh cX10_weigh 5 (some .int) ∈ BIG := big_of (tin_5 _ (List.mem_of_getElem? (i := 11) (by decide +kernel))) rfl
theorem bw_5_12 : Cond.methodLink RX10 100 yX10_isSet ∈ BIG := big_of (tin_5 _ (List.mem_of_getElem? (i := 12) (by decide +kernel))) rfl
theorem bw_5_14 : Cond.instanceMethod yX10_isSet ∈ BIG := big_of (tin_5 _ (List.mem_of_getElem? (i := 14) (by decide +kernel))) rfl
theorem bw_p_41 : Cond.selects RX10 yX10_isSet yX10_isSet ∈ BIG := big_of (tin_p _ (List.mem_of_getElem? (i := 41) (by decide +kernel))) rfl
theorem bw_5_15 : Cond.code yX10_isSet cX10_isSet 2 (some .boolean) ∈ BIG := big_of (tin_5 _ (List.mem_of_getElem? (i := 15) (by decide +kernel))) rfl
theorem bw_5_16 : Cond.methodLink RX10 103 yX10_trueSum ∈ BIG := big_of (tin_5 _ (List.mem_of_getElem? (i := 16) (by decide +kernel))) rfl
theorem bw_5_18 : Cond.instanceMethod yX10_trueSum ∈ BIG := big_of (tin_5 _ (List.mem_of_getElem? (i := 18) (by decide +kernel))) rfl
theorem bw_p_42 : Cond.selects RX10 yX10_trueSum yX10_trueSum ∈ BIG := big_of (tin_p _ (List.mem_of_getElem? (i := 42) (by decide +kernel))) rfl
theorem bw_5_19 : Cond.code yX10_trueSum cX10_trueSum 4 (some .int) ∈ BIG := big_of (tin_5 _ (List.mem_of_getElem? (i := 19) (by decide +kernel))) rfl
theorem bw_5_20 : Cond.methodLink RX10 107 yX10_put ∈ BIG := big_of (tin_5 _ (List.mem_of_getElem? (i := 20) (by decide +kernel))) rfl
theorem bw_5_22 : Cond.instanceMethod yX10_put ∈ BIG := big_of (tin_5 _ (List.mem_of_getElem? (i := 22) (by decide +kernel))) rfl
theorem bw_p_43 : Cond.selects RX10 yX10_put yX10_put ∈ BIG := big_of (tin_p _ (List.mem_of_getElem? (i := 43) (by decide +kernel))) rfl
theorem bw_5_23 : Cond.code yX10_put cX10_put 4 none ∈ BIG := big_of (tin_5 _ (List.mem_of_getElem? (i := 23) (by decide +kernel))) rfl
theorem bw_3_19 : Cond.methodLink RL 39 yX9_tell ∈ BIG := big_of (tin_3 _ (List.mem_of_getElem? (i := 19) (by decide +kernel))) rfl
theorem bw_3_20 : Cond.instanceMethod yX9_tell ∈ BIG := big_of (tin_3 _ (List.mem_of_getElem? (i := 20) (by decide +kernel))) rfl
theorem bw_3_21 : Cond.selects RX9 yX9_tell yX9_tell ∈ BIG := big_of (tin_3 _ (List.mem_of_getElem? (i := 21) (by decide +kernel))) rfl
theorem bw_3_22 : Cond.code yX9_tell cX9_tell 4 (some .int) ∈ BIG := big_of (tin_3 _ (List.mem_of_getElem? (i := 22) (by decide +kernel))) rfl
theorem bw_3_23 : Cond.methodLink RX9 138 yX6_figures ∈ BIG := big_of (tin_3 _ (List.mem_of_getElem? (i := 23) (by decide +kernel))) rfl
theorem bw_3_24 : Cond.instanceMethod yX6_figures ∈ BIG := big_of (tin_3 _ (List.mem_of_getElem? (i := 24) (by decide +kernel))) rfl
theorem bw_3_25 : Cond.selects RX6 yX6_figures yX6_figures ∈ BIG := big_of (tin_3 _ (List.mem_of_getElem? (i := 25) (by decide +kernel))) rfl
theorem bw_3_26 : Cond.code yX6_figures cX6_figures 1 (some .int) ∈ BIG := big_of (tin_3 _ (List.mem_of_getElem? (i := 26) (by decide +kernel))) rfl
theorem bw_3_27 : Cond.methodLink RX9 141 yX0_lines ∈ BIG := big_of (tin_3 _ (List.mem_of_getElem? (i := 27) (by decide +kernel))) rfl
theorem bw_3_28 : Cond.instanceMethod yX0_lines ∈ BIG := big_of (tin_3 _ (List.mem_of_getElem? (i := 28) (by decide +kernel))) rfl
theorem bw_3_29 : Cond.selects RX0 yX0_lines yX0_lines ∈ BIG := big_of (tin_3 _ (List.mem_of_getElem? (i := 29) (by decide +kernel))) rfl
theorem bw_3_30 : Cond.code yX0_lines cX0_lines 1 (some .int) ∈ BIG := big_of (tin_3 _ (List.mem_of_getElem? (i := 30) (by decide +kernel))) rfl
theorem bw_5_24 : Cond.methodLink RL 42 yX10_tell ∈ BIG := big_of (tin_5 _ (List.mem_of_getElem? (i := 24) (by decide +kernel))) rfl
theorem bw_5_25 : Cond.instanceMethod yX10_tell ∈ BIG := big_of (tin_5 _ (List.mem_of_getElem? (i := 25) (by decide +kernel))) rfl
theorem bw_5_26 : Cond.selects RX10 yX10_tell yX10_tell ∈ BIG := big_of (tin_5 _ (List.mem_of_getElem? (i := 26) (by decide +kernel))) rfl
theorem bw_5_27 : Cond.code yX10_tell cX10_tell 4 (some .int) ∈ BIG := big_of (tin_5 _ (List.mem_of_getElem? (i := 27) (by decide +kernel))) rfl
theorem bw_3_31 : Cond.methodLink RL 43 yX9_line ∈ BIG := big_of (tin_3 _ (List.mem_of_getElem? (i := 31) (by decide +kernel))) rfl
theorem bw_3_32 : Cond.instanceMethod yX9_line ∈ BIG := big_of (tin_3 _ (List.mem_of_getElem? (i := 32) (by decide +kernel))) rfl
theorem bw_3_33 : Cond.selects RX9 yX9_line yX9_line ∈ BIG := big_of (tin_3 _ (List.mem_of_getElem? (i := 33) (by decide +kernel))) rfl
theorem bw_3_34 : Cond.code yX9_line cX9_line 3 (some .int) ∈ BIG := big_of (tin_3 _ (List.mem_of_getElem? (i := 34) (by decide +kernel))) rfl
theorem bw_3_35 : Cond.methodLink RX9 144 yX9_isLine ∈ BIG := big_of (tin_3 _ (List.mem_of_getElem? (i := 35) (by decide +kernel))) rfl
theorem bw_3_37 : Cond.instanceMethod yX9_isLine ∈ BIG := big_of (tin_3 _ (List.mem_of_getElem? (i := 37) (by decide +kernel))) rfl
theorem bw_p_12 : Cond.selects RX9 yX9_isLine yX9_isLine ∈ BIG := big_of (tin_p _ (List.mem_of_getElem? (i := 12) (by decide +kernel))) rfl
theorem bw_3_38 : Cond.code yX9_isLine cX9_isLine 2 (some .boolean) ∈ BIG := big_of (tin_3 _ (List.mem_of_getElem? (i := 38) (by decide +kernel))) rfl
theorem bw_3_39 : Cond.methodLink RX9 147 yX0_setOf ∈ BIG := big_of (tin_3 _ (List.mem_of_getElem? (i := 39) (by decide +kernel))) rfl
theorem bw_3_40 : Cond.instanceMethod yX0_setOf ∈ BIG := big_of (tin_3 _ (List.mem_of_getElem? (i := 40) (by decide +kernel))) rfl
theorem bw_3_41 : Cond.selects RX0 yX0_setOf yX0_setOf ∈ BIG := big_of (tin_3 _ (List.mem_of_getElem? (i := 41) (by decide +kernel))) rfl
theorem bw_3_42 : Cond.code yX0_setOf cX0_setOf 2 (some .int) ∈ BIG := big_of (tin_3 _ (List.mem_of_getElem? (i := 42) (by decide +kernel))) rfl
theorem bw_3_43 : Cond.methodLink RX0 42 yX5_get ∈ BIG := big_of (tin_3 _ (List.mem_of_getElem? (i := 43) (by decide +kernel))) rfl
theorem bw_3_44 : Cond.methodLink RX9 150 yX0_shownOf ∈ BIG := big_of (tin_3 _ (List.mem_of_getElem? (i := 44) (by decide +kernel))) rfl
theorem bw_3_45 : Cond.instanceMethod yX0_shownOf ∈ BIG := big_of (tin_3 _ (List.mem_of_getElem? (i := 45) (by decide +kernel))) rfl
theorem bw_3_46 : Cond.selects RX0 yX0_shownOf yX0_shownOf ∈ BIG := big_of (tin_3 _ (List.mem_of_getElem? (i := 46) (by decide +kernel))) rfl
theorem bw_3_47 : Cond.code yX0_shownOf cX0_shownOf 2 (some .int) ∈ BIG := big_of (tin_3 _ (List.mem_of_getElem? (i := 47) (by decide +kernel))) rfl
theorem bw_3_48 : Cond.methodLink RX9 153 yX0_laughOf ∈ BIG := big_of (tin_3 _ (List.mem_of_getElem? (i := 48) (by decide +kernel))) rfl
theorem bw_3_49 : Cond.instanceMethod yX0_laughOf ∈ BIG := big_of (tin_3 _ (List.mem_of_getElem? (i := 49) (by decide +kernel))) rfl
theorem bw_3_50 : Cond.selects RX0 yX0_laughOf yX0_laughOf ∈ BIG := big_of (tin_3 _ (List.mem_of_getElem? (i := 50) (by decide +kernel))) rfl
theorem bw_3_51 : Cond.code yX0_laughOf cX0_laughOf 2 (some .int) ∈ BIG := big_of (tin_3 _ (List.mem_of_getElem? (i := 51) (by decide +kernel))) rfl
theorem bw_5_28 : Cond.methodLink RL 47 yX10_line ∈ BIG := big_of (tin_5 _ (List.mem_of_getElem? (i := 28) (by decide +kernel))) rfl
theorem bw_5_29 : Cond.instanceMethod yX10_line ∈ BIG := big_of (tin_5 _ (List.mem_of_getElem? (i := 29) (by decide +kernel))) rfl
theorem bw_5_30 : Cond.selects RX10 yX10_line yX10_line ∈ BIG := big_of (tin_5 _ (List.mem_of_getElem? (i := 30) (by decide +kernel))) rfl
theorem bw_5_31 : Cond.code yX10_line cX10_line 3 (some .int) ∈ BIG := big_of (tin_5 _ (List.mem_of_getElem? (i := 31) (by decide +kernel))) rfl
theorem bw_5_32 : Cond.methodLink RX10 111 yX10_isLine ∈ BIG := big_of (tin_5 _ (List.mem_of_getElem? (i := 32) (by decide +kernel))) rfl
theorem bw_5_34 : Cond.instanceMethod yX10_isLine ∈ BIG := big_of (tin_5 _ (List.mem_of_getElem? (i := 34) (by decide +kernel))) rfl
theorem bw_p_44 : Cond.selects RX10 yX10_isLine yX10_isLine ∈ BIG := big_of (tin_p _ (List.mem_of_getElem? (i := 44) (by decide +kernel))) rfl
theorem bw_5_35 : Cond.code yX10_isLine cX10_isLine 2 (some .boolean) ∈ BIG := big_of (tin_5 _ (List.mem_of_getElem? (i := 35) (by decide +kernel))) rfl
theorem bw_3_52 : Cond.methodLink RL 48 yX9_undo ∈ BIG := big_of (tin_3 _ (List.mem_of_getElem? (i := 52) (by decide +kernel))) rfl
theorem bw_3_53 : Cond.instanceMethod yX9_undo ∈ BIG := big_of (tin_3 _ (List.mem_of_getElem? (i := 53) (by decide +kernel))) rfl
theorem bw_3_54 : Cond.selects RX9 yX9_undo yX9_undo ∈ BIG := big_of (tin_3 _ (List.mem_of_getElem? (i := 54) (by decide +kernel))) rfl
theorem bw_3_55 : Cond.code yX9_undo cX9_undo 1 (some .int) ∈ BIG := big_of (tin_3 _ (List.mem_of_getElem? (i := 55) (by decide +kernel))) rfl
theorem bw_3_56 : Cond.methodLink RX9 156 yX0_dropLatest ∈ BIG := big_of (tin_3 _ (List.mem_of_getElem? (i := 56) (by decide +kernel))) rfl
theorem bw_3_57 : Cond.instanceMethod yX0_dropLatest ∈ BIG := big_of (tin_3 _ (List.mem_of_getElem? (i := 57) (by decide +kernel))) rfl
theorem bw_3_58 : Cond.selects RX0 yX0_dropLatest yX0_dropLatest ∈ BIG := big_of (tin_3 _ (List.mem_of_getElem? (i := 58) (by decide +kernel))) rfl
theorem bw_3_59 : Cond.code yX0_dropLatest cX0_dropLatest 1 none ∈ BIG := big_of (tin_3 _ (List.mem_of_getElem? (i := 59) (by decide +kernel))) rfl
theorem bw_5_36 : Cond.methodLink RL 51 yX10_undo ∈ BIG := big_of (tin_5 _ (List.mem_of_getElem? (i := 36) (by decide +kernel))) rfl
theorem bw_5_37 : Cond.instanceMethod yX10_undo ∈ BIG := big_of (tin_5 _ (List.mem_of_getElem? (i := 37) (by decide +kernel))) rfl
theorem bw_5_38 : Cond.selects RX10 yX10_undo yX10_undo ∈ BIG := big_of (tin_5 _ (List.mem_of_getElem? (i := 38) (by decide +kernel))) rfl
theorem bw_5_39 : Cond.code yX10_undo cX10_undo 1 (some .int) ∈ BIG := big_of (tin_5 _ (List.mem_of_getElem? (i := 39) (by decide +kernel))) rfl
theorem bw_3_60 : Cond.methodLink RL 52 yX9_could ∈ BIG := big_of (tin_3 _ (List.mem_of_getElem? (i := 60) (by decide +kernel))) rfl
theorem bw_3_61 : Cond.instanceMethod yX9_could ∈ BIG := big_of (tin_3 _ (List.mem_of_getElem? (i := 61) (by decide +kernel))) rfl
theorem bw_3_62 : Cond.selects RX9 yX9_could yX9_could ∈ BIG := big_of (tin_3 _ (List.mem_of_getElem? (i := 62) (by decide +kernel))) rfl
theorem bw_3_63 : Cond.code yX9_could cX9_could 3 (some .int) ∈ BIG := big_of (tin_3 _ (List.mem_of_getElem? (i := 63) (by decide +kernel))) rfl
theorem bw_3_64 : Cond.methodLink RX9 159 yX9_known ∈ BIG := big_of (tin_3 _ (List.mem_of_getElem? (i := 64) (by decide +kernel))) rfl
theorem bw_3_66 : Cond.instanceMethod yX9_known ∈ BIG := big_of (tin_3 _ (List.mem_of_getElem? (i := 66) (by decide +kernel))) rfl
theorem bw_p_13 : Cond.selects RX9 yX9_known yX9_known ∈ BIG := big_of (tin_p _ (List.mem_of_getElem? (i := 13) (by decide +kernel))) rfl
theorem bw_3_67 : Cond.code yX9_known cX9_known 1 (some (.object "SelfScale$Worlds")) ∈ BIG := big_of (tin_3 _ (List.mem_of_getElem? (i := 67) (by decide +kernel))) rfl
theorem bw_3_68 : Cond.methodLink RX9 182 yX8_learn ∈ BIG := big_of (tin_3 _ (List.mem_of_getElem? (i := 68) (by decide +kernel))) rfl
theorem bw_3_69 : Cond.instanceMethod yX8_learn ∈ BIG := big_of (tin_3 _ (List.mem_of_getElem? (i := 69) (by decide +kernel))) rfl
theorem bw_3_70 : Cond.selects RX8 yX8_learn yX8_learn ∈ BIG := big_of (tin_3 _ (List.mem_of_getElem? (i := 70) (by decide +kernel))) rfl
theorem bw_3_71 : Cond.code yX8_learn cX8_learn 2 none ∈ BIG := big_of (tin_3 _ (List.mem_of_getElem? (i := 71) (by decide +kernel))) rfl
theorem bw_1_175 : Cond.fieldLink RX8 44 "SelfScale$Worlds" "left" "I" ∈ BIG := big_of (tin_1 _ (List.mem_of_getElem? (i := 175) (by decide +kernel))) rfl
theorem bw_1_176 : Cond.fieldLink RX8 48 "SelfScale$Worlds" "fewestFalse" "I" ∈ BIG := big_of (tin_1 _ (List.mem_of_getElem? (i := 176) (by decide +kernel))) rfl
theorem bw_1_177 : Cond.fieldLink RX8 51 "SelfScale$Worlds" "everFalse" "I" ∈ BIG := big_of (tin_1 _ (List.mem_of_getElem? (i := 177) (by decide +kernel))) rfl
theorem bw_3_72 : Cond.methodLink RX8 54 yX5_wipe ∈ BIG := big_of (tin_3 _ (List.mem_of_getElem? (i := 72) (by decide +kernel))) rfl
theorem bw_3_73 : Cond.instanceMethod yX5_wipe ∈ BIG := big_of (tin_3 _ (List.mem_of_getElem? (i := 73) (by decide +kernel))) rfl
theorem bw_3_74 : Cond.selects RX5 yX5_wipe yX5_wipe ∈ BIG := big_of (tin_3 _ (List.mem_of_getElem? (i := 74) (by decide +kernel))) rfl
theorem bw_3_75 : Cond.code yX5_wipe cX5_wipe 2 none ∈ BIG := big_of (tin_3 _ (List.mem_of_getElem? (i := 75) (by decide +kernel))) rfl
theorem bw_3_76 : Cond.methodLink RX8 57 yX8_writeCodes ∈ BIG := big_of (tin_3 _ (List.mem_of_getElem? (i := 76) (by decide +kernel))) rfl
theorem bw_3_78 : Cond.instanceMethod yX8_writeCodes ∈ BIG := big_of (tin_3 _ (List.mem_of_getElem? (i := 78) (by decide +kernel))) rfl
theorem bw_p_14 : Cond.selects RX8 yX8_writeCodes yX8_writeCodes ∈ BIG := big_of (tin_p _ (List.mem_of_getElem? (i := 14) (by decide +kernel))) rfl
theorem bw_3_79 : Cond.code yX8_writeCodes cX8_writeCodes 3 none ∈ BIG := big_of (tin_3 _ (List.mem_of_getElem? (i := 79) (by decide +kernel))) rfl
theorem bw_3_80 : Cond.methodLink RX8 84 yX0_lines ∈ BIG := big_of (tin_3 _ (List.mem_of_getElem? (i := 80) (by decide +kernel))) rfl
theorem bw_3_81 : Cond.methodLink RX8 87 yX0_setOf ∈ BIG := big_of (tin_3 _ (List.mem_of_getElem? (i := 81) (by decide +kernel))) rfl
theorem bw_3_82 : Cond.methodLink RX8 90 yX8_codeOf ∈ BIG := big_of (tin_3 _ (List.mem_of_getElem? (i := 82) (by decide +kernel))) rfl
theorem bw_3_84 : Cond.instanceMethod yX8_codeOf ∈ BIG := big_of (tin_3 _ (List.mem_of_getElem? (i := 84) (by decide +kernel))) rfl
theorem bw_p_15 : Cond.selects RX8 yX8_codeOf yX8_codeOf ∈ BIG := big_of (tin_p _ (List.mem_of_getElem? (i := 15) (by decide +kernel))) rfl
theorem bw_3_85 : Cond.code yX8_codeOf cX8_codeOf 8 (some .int) ∈ BIG := big_of (tin_3 _ (List.mem_of_getElem? (i := 85) (by decide +kernel))) rfl
theorem bw_3_86 : Cond.methodLink RX8 67 yX0_laughOf ∈ BIG := big_of (tin_3 _ (List.mem_of_getElem? (i := 86) (by decide +kernel))) rfl
theorem bw_3_87 : Cond.methodLink RX8 98 yX6_leftOver ∈ BIG := big_of (tin_3 _ (List.mem_of_getElem? (i := 87) (by decide +kernel))) rfl
theorem bw_3_88 : Cond.methodLink RX8 103 yX0_shownOf ∈ BIG := big_of (tin_3 _ (List.mem_of_getElem? (i := 88) (by decide +kernel))) rfl
theorem bw_3_89 : Cond.methodLink RX8 94 yX5_join ∈ BIG := big_of (tin_3 _ (List.mem_of_getElem? (i := 89) (by decide +kernel))) rfl
theorem bw_3_90 : Cond.instanceMethod yX5_join ∈ BIG := big_of (tin_3 _ (List.mem_of_getElem? (i := 90) (by decide +kernel))) rfl
theorem bw_3_91 : Cond.selects RX5 yX5_join yX5_join ∈ BIG := big_of (tin_3 _ (List.mem_of_getElem? (i := 91) (by decide +kernel))) rfl
theorem bw_3_92 : Cond.code yX5_join cX5_join 3 none ∈ BIG := big_of (tin_3 _ (List.mem_of_getElem? (i := 92) (by decide +kernel))) rfl
theorem bw_3_93 : Cond.methodLink RX8 60 yX8_meetWorldsWith ∈ BIG := big_of (tin_3 _ (List.mem_of_getElem? (i := 93) (by decide +kernel))) rfl
theorem bw_3_95 : Cond.instanceMethod yX8_meetWorldsWith ∈ BIG := big_of (tin_3 _ (List.mem_of_getElem? (i := 95) (by decide +kernel))) rfl
theorem bw_p_16 : Cond.selects RX8 yX8_meetWorldsWith yX8_meetWorldsWith ∈ BIG := big_of (tin_p _ (List.mem_of_getElem? (i := 16) (by decide +kernel))) rfl
theorem bw_3_96 : Cond.code yX8_meetWorldsWith cX8_meetWorldsWith 9 none ∈ BIG := big_of (tin_3 _ (List.mem_of_getElem? (i := 96) (by decide +kernel))) rfl
theorem bw_3_97 : Cond.methodLink RX8 106 yX8_code ∈ BIG := big_of (tin_3 _ (List.mem_of_getElem? (i := 97) (by decide +kernel))) rfl
theorem bw_3_99 : Cond.instanceMethod yX8_code ∈ BIG := big_of (tin_3 _ (List.mem_of_getElem? (i := 99) (by decide +kernel))) rfl
theorem bw_p_17 : Cond.selects RX8 yX8_code yX8_code ∈ BIG := big_of (tin_p _ (List.mem_of_getElem? (i := 17) (by decide +kernel))) rfl
theorem bw_3_100 : Cond.code yX8_code cX8_code 3 (some .int) ∈ BIG := big_of (tin_3 _ (List.mem_of_getElem? (i := 100) (by decide +kernel))) rfl
theorem bw_3_101 : Cond.methodLink RX8 63 yX5_get ∈ BIG := big_of (tin_3 _ (List.mem_of_getElem? (i := 101) (by decide +kernel))) rfl
theorem bw_3_102 : Cond.methodLink RX8 109 yX8_leastOf ∈ BIG := big_of (tin_3 _ (List.mem_of_getElem? (i := 102) (by decide +kernel))) rfl
theorem bw_3_104 : Cond.instanceMethod yX8_leastOf ∈ BIG := big_of (tin_3 _ (List.mem_of_getElem? (i := 104) (by decide +kernel))) rfl
theorem bw_p_18 : Cond.selects RX8 yX8_leastOf yX8_leastOf ∈ BIG := big_of (tin_p _ (List.mem_of_getElem? (i := 18) (by decide +kernel))) rfl
theorem bw_3_105 : Cond.code yX8_leastOf cX8_leastOf 2 (some .int) ∈ BIG := big_of (tin_3 _ (List.mem_of_getElem? (i := 105) (by decide +kernel))) rfl
theorem bw_3_106 : Cond.methodLink RX8 118 yX6_things ∈ BIG := big_of (tin_3 _ (List.mem_of_getElem? (i := 106) (by decide +kernel))) rfl
theorem bw_3_107 : Cond.methodLink RX8 112 yX8_mostOf ∈ BIG := big_of (tin_3 _ (List.mem_of_getElem? (i := 107) (by decide +kernel))) rfl
theorem bw_3_109 : Cond.instanceMethod yX8_mostOf ∈ BIG := big_of (tin_3 _ (List.mem_of_getElem? (i := 109) (by decide +kernel))) rfl
theorem bw_p_19 : Cond.selects RX8 yX8_mostOf yX8_mostOf ∈ BIG := big_of (tin_p _ (List.mem_of_getElem? (i := 19) (by decide +kernel))) rfl
theorem bw_3_110 : Cond.code yX8_mostOf cX8_mostOf 2 (some .int) ∈ BIG := big_of (tin_3 _ (List.mem_of_getElem? (i := 110) (by decide +kernel))) rfl
theorem bw_3_111 : Cond.methodLink RX8 115 yX8_meet ∈ BIG := big_of (tin_3 _ (List.mem_of_getElem? (i := 111) (by decide +kernel))) rfl
theorem bw_3_113 : Cond.instanceMethod yX8_meet ∈ BIG := big_of (tin_3 _ (List.mem_of_getElem? (i := 113) (by decide +kernel))) rfl
theorem bw_p_20 : Cond.selects RX8 yX8_meet yX8_meet ∈ BIG := big_of (tin_p _ (List.mem_of_getElem? (i := 20) (by decide +kernel))) rfl
theorem bw_3_114 : Cond.code yX8_meet cX8_meet 5 none ∈ BIG := big_of (tin_3 _ (List.mem_of_getElem? (i := 114) (by decide +kernel))) rfl
theorem bw_3_115 : Cond.methodLink RX8 121 yJ6_bitCount_0f7a4 ∈ BIG := big_of (tin_3 _ (List.mem_of_getElem? (i := 115) (by decide +kernel))) rfl
theorem bw_3_116 : Cond.static yJ6_bitCount_0f7a4 ∈ BIG := big_of (tin_3 _ (List.mem_of_getElem? (i := 116) (by decide +kernel))) rfl
theorem bw_1_16 : Cond.initialized RJ6 ∈ BIG := big_of (tin_1 _ (List.mem_of_getElem? (i := 16) (by decide +kernel))) rfl
theorem bw_3_117 : Cond.code yJ6_bitCount_0f7a4 cJ6_bitCount_0f7a4 1 (some .int) ∈ BIG := big_of (tin_3 _ (List.mem_of_getElem? (i := 117) (by decide +kernel))) rfl
theorem bw_3_118 : Cond.constant RJ6 265 (1431655765) ∈ BIG := big_of (tin_3 _ (List.mem_of_getElem? (i := 118) (by decide +kernel))) rfl
theorem bw_3_119 : Cond.constant RJ6 266 (858993459) ∈ BIG := big_of (tin_3 _ (List.mem_of_getElem? (i := 119) (by decide +kernel))) rfl
theorem bw_3_120 : Cond.constant RJ6 267 (252645135) ∈ BIG := big_of (tin_3 _ (List.mem_of_getElem? (i := 120) (by decide +kernel))) rfl
theorem bw_3_121 : Cond.methodLink RX8 126 yX8_leave ∈ BIG := big_of (tin_3 _ (List.mem_of_getElem? (i := 121) (by decide +kernel))) rfl
theorem bw_3_123 : Cond.instanceMethod yX8_leave ∈ BIG := big_of (tin_3 _ (List.mem_of_getElem? (i := 123) (by decide +kernel))) rfl
theorem bw_p_21 : Cond.selects RX8 yX8_leave yX8_leave ∈ BIG := big_of (tin_p _ (List.mem_of_getElem? (i := 21) (by decide +kernel))) rfl
theorem bw_3_124 : Cond.code yX8_leave cX8_leave 5 none ∈ BIG := big_of (tin_3 _ (List.mem_of_getElem? (i := 124) (by decide +kernel))) rfl
theorem bw_3_125 : Cond.methodLink RX8 129 yX8_weightIn ∈ BIG := big_of (tin_3 _ (List.mem_of_getElem? (i := 125) (by decide +kernel))) rfl
theorem bw_3_126 : Cond.static yX8_weightIn ∈ BIG := big_of (tin_3 _ (List.mem_of_getElem? (i := 126) (by decide +kernel))) rfl
theorem bw_3_127 : Cond.code yX8_weightIn cX8_weightIn 2 (some .int) ∈ BIG := big_of (tin_3 _ (List.mem_of_getElem? (i := 127) (by decide +kernel))) rfl
theorem bw_3_128 : Cond.methodLink RX8 132 yX5_add ∈ BIG := big_of (tin_3 _ (List.mem_of_getElem? (i := 128) (by decide +kernel))) rfl
theorem bw_3_129 : Cond.instanceMethod yX5_add ∈ BIG := big_of (tin_3 _ (List.mem_of_getElem? (i := 129) (by decide +kernel))) rfl
theorem bw_3_130 : Cond.selects RX5 yX5_add yX5_add ∈ BIG := big_of (tin_3 _ (List.mem_of_getElem? (i := 130) (by decide +kernel))) rfl
theorem bw_3_131 : Cond.code yX5_add cX5_add 3 none ∈ BIG := big_of (tin_3 _ (List.mem_of_getElem? (i := 131) (by decide +kernel))) rfl
theorem bw_3_132 : Cond.methodLink RX9 163 yX8_left ∈ BIG := big_of (tin_3 _ (List.mem_of_getElem? (i := 132) (by decide +kernel))) rfl
theorem bw_3_133 : Cond.instanceMethod yX8_left ∈ BIG := big_of (tin_3 _ (List.mem_of_getElem? (i := 133) (by decide +kernel))) rfl
theorem bw_3_134 : Cond.selects RX8 yX8_left yX8_left ∈ BIG := big_of (tin_3 _ (List.mem_of_getElem? (i := 134) (by decide +kernel))) rfl
theorem bw_3_135 : Cond.code yX8_left cX8_left 1 (some .int) ∈ BIG := big_of (tin_3 _ (List.mem_of_getElem? (i := 135) (by decide +kernel))) rfl
theorem bw_3_136 : Cond.methodLink RX9 166 yX8_leftWith ∈ BIG := big_of (tin_3 _ (List.mem_of_getElem? (i := 136) (by decide +kernel))) rfl
theorem bw_3_137 : Cond.instanceMethod yX8_leftWith ∈ BIG := big_of (tin_3 _ (List.mem_of_getElem? (i := 137) (by decide +kernel))) rfl
theorem bw_3_138 : Cond.selects RX8 yX8_leftWith yX8_leftWith ∈ BIG := big_of (tin_3 _ (List.mem_of_getElem? (i := 138) (by decide +kernel))) rfl
theorem bw_3_139 : Cond.code yX8_leftWith cX8_leftWith 3 (some .int) ∈ BIG := big_of (tin_3 _ (List.mem_of_getElem? (i := 139) (by decide +kernel))) rfl
theorem bw_5_40 : Cond.methodLink RL 55 yX10_could ∈ BIG := big_of (tin_5 _ (List.mem_of_getElem? (i := 40) (by decide +kernel))) rfl
theorem bw_5_41 : Cond.instanceMethod yX10_could ∈ BIG := big_of (tin_5 _ (List.mem_of_getElem? (i := 41) (by decide +kernel))) rfl
theorem bw_5_42 : Cond.selects RX10 yX10_could yX10_could ∈ BIG := big_of (tin_5 _ (List.mem_of_getElem? (i := 42) (by decide +kernel))) rfl
theorem bw_5_43 : Cond.code yX10_could cX10_could 3 (some .int) ∈ BIG := big_of (tin_5 _ (List.mem_of_getElem? (i := 43) (by decide +kernel))) rfl
theorem bw_5_44 : Cond.methodLink RX10 133 yX10_isOne ∈ BIG := big_of (tin_5 _ (List.mem_of_getElem? (i := 44) (by decide +kernel))) rfl
theorem bw_5_46 : Cond.instanceMethod yX10_isOne ∈ BIG := big_of (tin_5 _ (List.mem_of_getElem? (i := 46) (by decide +kernel))) rfl
theorem bw_p_45 : Cond.selects RX10 yX10_isOne yX10_isOne ∈ BIG := big_of (tin_p _ (List.mem_of_getElem? (i := 45) (by decide +kernel))) rfl
theorem bw_5_47 : Cond.code yX10_isOne cX10_isOne 2 (some .boolean) ∈ BIG := big_of (tin_5 _ (List.mem_of_getElem? (i := 47) (by decide +kernel))) rfl
theorem bw_5_48 : Cond.methodLink RX10 136 yX10_many ∈ BIG := big_of (tin_5 _ (List.mem_of_getElem? (i := 48) (by decide +kernel))) rfl
theorem bw_5_50 : Cond.instanceMethod yX10_many ∈ BIG := big_of (tin_5 _ (List.mem_of_getElem? (i := 50) (by decide +kernel))) rfl
theorem bw_p_46 : Cond.selects RX10 yX10_many yX10_many ∈ BIG := big_of (tin_p _ (List.mem_of_getElem? (i := 46) (by decide +kernel))) rfl
theorem bw_5_51 : Cond.code yX10_many cX10_many 5 (some .int) ∈ BIG := big_of (tin_5 _ (List.mem_of_getElem? (i := 51) (by decide +kernel))) rfl
theorem bw_5_52 : Cond.methodLink RX10 127 yX10_worlds ∈ BIG := big_of (tin_5 _ (List.mem_of_getElem? (i := 52) (by decide +kernel))) rfl
theorem bw_5_54 : Cond.instanceMethod yX10_worlds ∈ BIG := big_of (tin_5 _ (List.mem_of_getElem? (i := 54) (by decide +kernel))) rfl
theorem bw_p_47 : Cond.selects RX10 yX10_worlds yX10_worlds ∈ BIG := big_of (tin_p _ (List.mem_of_getElem? (i := 47) (by decide +kernel))) rfl
theorem bw_5_55 : Cond.code yX10_worlds cX10_worlds 3 (some .int) ∈ BIG := big_of (tin_5 _ (List.mem_of_getElem? (i := 55) (by decide +kernel))) rfl
theorem bw_5_56 : Cond.methodLink RX10 130 yX10_canBe ∈ BIG := big_of (tin_5 _ (List.mem_of_getElem? (i := 56) (by decide +kernel))) rfl
theorem bw_5_58 : Cond.instanceMethod yX10_canBe ∈ BIG := big_of (tin_5 _ (List.mem_of_getElem? (i := 58) (by decide +kernel))) rfl
theorem bw_p_48 : Cond.selects RX10 yX10_canBe yX10_canBe ∈ BIG := big_of (tin_p _ (List.mem_of_getElem? (i := 48) (by decide +kernel))) rfl
theorem bw_5_59 : Cond.code yX10_canBe cX10_canBe 2 (some .boolean) ∈ BIG := big_of (tin_5 _ (List.mem_of_getElem? (i := 59) (by decide +kernel))) rfl
theorem bw_5_60 : Cond.methodLink RX10 120 yX10_go ∈ BIG := big_of (tin_5 _ (List.mem_of_getElem? (i := 60) (by decide +kernel))) rfl
theorem bw_5_62 : Cond.instanceMethod yX10_go ∈ BIG := big_of (tin_5 _ (List.mem_of_getElem? (i := 62) (by decide +kernel))) rfl
theorem bw_p_49 : Cond.selects RX10 yX10_go yX10_go ∈ BIG := big_of (tin_p _ (List.mem_of_getElem? (i := 49) (by decide +kernel))) rfl
theorem bw_5_63 : Cond.code yX10_go cX10_go 4 none ∈ BIG := big_of (tin_5 _ (List.mem_of_getElem? (i := 63) (by decide +kernel))) rfl
theorem bw_5_64 : Cond.methodLink RX10 124 yX10_falseLines ∈ BIG := big_of (tin_5 _ (List.mem_of_getElem? (i := 64) (by decide +kernel))) rfl
theorem bw_5_66 : Cond.instanceMethod yX10_falseLines ∈ BIG := big_of (tin_5 _ (List.mem_of_getElem? (i := 66) (by decide +kernel))) rfl
theorem bw_p_50 : Cond.selects RX10 yX10_falseLines yX10_falseLines ∈ BIG := big_of (tin_p _ (List.mem_of_getElem? (i := 50) (by decide +kernel))) rfl
theorem bw_5_67 : Cond.code yX10_falseLines cX10_falseLines 3 (some .int) ∈ BIG := big_of (tin_5 _ (List.mem_of_getElem? (i := 67) (by decide +kernel))) rfl
theorem bw_5_68 : Cond.methodLink RX10 117 yX10_laughIn ∈ BIG := big_of (tin_5 _ (List.mem_of_getElem? (i := 68) (by decide +kernel))) rfl
theorem bw_5_70 : Cond.instanceMethod yX10_laughIn ∈ BIG := big_of (tin_5 _ (List.mem_of_getElem? (i := 70) (by decide +kernel))) rfl
theorem bw_p_51 : Cond.selects RX10 yX10_laughIn yX10_laughIn ∈ BIG := big_of (tin_p _ (List.mem_of_getElem? (i := 51) (by decide +kernel))) rfl
theorem bw_5_71 : Cond.code yX10_laughIn cX10_laughIn 4 (some .int) ∈ BIG := big_of (tin_5 _ (List.mem_of_getElem? (i := 71) (by decide +kernel))) rfl
theorem bw_5_72 : Cond.methodLink RX10 114 yX10_shownOf ∈ BIG := big_of (tin_5 _ (List.mem_of_getElem? (i := 72) (by decide +kernel))) rfl
theorem bw_5_74 : Cond.instanceMethod yX10_shownOf ∈ BIG := big_of (tin_5 _ (List.mem_of_getElem? (i := 74) (by decide +kernel))) rfl
theorem bw_p_52 : Cond.selects RX10 yX10_shownOf yX10_shownOf ∈ BIG := big_of (tin_p _ (List.mem_of_getElem? (i := 52) (by decide +kernel))) rfl
theorem bw_5_75 : Cond.code yX10_shownOf cX10_shownOf 4 (some .int) ∈ BIG := big_of (tin_5 _ (List.mem_of_getElem? (i := 75) (by decide +kernel))) rfl
theorem bw_3_140 : Cond.methodLink RL 56 yX9_sure ∈ BIG := big_of (tin_3 _ (List.mem_of_getElem? (i := 140) (by decide +kernel))) rfl
theorem bw_3_141 : Cond.instanceMethod yX9_sure ∈ BIG := big_of (tin_3 _ (List.mem_of_getElem? (i := 141) (by decide +kernel))) rfl
theorem bw_3_142 : Cond.selects RX9 yX9_sure yX9_sure ∈ BIG := big_of (tin_3 _ (List.mem_of_getElem? (i := 142) (by decide +kernel))) rfl
theorem bw_3_143 : Cond.code yX9_sure cX9_sure 2 (some .int) ∈ BIG := big_of (tin_3 _ (List.mem_of_getElem? (i := 143) (by decide +kernel))) rfl
theorem bw_3_144 : Cond.methodLink RX9 170 yX8_onlyWeightOf ∈ BIG := big_of (tin_3 _ (List.mem_of_getElem? (i := 144) (by decide +kernel))) rfl
theorem bw_3_145 : Cond.instanceMethod yX8_onlyWeightOf ∈ BIG := big_of (tin_3 _ (List.mem_of_getElem? (i := 145) (by decide +kernel))) rfl
theorem bw_3_146 : Cond.selects RX8 yX8_onlyWeightOf yX8_onlyWeightOf ∈ BIG := big_of (tin_3 _ (List.mem_of_getElem? (i := 146) (by decide +kernel))) rfl
theorem bw_3_147 : Cond.code yX8_onlyWeightOf cX8_onlyWeightOf 3 (some .int) ∈ BIG := big_of (tin_3 _ (List.mem_of_getElem? (i := 147) (by decide +kernel))) rfl
theorem bw_5_76 : Cond.methodLink RL 59 yX10_sure ∈ BIG := big_of (tin_5 _ (List.mem_of_getElem? (i := 76) (by decide +kernel))) rfl
theorem bw_5_77 : Cond.instanceMethod yX10_sure ∈ BIG := big_of (tin_5 _ (List.mem_of_getElem? (i := 77) (by decide +kernel))) rfl
theorem bw_5_78 : Cond.selects RX10 yX10_sure yX10_sure ∈ BIG := big_of (tin_5 _ (List.mem_of_getElem? (i := 78) (by decide +kernel))) rfl
theorem bw_5_79 : Cond.code yX10_sure cX10_sure 5 (some .int) ∈ BIG := big_of (tin_5 _ (List.mem_of_getElem? (i := 79) (by decide +kernel))) rfl
theorem bw_3_148 : Cond.methodLink RL 60 yX9_wrong ∈ BIG := big_of (tin_3 _ (List.mem_of_getElem? (i := 148) (by decide +kernel))) rfl
theorem bw_3_149 : Cond.instanceMethod yX9_wrong ∈ BIG := big_of (tin_3 _ (List.mem_of_getElem? (i := 149) (by decide +kernel))) rfl
theorem bw_3_150 : Cond.selects RX9 yX9_wrong yX9_wrong ∈ BIG := big_of (tin_3 _ (List.mem_of_getElem? (i := 150) (by decide +kernel))) rfl
theorem bw_3_151 : Cond.code yX9_wrong cX9_wrong 2 (some .int) ∈ BIG := big_of (tin_3 _ (List.mem_of_getElem? (i := 151) (by decide +kernel))) rfl
theorem bw_3_152 : Cond.methodLink RX9 173 yX8_fewestFalse ∈ BIG := big_of (tin_3 _ (List.mem_of_getElem? (i := 152) (by decide +kernel))) rfl
theorem bw_3_153 : Cond.instanceMethod yX8_fewestFalse ∈ BIG := big_of (tin_3 _ (List.mem_of_getElem? (i := 153) (by decide +kernel))) rfl
theorem bw_3_154 : Cond.selects RX8 yX8_fewestFalse yX8_fewestFalse ∈ BIG := big_of (tin_3 _ (List.mem_of_getElem? (i := 154) (by decide +kernel))) rfl
theorem bw_3_155 : Cond.code yX8_fewestFalse cX8_fewestFalse 1 (some .int) ∈ BIG := big_of (tin_3 _ (List.mem_of_getElem? (i := 155) (by decide +kernel))) rfl
theorem bw_3_156 : Cond.methodLink RX9 176 yX8_everFalse ∈ BIG := big_of (tin_3 _ (List.mem_of_getElem? (i := 156) (by decide +kernel))) rfl
theorem bw_3_157 : Cond.instanceMethod yX8_everFalse ∈ BIG := big_of (tin_3 _ (List.mem_of_getElem? (i := 157) (by decide +kernel))) rfl
theorem bw_3_158 : Cond.selects RX8 yX8_everFalse yX8_everFalse ∈ BIG := big_of (tin_3 _ (List.mem_of_getElem? (i := 158) (by decide +kernel))) rfl
theorem bw_3_159 : Cond.code yX8_everFalse cX8_everFalse 1 (some .int) ∈ BIG := big_of (tin_3 _ (List.mem_of_getElem? (i := 159) (by decide +kernel))) rfl
theorem bw_5_80 : Cond.methodLink RL 63 yX10_wrong ∈ BIG := big_of (tin_5 _ (List.mem_of_getElem? (i := 80) (by decide +kernel))) rfl
theorem bw_5_81 : Cond.instanceMethod yX10_wrong ∈ BIG := big_of (tin_5 _ (List.mem_of_getElem? (i := 81) (by decide +kernel))) rfl
theorem bw_5_82 : Cond.selects RX10 yX10_wrong yX10_wrong ∈ BIG := big_of (tin_5 _ (List.mem_of_getElem? (i := 82) (by decide +kernel))) rfl
theorem bw_5_83 : Cond.code yX10_wrong cX10_wrong 7 (some .int) ∈ BIG := big_of (tin_5 _ (List.mem_of_getElem? (i := 83) (by decide +kernel))) rfl
theorem bw_5_84 : Cond.methodLink RX10 139 yX10_bitsIn ∈ BIG := big_of (tin_5 _ (List.mem_of_getElem? (i := 84) (by decide +kernel))) rfl
theorem bw_5_85 : Cond.static yX10_bitsIn ∈ BIG := big_of (tin_5 _ (List.mem_of_getElem? (i := 85) (by decide +kernel))) rfl
theorem bw_5_86 : Cond.code yX10_bitsIn cX10_bitsIn 3 (some .int) ∈ BIG := big_of (tin_5 _ (List.mem_of_getElem? (i := 86) (by decide +kernel))) rfl
theorem bw_3_160 : Cond.methodLink RL 64 yX9_next ∈ BIG := big_of (tin_3 _ (List.mem_of_getElem? (i := 160) (by decide +kernel))) rfl
theorem bw_3_161 : Cond.instanceMethod yX9_next ∈ BIG := big_of (tin_3 _ (List.mem_of_getElem? (i := 161) (by decide +kernel))) rfl
theorem bw_3_162 : Cond.selects RX9 yX9_next yX9_next ∈ BIG := big_of (tin_3 _ (List.mem_of_getElem? (i := 162) (by decide +kernel))) rfl
theorem bw_3_163 : Cond.code yX9_next cX9_next 3 (some .int) ∈ BIG := big_of (tin_3 _ (List.mem_of_getElem? (i := 163) (by decide +kernel))) rfl
theorem bw_3_164 : Cond.methodLink RX9 185 yX3_bestSet ∈ BIG := big_of (tin_3 _ (List.mem_of_getElem? (i := 164) (by decide +kernel))) rfl
theorem bw_3_165 : Cond.instanceMethod yX3_bestSet ∈ BIG := big_of (tin_3 _ (List.mem_of_getElem? (i := 165) (by decide +kernel))) rfl
theorem bw_3_166 : Cond.selects RX3 yX3_bestSet yX3_bestSet ∈ BIG := big_of (tin_3 _ (List.mem_of_getElem? (i := 166) (by decide +kernel))) rfl
theorem bw_3_167 : Cond.code yX3_bestSet cX3_bestSet 5 (some .int) ∈ BIG := big_of (tin_3 _ (List.mem_of_getElem? (i := 167) (by decide +kernel))) rfl
theorem bw_3_168 : Cond.methodLink RX3 34 yX3_worstOf ∈ BIG := big_of (tin_3 _ (List.mem_of_getElem? (i := 168) (by decide +kernel))) rfl
theorem bw_3_169 : Cond.instanceMethod yX3_worstOf ∈ BIG := big_of (tin_3 _ (List.mem_of_getElem? (i := 169) (by decide +kernel))) rfl
theorem bw_3_170 : Cond.selects RX3 yX3_worstOf yX3_worstOf ∈ BIG := big_of (tin_3 _ (List.mem_of_getElem? (i := 170) (by decide +kernel))) rfl
theorem bw_3_171 : Cond.code yX3_worstOf cX3_worstOf 7 (some .int) ∈ BIG := big_of (tin_3 _ (List.mem_of_getElem? (i := 171) (by decide +kernel))) rfl
theorem bw_3_188 : Cond.methodLink RX3 66 Lib.Math.max.name ∈ BIG := big_of (tin_3 _ (List.mem_of_getElem? (i := 188) (by decide +kernel))) rfl
theorem bw_3_189 : Cond.static Lib.Math.max.name ∈ BIG := big_of (tin_3 _ (List.mem_of_getElem? (i := 189) (by decide +kernel))) rfl
theorem bw_1_17 : Cond.initialized "java/lang/Math" ∈ BIG := big_of (tin_1 _ (List.mem_of_getElem? (i := 17) (by decide +kernel))) rfl
theorem bw_3_190 : Cond.code Lib.Math.max.name Lib.Math.max.code 2 (some .int) ∈ BIG := big_of (tin_3 _ (List.mem_of_getElem? (i := 190) (by decide +kernel))) rfl
theorem bw_3_172 : Cond.methodLink RX3 44 yX5_wipe ∈ BIG := big_of (tin_3 _ (List.mem_of_getElem? (i := 172) (by decide +kernel))) rfl
theorem bw_3_173 : Cond.methodLink RX3 47 yX8_left ∈ BIG := big_of (tin_3 _ (List.mem_of_getElem? (i := 173) (by decide +kernel))) rfl
theorem bw_3_174 : Cond.methodLink RX3 52 yX8_leftAfter ∈ BIG := big_of (tin_3 _ (List.mem_of_getElem? (i := 174) (by decide +kernel))) rfl
theorem bw_3_175 : Cond.instanceMethod yX8_leftAfter ∈ BIG := big_of (tin_3 _ (List.mem_of_getElem? (i := 175) (by decide +kernel))) rfl
theorem bw_3_176 : Cond.selects RX8 yX8_leftAfter yX8_leftAfter ∈ BIG := big_of (tin_3 _ (List.mem_of_getElem? (i := 176) (by decide +kernel))) rfl
theorem bw_3_177 : Cond.code yX8_leftAfter cX8_leftAfter 4 (some .int) ∈ BIG := big_of (tin_3 _ (List.mem_of_getElem? (i := 177) (by decide +kernel))) rfl
theorem bw_3_178 : Cond.methodLink RX3 55 yX3_shownIn ∈ BIG := big_of (tin_3 _ (List.mem_of_getElem? (i := 178) (by decide +kernel))) rfl
theorem bw_3_180 : Cond.instanceMethod yX3_shownIn ∈ BIG := big_of (tin_3 _ (List.mem_of_getElem? (i := 180) (by decide +kernel))) rfl
theorem bw_p_22 : Cond.selects RX3 yX3_shownIn yX3_shownIn ∈ BIG := big_of (tin_p _ (List.mem_of_getElem? (i := 22) (by decide +kernel))) rfl
theorem bw_3_181 : Cond.code yX3_shownIn cX3_shownIn 3 (some .int) ∈ BIG := big_of (tin_3 _ (List.mem_of_getElem? (i := 181) (by decide +kernel))) rfl
theorem bw_3_182 : Cond.methodLink RX3 103 yX8_loadIn ∈ BIG := big_of (tin_3 _ (List.mem_of_getElem? (i := 182) (by decide +kernel))) rfl
theorem bw_3_183 : Cond.static yX8_loadIn ∈ BIG := big_of (tin_3 _ (List.mem_of_getElem? (i := 183) (by decide +kernel))) rfl
theorem bw_3_184 : Cond.code yX8_loadIn cX8_loadIn 3 (some .int) ∈ BIG := big_of (tin_3 _ (List.mem_of_getElem? (i := 184) (by decide +kernel))) rfl
theorem bw_3_185 : Cond.methodLink RX3 106 yX6_leftOver ∈ BIG := big_of (tin_3 _ (List.mem_of_getElem? (i := 185) (by decide +kernel))) rfl
theorem bw_3_186 : Cond.methodLink RX3 59 yX5_add ∈ BIG := big_of (tin_3 _ (List.mem_of_getElem? (i := 186) (by decide +kernel))) rfl
theorem bw_3_187 : Cond.methodLink RX3 63 yX5_get ∈ BIG := big_of (tin_3 _ (List.mem_of_getElem? (i := 187) (by decide +kernel))) rfl
theorem bw_3_191 : Cond.methodLink RX3 38 yX6_sets ∈ BIG := big_of (tin_3 _ (List.mem_of_getElem? (i := 191) (by decide +kernel))) rfl
theorem bw_3_192 : Cond.methodLink RX9 188 yX3_worstOf ∈ BIG := big_of (tin_3 _ (List.mem_of_getElem? (i := 192) (by decide +kernel))) rfl
theorem bw_5_87 : Cond.methodLink RL 67 yX10_next ∈ BIG := big_of (tin_5 _ (List.mem_of_getElem? (i := 87) (by decide +kernel))) rfl
theorem bw_5_88 : Cond.instanceMethod yX10_next ∈ BIG := big_of (tin_5 _ (List.mem_of_getElem? (i := 88) (by decide +kernel))) rfl
theorem bw_5_89 : Cond.selects RX10 yX10_next yX10_next ∈ BIG := big_of (tin_5 _ (List.mem_of_getElem? (i := 89) (by decide +kernel))) rfl
theorem bw_5_90 : Cond.code yX10_next cX10_next 6 (some .int) ∈ BIG := big_of (tin_5 _ (List.mem_of_getElem? (i := 90) (by decide +kernel))) rfl
theorem bw_5_91 : Cond.methodLink RX10 142 yX10_worstOf ∈ BIG := big_of (tin_5 _ (List.mem_of_getElem? (i := 91) (by decide +kernel))) rfl
theorem bw_5_93 : Cond.instanceMethod yX10_worstOf ∈ BIG := big_of (tin_5 _ (List.mem_of_getElem? (i := 93) (by decide +kernel))) rfl
theorem bw_p_53 : Cond.selects RX10 yX10_worstOf yX10_worstOf ∈ BIG := big_of (tin_p _ (List.mem_of_getElem? (i := 53) (by decide +kernel))) rfl
theorem bw_5_94 : Cond.code yX10_worstOf cX10_worstOf 4 (some .int) ∈ BIG := big_of (tin_5 _ (List.mem_of_getElem? (i := 94) (by decide +kernel))) rfl
theorem bw_3_193 : Cond.methodLink RL 68 yX9_fewest ∈ BIG := big_of (tin_3 _ (List.mem_of_getElem? (i := 193) (by decide +kernel))) rfl
theorem bw_3_194 : Cond.instanceMethod yX9_fewest ∈ BIG := big_of (tin_3 _ (List.mem_of_getElem? (i := 194) (by decide +kernel))) rfl
theorem bw_3_195 : Cond.selects RX9 yX9_fewest yX9_fewest ∈ BIG := big_of (tin_3 _ (List.mem_of_getElem? (i := 195) (by decide +kernel))) rfl
theorem bw_3_196 : Cond.code yX9_fewest cX9_fewest 2 (some .int) ∈ BIG := big_of (tin_3 _ (List.mem_of_getElem? (i := 196) (by decide +kernel))) rfl
theorem bw_3_197 : Cond.methodLink RX9 191 yX3_weighingsFor ∈ BIG := big_of (tin_3 _ (List.mem_of_getElem? (i := 197) (by decide +kernel))) rfl
theorem bw_3_198 : Cond.instanceMethod yX3_weighingsFor ∈ BIG := big_of (tin_3 _ (List.mem_of_getElem? (i := 198) (by decide +kernel))) rfl
theorem bw_3_199 : Cond.selects RX3 yX3_weighingsFor yX3_weighingsFor ∈ BIG := big_of (tin_3 _ (List.mem_of_getElem? (i := 199) (by decide +kernel))) rfl
theorem bw_3_200 : Cond.code yX3_weighingsFor cX3_weighingsFor 3 (some .int) ∈ BIG := big_of (tin_3 _ (List.mem_of_getElem? (i := 200) (by decide +kernel))) rfl
theorem bw_3_201 : Cond.methodLink RX3 71 yX8_onlyWeightOf ∈ BIG := big_of (tin_3 _ (List.mem_of_getElem? (i := 201) (by decide +kernel))) rfl
theorem bw_3_202 : Cond.methodLink RX3 74 yX3_isSureBy ∈ BIG := big_of (tin_3 _ (List.mem_of_getElem? (i := 202) (by decide +kernel))) rfl
theorem bw_3_204 : Cond.instanceMethod yX3_isSureBy ∈ BIG := big_of (tin_3 _ (List.mem_of_getElem? (i := 204) (by decide +kernel))) rfl
theorem bw_p_23 : Cond.selects RX3 yX3_isSureBy yX3_isSureBy ∈ BIG := big_of (tin_p _ (List.mem_of_getElem? (i := 23) (by decide +kernel))) rfl
theorem bw_3_205 : Cond.code yX3_isSureBy cX3_isSureBy 6 (some .boolean) ∈ BIG := big_of (tin_3 _ (List.mem_of_getElem? (i := 205) (by decide +kernel))) rfl
theorem bw_3_206 : Cond.methodLink RX3 81 yX8_weightIn ∈ BIG := big_of (tin_3 _ (List.mem_of_getElem? (i := 206) (by decide +kernel))) rfl
theorem bw_3_207 : Cond.methodLink RX3 84 yX3_isTorn ∈ BIG := big_of (tin_3 _ (List.mem_of_getElem? (i := 207) (by decide +kernel))) rfl
theorem bw_3_208 : Cond.static yX3_isTorn ∈ BIG := big_of (tin_3 _ (List.mem_of_getElem? (i := 208) (by decide +kernel))) rfl
theorem bw_3_209 : Cond.code yX3_isTorn cX3_isTorn 3 (some .boolean) ∈ BIG := big_of (tin_3 _ (List.mem_of_getElem? (i := 209) (by decide +kernel))) rfl
theorem bw_3_210 : Cond.methodLink RX3 95 yX5_join ∈ BIG := big_of (tin_3 _ (List.mem_of_getElem? (i := 210) (by decide +kernel))) rfl
theorem bw_3_211 : Cond.methodLink RX3 98 yJ6_bitCount_0f7a4 ∈ BIG := big_of (tin_3 _ (List.mem_of_getElem? (i := 211) (by decide +kernel))) rfl
theorem bw_3_212 : Cond.methodLink RX3 78 yX3_isSureByTwo ∈ BIG := big_of (tin_3 _ (List.mem_of_getElem? (i := 212) (by decide +kernel))) rfl
theorem bw_3_214 : Cond.instanceMethod yX3_isSureByTwo ∈ BIG := big_of (tin_3 _ (List.mem_of_getElem? (i := 214) (by decide +kernel))) rfl
theorem bw_p_24 : Cond.selects RX3 yX3_isSureByTwo yX3_isSureByTwo ∈ BIG := big_of (tin_p _ (List.mem_of_getElem? (i := 24) (by decide +kernel))) rfl
theorem bw_3_215 : Cond.code yX3_isSureByTwo cX3_isSureByTwo 5 (some .boolean) ∈ BIG := big_of (tin_3 _ (List.mem_of_getElem? (i := 215) (by decide +kernel))) rfl
theorem bw_3_216 : Cond.methodLink RX3 88 yX6_figures ∈ BIG := big_of (tin_3 _ (List.mem_of_getElem? (i := 216) (by decide +kernel))) rfl
theorem bw_3_217 : Cond.methodLink RX3 91 yX3_stillUnsure ∈ BIG := big_of (tin_3 _ (List.mem_of_getElem? (i := 217) (by decide +kernel))) rfl
theorem bw_3_219 : Cond.instanceMethod yX3_stillUnsure ∈ BIG := big_of (tin_3 _ (List.mem_of_getElem? (i := 219) (by decide +kernel))) rfl
theorem bw_p_25 : Cond.selects RX3 yX3_stillUnsure yX3_stillUnsure ∈ BIG := big_of (tin_p _ (List.mem_of_getElem? (i := 25) (by decide +kernel))) rfl
theorem bw_3_220 : Cond.code yX3_stillUnsure cX3_stillUnsure 12 (some .int) ∈ BIG := big_of (tin_3 _ (List.mem_of_getElem? (i := 220) (by decide +kernel))) rfl
theorem bw_5_95 : Cond.methodLink RL 71 yX10_fewest ∈ BIG := big_of (tin_5 _ (List.mem_of_getElem? (i := 95) (by decide +kernel))) rfl
theorem bw_5_96 : Cond.instanceMethod yX10_fewest ∈ BIG := big_of (tin_5 _ (List.mem_of_getElem? (i := 96) (by decide +kernel))) rfl
theorem bw_5_97 : Cond.selects RX10 yX10_fewest yX10_fewest ∈ BIG := big_of (tin_5 _ (List.mem_of_getElem? (i := 97) (by decide +kernel))) rfl
theorem bw_5_98 : Cond.code yX10_fewest cX10_fewest 3 (some .int) ∈ BIG := big_of (tin_5 _ (List.mem_of_getElem? (i := 98) (by decide +kernel))) rfl
theorem bw_5_99 : Cond.methodLink RX10 149 yX10_isKnown ∈ BIG := big_of (tin_5 _ (List.mem_of_getElem? (i := 99) (by decide +kernel))) rfl
theorem bw_5_101 : Cond.instanceMethod yX10_isKnown ∈ BIG := big_of (tin_5 _ (List.mem_of_getElem? (i := 101) (by decide +kernel))) rfl
theorem bw_p_54 : Cond.selects RX10 yX10_isKnown yX10_isKnown ∈ BIG := big_of (tin_p _ (List.mem_of_getElem? (i := 54) (by decide +kernel))) rfl
theorem bw_5_102 : Cond.code yX10_isKnown cX10_isKnown 4 (some .boolean) ∈ BIG := big_of (tin_5 _ (List.mem_of_getElem? (i := 102) (by decide +kernel))) rfl
theorem bw_5_103 : Cond.methodLink RX10 146 yX10_part ∈ BIG := big_of (tin_5 _ (List.mem_of_getElem? (i := 103) (by decide +kernel))) rfl
theorem bw_5_105 : Cond.instanceMethod yX10_part ∈ BIG := big_of (tin_5 _ (List.mem_of_getElem? (i := 105) (by decide +kernel))) rfl
theorem bw_p_55 : Cond.selects RX10 yX10_part yX10_part ∈ BIG := big_of (tin_p _ (List.mem_of_getElem? (i := 55) (by decide +kernel))) rfl
theorem bw_5_106 : Cond.code yX10_part cX10_part 8 none ∈ BIG := big_of (tin_5 _ (List.mem_of_getElem? (i := 106) (by decide +kernel))) rfl
theorem bw_5_107 : Cond.methodLink RX10 152 yX10_anyBad ∈ BIG := big_of (tin_5 _ (List.mem_of_getElem? (i := 107) (by decide +kernel))) rfl
theorem bw_5_109 : Cond.instanceMethod yX10_anyBad ∈ BIG := big_of (tin_5 _ (List.mem_of_getElem? (i := 109) (by decide +kernel))) rfl
theorem bw_p_56 : Cond.selects RX10 yX10_anyBad yX10_anyBad ∈ BIG := big_of (tin_p _ (List.mem_of_getElem? (i := 56) (by decide +kernel))) rfl
theorem bw_5_110 : Cond.code yX10_anyBad cX10_anyBad 3 (some .boolean) ∈ BIG := big_of (tin_5 _ (List.mem_of_getElem? (i := 110) (by decide +kernel))) rfl
theorem bw_5_111 : Cond.methodLink RX10 156 yX10_isEnough ∈ BIG := big_of (tin_5 _ (List.mem_of_getElem? (i := 111) (by decide +kernel))) rfl
theorem bw_5_113 : Cond.instanceMethod yX10_isEnough ∈ BIG := big_of (tin_5 _ (List.mem_of_getElem? (i := 113) (by decide +kernel))) rfl
theorem bw_p_57 : Cond.selects RX10 yX10_isEnough yX10_isEnough ∈ BIG := big_of (tin_p _ (List.mem_of_getElem? (i := 57) (by decide +kernel))) rfl
theorem bw_5_114 : Cond.code yX10_isEnough cX10_isEnough 6 (some .boolean) ∈ BIG := big_of (tin_5 _ (List.mem_of_getElem? (i := 114) (by decide +kernel))) rfl
theorem bw_5_115 : Cond.constant RX10 145 (1048575) ∈ BIG := big_of (tin_5 _ (List.mem_of_getElem? (i := 115) (by decide +kernel))) rfl
theorem bw_3_221 : Cond.methodLink RL 72 yX9_laugh ∈ BIG := big_of (tin_3 _ (List.mem_of_getElem? (i := 221) (by decide +kernel))) rfl
theorem bw_3_222 : Cond.instanceMethod yX9_laugh ∈ BIG := big_of (tin_3 _ (List.mem_of_getElem? (i := 222) (by decide +kernel))) rfl
theorem bw_3_223 : Cond.selects RX9 yX9_laugh yX9_laugh ∈ BIG := big_of (tin_3 _ (List.mem_of_getElem? (i := 223) (by decide +kernel))) rfl
theorem bw_3_224 : Cond.code yX9_laugh cX9_laugh 2 (some .int) ∈ BIG := big_of (tin_3 _ (List.mem_of_getElem? (i := 224) (by decide +kernel))) rfl
theorem bw_3_225 : Cond.methodLink RX9 194 yX8_surelyLaughed ∈ BIG := big_of (tin_3 _ (List.mem_of_getElem? (i := 225) (by decide +kernel))) rfl
theorem bw_3_226 : Cond.instanceMethod yX8_surelyLaughed ∈ BIG := big_of (tin_3 _ (List.mem_of_getElem? (i := 226) (by decide +kernel))) rfl
theorem bw_3_227 : Cond.selects RX8 yX8_surelyLaughed yX8_surelyLaughed ∈ BIG := big_of (tin_3 _ (List.mem_of_getElem? (i := 227) (by decide +kernel))) rfl
theorem bw_3_228 : Cond.code yX8_surelyLaughed cX8_surelyLaughed 4 (some .int) ∈ BIG := big_of (tin_3 _ (List.mem_of_getElem? (i := 228) (by decide +kernel))) rfl
theorem bw_5_116 : Cond.methodLink RL 75 yX10_laugh ∈ BIG := big_of (tin_5 _ (List.mem_of_getElem? (i := 116) (by decide +kernel))) rfl
theorem bw_5_117 : Cond.instanceMethod yX10_laugh ∈ BIG := big_of (tin_5 _ (List.mem_of_getElem? (i := 117) (by decide +kernel))) rfl
theorem bw_5_118 : Cond.selects RX10 yX10_laugh yX10_laugh ∈ BIG := big_of (tin_5 _ (List.mem_of_getElem? (i := 118) (by decide +kernel))) rfl
theorem bw_5_119 : Cond.code yX10_laugh cX10_laugh 4 (some .int) ∈ BIG := big_of (tin_5 _ (List.mem_of_getElem? (i := 119) (by decide +kernel))) rfl
theorem bw_3_229 : Cond.methodLink RL 76 yX9_odds ∈ BIG := big_of (tin_3 _ (List.mem_of_getElem? (i := 229) (by decide +kernel))) rfl
theorem bw_3_230 : Cond.instanceMethod yX9_odds ∈ BIG := big_of (tin_3 _ (List.mem_of_getElem? (i := 230) (by decide +kernel))) rfl
theorem bw_3_231 : Cond.selects RX9 yX9_odds yX9_odds ∈ BIG := big_of (tin_3 _ (List.mem_of_getElem? (i := 231) (by decide +kernel))) rfl
theorem bw_3_232 : Cond.code yX9_odds cX9_odds 11 (some .long) ∈ BIG := big_of (tin_3 _ (List.mem_of_getElem? (i := 232) (by decide +kernel))) rfl
theorem bw_3_233 : Cond.constantLong RX9 197 (-1) ∈ BIG := big_of (tin_3 _ (List.mem_of_getElem? (i := 233) (by decide +kernel))) rfl
theorem bw_3_234 : Cond.constantLong RX9 199 (-2) ∈ BIG := big_of (tin_3 _ (List.mem_of_getElem? (i := 234) (by decide +kernel))) rfl
theorem bw_3_235 : Cond.methodLink RX9 201 yX8_chances ∈ BIG := big_of (tin_3 _ (List.mem_of_getElem? (i := 235) (by decide +kernel))) rfl
theorem bw_3_236 : Cond.instanceMethod yX8_chances ∈ BIG := big_of (tin_3 _ (List.mem_of_getElem? (i := 236) (by decide +kernel))) rfl
theorem bw_3_237 : Cond.selects RX8 yX8_chances yX8_chances ∈ BIG := big_of (tin_3 _ (List.mem_of_getElem? (i := 237) (by decide +kernel))) rfl
theorem bw_3_238 : Cond.code yX8_chances cX8_chances 7 (some .long) ∈ BIG := big_of (tin_3 _ (List.mem_of_getElem? (i := 238) (by decide +kernel))) rfl
theorem bw_3_239 : Cond.methodLink RX8 72 yX8_allChances ∈ BIG := big_of (tin_3 _ (List.mem_of_getElem? (i := 239) (by decide +kernel))) rfl
theorem bw_4_0 : Cond.instanceMethod yX8_allChances ∈ BIG := big_of (tin_4 _ (List.mem_of_getElem? (i := 0) (by decide +kernel))) rfl
theorem bw_4_1 : Cond.selects RX8 yX8_allChances yX8_allChances ∈ BIG := big_of (tin_4 _ (List.mem_of_getElem? (i := 1) (by decide +kernel))) rfl
theorem bw_4_2 : Cond.code yX8_allChances cX8_allChances 6 (some .long) ∈ BIG := big_of (tin_4 _ (List.mem_of_getElem? (i := 2) (by decide +kernel))) rfl
theorem bw_4_3 : Cond.methodLink RX8 76 yX8_chance ∈ BIG := big_of (tin_4 _ (List.mem_of_getElem? (i := 3) (by decide +kernel))) rfl
theorem bw_4_5 : Cond.instanceMethod yX8_chance ∈ BIG := big_of (tin_4 _ (List.mem_of_getElem? (i := 5) (by decide +kernel))) rfl
theorem bw_p_26 : Cond.selects RX8 yX8_chance yX8_chance ∈ BIG := big_of (tin_p _ (List.mem_of_getElem? (i := 26) (by decide +kernel))) rfl
theorem bw_4_6 : Cond.code yX8_chance cX8_chance 8 (some .long) ∈ BIG := big_of (tin_4 _ (List.mem_of_getElem? (i := 6) (by decide +kernel))) rfl
theorem bw_4_7 : Cond.methodLink RX8 80 yX0_unheardLines ∈ BIG := big_of (tin_4 _ (List.mem_of_getElem? (i := 7) (by decide +kernel))) rfl
theorem bw_4_8 : Cond.instanceMethod yX0_unheardLines ∈ BIG := big_of (tin_4 _ (List.mem_of_getElem? (i := 8) (by decide +kernel))) rfl
theorem bw_4_9 : Cond.selects RX0 yX0_unheardLines yX0_unheardLines ∈ BIG := big_of (tin_4 _ (List.mem_of_getElem? (i := 9) (by decide +kernel))) rfl
theorem bw_4_10 : Cond.code yX0_unheardLines cX0_unheardLines 3 (some .int) ∈ BIG := big_of (tin_4 _ (List.mem_of_getElem? (i := 10) (by decide +kernel))) rfl
theorem bw_4_11 : Cond.methodLink RX0 49 yX0_laughOf ∈ BIG := big_of (tin_4 _ (List.mem_of_getElem? (i := 11) (by decide +kernel))) rfl
theorem bw_4_12 : Cond.methodLink RX9 205 yX8_allChances ∈ BIG := big_of (tin_4 _ (List.mem_of_getElem? (i := 12) (by decide +kernel))) rfl
theorem bw_4_13 : Cond.methodLink RX9 209 yX9_greatestDivisor ∈ BIG := big_of (tin_4 _ (List.mem_of_getElem? (i := 13) (by decide +kernel))) rfl
theorem bw_4_14 : Cond.static yX9_greatestDivisor ∈ BIG := big_of (tin_4 _ (List.mem_of_getElem? (i := 14) (by decide +kernel))) rfl
theorem bw_4_15 : Cond.code yX9_greatestDivisor cX9_greatestDivisor 11 (some .long) ∈ BIG := big_of (tin_4 _ (List.mem_of_getElem? (i := 15) (by decide +kernel))) rfl
theorem bw_5_120 : Cond.methodLink RL 80 yX10_odds ∈ BIG := big_of (tin_5 _ (List.mem_of_getElem? (i := 120) (by decide +kernel))) rfl
theorem bw_5_121 : Cond.instanceMethod yX10_odds ∈ BIG := big_of (tin_5 _ (List.mem_of_getElem? (i := 121) (by decide +kernel))) rfl
theorem bw_5_122 : Cond.selects RX10 yX10_odds yX10_odds ∈ BIG := big_of (tin_5 _ (List.mem_of_getElem? (i := 122) (by decide +kernel))) rfl
theorem bw_5_123 : Cond.code yX10_odds cX10_odds 13 (some .long) ∈ BIG := big_of (tin_5 _ (List.mem_of_getElem? (i := 123) (by decide +kernel))) rfl
theorem bw_5_124 : Cond.constantLong RX10 160 (-1) ∈ BIG := big_of (tin_5 _ (List.mem_of_getElem? (i := 124) (by decide +kernel))) rfl
theorem bw_5_125 : Cond.constantLong RX10 162 (-2) ∈ BIG := big_of (tin_5 _ (List.mem_of_getElem? (i := 125) (by decide +kernel))) rfl
theorem bw_5_126 : Cond.methodLink RX10 164 yX10_common ∈ BIG := big_of (tin_5 _ (List.mem_of_getElem? (i := 126) (by decide +kernel))) rfl
theorem bw_5_127 : Cond.static yX10_common ∈ BIG := big_of (tin_5 _ (List.mem_of_getElem? (i := 127) (by decide +kernel))) rfl
theorem bw_5_128 : Cond.code yX10_common cX10_common 10 (some .long) ∈ BIG := big_of (tin_5 _ (List.mem_of_getElem? (i := 128) (by decide +kernel))) rfl
theorem bw_4_16 : Cond.methodLink RL 81 yX9_sack ∈ BIG := big_of (tin_4 _ (List.mem_of_getElem? (i := 16) (by decide +kernel))) rfl
theorem bw_4_17 : Cond.instanceMethod yX9_sack ∈ BIG := big_of (tin_4 _ (List.mem_of_getElem? (i := 17) (by decide +kernel))) rfl
theorem bw_4_18 : Cond.selects RX9 yX9_sack yX9_sack ∈ BIG := big_of (tin_4 _ (List.mem_of_getElem? (i := 18) (by decide +kernel))) rfl
theorem bw_4_19 : Cond.code yX9_sack cX9_sack 6 (some .int) ∈ BIG := big_of (tin_4 _ (List.mem_of_getElem? (i := 19) (by decide +kernel))) rfl
theorem bw_4_20 : Cond.methodLink RX9 213 yX6_sidesOf ∈ BIG := big_of (tin_4 _ (List.mem_of_getElem? (i := 20) (by decide +kernel))) rfl
theorem bw_4_21 : Cond.instanceMethod yX6_sidesOf ∈ BIG := big_of (tin_4 _ (List.mem_of_getElem? (i := 21) (by decide +kernel))) rfl
theorem bw_4_22 : Cond.selects RX6 yX6_sidesOf yX6_sidesOf ∈ BIG := big_of (tin_4 _ (List.mem_of_getElem? (i := 22) (by decide +kernel))) rfl
theorem bw_4_23 : Cond.code yX6_sidesOf cX6_sidesOf 8 (some .int) ∈ BIG := big_of (tin_4 _ (List.mem_of_getElem? (i := 23) (by decide +kernel))) rfl
theorem bw_4_24 : Cond.methodLink RX6 45 yX6_sets ∈ BIG := big_of (tin_4 _ (List.mem_of_getElem? (i := 24) (by decide +kernel))) rfl
theorem bw_4_25 : Cond.methodLink RX6 49 yJ6_bitCount_0f7a4 ∈ BIG := big_of (tin_4 _ (List.mem_of_getElem? (i := 25) (by decide +kernel))) rfl
theorem bw_4_26 : Cond.methodLink RX6 54 yX6_loadOf ∈ BIG := big_of (tin_4 _ (List.mem_of_getElem? (i := 26) (by decide +kernel))) rfl
theorem bw_4_27 : Cond.methodLink RX9 216 yJ6_bitCount_0f7a4 ∈ BIG := big_of (tin_4 _ (List.mem_of_getElem? (i := 27) (by decide +kernel))) rfl
theorem bw_5_129 : Cond.methodLink RL 84 yX10_sack ∈ BIG := big_of (tin_5 _ (List.mem_of_getElem? (i := 129) (by decide +kernel))) rfl
theorem bw_5_130 : Cond.instanceMethod yX10_sack ∈ BIG := big_of (tin_5 _ (List.mem_of_getElem? (i := 130) (by decide +kernel))) rfl
theorem bw_5_131 : Cond.selects RX10 yX10_sack yX10_sack ∈ BIG := big_of (tin_5 _ (List.mem_of_getElem? (i := 131) (by decide +kernel))) rfl
theorem bw_5_132 : Cond.code yX10_sack cX10_sack 8 (some .int) ∈ BIG := big_of (tin_5 _ (List.mem_of_getElem? (i := 132) (by decide +kernel))) rfl
theorem bw_4_28 : Cond.methodLink RL 85 yX9_byTurns ∈ BIG := big_of (tin_4 _ (List.mem_of_getElem? (i := 28) (by decide +kernel))) rfl
theorem bw_4_29 : Cond.instanceMethod yX9_byTurns ∈ BIG := big_of (tin_4 _ (List.mem_of_getElem? (i := 29) (by decide +kernel))) rfl
theorem bw_4_30 : Cond.selects RX9 yX9_byTurns yX9_byTurns ∈ BIG := big_of (tin_4 _ (List.mem_of_getElem? (i := 30) (by decide +kernel))) rfl
theorem bw_4_31 : Cond.code yX9_byTurns cX9_byTurns 1 (some .int) ∈ BIG := big_of (tin_4 _ (List.mem_of_getElem? (i := 31) (by decide +kernel))) rfl
theorem bw_4_32 : Cond.methodLink RX9 221 yX6_shownByTurns ∈ BIG := big_of (tin_4 _ (List.mem_of_getElem? (i := 32) (by decide +kernel))) rfl
theorem bw_4_33 : Cond.instanceMethod yX6_shownByTurns ∈ BIG := big_of (tin_4 _ (List.mem_of_getElem? (i := 33) (by decide +kernel))) rfl
theorem bw_4_34 : Cond.selects RX6 yX6_shownByTurns yX6_shownByTurns ∈ BIG := big_of (tin_4 _ (List.mem_of_getElem? (i := 34) (by decide +kernel))) rfl
theorem bw_4_35 : Cond.code yX6_shownByTurns cX6_shownByTurns 2 (some .int) ∈ BIG := big_of (tin_4 _ (List.mem_of_getElem? (i := 35) (by decide +kernel))) rfl
theorem bw_4_36 : Cond.methodLink RX6 57 yX6_outcomeFrom ∈ BIG := big_of (tin_4 _ (List.mem_of_getElem? (i := 36) (by decide +kernel))) rfl
theorem bw_4_38 : Cond.instanceMethod yX6_outcomeFrom ∈ BIG := big_of (tin_4 _ (List.mem_of_getElem? (i := 38) (by decide +kernel))) rfl
theorem bw_p_27 : Cond.selects RX6 yX6_outcomeFrom yX6_outcomeFrom ∈ BIG := big_of (tin_p _ (List.mem_of_getElem? (i := 27) (by decide +kernel))) rfl
theorem bw_4_39 : Cond.code yX6_outcomeFrom cX6_outcomeFrom 6 (some .int) ∈ BIG := big_of (tin_4 _ (List.mem_of_getElem? (i := 39) (by decide +kernel))) rfl
theorem bw_4_41 : Cond.methodLink RX6 63 Lib.Math.max.name ∈ BIG := big_of (tin_4 _ (List.mem_of_getElem? (i := 41) (by decide +kernel))) rfl
theorem bw_4_42 : Cond.methodLink RX6 69 Lib.Math.min.name ∈ BIG := big_of (tin_4 _ (List.mem_of_getElem? (i := 42) (by decide +kernel))) rfl
theorem bw_4_43 : Cond.static Lib.Math.min.name ∈ BIG := big_of (tin_4 _ (List.mem_of_getElem? (i := 43) (by decide +kernel))) rfl
theorem bw_4_44 : Cond.code Lib.Math.min.name Lib.Math.min.code 2 (some .int) ∈ BIG := big_of (tin_4 _ (List.mem_of_getElem? (i := 44) (by decide +kernel))) rfl
theorem bw_4_40 : Cond.methodLink RX6 60 yX6_leftOver ∈ BIG := big_of (tin_4 _ (List.mem_of_getElem? (i := 40) (by decide +kernel))) rfl
theorem bw_5_133 : Cond.methodLink RL 88 yX10_byTurns ∈ BIG := big_of (tin_5 _ (List.mem_of_getElem? (i := 133) (by decide +kernel))) rfl
theorem bw_5_134 : Cond.instanceMethod yX10_byTurns ∈ BIG := big_of (tin_5 _ (List.mem_of_getElem? (i := 134) (by decide +kernel))) rfl
theorem bw_5_135 : Cond.selects RX10 yX10_byTurns yX10_byTurns ∈ BIG := big_of (tin_5 _ (List.mem_of_getElem? (i := 135) (by decide +kernel))) rfl
theorem bw_5_136 : Cond.code yX10_byTurns cX10_byTurns 7 (some .int) ∈ BIG := big_of (tin_5 _ (List.mem_of_getElem? (i := 136) (by decide +kernel))) rfl
theorem bw_4_45 : Cond.methodLink RL 89 yX9_mark ∈ BIG := big_of (tin_4 _ (List.mem_of_getElem? (i := 45) (by decide +kernel))) rfl
theorem bw_4_46 : Cond.instanceMethod yX9_mark ∈ BIG := big_of (tin_4 _ (List.mem_of_getElem? (i := 46) (by decide +kernel))) rfl
theorem bw_4_47 : Cond.selects RX9 yX9_mark yX9_mark ∈ BIG := big_of (tin_4 _ (List.mem_of_getElem? (i := 47) (by decide +kernel))) rfl
theorem bw_4_48 : Cond.code yX9_mark cX9_mark 3 (some .int) ∈ BIG := big_of (tin_4 _ (List.mem_of_getElem? (i := 48) (by decide +kernel))) rfl
theorem bw_4_49 : Cond.constant RX9 224 (-1000000) ∈ BIG := big_of (tin_4 _ (List.mem_of_getElem? (i := 49) (by decide +kernel))) rfl
theorem bw_4_50 : Cond.methodLink RX9 225 yX2_markAs ∈ BIG := big_of (tin_4 _ (List.mem_of_getElem? (i := 50) (by decide +kernel))) rfl
theorem bw_4_51 : Cond.instanceMethod yX2_markAs ∈ BIG := big_of (tin_4 _ (List.mem_of_getElem? (i := 51) (by decide +kernel))) rfl
theorem bw_4_52 : Cond.selects RX2 yX2_markAs yX2_markAs ∈ BIG := big_of (tin_4 _ (List.mem_of_getElem? (i := 52) (by decide +kernel))) rfl
theorem bw_4_53 : Cond.code yX2_markAs cX2_markAs 3 (some .int) ∈ BIG := big_of (tin_4 _ (List.mem_of_getElem? (i := 53) (by decide +kernel))) rfl
theorem bw_4_91 : Cond.constant RX2 42 (-1000000) ∈ BIG := big_of (tin_4 _ (List.mem_of_getElem? (i := 91) (by decide +kernel))) rfl
theorem bw_4_54 : Cond.methodLink RX2 23 yX2_asThing ∈ BIG := big_of (tin_4 _ (List.mem_of_getElem? (i := 54) (by decide +kernel))) rfl
theorem bw_4_56 : Cond.instanceMethod yX2_asThing ∈ BIG := big_of (tin_4 _ (List.mem_of_getElem? (i := 56) (by decide +kernel))) rfl
theorem bw_p_28 : Cond.selects RX2 yX2_asThing yX2_asThing ∈ BIG := big_of (tin_p _ (List.mem_of_getElem? (i := 28) (by decide +kernel))) rfl
theorem bw_4_57 : Cond.code yX2_asThing cX2_asThing 2 (some .int) ∈ BIG := big_of (tin_4 _ (List.mem_of_getElem? (i := 57) (by decide +kernel))) rfl
theorem bw_1_151 : Cond.fieldLink RX2 19 "SelfScale$Kinds" "asked" "J" ∈ BIG := big_of (tin_1 _ (List.mem_of_getElem? (i := 151) (by decide +kernel))) rfl
theorem bw_4_58 : Cond.methodLink RX2 43 yX6_weightOf ∈ BIG := big_of (tin_4 _ (List.mem_of_getElem? (i := 58) (by decide +kernel))) rfl
theorem bw_4_59 : Cond.methodLink RX2 27 yX2_asSack ∈ BIG := big_of (tin_4 _ (List.mem_of_getElem? (i := 59) (by decide +kernel))) rfl
theorem bw_4_61 : Cond.instanceMethod yX2_asSack ∈ BIG := big_of (tin_4 _ (List.mem_of_getElem? (i := 61) (by decide +kernel))) rfl
theorem bw_p_29 : Cond.selects RX2 yX2_asSack yX2_asSack ∈ BIG := big_of (tin_p _ (List.mem_of_getElem? (i := 29) (by decide +kernel))) rfl
theorem bw_4_62 : Cond.code yX2_asSack cX2_asSack 2 (some .int) ∈ BIG := big_of (tin_4 _ (List.mem_of_getElem? (i := 62) (by decide +kernel))) rfl
theorem bw_4_63 : Cond.constantLong RX2 48 (10) ∈ BIG := big_of (tin_4 _ (List.mem_of_getElem? (i := 63) (by decide +kernel))) rfl
theorem bw_4_64 : Cond.methodLink RX2 50 yX6_own ∈ BIG := big_of (tin_4 _ (List.mem_of_getElem? (i := 64) (by decide +kernel))) rfl
theorem bw_4_65 : Cond.methodLink RX2 30 yX2_asLead ∈ BIG := big_of (tin_4 _ (List.mem_of_getElem? (i := 65) (by decide +kernel))) rfl
theorem bw_4_67 : Cond.instanceMethod yX2_asLead ∈ BIG := big_of (tin_4 _ (List.mem_of_getElem? (i := 67) (by decide +kernel))) rfl
theorem bw_p_30 : Cond.selects RX2 yX2_asLead yX2_asLead ∈ BIG := big_of (tin_p _ (List.mem_of_getElem? (i := 30) (by decide +kernel))) rfl
theorem bw_4_68 : Cond.code yX2_asLead cX2_asLead 2 (some .int) ∈ BIG := big_of (tin_4 _ (List.mem_of_getElem? (i := 68) (by decide +kernel))) rfl
theorem bw_4_69 : Cond.constantLong RX2 54 (100) ∈ BIG := big_of (tin_4 _ (List.mem_of_getElem? (i := 69) (by decide +kernel))) rfl
theorem bw_4_70 : Cond.methodLink RX2 33 yX2_asFlour ∈ BIG := big_of (tin_4 _ (List.mem_of_getElem? (i := 70) (by decide +kernel))) rfl
theorem bw_4_72 : Cond.instanceMethod yX2_asFlour ∈ BIG := big_of (tin_4 _ (List.mem_of_getElem? (i := 72) (by decide +kernel))) rfl
theorem bw_p_31 : Cond.selects RX2 yX2_asFlour yX2_asFlour ∈ BIG := big_of (tin_p _ (List.mem_of_getElem? (i := 31) (by decide +kernel))) rfl
theorem bw_4_73 : Cond.code yX2_asFlour cX2_asFlour 2 (some .int) ∈ BIG := big_of (tin_4 _ (List.mem_of_getElem? (i := 73) (by decide +kernel))) rfl
theorem bw_4_74 : Cond.constantLong RX2 56 (1000) ∈ BIG := big_of (tin_4 _ (List.mem_of_getElem? (i := 74) (by decide +kernel))) rfl
theorem bw_4_75 : Cond.methodLink RX2 58 yX0_lines ∈ BIG := big_of (tin_4 _ (List.mem_of_getElem? (i := 75) (by decide +kernel))) rfl
theorem bw_4_76 : Cond.methodLink RX2 36 yX2_asGold ∈ BIG := big_of (tin_4 _ (List.mem_of_getElem? (i := 76) (by decide +kernel))) rfl
theorem bw_4_78 : Cond.instanceMethod yX2_asGold ∈ BIG := big_of (tin_4 _ (List.mem_of_getElem? (i := 78) (by decide +kernel))) rfl
theorem bw_p_32 : Cond.selects RX2 yX2_asGold yX2_asGold ∈ BIG := big_of (tin_p _ (List.mem_of_getElem? (i := 32) (by decide +kernel))) rfl
theorem bw_4_79 : Cond.code yX2_asGold cX2_asGold 2 (some .int) ∈ BIG := big_of (tin_4 _ (List.mem_of_getElem? (i := 79) (by decide +kernel))) rfl
theorem bw_4_80 : Cond.constantLong RX2 63 (10000) ∈ BIG := big_of (tin_4 _ (List.mem_of_getElem? (i := 80) (by decide +kernel))) rfl
theorem bw_4_81 : Cond.methodLink RX2 39 yX2_asBaby ∈ BIG := big_of (tin_4 _ (List.mem_of_getElem? (i := 81) (by decide +kernel))) rfl
theorem bw_4_83 : Cond.instanceMethod yX2_asBaby ∈ BIG := big_of (tin_4 _ (List.mem_of_getElem? (i := 83) (by decide +kernel))) rfl
theorem bw_p_33 : Cond.selects RX2 yX2_asBaby yX2_asBaby ∈ BIG := big_of (tin_p _ (List.mem_of_getElem? (i := 33) (by decide +kernel))) rfl
theorem bw_4_84 : Cond.code yX2_asBaby cX2_asBaby 2 (some .int) ∈ BIG := big_of (tin_4 _ (List.mem_of_getElem? (i := 84) (by decide +kernel))) rfl
theorem bw_4_85 : Cond.constantLong RX2 65 (100000) ∈ BIG := big_of (tin_4 _ (List.mem_of_getElem? (i := 85) (by decide +kernel))) rfl
theorem bw_4_86 : Cond.methodLink RX2 67 yX0_linesWith ∈ BIG := big_of (tin_4 _ (List.mem_of_getElem? (i := 86) (by decide +kernel))) rfl
theorem bw_4_87 : Cond.instanceMethod yX0_linesWith ∈ BIG := big_of (tin_4 _ (List.mem_of_getElem? (i := 87) (by decide +kernel))) rfl
theorem bw_4_88 : Cond.selects RX0 yX0_linesWith yX0_linesWith ∈ BIG := big_of (tin_4 _ (List.mem_of_getElem? (i := 88) (by decide +kernel))) rfl
theorem bw_4_89 : Cond.code yX0_linesWith cX0_linesWith 4 (some .int) ∈ BIG := big_of (tin_4 _ (List.mem_of_getElem? (i := 89) (by decide +kernel))) rfl
theorem bw_4_90 : Cond.methodLink RX0 46 yX0_setOf ∈ BIG := big_of (tin_4 _ (List.mem_of_getElem? (i := 90) (by decide +kernel))) rfl
theorem bw_5_137 : Cond.methodLink RL 92 yX10_mark ∈ BIG := big_of (tin_5 _ (List.mem_of_getElem? (i := 137) (by decide +kernel))) rfl
theorem bw_5_138 : Cond.instanceMethod yX10_mark ∈ BIG := big_of (tin_5 _ (List.mem_of_getElem? (i := 138) (by decide +kernel))) rfl
theorem bw_5_139 : Cond.selects RX10 yX10_mark yX10_mark ∈ BIG := big_of (tin_5 _ (List.mem_of_getElem? (i := 139) (by decide +kernel))) rfl
theorem bw_5_140 : Cond.code yX10_mark cX10_mark 6 (some .int) ∈ BIG := big_of (tin_5 _ (List.mem_of_getElem? (i := 140) (by decide +kernel))) rfl
theorem bw_5_141 : Cond.constant RX10 168 (-1000000) ∈ BIG := big_of (tin_5 _ (List.mem_of_getElem? (i := 141) (by decide +kernel))) rfl
theorem bw_4_140 : Cond.fieldLink RX10 169 "SelfScaleModel" "trace" "J" ∈ BIG := big_of (tin_4 _ (List.mem_of_getElem? (i := 140) (by decide +kernel))) rfl
theorem bw_5_142 : Cond.constantLong RX10 173 (11) ∈ BIG := big_of (tin_5 _ (List.mem_of_getElem? (i := 142) (by decide +kernel))) rfl
theorem bw_5_143 : Cond.constantLong RX10 175 (101) ∈ BIG := big_of (tin_5 _ (List.mem_of_getElem? (i := 143) (by decide +kernel))) rfl
theorem bw_5_144 : Cond.constantLong RX10 177 (1011) ∈ BIG := big_of (tin_5 _ (List.mem_of_getElem? (i := 144) (by decide +kernel))) rfl
theorem bw_5_145 : Cond.constantLong RX10 179 (10101) ∈ BIG := big_of (tin_5 _ (List.mem_of_getElem? (i := 145) (by decide +kernel))) rfl
theorem bw_5_146 : Cond.constantLong RX10 181 (100001) ∈ BIG := big_of (tin_5 _ (List.mem_of_getElem? (i := 146) (by decide +kernel))) rfl
theorem bw_4_92 : Cond.methodLink RL 93 yX9_keep ∈ BIG := big_of (tin_4 _ (List.mem_of_getElem? (i := 92) (by decide +kernel))) rfl
theorem bw_4_93 : Cond.instanceMethod yX9_keep ∈ BIG := big_of (tin_4 _ (List.mem_of_getElem? (i := 93) (by decide +kernel))) rfl
theorem bw_4_94 : Cond.selects RX9 yX9_keep yX9_keep ∈ BIG := big_of (tin_4 _ (List.mem_of_getElem? (i := 94) (by decide +kernel))) rfl
theorem bw_4_95 : Cond.code yX9_keep cX9_keep 2 (some .int) ∈ BIG := big_of (tin_4 _ (List.mem_of_getElem? (i := 95) (by decide +kernel))) rfl
theorem bw_4_96 : Cond.methodLink RX9 228 yX9_imageOf ∈ BIG := big_of (tin_4 _ (List.mem_of_getElem? (i := 96) (by decide +kernel))) rfl
theorem bw_4_98 : Cond.instanceMethod yX9_imageOf ∈ BIG := big_of (tin_4 _ (List.mem_of_getElem? (i := 98) (by decide +kernel))) rfl
theorem bw_p_34 : Cond.selects RX9 yX9_imageOf yX9_imageOf ∈ BIG := big_of (tin_p _ (List.mem_of_getElem? (i := 34) (by decide +kernel))) rfl
theorem bw_4_99 : Cond.code yX9_imageOf cX9_imageOf 2 (some (.object "SelfScale$Image")) ∈ BIG := big_of (tin_4 _ (List.mem_of_getElem? (i := 99) (by decide +kernel))) rfl
theorem bw_4_100 : Cond.methodLink RX9 232 yX1_take ∈ BIG := big_of (tin_4 _ (List.mem_of_getElem? (i := 100) (by decide +kernel))) rfl
theorem bw_4_101 : Cond.instanceMethod yX1_take ∈ BIG := big_of (tin_4 _ (List.mem_of_getElem? (i := 101) (by decide +kernel))) rfl
theorem bw_4_102 : Cond.selects RX1 yX1_take yX1_take ∈ BIG := big_of (tin_4 _ (List.mem_of_getElem? (i := 102) (by decide +kernel))) rfl
theorem bw_4_103 : Cond.code yX1_take cX1_take 2 none ∈ BIG := big_of (tin_4 _ (List.mem_of_getElem? (i := 103) (by decide +kernel))) rfl
theorem bw_4_104 : Cond.methodLink RX1 16 yX0_copyFrom ∈ BIG := big_of (tin_4 _ (List.mem_of_getElem? (i := 104) (by decide +kernel))) rfl
theorem bw_4_105 : Cond.instanceMethod yX0_copyFrom ∈ BIG := big_of (tin_4 _ (List.mem_of_getElem? (i := 105) (by decide +kernel))) rfl
theorem bw_4_106 : Cond.selects RX0 yX0_copyFrom yX0_copyFrom ∈ BIG := big_of (tin_4 _ (List.mem_of_getElem? (i := 106) (by decide +kernel))) rfl
theorem bw_4_107 : Cond.code yX0_copyFrom cX0_copyFrom 2 none ∈ BIG := big_of (tin_4 _ (List.mem_of_getElem? (i := 107) (by decide +kernel))) rfl
theorem bw_4_108 : Cond.methodLink RX0 38 yX5_copyFrom ∈ BIG := big_of (tin_4 _ (List.mem_of_getElem? (i := 108) (by decide +kernel))) rfl
theorem bw_5_147 : Cond.methodLink RL 96 yX10_keep ∈ BIG := big_of (tin_5 _ (List.mem_of_getElem? (i := 147) (by decide +kernel))) rfl
theorem bw_5_148 : Cond.instanceMethod yX10_keep ∈ BIG := big_of (tin_5 _ (List.mem_of_getElem? (i := 148) (by decide +kernel))) rfl
theorem bw_5_149 : Cond.selects RX10 yX10_keep yX10_keep ∈ BIG := big_of (tin_5 _ (List.mem_of_getElem? (i := 149) (by decide +kernel))) rfl
theorem bw_5_150 : Cond.code yX10_keep cX10_keep 2 (some .int) ∈ BIG := big_of (tin_5 _ (List.mem_of_getElem? (i := 150) (by decide +kernel))) rfl
theorem bw_5_151 : Cond.methodLink RX10 183 yX10_copy ∈ BIG := big_of (tin_5 _ (List.mem_of_getElem? (i := 151) (by decide +kernel))) rfl
theorem bw_5_153 : Cond.instanceMethod yX10_copy ∈ BIG := big_of (tin_5 _ (List.mem_of_getElem? (i := 153) (by decide +kernel))) rfl
theorem bw_p_58 : Cond.selects RX10 yX10_copy yX10_copy ∈ BIG := big_of (tin_p _ (List.mem_of_getElem? (i := 58) (by decide +kernel))) rfl
theorem bw_5_154 : Cond.code yX10_copy cX10_copy 4 none ∈ BIG := big_of (tin_5 _ (List.mem_of_getElem? (i := 154) (by decide +kernel))) rfl
theorem bw_4_109 : Cond.methodLink RL 97 yX9_back ∈ BIG := big_of (tin_4 _ (List.mem_of_getElem? (i := 109) (by decide +kernel))) rfl
theorem bw_4_110 : Cond.instanceMethod yX9_back ∈ BIG := big_of (tin_4 _ (List.mem_of_getElem? (i := 110) (by decide +kernel))) rfl
theorem bw_4_111 : Cond.selects RX9 yX9_back yX9_back ∈ BIG := big_of (tin_4 _ (List.mem_of_getElem? (i := 111) (by decide +kernel))) rfl
theorem bw_4_112 : Cond.code yX9_back cX9_back 2 (some .int) ∈ BIG := big_of (tin_4 _ (List.mem_of_getElem? (i := 112) (by decide +kernel))) rfl
theorem bw_4_113 : Cond.methodLink RX9 236 yX1_isKept ∈ BIG := big_of (tin_4 _ (List.mem_of_getElem? (i := 113) (by decide +kernel))) rfl
theorem bw_4_114 : Cond.instanceMethod yX1_isKept ∈ BIG := big_of (tin_4 _ (List.mem_of_getElem? (i := 114) (by decide +kernel))) rfl
theorem bw_4_115 : Cond.selects RX1 yX1_isKept yX1_isKept ∈ BIG := big_of (tin_4 _ (List.mem_of_getElem? (i := 115) (by decide +kernel))) rfl
theorem bw_4_116 : Cond.code yX1_isKept cX1_isKept 1 (some .boolean) ∈ BIG := big_of (tin_4 _ (List.mem_of_getElem? (i := 116) (by decide +kernel))) rfl
theorem bw_4_117 : Cond.methodLink RX9 239 yX1_kept ∈ BIG := big_of (tin_4 _ (List.mem_of_getElem? (i := 117) (by decide +kernel))) rfl
theorem bw_4_118 : Cond.instanceMethod yX1_kept ∈ BIG := big_of (tin_4 _ (List.mem_of_getElem? (i := 118) (by decide +kernel))) rfl
theorem bw_4_119 : Cond.selects RX1 yX1_kept yX1_kept ∈ BIG := big_of (tin_4 _ (List.mem_of_getElem? (i := 119) (by decide +kernel))) rfl
theorem bw_4_120 : Cond.code yX1_kept cX1_kept 1 (some (.object "SelfScale$Book")) ∈ BIG := big_of (tin_4 _ (List.mem_of_getElem? (i := 120) (by decide +kernel))) rfl
theorem bw_4_121 : Cond.methodLink RX9 243 yX0_copyFrom ∈ BIG := big_of (tin_4 _ (List.mem_of_getElem? (i := 121) (by decide +kernel))) rfl
theorem bw_5_155 : Cond.methodLink RL 100 yX10_back ∈ BIG := big_of (tin_5 _ (List.mem_of_getElem? (i := 155) (by decide +kernel))) rfl
theorem bw_5_156 : Cond.instanceMethod yX10_back ∈ BIG := big_of (tin_5 _ (List.mem_of_getElem? (i := 156) (by decide +kernel))) rfl
theorem bw_5_157 : Cond.selects RX10 yX10_back yX10_back ∈ BIG := big_of (tin_5 _ (List.mem_of_getElem? (i := 157) (by decide +kernel))) rfl
theorem bw_5_158 : Cond.code yX10_back cX10_back 2 (some .int) ∈ BIG := big_of (tin_5 _ (List.mem_of_getElem? (i := 158) (by decide +kernel))) rfl
theorem bw_4_122 : Cond.methodLink RL 101 yX9_count ∈ BIG := big_of (tin_4 _ (List.mem_of_getElem? (i := 122) (by decide +kernel))) rfl
theorem bw_4_123 : Cond.instanceMethod yX9_count ∈ BIG := big_of (tin_4 _ (List.mem_of_getElem? (i := 123) (by decide +kernel))) rfl
theorem bw_4_124 : Cond.selects RX9 yX9_count yX9_count ∈ BIG := big_of (tin_4 _ (List.mem_of_getElem? (i := 124) (by decide +kernel))) rfl
theorem bw_4_125 : Cond.code yX9_count cX9_count 2 (some .int) ∈ BIG := big_of (tin_4 _ (List.mem_of_getElem? (i := 125) (by decide +kernel))) rfl
theorem bw_5_159 : Cond.methodLink RL 104 yX10_count ∈ BIG := big_of (tin_5 _ (List.mem_of_getElem? (i := 159) (by decide +kernel))) rfl
theorem bw_5_160 : Cond.instanceMethod yX10_count ∈ BIG := big_of (tin_5 _ (List.mem_of_getElem? (i := 160) (by decide +kernel))) rfl
theorem bw_5_161 : Cond.selects RX10 yX10_count yX10_count ∈ BIG := big_of (tin_5 _ (List.mem_of_getElem? (i := 161) (by decide +kernel))) rfl
theorem bw_5_162 : Cond.code yX10_count cX10_count 2 (some .int) ∈ BIG := big_of (tin_5 _ (List.mem_of_getElem? (i := 162) (by decide +kernel))) rfl
theorem bw_4_126 : Cond.methodLink RL 105 yX9_trace ∈ BIG := big_of (tin_4 _ (List.mem_of_getElem? (i := 126) (by decide +kernel))) rfl
theorem bw_4_127 : Cond.instanceMethod yX9_trace ∈ BIG := big_of (tin_4 _ (List.mem_of_getElem? (i := 127) (by decide +kernel))) rfl
theorem bw_4_128 : Cond.selects RX9 yX9_trace yX9_trace ∈ BIG := big_of (tin_4 _ (List.mem_of_getElem? (i := 128) (by decide +kernel))) rfl
theorem bw_4_129 : Cond.code yX9_trace cX9_trace 1 (some .long) ∈ BIG := big_of (tin_4 _ (List.mem_of_getElem? (i := 129) (by decide +kernel))) rfl
theorem bw_4_130 : Cond.methodLink RX9 245 yX2_asked ∈ BIG := big_of (tin_4 _ (List.mem_of_getElem? (i := 130) (by decide +kernel))) rfl
theorem bw_4_131 : Cond.instanceMethod yX2_asked ∈ BIG := big_of (tin_4 _ (List.mem_of_getElem? (i := 131) (by decide +kernel))) rfl
theorem bw_4_132 : Cond.selects RX2 yX2_asked yX2_asked ∈ BIG := big_of (tin_4 _ (List.mem_of_getElem? (i := 132) (by decide +kernel))) rfl
theorem bw_4_133 : Cond.code yX2_asked cX2_asked 1 (some .long) ∈ BIG := big_of (tin_4 _ (List.mem_of_getElem? (i := 133) (by decide +kernel))) rfl
theorem bw_5_163 : Cond.methodLink RL 109 yX10_trace ∈ BIG := big_of (tin_5 _ (List.mem_of_getElem? (i := 163) (by decide +kernel))) rfl
theorem bw_5_164 : Cond.instanceMethod yX10_trace ∈ BIG := big_of (tin_5 _ (List.mem_of_getElem? (i := 164) (by decide +kernel))) rfl
theorem bw_5_165 : Cond.selects RX10 yX10_trace yX10_trace ∈ BIG := big_of (tin_5 _ (List.mem_of_getElem? (i := 165) (by decide +kernel))) rfl
theorem bw_5_166 : Cond.code yX10_trace cX10_trace 1 (some .long) ∈ BIG := big_of (tin_5 _ (List.mem_of_getElem? (i := 166) (by decide +kernel))) rfl
theorem inX0 : ∀ w ∈ u_ws RX0 TX0 4, w ∈ BIG := by
  intro w h
  obtain ⟨k, hk, rfl⟩ := List.mem_map.mp h
  have hk2 : k < 4 := List.mem_range.mp hk
  rcases (show k = 0 ∨ k = 1 ∨ k = 2 ∨ k = 3 by omega) with rfl | rfl | rfl | rfl
  · exact bw_1_119
  · exact bw_1_121
  · exact bw_1_123
  · exact bw_1_125
theorem inX1 : ∀ w ∈ u_ws RX1 TX1 2, w ∈ BIG := by
  intro w h
  obtain ⟨k, hk, rfl⟩ := List.mem_map.mp h
  have hk2 : k < 2 := List.mem_range.mp hk
  rcases (show k = 0 ∨ k = 1 by omega) with rfl | rfl
  · exact bw_1_138
  · exact bw_1_140
theorem inX2 : ∀ w ∈ u_ws RX2 TX2 3, w ∈ BIG := by
  intro w h
  obtain ⟨k, hk, rfl⟩ := List.mem_map.mp h
  have hk2 : k < 3 := List.mem_range.mp hk
  rcases (show k = 0 ∨ k = 1 ∨ k = 2 by omega) with rfl | rfl | rfl
  · exact bw_1_152
  · exact bw_1_154
  · exact bw_1_156
theorem inX3 : ∀ w ∈ u_ws RX3 TX3 5, w ∈ BIG := by
  intro w h
  obtain ⟨k, hk, rfl⟩ := List.mem_map.mp h
  have hk2 : k < 5 := List.mem_range.mp hk
  rcases (show k = 0 ∨ k = 1 ∨ k = 2 ∨ k = 3 ∨ k = 4 by omega) with rfl | rfl | rfl | rfl | rfl
  · exact bw_1_214
  · exact bw_1_216
  · exact bw_1_218
  · exact bw_1_220
  · exact bw_1_222
theorem inX4 : ∀ w ∈ u_ws RX4 TX4 8, w ∈ BIG := by
  intro w h
  obtain ⟨k, hk, rfl⟩ := List.mem_map.mp h
  have hk2 : k < 8 := List.mem_range.mp hk
  rcases (show k = 0 ∨ k = 1 ∨ k = 2 ∨ k = 3 ∨ k = 4 ∨ k = 5 ∨ k = 6 ∨ k = 7 by omega) with rfl | rfl | rfl | rfl | rfl | rfl | rfl | rfl
  · exact bw_1_88
  · exact bw_1_90
  · exact bw_1_92
  · exact bw_1_94
  · exact bw_1_96
  · exact bw_1_98
  · exact bw_1_100
  · exact bw_1_102
theorem inX5 : ∀ w ∈ u_ws RX5 TX5 1, w ∈ BIG := by
  intro w h
  obtain ⟨k, hk, rfl⟩ := List.mem_map.mp h
  have hk2 : k < 1 := List.mem_range.mp hk
  have e : k = 0 := by omega
  subst e
  exact bw_1_39
theorem inX6 : ∀ w ∈ u_ws RX6 TX6 5, w ∈ BIG := by
  intro w h
  obtain ⟨k, hk, rfl⟩ := List.mem_map.mp h
  have hk2 : k < 5 := List.mem_range.mp hk
  rcases (show k = 0 ∨ k = 1 ∨ k = 2 ∨ k = 3 ∨ k = 4 by omega) with rfl | rfl | rfl | rfl | rfl
  · exact bw_1_69
  · exact bw_1_71
  · exact bw_1_73
  · exact bw_1_75
  · exact bw_1_77
theorem inX7 : ∀ w ∈ u_ws RX7 TX7 2, w ∈ BIG := by
  intro w h
  obtain ⟨k, hk, rfl⟩ := List.mem_map.mp h
  have hk2 : k < 2 := List.mem_range.mp hk
  rcases (show k = 0 ∨ k = 1 by omega) with rfl | rfl
  · exact bw_1_45
  · exact bw_1_47
theorem inX8 : ∀ w ∈ u_ws RX8 TX8 11, w ∈ BIG := by
  intro w h
  obtain ⟨k, hk, rfl⟩ := List.mem_map.mp h
  have hk2 : k < 11 := List.mem_range.mp hk
  rcases (show k = 0 ∨ k = 1 ∨ k = 2 ∨ k = 3 ∨ k = 4 ∨ k = 5 ∨ k = 6 ∨ k = 7 ∨ k = 8 ∨ k = 9 ∨ k = 10 by omega) with rfl | rfl | rfl | rfl | rfl | rfl | rfl | rfl | rfl | rfl | rfl
  · exact bw_1_178
  · exact bw_1_180
  · exact bw_1_182
  · exact bw_1_184
  · exact bw_1_186
  · exact bw_1_188
  · exact bw_1_190
  · exact bw_1_192
  · exact bw_1_194
  · exact bw_1_196
  · exact bw_1_198
theorem inX9 : ∀ w ∈ u_ws RX9 TX9 9, w ∈ BIG := by
  intro w h
  obtain ⟨k, hk, rfl⟩ := List.mem_map.mp h
  have hk2 : k < 9 := List.mem_range.mp hk
  rcases (show k = 0 ∨ k = 1 ∨ k = 2 ∨ k = 3 ∨ k = 4 ∨ k = 5 ∨ k = 6 ∨ k = 7 ∨ k = 8 by omega) with rfl | rfl | rfl | rfl | rfl | rfl | rfl | rfl | rfl
  · exact bw_1_234
  · exact bw_1_236
  · exact bw_1_238
  · exact bw_2_0
  · exact bw_2_2
  · exact bw_2_4
  · exact bw_2_6
  · exact bw_2_8
  · exact bw_2_10
theorem inX10 : ∀ w ∈ u_ws RX10 TX10 20, w ∈ BIG := by
  intro w h
  obtain ⟨k, hk, rfl⟩ := List.mem_map.mp h
  have hk2 : k < 20 := List.mem_range.mp hk
  rcases (show k = 0 ∨ k = 1 ∨ k = 2 ∨ k = 3 ∨ k = 4 ∨ k = 5 ∨ k = 6 ∨ k = 7 ∨ k = 8 ∨ k = 9 ∨ k = 10 ∨ k = 11 ∨ k = 12 ∨ k = 13 ∨ k = 14 ∨ k = 15 ∨ k = 16 ∨ k = 17 ∨ k = 18 ∨ k = 19 by omega) with rfl | rfl | rfl | rfl | rfl | rfl | rfl | rfl | rfl | rfl | rfl | rfl | rfl | rfl | rfl | rfl | rfl | rfl | rfl | rfl
  · exact bw_4_160
  · exact bw_4_162
  · exact bw_4_164
  · exact bw_4_166
  · exact bw_4_168
  · exact bw_4_170
  · exact bw_4_172
  · exact bw_4_174
  · exact bw_4_176
  · exact bw_4_178
  · exact bw_4_180
  · exact bw_4_182
  · exact bw_4_184
  · exact bw_4_186
  · exact bw_4_188
  · exact bw_4_190
  · exact bw_4_192
  · exact bw_4_194
  · exact bw_4_196
  · exact bw_4_198
end
section
/-! THE WORLD: seventy cells, of which the memory says what they hold; the judgement J over it. -/
abbrev Mc : Type := (Nat → Int32) × Int64
abbrev Mem : Type := Nat → Mc
/-- launch, D, addresses, the classes of arrays of ints, bytes, booleans, addresses of the three literals and of their bytes -/
abbrev En : Type := Launch × va_G × (Nat → Nat) × ClassId × ClassId × ClassId × (Nat → Nat) × (Nat → Nat)
abbrev eA (E : En) : Nat → Nat := E.2.2.1
abbrev eI (E : En) : ClassId := E.2.2.2.1
abbrev eB (E : En) : ClassId := E.2.2.2.2.1
abbrev eZ (E : En) : ClassId := E.2.2.2.2.2.1
abbrev eK (E : En) : Nat → Nat := E.2.2.2.2.2.2.1
abbrev eV (E : En) : Nat → Nat := E.2.2.2.2.2.2.2
abbrev classes : List vw_C := [(RX0, TX0, 4), (RX1, TX1, 2), (RX2, TX2, 3), (RX3, TX3, 5), (RX4, TX4, 8), (RX5, TX5, 1), (RX6, TX6, 5), (RX7, TX7, 2), (RX8, TX8, 11), (RX9, TX9, 9), (RX10, TX10, 20)]
abbrev en_ty (E : En) : List (ClassId × FieldType) := [(eI E, .int), (eB E, .byte), (eZ E, .boolean)]
def shL (E : En) : List (Mc → va_E) := [fun c => .inr (9, [.ref (eA E 1), .ref (eA E 4), .ref (eA E 10), .ref (eA E 15), .ref (eA E 22), .ref (eA E 30), .ref (eA E 38), .ref (eA E 39), .ref (eA E 50)]),
  fun c => .inr (7, [.ref (eA E 2), .int (c.1 1)]),
  fun c => .inr (5, [.ref (eA E 3)]),
  fun c => .inl (eI E, 200, .inl c.1),
  fun c => .inr (4, [.ref (eA E 1), .ref (eA E 5), .int (c.1 2), .int (c.1 3), .int (c.1 4), .int (c.1 5), .int (c.1 6), .int (c.1 7)]),
  fun c => .inr (6, [.ref (eA E 6), .ref (eA E 8), .int (c.1 2), .int (c.1 3), .int (c.1 4)]),
  fun c => .inr (5, [.ref (eA E 7)]),
  fun c => .inl (eI E, 3, .inl c.1),
  fun c => .inr (5, [.ref (eA E 9)]),
  fun c => .inl (eI E, 8, .inl c.1),
  fun c => .inr (6, [.ref (eA E 11), .ref (eA E 13), .int (c.1 2), .int (c.1 3), .int (c.1 4)]),
  fun c => .inr (5, [.ref (eA E 12)]),
  fun c => .inl (eI E, 3, .inl c.1),
  fun c => .inr (5, [.ref (eA E 14)]),
  fun c => .inl (eI E, 8, .inl c.1),
  fun c => .inr (0, [.ref (eA E 16), .ref (eA E 18), .ref (eA E 20), .int (c.1 3)]),
  fun c => .inr (5, [.ref (eA E 17)]),
  fun c => .inl (eI E, 12, .inl c.1),
  fun c => .inr (5, [.ref (eA E 19)]),
  fun c => .inl (eI E, 12, .inl c.1),
  fun c => .inr (5, [.ref (eA E 21)]),
  fun c => .inl (eI E, 12, .inl c.1),
  fun c => .inr (1, [.ref (eA E 23), .int (c.1 1)]),
  fun c => .inr (0, [.ref (eA E 24), .ref (eA E 26), .ref (eA E 28), .int (c.1 3)]),
  fun c => .inr (5, [.ref (eA E 25)]),
  fun c => .inl (eI E, 12, .inl c.1),
  fun c => .inr (5, [.ref (eA E 27)]),
  fun c => .inl (eI E, 12, .inl c.1),
  fun c => .inr (5, [.ref (eA E 29)]),
  fun c => .inl (eI E, 12, .inl c.1),
  fun c => .inr (1, [.ref (eA E 31), .int (c.1 1)]),
  fun c => .inr (0, [.ref (eA E 32), .ref (eA E 34), .ref (eA E 36), .int (c.1 3)]),
  fun c => .inr (5, [.ref (eA E 33)]),
  fun c => .inl (eI E, 12, .inl c.1),
  fun c => .inr (5, [.ref (eA E 35)]),
  fun c => .inl (eI E, 12, .inl c.1),
  fun c => .inr (5, [.ref (eA E 37)]),
  fun c => .inl (eI E, 12, .inl c.1),
  fun c => .inr (2, [.ref (eA E 10), .ref (eA E 15), .long c.2]),
  fun c => .inr (8, [.ref (eA E 10), .ref (eA E 15), .ref (eA E 40), .ref (eA E 42), .ref (eA E 44), .ref (eA E 46), .ref (eA E 48), .int (c.1 7), .int (c.1 8), .int (c.1 9), .int (c.1 10)]),
  fun c => .inr (5, [.ref (eA E 41)]),
  fun c => .inl (eI E, 296, .inl c.1),
  fun c => .inr (5, [.ref (eA E 43)]),
  fun c => .inl (eI E, 313, .inl c.1),
  fun c => .inr (5, [.ref (eA E 45)]),
  fun c => .inl (eI E, 40, .inl c.1),
  fun c => .inr (5, [.ref (eA E 47)]),
  fun c => .inl (eI E, 13, .inl c.1),
  fun c => .inr (5, [.ref (eA E 49)]),
  fun c => .inl (eI E, 156, .inl c.1),
  fun c => .inr (3, [.ref (eA E 10), .ref (eA E 39), .ref (eA E 51), .ref (eA E 53), .ref (eA E 55)]),
  fun c => .inr (5, [.ref (eA E 52)]),
  fun c => .inl (eI E, 20, .inl c.1),
  fun c => .inr (5, [.ref (eA E 54)]),
  fun c => .inl (eI E, 20, .inl c.1),
  fun c => .inr (5, [.ref (eA E 56)]),
  fun c => .inl (eI E, 400, .inl c.1),
  fun c => .inr (10, [.long c.2, .ref (eA E 58), .int (c.1 2), .ref (eA E 59), .ref (eA E 60), .ref (eA E 61), .int (c.1 6), .int (c.1 7), .int (c.1 8), .int (c.1 9), .int (c.1 10), .int (c.1 11), .ref (eA E 62), .ref (eA E 63), .ref (eA E 64), .ref (eA E 65), .ref (eA E 66), .ref (eA E 67), .ref (eA E 68), .ref (eA E 69)]),
  fun c => .inl (eB E, 200, .inl c.1),
  fun c => .inl (eI E, 2, .inl c.1),
  fun c => .inl (eI E, 8, .inl c.1),
  fun c => .inl (eI E, 2, .inl c.1),
  fun c => .inl (eI E, 3, .inl c.1),
  fun c => .inl (eI E, 108, .inl c.1),
  fun c => .inl (eZ E, 2, .inl c.1),
  fun c => .inl (eI E, 4, .inl c.1),
  fun c => .inl (eI E, 20, .inl c.1),
  fun c => .inl (eI E, 400, .inl c.1),
  fun c => .inl (eZ E, 20, .inl c.1),
  fun c => .inl (eI E, 8, .inl c.1)]
def sh (E : En) (k : Nat) (c : Mc) : va_E := (shL E).getD k (fun c => .inl (eI E, 0, .inl c.1)) c
def world (E : En) (S : Mem) : va_W := (List.range 70).map (fun k => (eA E k, sh E k (S k)))
def inW (E : En) : Nat → Prop := fun q => ∃ k, k < 70 ∧ q = eA E k
theorem world_get (E : En) (S : Mem) {k : Nat} (h : k < 70) : (world E S)[k]? = some (eA E k, sh E k (S k)) := by
  unfold world
  rw [List.getElem?_map, List.getElem?_range h]
  rfl
theorem world_set (E : En) {S S' : Mem} {k : Nat} (h : k < 70) (ho : ∀ a, a ≠ k → S' a = S a) : (world E S).set k (eA E k, sh E k (S' k)) = world E S' := by
  apply List.ext_getElem?
  intro i
  rw [List.getElem?_set]
  by_cases hi : k = i
  · subst hi
    have hl : k < (world E S).length := by simp [world, h]
    rw [if_pos rfl, if_pos hl, world_get E S' h]
  · rw [if_neg hi]
    by_cases h7 : i < 70
    · rw [world_get E S h7, world_get E S' h7, ho i (fun e => hi e.symm)]
    · have h8 : ∀ R : Mem, (world E R)[i]? = none := fun R => by simp [world]; omega
      rw [h8, h8]
theorem world_in (E : En) (S : Mem) {A : Nat → Prop} (h : va_D A (world E S)) : ∀ q, inW E q → A q := by
  rintro q ⟨k, hk, rfl⟩
  exact h.2 k _ (world_get E S hk)
theorem world_D (E : En) (S S' : Mem) {A B : Nat → Prop} (h : va_D A (world E S)) (hB : ∀ q, inW E q → B q) : va_D B (world E S') := by
  have key : ∀ (R : Mem) (i : Nat) (p : Nat × va_E), (world E R)[i]? = some p → i < 70 ∧ p.1 = eA E i := by
    intro R i p hp
    have hl : i < 70 := by
      have := (List.getElem?_eq_some_iff.mp hp).1
      simpa [world] using this
    rw [world_get E R hl] at hp
    exact ⟨hl, by rw [← Option.some.inj hp]⟩
  refine ⟨fun i j p q hp hq e => ?_, fun k q hk => ?_⟩
  · obtain ⟨hi, e1⟩ := key S' i p hp
    obtain ⟨hj, e2⟩ := key S' j q hq
    exact h.1 i j _ _ (world_get E S hi) (world_get E S hj) (by show eA E i = eA E j; rw [← e1, ← e2, e])
  · obtain ⟨hi, e1⟩ := key S' k q hk
    exact hB _ ⟨k, hi, e1⟩
/-- memory: read, write -/
def wr (S : Mem) (k j : Nat) (x : Int32) : Mem := fun a => cond (Nat.beq a k) (upd (S k).1 j x, (S k).2) (S a)
def wrL (S : Mem) (k : Nat) (x : Int64) : Mem := fun a => cond (Nat.beq a k) ((S k).1, x) (S a)
theorem beq_ne {a k : Nat} (h : a ≠ k) : Nat.beq a k = false := by
  cases hq : Nat.beq a k
  · rfl
  · exact absurd (Nat.eq_of_beq_eq_true hq) h
theorem wr_at (S : Mem) (k j : Nat) (x : Int32) : wr S k j x k = (upd (S k).1 j x, (S k).2) := by simp [wr]
theorem wr_ne (S : Mem) (k j : Nat) (x : Int32) {a : Nat} (h : a ≠ k) : wr S k j x a = S a := by simp [wr, beq_ne h]
theorem wrL_at (S : Mem) (k : Nat) (x : Int64) : wrL S k x k = ((S k).1, x) := by simp [wrL]
theorem wrL_ne (S : Mem) (k : Nat) (x : Int64) {a : Nat} (h : a ≠ k) : wrL S k x a = S a := by simp [wrL, beq_ne h]
/-- names, calls, loops of the printed functions -/
def lt_ {α β : Type} (a : α) (k : α → β) : β := k a
def bnd {α β γ : Type} (o : Option (α × β)) (k : α → β → Option γ) : Option γ := match o with | none => none | some r => k r.1 r.2
def bnp {α γ : Type} (o : Option α) (k : α → Option γ) : Option γ := match o with | none => none | some r => k r
def lp {σ ρ : Type} : Nat → (σ → Option (σ ⊕ ρ)) → σ → Option ρ
  | 0, _, _ => none
  | n + 1, f, s => match f s with | none => none | some (.inl t) => lp n f t | some (.inr r) => some r
theorem bnd_some {α β γ : Type} {o : Option (α × β)} {k : α → β → Option γ} {r : γ} (h : bnd o k = some r) : ∃ a b, o = some (a, b) ∧ k a b = some r := by
  cases o with
  | none => cases h
  | some x => exact ⟨x.1, x.2, rfl, h⟩
theorem bnp_some {α γ : Type} {o : Option α} {k : α → Option γ} {r : γ} (h : bnp o k = some r) : ∃ a, o = some a ∧ k a = some r := by
  cases o with
  | none => cases h
  | some x => exact ⟨x, rfl, h⟩
theorem lp_rule {σ ρ : Type} {f : σ → Option (σ ⊕ ρ)} {Jh : σ → Prop} {C : ρ → Prop} (hb : ∀ s o, f s = some o → Sum.elim Jh C o → Jh s) : ∀ (n : Nat) (s : σ) (r : ρ), lp n f s = some r → C r → Jh s := by
  intro n
  induction n with
  | zero => intro s r h; cases h
  | succ n ih =>
    intro s r h hC
    unfold lp at h
    cases hf : f s with
    | none => rw [hf] at h; cases h
    | some o =>
      rw [hf] at h
      cases o with
      | inl t => exact hb s _ hf (ih t r h hC)
      | inr q => cases h; exact hb s _ hf hC
/-- what holds besides the world: the literals, COMPACT_STRINGS, the link between nest mates -/
def Str (E : En) (A : Nat → Prop) (U : State) (H : Heap) : Prop := va_Z "java/lang/String" "COMPACT_STRINGS" "Z" (.int 1) A U H ∧ vk_S 3 [5, 3, 7] [[116, 104, 105, 110, 103], [111, 119, 110], [102, 105, 103, 117, 114, 101, 115]] (eK E) (eV E) A U H
def Lit (E : En) (U : State) : Prop := vk_R "SelfScale$Reader" 106 "thing" (eK E 0) U ∧ vk_R "SelfScale$Reader" 112 "own" (eK E 1) U ∧ vk_R "SelfScale$Reader" 114 "figures" (eK E 2) U ∧ va_Nw (.methodLinkNest RX4 66 yX9_isBetween RX9) U
theorem Str.moved {E : En} {A : Nat → Prop} {u U : State} {H : Heap} (hvm : u.vm.Alike U.vm) (h : Str E A u H) : Str E A U H := ⟨va_Z.moved hvm h.1, vk_S.moved hvm h.2⟩
theorem Str.kept {E : En} {A : Nat → Prop} {U : State} {H H1 : Heap} (h : Str E A U H) (hq : ∀ a : Nat, a < H.size → ¬ A a → H1[a]? = H[a]?) : Str E A U H1 := ⟨va_Z.kept h.1 hq, vk_S.kept h.2 hq⟩
theorem Str.narrow {E : En} {A B : Nat → Prop} {U : State} {H : Heap} (h : Str E A U H) (hAB : ∀ q, B q → A q) : Str E B U H := ⟨va_Z.narrow h.1 hAB, vk_S.narrow h.2 hAB⟩
theorem Lit.warm {E : En} {s U : State} (hW : s.WarmedH U.vm) (h : Lit E s) : Lit E U := ⟨h.1.warm hW, h.2.1.warm hW, h.2.2.1.warm hW, va_Nw.warmM hW h.2.2.2⟩
theorem Lit.same {E : En} {u U : State} (hv : U.vm = u.vm) (h : Lit E u) : Lit E U := ⟨h.1.same hv, h.2.1.same hv, h.2.2.1.same hv, va_Nw.same rfl hv.symm h.2.2.2⟩
def Hd (E : En) (S : Mem) (U : State) : Prop := va_P E.2.1 classes (world E S) U.heap ∧ va_K E.2.1 classes (en_ty E) U ∧ va_D (inW E) (world E S) ∧ Str E (inW E) U U.heap ∧ Lit E U
/-- a contract: with these arguments, over this memory, it answers ov and leaves S'; the world's cells alone are written, none is made -/
def CT (E : En) (y : MethodName) (cc : ByteArray) (nL : Nat) (ret : Option FieldType) (d : Nat) (args : List Value) (S : Mem) (ov : Option Value) (S' : Mem) : Prop :=
  Met E.1 y (Cond.code y cc nL ret :: BIG) { frames := d, cells := 0, slots := 0, locals := 32 * d } (va_Pc args (Hd E S)) (fun _ st oc t => oc = .returned ov ∧ Hd E S' t ∧ va_F (inW E) st t) 0 0 (inW E)
/-- the machine at a method's body: p l e R s m args below meth c nL A cells slots -/
abbrev Cx : Type := Program × Launch × Env × Room × State × MethodId × Array Value × List Frame × Method × Code × Nat × (Nat → Prop) × Nat × Nat
def J (E : En) (X : Cx) (Q : State → Prop) (S : Mem) (pc : Nat) (lv : List (Nat × Value)) (st : List Value) : Prop := match X with
  | (p, l, e, R, s, m, args, below, meth, c, nL, A, cells, slots) => ∀ (H : Heap) (locs : List Loc) (ls : Array Slot), va_P E.2.1 classes (world E S) H → va_D A (world E S) → va_S A s.heap H locs → lv_has ls nL lv → W p l e R s m args below meth c H locs cells slots Q (F0 m pc ls st)
def Fx (E : En) (X : Cx) (cc : ByteArray) (own : String) (nL : Nat) (ret : Option FieldType) (d : Nat) : Prop := match X with
  | (p, l, e, R, s, m, args, below, meth, c, n0, A, cells, slots) => p.tables.exec = Jvm.exec ∧ c.code = cc ∧ c.maxLocals = nL ∧ n0 = nL ∧ s.vm.findClass own = some m.cls ∧ (∀ w ∈ BIG, w.before args s = true) ∧ va_K E.2.1 classes (en_ty E) s ∧ Str E A s s.heap ∧ Lit E s ∧ meth.sig.returnType = ret ∧ meth.locks = false ∧ l = E.1 ∧ d ≤ R.frames ∧ 32 * d ≤ R.locals ∧ cells ≤ R.cells ∧ slots ≤ R.slots
def RQ (E : En) (X : Cx) (ov : Option Value) (S' : Mem) : State → Prop := match X with
  | (p, l, e, R, s, m, args, below, meth, c, nL, A, cells, slots) => MQ below (fun _ st oc t => oc = .returned ov ∧ Hd E S' t ∧ va_F A st t) args s cells slots A
theorem goodBIG {x y : MethodName} {cx cy : ByteArray} {nx ny : Nat} {rx ry : Option FieldType} (h : Cond.code y cy ny ry ∈ BIG) : GoodIn (Cond.code x cx nx rx :: BIG) (Cond.code y cy ny ry :: BIG) := by
  intro w hw
  have hb : w ∈ BIG := by
    rcases List.mem_cons.mp hw with e | e
    · rw [e]; exact h
    · exact e
  exact ⟨List.mem_cons_of_mem _ hb, good_of_word (big_good w hb)⟩
theorem goodBIG0 {y : MethodName} {cy : ByteArray} {ny : Nat} {ry : Option FieldType} (h : Cond.code y cy ny ry ∈ BIG) : GoodIn BIG (Cond.code y cy ny ry :: BIG) := by
  intro w hw
  have hb : w ∈ BIG := by
    rcases List.mem_cons.mp hw with e | e
    · rw [e]; exact h
    · exact e
  exact ⟨hb, good_of_word (big_good w hb)⟩
set_option maxHeartbeats 1000000 in
theorem CT_of {E : En} {y : MethodName} {cc : ByteArray} {nL : Nat} {ret : Option FieldType} {d : Nat} {args : List Value} {S S' : Mem} {ov : Option Value} (hy : plainName y.cls = true) (hlen : (lg_sl args).length ≤ nL)
    (body : ∀ X : Cx, Fx E X cc y.cls nL ret d → J E X (RQ E X ov S') S 0 (lv_args 0 args) []) : CT E y cc nL ret d args S ov S' := by
  refine Met.ofW (cc := cc) (maxL := nL) (ret := ret) hy rfl ?_
  intro p e s m args0 below meth c s₁ B hml hv
  obtain ⟨rfl, hP, hK, hD, hStr, hLit⟩ := hv
  have hts := atoms_spec (ws := Cond.code y cc nL ret :: BIG) B.pre
  have hown : s.vm.findClass y.cls = some m.cls := findClass_of_methodNamed B.named
  have hl := lv_entry args (n := nL) hlen
  rw [lg_entry_eq]
  generalize (lg_sl args ++ List.replicate (nL - (lg_sl args).length) Slot.unset).toArray = ls at hl ⊢
  exact body (p, E.1, e, { frames := d, cells := 0, slots := 0, locals := 32 * d }, s, m, args.toArray, below, meth, c, nL, inW E, 0, 0) ⟨B.exec, B.bytes, hml, rfl, hown, fun w hw => hts w (List.mem_cons_of_mem _ hw), hK, hStr, hLit, B.returns, B.notSynchronized, rfl, Nat.le_refl _, Nat.le_refl _, Nat.le_refl _, Nat.le_refl _⟩ s.heap [] ls hP hD va_S.rf hl
theorem s_0 (E : En) (c : Mc) : sh E 0 c = .inr (9, [.ref (eA E 1), .ref (eA E 4), .ref (eA E 10), .ref (eA E 15), .ref (eA E 22), .ref (eA E 30), .ref (eA E 38), .ref (eA E 39), .ref (eA E 50)]) := rfl
theorem s_1 (E : En) (c : Mc) : sh E 1 c = .inr (7, [.ref (eA E 2), .int (c.1 1)]) := rfl
theorem s_2 (E : En) (c : Mc) : sh E 2 c = .inr (5, [.ref (eA E 3)]) := rfl
theorem s_3 (E : En) (c : Mc) : sh E 3 c = .inl (eI E, 200, .inl c.1) := rfl
theorem s_4 (E : En) (c : Mc) : sh E 4 c = .inr (4, [.ref (eA E 1), .ref (eA E 5), .int (c.1 2), .int (c.1 3), .int (c.1 4), .int (c.1 5), .int (c.1 6), .int (c.1 7)]) := rfl
theorem s_5 (E : En) (c : Mc) : sh E 5 c = .inr (6, [.ref (eA E 6), .ref (eA E 8), .int (c.1 2), .int (c.1 3), .int (c.1 4)]) := rfl
theorem s_6 (E : En) (c : Mc) : sh E 6 c = .inr (5, [.ref (eA E 7)]) := rfl
theorem s_7 (E : En) (c : Mc) : sh E 7 c = .inl (eI E, 3, .inl c.1) := rfl
theorem s_8 (E : En) (c : Mc) : sh E 8 c = .inr (5, [.ref (eA E 9)]) := rfl
theorem s_9 (E : En) (c : Mc) : sh E 9 c = .inl (eI E, 8, .inl c.1) := rfl
theorem s_10 (E : En) (c : Mc) : sh E 10 c = .inr (6, [.ref (eA E 11), .ref (eA E 13), .int (c.1 2), .int (c.1 3), .int (c.1 4)]) := rfl
theorem s_11 (E : En) (c : Mc) : sh E 11 c = .inr (5, [.ref (eA E 12)]) := rfl
theorem s_12 (E : En) (c : Mc) : sh E 12 c = .inl (eI E, 3, .inl c.1) := rfl
theorem s_13 (E : En) (c : Mc) : sh E 13 c = .inr (5, [.ref (eA E 14)]) := rfl
theorem s_14 (E : En) (c : Mc) : sh E 14 c = .inl (eI E, 8, .inl c.1) := rfl
theorem s_15 (E : En) (c : Mc) : sh E 15 c = .inr (0, [.ref (eA E 16), .ref (eA E 18), .ref (eA E 20), .int (c.1 3)]) := rfl
theorem s_16 (E : En) (c : Mc) : sh E 16 c = .inr (5, [.ref (eA E 17)]) := rfl
theorem s_17 (E : En) (c : Mc) : sh E 17 c = .inl (eI E, 12, .inl c.1) := rfl
theorem s_18 (E : En) (c : Mc) : sh E 18 c = .inr (5, [.ref (eA E 19)]) := rfl
theorem s_19 (E : En) (c : Mc) : sh E 19 c = .inl (eI E, 12, .inl c.1) := rfl
theorem s_20 (E : En) (c : Mc) : sh E 20 c = .inr (5, [.ref (eA E 21)]) := rfl
theorem s_21 (E : En) (c : Mc) : sh E 21 c = .inl (eI E, 12, .inl c.1) := rfl
theorem s_22 (E : En) (c : Mc) : sh E 22 c = .inr (1, [.ref (eA E 23), .int (c.1 1)]) := rfl
theorem s_23 (E : En) (c : Mc) : sh E 23 c = .inr (0, [.ref (eA E 24), .ref (eA E 26), .ref (eA E 28), .int (c.1 3)]) := rfl
theorem s_24 (E : En) (c : Mc) : sh E 24 c = .inr (5, [.ref (eA E 25)]) := rfl
theorem s_25 (E : En) (c : Mc) : sh E 25 c = .inl (eI E, 12, .inl c.1) := rfl
theorem s_26 (E : En) (c : Mc) : sh E 26 c = .inr (5, [.ref (eA E 27)]) := rfl
theorem s_27 (E : En) (c : Mc) : sh E 27 c = .inl (eI E, 12, .inl c.1) := rfl
theorem s_28 (E : En) (c : Mc) : sh E 28 c = .inr (5, [.ref (eA E 29)]) := rfl
theorem s_29 (E : En) (c : Mc) : sh E 29 c = .inl (eI E, 12, .inl c.1) := rfl
theorem s_30 (E : En) (c : Mc) : sh E 30 c = .inr (1, [.ref (eA E 31), .int (c.1 1)]) := rfl
theorem s_31 (E : En) (c : Mc) : sh E 31 c = .inr (0, [.ref (eA E 32), .ref (eA E 34), .ref (eA E 36), .int (c.1 3)]) := rfl
theorem s_32 (E : En) (c : Mc) : sh E 32 c = .inr (5, [.ref (eA E 33)]) := rfl
theorem s_33 (E : En) (c : Mc) : sh E 33 c = .inl (eI E, 12, .inl c.1) := rfl
theorem s_34 (E : En) (c : Mc) : sh E 34 c = .inr (5, [.ref (eA E 35)]) := rfl
theorem s_35 (E : En) (c : Mc) : sh E 35 c = .inl (eI E, 12, .inl c.1) := rfl
theorem s_36 (E : En) (c : Mc) : sh E 36 c = .inr (5, [.ref (eA E 37)]) := rfl
theorem s_37 (E : En) (c : Mc) : sh E 37 c = .inl (eI E, 12, .inl c.1) := rfl
theorem s_38 (E : En) (c : Mc) : sh E 38 c = .inr (2, [.ref (eA E 10), .ref (eA E 15), .long c.2]) := rfl
theorem s_39 (E : En) (c : Mc) : sh E 39 c = .inr (8, [.ref (eA E 10), .ref (eA E 15), .ref (eA E 40), .ref (eA E 42), .ref (eA E 44), .ref (eA E 46), .ref (eA E 48), .int (c.1 7), .int (c.1 8), .int (c.1 9), .int (c.1 10)]) := rfl
theorem s_40 (E : En) (c : Mc) : sh E 40 c = .inr (5, [.ref (eA E 41)]) := rfl
theorem s_41 (E : En) (c : Mc) : sh E 41 c = .inl (eI E, 296, .inl c.1) := rfl
theorem s_42 (E : En) (c : Mc) : sh E 42 c = .inr (5, [.ref (eA E 43)]) := rfl
theorem s_43 (E : En) (c : Mc) : sh E 43 c = .inl (eI E, 313, .inl c.1) := rfl
theorem s_44 (E : En) (c : Mc) : sh E 44 c = .inr (5, [.ref (eA E 45)]) := rfl
theorem s_45 (E : En) (c : Mc) : sh E 45 c = .inl (eI E, 40, .inl c.1) := rfl
theorem s_46 (E : En) (c : Mc) : sh E 46 c = .inr (5, [.ref (eA E 47)]) := rfl
theorem s_47 (E : En) (c : Mc) : sh E 47 c = .inl (eI E, 13, .inl c.1) := rfl
theorem s_48 (E : En) (c : Mc) : sh E 48 c = .inr (5, [.ref (eA E 49)]) := rfl
theorem s_49 (E : En) (c : Mc) : sh E 49 c = .inl (eI E, 156, .inl c.1) := rfl
theorem s_50 (E : En) (c : Mc) : sh E 50 c = .inr (3, [.ref (eA E 10), .ref (eA E 39), .ref (eA E 51), .ref (eA E 53), .ref (eA E 55)]) := rfl
theorem s_51 (E : En) (c : Mc) : sh E 51 c = .inr (5, [.ref (eA E 52)]) := rfl
theorem s_52 (E : En) (c : Mc) : sh E 52 c = .inl (eI E, 20, .inl c.1) := rfl
theorem s_53 (E : En) (c : Mc) : sh E 53 c = .inr (5, [.ref (eA E 54)]) := rfl
theorem s_54 (E : En) (c : Mc) : sh E 54 c = .inl (eI E, 20, .inl c.1) := rfl
theorem s_55 (E : En) (c : Mc) : sh E 55 c = .inr (5, [.ref (eA E 56)]) := rfl
theorem s_56 (E : En) (c : Mc) : sh E 56 c = .inl (eI E, 400, .inl c.1) := rfl
theorem s_57 (E : En) (c : Mc) : sh E 57 c = .inr (10, [.long c.2, .ref (eA E 58), .int (c.1 2), .ref (eA E 59), .ref (eA E 60), .ref (eA E 61), .int (c.1 6), .int (c.1 7), .int (c.1 8), .int (c.1 9), .int (c.1 10), .int (c.1 11), .ref (eA E 62), .ref (eA E 63), .ref (eA E 64), .ref (eA E 65), .ref (eA E 66), .ref (eA E 67), .ref (eA E 68), .ref (eA E 69)]) := rfl
theorem s_58 (E : En) (c : Mc) : sh E 58 c = .inl (eB E, 200, .inl c.1) := rfl
theorem s_59 (E : En) (c : Mc) : sh E 59 c = .inl (eI E, 2, .inl c.1) := rfl
theorem s_60 (E : En) (c : Mc) : sh E 60 c = .inl (eI E, 8, .inl c.1) := rfl
theorem s_61 (E : En) (c : Mc) : sh E 61 c = .inl (eI E, 2, .inl c.1) := rfl
theorem s_62 (E : En) (c : Mc) : sh E 62 c = .inl (eI E, 3, .inl c.1) := rfl
theorem s_63 (E : En) (c : Mc) : sh E 63 c = .inl (eI E, 108, .inl c.1) := rfl
theorem s_64 (E : En) (c : Mc) : sh E 64 c = .inl (eZ E, 2, .inl c.1) := rfl
theorem s_65 (E : En) (c : Mc) : sh E 65 c = .inl (eI E, 4, .inl c.1) := rfl
theorem s_66 (E : En) (c : Mc) : sh E 66 c = .inl (eI E, 20, .inl c.1) := rfl
theorem s_67 (E : En) (c : Mc) : sh E 67 c = .inl (eI E, 400, .inl c.1) := rfl
theorem s_68 (E : En) (c : Mc) : sh E 68 c = .inl (eZ E, 20, .inl c.1) := rfl
theorem s_69 (E : En) (c : Mc) : sh E 69 c = .inl (eI E, 8, .inl c.1) := rfl
end
section
theorem j_iadd {E : En} {X : Cx} {Q : State → Prop} {S : Mem} {cc : ByteArray} {own : String} {nL d pc : Nat} {ret : Option FieldType} {lv : List (Nat × Value)} {st : List Value} (hF : Fx E X cc own nL ret d) {x y : Int32} (hd : decode cc pc = .ok (.iadd, 1)) (k : J E X Q S (pc + 1) lv (.int (x + y) :: st)) : J E X Q S pc lv (.int y :: .int x :: st) := by
  rcases X with ⟨p, l, e, R, s, m, args, below, meth, c, n0, A, cells, slots⟩
  obtain ⟨hx, hb, hml, hn0, hown, hts, hK, hStr, hLit, hr, hlocks, hl0, hd1, hd2, hd3, hd4⟩ := hF
  intro H locs ls hP hD hS hl
  exact lv_iadd hx hb hd (k H locs ls hP hD hS hl)
theorem j_isub {E : En} {X : Cx} {Q : State → Prop} {S : Mem} {cc : ByteArray} {own : String} {nL d pc : Nat} {ret : Option FieldType} {lv : List (Nat × Value)} {st : List Value} (hF : Fx E X cc own nL ret d) {x y : Int32} (hd : decode cc pc = .ok (.isub, 1)) (k : J E X Q S (pc + 1) lv (.int (x - y) :: st)) : J E X Q S pc lv (.int y :: .int x :: st) := by
  rcases X with ⟨p, l, e, R, s, m, args, below, meth, c, n0, A, cells, slots⟩
  obtain ⟨hx, hb, hml, hn0, hown, hts, hK, hStr, hLit, hr, hlocks, hl0, hd1, hd2, hd3, hd4⟩ := hF
  intro H locs ls hP hD hS hl
  exact lv_isub hx hb hd (k H locs ls hP hD hS hl)
theorem j_imul {E : En} {X : Cx} {Q : State → Prop} {S : Mem} {cc : ByteArray} {own : String} {nL d pc : Nat} {ret : Option FieldType} {lv : List (Nat × Value)} {st : List Value} (hF : Fx E X cc own nL ret d) {x y : Int32} (hd : decode cc pc = .ok (.imul, 1)) (k : J E X Q S (pc + 1) lv (.int (x * y) :: st)) : J E X Q S pc lv (.int y :: .int x :: st) := by
  rcases X with ⟨p, l, e, R, s, m, args, below, meth, c, n0, A, cells, slots⟩
  obtain ⟨hx, hb, hml, hn0, hown, hts, hK, hStr, hLit, hr, hlocks, hl0, hd1, hd2, hd3, hd4⟩ := hF
  intro H locs ls hP hD hS hl
  exact lv_imul hx hb hd (k H locs ls hP hD hS hl)
theorem j_iand {E : En} {X : Cx} {Q : State → Prop} {S : Mem} {cc : ByteArray} {own : String} {nL d pc : Nat} {ret : Option FieldType} {lv : List (Nat × Value)} {st : List Value} (hF : Fx E X cc own nL ret d) {x y : Int32} (hd : decode cc pc = .ok (.iand, 1)) (k : J E X Q S (pc + 1) lv (.int (x &&& y) :: st)) : J E X Q S pc lv (.int y :: .int x :: st) := by
  rcases X with ⟨p, l, e, R, s, m, args, below, meth, c, n0, A, cells, slots⟩
  obtain ⟨hx, hb, hml, hn0, hown, hts, hK, hStr, hLit, hr, hlocks, hl0, hd1, hd2, hd3, hd4⟩ := hF
  intro H locs ls hP hD hS hl
  exact lv_iand hx hb hd (k H locs ls hP hD hS hl)
theorem j_ior {E : En} {X : Cx} {Q : State → Prop} {S : Mem} {cc : ByteArray} {own : String} {nL d pc : Nat} {ret : Option FieldType} {lv : List (Nat × Value)} {st : List Value} (hF : Fx E X cc own nL ret d) {x y : Int32} (hd : decode cc pc = .ok (.ior, 1)) (k : J E X Q S (pc + 1) lv (.int (x ||| y) :: st)) : J E X Q S pc lv (.int y :: .int x :: st) := by
  rcases X with ⟨p, l, e, R, s, m, args, below, meth, c, n0, A, cells, slots⟩
  obtain ⟨hx, hb, hml, hn0, hown, hts, hK, hStr, hLit, hr, hlocks, hl0, hd1, hd2, hd3, hd4⟩ := hF
  intro H locs ls hP hD hS hl
  exact lv_ior hx hb hd (k H locs ls hP hD hS hl)
theorem j_ixor {E : En} {X : Cx} {Q : State → Prop} {S : Mem} {cc : ByteArray} {own : String} {nL d pc : Nat} {ret : Option FieldType} {lv : List (Nat × Value)} {st : List Value} (hF : Fx E X cc own nL ret d) {x y : Int32} (hd : decode cc pc = .ok (.ixor, 1)) (k : J E X Q S (pc + 1) lv (.int (x ^^^ y) :: st)) : J E X Q S pc lv (.int y :: .int x :: st) := by
  rcases X with ⟨p, l, e, R, s, m, args, below, meth, c, n0, A, cells, slots⟩
  obtain ⟨hx, hb, hml, hn0, hown, hts, hK, hStr, hLit, hr, hlocks, hl0, hd1, hd2, hd3, hd4⟩ := hF
  intro H locs ls hP hD hS hl
  exact lv_ixor hx hb hd (k H locs ls hP hD hS hl)
theorem j_ishl {E : En} {X : Cx} {Q : State → Prop} {S : Mem} {cc : ByteArray} {own : String} {nL d pc : Nat} {ret : Option FieldType} {lv : List (Nat × Value)} {st : List Value} (hF : Fx E X cc own nL ret d) {x y : Int32} (hd : decode cc pc = .ok (.ishl, 1)) (k : J E X Q S (pc + 1) lv (.int (x <<< (y &&& 31)) :: st)) : J E X Q S pc lv (.int y :: .int x :: st) := by
  rcases X with ⟨p, l, e, R, s, m, args, below, meth, c, n0, A, cells, slots⟩
  obtain ⟨hx, hb, hml, hn0, hown, hts, hK, hStr, hLit, hr, hlocks, hl0, hd1, hd2, hd3, hd4⟩ := hF
  intro H locs ls hP hD hS hl
  exact lv_ishl hx hb hd (k H locs ls hP hD hS hl)
theorem j_ishr {E : En} {X : Cx} {Q : State → Prop} {S : Mem} {cc : ByteArray} {own : String} {nL d pc : Nat} {ret : Option FieldType} {lv : List (Nat × Value)} {st : List Value} (hF : Fx E X cc own nL ret d) {x y : Int32} (hd : decode cc pc = .ok (.ishr, 1)) (k : J E X Q S (pc + 1) lv (.int (x >>> (y &&& 31)) :: st)) : J E X Q S pc lv (.int y :: .int x :: st) := by
  rcases X with ⟨p, l, e, R, s, m, args, below, meth, c, n0, A, cells, slots⟩
  obtain ⟨hx, hb, hml, hn0, hown, hts, hK, hStr, hLit, hr, hlocks, hl0, hd1, hd2, hd3, hd4⟩ := hF
  intro H locs ls hP hD hS hl
  exact lv_ishr hx hb hd (k H locs ls hP hD hS hl)
theorem j_ladd {E : En} {X : Cx} {Q : State → Prop} {S : Mem} {cc : ByteArray} {own : String} {nL d pc : Nat} {ret : Option FieldType} {lv : List (Nat × Value)} {st : List Value} (hF : Fx E X cc own nL ret d) {x y : Int64} (hd : decode cc pc = .ok (.ladd, 1)) (k : J E X Q S (pc + 1) lv (.long (x + y) :: st)) : J E X Q S pc lv (.long y :: .long x :: st) := by
  rcases X with ⟨p, l, e, R, s, m, args, below, meth, c, n0, A, cells, slots⟩
  obtain ⟨hx, hb, hml, hn0, hown, hts, hK, hStr, hLit, hr, hlocks, hl0, hd1, hd2, hd3, hd4⟩ := hF
  intro H locs ls hP hD hS hl
  exact lv_ladd hx hb hd (k H locs ls hP hD hS hl)
theorem j_lsub {E : En} {X : Cx} {Q : State → Prop} {S : Mem} {cc : ByteArray} {own : String} {nL d pc : Nat} {ret : Option FieldType} {lv : List (Nat × Value)} {st : List Value} (hF : Fx E X cc own nL ret d) {x y : Int64} (hd : decode cc pc = .ok (.lsub, 1)) (k : J E X Q S (pc + 1) lv (.long (x - y) :: st)) : J E X Q S pc lv (.long y :: .long x :: st) := by
  rcases X with ⟨p, l, e, R, s, m, args, below, meth, c, n0, A, cells, slots⟩
  obtain ⟨hx, hb, hml, hn0, hown, hts, hK, hStr, hLit, hr, hlocks, hl0, hd1, hd2, hd3, hd4⟩ := hF
  intro H locs ls hP hD hS hl
  exact lv_lsub hx hb hd (k H locs ls hP hD hS hl)
theorem j_lmul {E : En} {X : Cx} {Q : State → Prop} {S : Mem} {cc : ByteArray} {own : String} {nL d pc : Nat} {ret : Option FieldType} {lv : List (Nat × Value)} {st : List Value} (hF : Fx E X cc own nL ret d) {x y : Int64} (hd : decode cc pc = .ok (.lmul, 1)) (k : J E X Q S (pc + 1) lv (.long (x * y) :: st)) : J E X Q S pc lv (.long y :: .long x :: st) := by
  rcases X with ⟨p, l, e, R, s, m, args, below, meth, c, n0, A, cells, slots⟩
  obtain ⟨hx, hb, hml, hn0, hown, hts, hK, hStr, hLit, hr, hlocks, hl0, hd1, hd2, hd3, hd4⟩ := hF
  intro H locs ls hP hD hS hl
  exact lv_lmul hx hb hd (k H locs ls hP hD hS hl)
theorem j_land {E : En} {X : Cx} {Q : State → Prop} {S : Mem} {cc : ByteArray} {own : String} {nL d pc : Nat} {ret : Option FieldType} {lv : List (Nat × Value)} {st : List Value} (hF : Fx E X cc own nL ret d) {x y : Int64} (hd : decode cc pc = .ok (.land, 1)) (k : J E X Q S (pc + 1) lv (.long (x &&& y) :: st)) : J E X Q S pc lv (.long y :: .long x :: st) := by
  rcases X with ⟨p, l, e, R, s, m, args, below, meth, c, n0, A, cells, slots⟩
  obtain ⟨hx, hb, hml, hn0, hown, hts, hK, hStr, hLit, hr, hlocks, hl0, hd1, hd2, hd3, hd4⟩ := hF
  intro H locs ls hP hD hS hl
  exact lv_land hx hb hd (k H locs ls hP hD hS hl)
theorem j_lor {E : En} {X : Cx} {Q : State → Prop} {S : Mem} {cc : ByteArray} {own : String} {nL d pc : Nat} {ret : Option FieldType} {lv : List (Nat × Value)} {st : List Value} (hF : Fx E X cc own nL ret d) {x y : Int64} (hd : decode cc pc = .ok (.lor, 1)) (k : J E X Q S (pc + 1) lv (.long (x ||| y) :: st)) : J E X Q S pc lv (.long y :: .long x :: st) := by
  rcases X with ⟨p, l, e, R, s, m, args, below, meth, c, n0, A, cells, slots⟩
  obtain ⟨hx, hb, hml, hn0, hown, hts, hK, hStr, hLit, hr, hlocks, hl0, hd1, hd2, hd3, hd4⟩ := hF
  intro H locs ls hP hD hS hl
  exact lv_lor hx hb hd (k H locs ls hP hD hS hl)
theorem j_iushr {E : En} {X : Cx} {Q : State → Prop} {S : Mem} {cc : ByteArray} {own : String} {nL d pc : Nat} {ret : Option FieldType} {lv : List (Nat × Value)} {st : List Value} (hF : Fx E X cc own nL ret d) {x y : Int32} (hd : decode cc pc = .ok (.iushr, 1)) (k : J E X Q S (pc + 1) lv (.int (x.toUInt32 >>> (y.toUInt32 &&& Int32.toUInt32 31)).toInt32 :: st)) : J E X Q S pc lv (.int y :: .int x :: st) := by
  rcases X with ⟨p, l, e, R, s, m, args, below, meth, c, n0, A, cells, slots⟩
  obtain ⟨hx, hb, hml, hn0, hown, hts, hK, hStr, hLit, hr, hlocks, hl0, hd1, hd2, hd3, hd4⟩ := hF
  intro H locs ls hP hD hS hl
  exact lv_iushr hx hb hd rfl (k H locs ls hP hD hS hl)
theorem j_lushr {E : En} {X : Cx} {Q : State → Prop} {S : Mem} {cc : ByteArray} {own : String} {nL d pc : Nat} {ret : Option FieldType} {lv : List (Nat × Value)} {st : List Value} (hF : Fx E X cc own nL ret d) {x : Int64} {y : Int32} (hd : decode cc pc = .ok (.lushr, 1)) (k : J E X Q S (pc + 1) lv (.long (x.toUInt64 >>> (y.toInt64.toUInt64 &&& Int64.toUInt64 63)).toInt64 :: st)) : J E X Q S pc lv (.int y :: .long x :: st) := by
  rcases X with ⟨p, l, e, R, s, m, args, below, meth, c, n0, A, cells, slots⟩
  obtain ⟨hx, hb, hml, hn0, hown, hts, hK, hStr, hLit, hr, hlocks, hl0, hd1, hd2, hd3, hd4⟩ := hF
  intro H locs ls hP hD hS hl
  exact lv_lushr hx hb hd rfl (k H locs ls hP hD hS hl)
theorem j_lshr {E : En} {X : Cx} {Q : State → Prop} {S : Mem} {cc : ByteArray} {own : String} {nL d pc : Nat} {ret : Option FieldType} {lv : List (Nat × Value)} {st : List Value} (hF : Fx E X cc own nL ret d) {x : Int64} {y : Int32} (hd : decode cc pc = .ok (.lshr, 1)) (k : J E X Q S (pc + 1) lv (.long (x >>> (y.toInt64 &&& 63)) :: st)) : J E X Q S pc lv (.int y :: .long x :: st) := by
  rcases X with ⟨p, l, e, R, s, m, args, below, meth, c, n0, A, cells, slots⟩
  obtain ⟨hx, hb, hml, hn0, hown, hts, hK, hStr, hLit, hr, hlocks, hl0, hd1, hd2, hd3, hd4⟩ := hF
  intro H locs ls hP hD hS hl
  exact lv_lshr hx hb hd rfl (k H locs ls hP hD hS hl)
theorem j_lshl {E : En} {X : Cx} {Q : State → Prop} {S : Mem} {cc : ByteArray} {own : String} {nL d pc : Nat} {ret : Option FieldType} {lv : List (Nat × Value)} {st : List Value} (hF : Fx E X cc own nL ret d) {x : Int64} {y : Int32} (hd : decode cc pc = .ok (.lshl, 1)) (k : J E X Q S (pc + 1) lv (.long (x <<< (y.toInt64 &&& 63)) :: st)) : J E X Q S pc lv (.int y :: .long x :: st) := by
  rcases X with ⟨p, l, e, R, s, m, args, below, meth, c, n0, A, cells, slots⟩
  obtain ⟨hx, hb, hml, hn0, hown, hts, hK, hStr, hLit, hr, hlocks, hl0, hd1, hd2, hd3, hd4⟩ := hF
  intro H locs ls hP hD hS hl
  exact lv_lshl hx hb hd rfl (k H locs ls hP hD hS hl)
theorem j_i2l {E : En} {X : Cx} {Q : State → Prop} {S : Mem} {cc : ByteArray} {own : String} {nL d pc : Nat} {ret : Option FieldType} {lv : List (Nat × Value)} {st : List Value} (hF : Fx E X cc own nL ret d) {x : Int32} (hd : decode cc pc = .ok (.i2l, 1)) (k : J E X Q S (pc + 1) lv (.long x.toInt64 :: st)) : J E X Q S pc lv (.int x :: st) := by
  rcases X with ⟨p, l, e, R, s, m, args, below, meth, c, n0, A, cells, slots⟩
  obtain ⟨hx, hb, hml, hn0, hown, hts, hK, hStr, hLit, hr, hlocks, hl0, hd1, hd2, hd3, hd4⟩ := hF
  intro H locs ls hP hD hS hl
  exact lv_i2l hx hb hd rfl (k H locs ls hP hD hS hl)
theorem j_l2i {E : En} {X : Cx} {Q : State → Prop} {S : Mem} {cc : ByteArray} {own : String} {nL d pc : Nat} {ret : Option FieldType} {lv : List (Nat × Value)} {st : List Value} (hF : Fx E X cc own nL ret d) {x : Int64} (hd : decode cc pc = .ok (.l2i, 1)) (k : J E X Q S (pc + 1) lv (.int x.toInt32 :: st)) : J E X Q S pc lv (.long x :: st) := by
  rcases X with ⟨p, l, e, R, s, m, args, below, meth, c, n0, A, cells, slots⟩
  obtain ⟨hx, hb, hml, hn0, hown, hts, hK, hStr, hLit, hr, hlocks, hl0, hd1, hd2, hd3, hd4⟩ := hF
  intro H locs ls hP hD hS hl
  exact lv_l2i hx hb hd rfl (k H locs ls hP hD hS hl)
theorem j_i2b {E : En} {X : Cx} {Q : State → Prop} {S : Mem} {cc : ByteArray} {own : String} {nL d pc : Nat} {ret : Option FieldType} {lv : List (Nat × Value)} {st : List Value} (hF : Fx E X cc own nL ret d) {x : Int32} (hd : decode cc pc = .ok (.i2b, 1)) (k : J E X Q S (pc + 1) lv (.int x.toInt8.toInt32 :: st)) : J E X Q S pc lv (.int x :: st) := by
  rcases X with ⟨p, l, e, R, s, m, args, below, meth, c, n0, A, cells, slots⟩
  obtain ⟨hx, hb, hml, hn0, hown, hts, hK, hStr, hLit, hr, hlocks, hl0, hd1, hd2, hd3, hd4⟩ := hF
  intro H locs ls hP hD hS hl
  exact lv_i2b hx hb hd rfl (k H locs ls hP hD hS hl)
theorem j_i2c {E : En} {X : Cx} {Q : State → Prop} {S : Mem} {cc : ByteArray} {own : String} {nL d pc : Nat} {ret : Option FieldType} {lv : List (Nat × Value)} {st : List Value} (hF : Fx E X cc own nL ret d) {x : Int32} (hd : decode cc pc = .ok (.i2c, 1)) (k : J E X Q S (pc + 1) lv (.int (x.toUInt32 % 65536).toInt32 :: st)) : J E X Q S pc lv (.int x :: st) := by
  rcases X with ⟨p, l, e, R, s, m, args, below, meth, c, n0, A, cells, slots⟩
  obtain ⟨hx, hb, hml, hn0, hown, hts, hK, hStr, hLit, hr, hlocks, hl0, hd1, hd2, hd3, hd4⟩ := hF
  intro H locs ls hP hD hS hl
  exact lv_i2c hx hb hd rfl (k H locs ls hP hD hS hl)
theorem j_iconst {E : En} {X : Cx} {Q : State → Prop} {S : Mem} {cc : ByteArray} {own : String} {nL d pc : Nat} {ret : Option FieldType} {lv : List (Nat × Value)} {st : List Value} (hF : Fx E X cc own nL ret d) {n : Int} {v : Int32} (hv : Int32.ofInt n = v) (hd : decode cc pc = .ok (.iconst n, 1)) (k : J E X Q S (pc + 1) lv (.int v :: st)) : J E X Q S pc lv (st) := by
  rcases X with ⟨p, l, e, R, s, m, args, below, meth, c, n0, A, cells, slots⟩
  obtain ⟨hx, hb, hml, hn0, hown, hts, hK, hStr, hLit, hr, hlocks, hl0, hd1, hd2, hd3, hd4⟩ := hF
  intro H locs ls hP hD hS hl
  exact lv_iconst hx hb hd hv (k H locs ls hP hD hS hl)
theorem j_bipush {E : En} {X : Cx} {Q : State → Prop} {S : Mem} {cc : ByteArray} {own : String} {nL d pc : Nat} {ret : Option FieldType} {lv : List (Nat × Value)} {st : List Value} (hF : Fx E X cc own nL ret d) {n : Int} {v : Int32} (hv : (Int8.ofInt n).toInt32 = v) (hd : decode cc pc = .ok (.bipush n, 2)) (k : J E X Q S (pc + 2) lv (.int v :: st)) : J E X Q S pc lv (st) := by
  rcases X with ⟨p, l, e, R, s, m, args, below, meth, c, n0, A, cells, slots⟩
  obtain ⟨hx, hb, hml, hn0, hown, hts, hK, hStr, hLit, hr, hlocks, hl0, hd1, hd2, hd3, hd4⟩ := hF
  intro H locs ls hP hD hS hl
  exact lv_bipush hx hb hd hv (k H locs ls hP hD hS hl)
theorem j_sipush {E : En} {X : Cx} {Q : State → Prop} {S : Mem} {cc : ByteArray} {own : String} {nL d pc : Nat} {ret : Option FieldType} {lv : List (Nat × Value)} {st : List Value} (hF : Fx E X cc own nL ret d) {n : Int} {v : Int32} (hv : (Int16.ofInt n).toInt32 = v) (hd : decode cc pc = .ok (.sipush n, 3)) (k : J E X Q S (pc + 3) lv (.int v :: st)) : J E X Q S pc lv (st) := by
  rcases X with ⟨p, l, e, R, s, m, args, below, meth, c, n0, A, cells, slots⟩
  obtain ⟨hx, hb, hml, hn0, hown, hts, hK, hStr, hLit, hr, hlocks, hl0, hd1, hd2, hd3, hd4⟩ := hF
  intro H locs ls hP hD hS hl
  exact lv_sipush hx hb hd hv (k H locs ls hP hD hS hl)
theorem j_lconst {E : En} {X : Cx} {Q : State → Prop} {S : Mem} {cc : ByteArray} {own : String} {nL d pc : Nat} {ret : Option FieldType} {lv : List (Nat × Value)} {st : List Value} (hF : Fx E X cc own nL ret d) {n : Fin 2} {v : Int64} (hv : Int64.ofNat (n : Nat) = v) (hd : decode cc pc = .ok (.lconst n, 1)) (k : J E X Q S (pc + 1) lv (.long v :: st)) : J E X Q S pc lv (st) := by
  rcases X with ⟨p, l, e, R, s, m, args, below, meth, c, n0, A, cells, slots⟩
  obtain ⟨hx, hb, hml, hn0, hown, hts, hK, hStr, hLit, hr, hlocks, hl0, hd1, hd2, hd3, hd4⟩ := hF
  intro H locs ls hP hD hS hl
  exact lv_lconst hx hb hd hv (k H locs ls hP hD hS hl)
theorem j_ldc {E : En} {X : Cx} {Q : State → Prop} {S : Mem} {cc : ByteArray} {own : String} {nL d pc : Nat} {ret : Option FieldType} {lv : List (Nat × Value)} {st : List Value} (hF : Fx E X cc own nL ret d) {i : Nat} {v : Int32} (hw : Cond.constant own i v ∈ BIG) (hd : decode cc pc = .ok (.ldc i, 2)) (k : J E X Q S (pc + 2) lv (.int v :: st)) : J E X Q S pc lv (st) := by
  rcases X with ⟨p, l, e, R, s, m, args, below, meth, c, n0, A, cells, slots⟩
  obtain ⟨hx, hb, hml, hn0, hown, hts, hK, hStr, hLit, hr, hlocks, hl0, hd1, hd2, hd3, hd4⟩ := hF
  intro H locs ls hP hD hS hl
  exact lv_ldc hx hb hown (hts _ hw) hd (k H locs ls hP hD hS hl)
theorem j_ldcw {E : En} {X : Cx} {Q : State → Prop} {S : Mem} {cc : ByteArray} {own : String} {nL d pc : Nat} {ret : Option FieldType} {lv : List (Nat × Value)} {st : List Value} (hF : Fx E X cc own nL ret d) {i : Nat} {v : Int32} (hw : Cond.constant own i v ∈ BIG) (hd : decode cc pc = .ok (.ldc_w i, 3)) (k : J E X Q S (pc + 3) lv (.int v :: st)) : J E X Q S pc lv (st) := by
  rcases X with ⟨p, l, e, R, s, m, args, below, meth, c, n0, A, cells, slots⟩
  obtain ⟨hx, hb, hml, hn0, hown, hts, hK, hStr, hLit, hr, hlocks, hl0, hd1, hd2, hd3, hd4⟩ := hF
  intro H locs ls hP hD hS hl
  exact lv_ldcw hx hb hown (hts _ hw) hd (k H locs ls hP hD hS hl)
theorem j_ldc2 {E : En} {X : Cx} {Q : State → Prop} {S : Mem} {cc : ByteArray} {own : String} {nL d pc : Nat} {ret : Option FieldType} {lv : List (Nat × Value)} {st : List Value} (hF : Fx E X cc own nL ret d) {i : Nat} {v : Int64} (hw : Cond.constantLong own i v ∈ BIG) (hd : decode cc pc = .ok (.ldc2_w i, 3)) (k : J E X Q S (pc + 3) lv (.long v :: st)) : J E X Q S pc lv (st) := by
  rcases X with ⟨p, l, e, R, s, m, args, below, meth, c, n0, A, cells, slots⟩
  obtain ⟨hx, hb, hml, hn0, hown, hts, hK, hStr, hLit, hr, hlocks, hl0, hd1, hd2, hd3, hd4⟩ := hF
  intro H locs ls hP hD hS hl
  exact lv_ldc2 hx hb hown (hts _ hw) hd (k H locs ls hP hD hS hl)
theorem j_dup {E : En} {X : Cx} {Q : State → Prop} {S : Mem} {cc : ByteArray} {own : String} {nL d pc : Nat} {ret : Option FieldType} {lv : List (Nat × Value)} {st : List Value} (hF : Fx E X cc own nL ret d) {v : Value} (hc : v.category = 1) (hd : decode cc pc = .ok (.dup, 1)) (k : J E X Q S (pc + 1) lv (v :: v :: st)) : J E X Q S pc lv (v :: st) := by
  rcases X with ⟨p, l, e, R, s, m, args, below, meth, c, n0, A, cells, slots⟩
  obtain ⟨hx, hb, hml, hn0, hown, hts, hK, hStr, hLit, hr, hlocks, hl0, hd1, hd2, hd3, hd4⟩ := hF
  intro H locs ls hP hD hS hl
  exact lv_dup hx hb hd hc (k H locs ls hP hD hS hl)
theorem j_pop {E : En} {X : Cx} {Q : State → Prop} {S : Mem} {cc : ByteArray} {own : String} {nL d pc : Nat} {ret : Option FieldType} {lv : List (Nat × Value)} {st : List Value} (hF : Fx E X cc own nL ret d) {v : Value} (hc : v.category = 1) (hd : decode cc pc = .ok (.pop, 1)) (k : J E X Q S (pc + 1) lv (st)) : J E X Q S pc lv (v :: st) := by
  rcases X with ⟨p, l, e, R, s, m, args, below, meth, c, n0, A, cells, slots⟩
  obtain ⟨hx, hb, hml, hn0, hown, hts, hK, hStr, hLit, hr, hlocks, hl0, hd1, hd2, hd3, hd4⟩ := hF
  intro H locs ls hP hD hS hl
  exact lv_pop hx hb hd hc (k H locs ls hP hD hS hl)
theorem j_dup_x1 {E : En} {X : Cx} {Q : State → Prop} {S : Mem} {cc : ByteArray} {own : String} {nL d pc : Nat} {ret : Option FieldType} {lv : List (Nat × Value)} {st : List Value} (hF : Fx E X cc own nL ret d) {v w : Value} (hv : v.category = 1) (hw : w.category = 1) (hd : decode cc pc = .ok (.dup_x1, 1)) (k : J E X Q S (pc + 1) lv (v :: w :: v :: st)) : J E X Q S pc lv (v :: w :: st) := by
  rcases X with ⟨p, l, e, R, s, m, args, below, meth, c, n0, A, cells, slots⟩
  obtain ⟨hx, hb, hml, hn0, hown, hts, hK, hStr, hLit, hr, hlocks, hl0, hd1, hd2, hd3, hd4⟩ := hF
  intro H locs ls hP hD hS hl
  exact lv_dup_x1 hx hb hd hv hw (k H locs ls hP hD hS hl)
theorem j_dup2 {E : En} {X : Cx} {Q : State → Prop} {S : Mem} {cc : ByteArray} {own : String} {nL d pc : Nat} {ret : Option FieldType} {lv : List (Nat × Value)} {st : List Value} (hF : Fx E X cc own nL ret d) {v w : Value} (hv : v.category = 1) (hw : w.category = 1) (hd : decode cc pc = .ok (.dup2, 1)) (k : J E X Q S (pc + 1) lv (v :: w :: v :: w :: st)) : J E X Q S pc lv (v :: w :: st) := by
  rcases X with ⟨p, l, e, R, s, m, args, below, meth, c, n0, A, cells, slots⟩
  obtain ⟨hx, hb, hml, hn0, hown, hts, hK, hStr, hLit, hr, hlocks, hl0, hd1, hd2, hd3, hd4⟩ := hF
  intro H locs ls hP hD hS hl
  exact lv_dup2_11 hx hb hd hv hw (k H locs ls hP hD hS hl)
theorem j_iload_n {E : En} {X : Cx} {Q : State → Prop} {S : Mem} {cc : ByteArray} {own : String} {nL d pc : Nat} {ret : Option FieldType} {lv : List (Nat × Value)} {st : List Value} (hF : Fx E X cc own nL ret d) {n : Fin 4} {i : Nat} {x : Int32} (hi : (n : Nat) = i) (q : Nat) (hk : lv[q]? = some (i, .int x)) (hd : decode cc pc = .ok (.iload_n n, 1)) (k : J E X Q S (pc + 1) lv (.int x :: st)) : J E X Q S pc lv (st) := by
  rcases X with ⟨p, l, e, R, s, m, args, below, meth, c, n0, A, cells, slots⟩
  obtain ⟨hx, hb, hml, hn0, hown, hts, hK, hStr, hLit, hr, hlocks, hl0, hd1, hd2, hd3, hd4⟩ := hF
  intro H locs ls hP hD hS hl
  exact lv_iload_n hx hb hd hi (lv_at hl q hk) (k H locs ls hP hD hS hl)
theorem j_iload {E : En} {X : Cx} {Q : State → Prop} {S : Mem} {cc : ByteArray} {own : String} {nL d pc : Nat} {ret : Option FieldType} {lv : List (Nat × Value)} {st : List Value} (hF : Fx E X cc own nL ret d) {i : Nat} {x : Int32} (q : Nat) (hk : lv[q]? = some (i, .int x)) (hd : decode cc pc = .ok (.iload i, 2)) (k : J E X Q S (pc + 2) lv (.int x :: st)) : J E X Q S pc lv (st) := by
  rcases X with ⟨p, l, e, R, s, m, args, below, meth, c, n0, A, cells, slots⟩
  obtain ⟨hx, hb, hml, hn0, hown, hts, hK, hStr, hLit, hr, hlocks, hl0, hd1, hd2, hd3, hd4⟩ := hF
  intro H locs ls hP hD hS hl
  exact lv_iload hx hb hd (lv_at hl q hk) (k H locs ls hP hD hS hl)
theorem j_istore_n {E : En} {X : Cx} {Q : State → Prop} {S : Mem} {cc : ByteArray} {own : String} {nL d pc : Nat} {ret : Option FieldType} {lv : List (Nat × Value)} {st : List Value} (hF : Fx E X cc own nL ret d) {n : Fin 4} {i : Nat} {x : Int32} {lv' : List (Nat × Value)} (hi : (n : Nat) = i) (hn : i < nL) (hlv : (i, Value.int x) :: lv.filter (fun q => !(q.1 == i) && !(q.1 + 1 == i && q.2.category == 2)) = lv') (hd : decode cc pc = .ok (.istore_n n, 1)) (k : J E X Q S (pc + 1) lv' st) : J E X Q S pc lv (.int x :: st) := by
  rcases X with ⟨p, l, e, R, s, m, args, below, meth, c, n0, A, cells, slots⟩
  obtain ⟨hx, hb, hml, hn0, hown, hts, hK, hStr, hLit, hr, hlocks, hl0, hd1, hd2, hd3, hd4⟩ := hF
  intro H locs ls hP hD hS hl
  subst hn0
  exact lv_istore_n hx hb hd hi hl hn hlv (fun ls hl => k H locs ls hP hD hS hl)
theorem j_istore {E : En} {X : Cx} {Q : State → Prop} {S : Mem} {cc : ByteArray} {own : String} {nL d pc : Nat} {ret : Option FieldType} {lv : List (Nat × Value)} {st : List Value} (hF : Fx E X cc own nL ret d) {i : Nat} {x : Int32} {lv' : List (Nat × Value)} (hn : i < nL) (hlv : (i, Value.int x) :: lv.filter (fun q => !(q.1 == i) && !(q.1 + 1 == i && q.2.category == 2)) = lv') (hd : decode cc pc = .ok (.istore i, 2)) (k : J E X Q S (pc + 2) lv' st) : J E X Q S pc lv (.int x :: st) := by
  rcases X with ⟨p, l, e, R, s, m, args, below, meth, c, n0, A, cells, slots⟩
  obtain ⟨hx, hb, hml, hn0, hown, hts, hK, hStr, hLit, hr, hlocks, hl0, hd1, hd2, hd3, hd4⟩ := hF
  intro H locs ls hP hD hS hl
  subst hn0
  exact lv_istore hx hb hd hl hn hlv (fun ls hl => k H locs ls hP hD hS hl)
theorem j_lload_n {E : En} {X : Cx} {Q : State → Prop} {S : Mem} {cc : ByteArray} {own : String} {nL d pc : Nat} {ret : Option FieldType} {lv : List (Nat × Value)} {st : List Value} (hF : Fx E X cc own nL ret d) {n : Fin 4} {i : Nat} {x : Int64} (hi : (n : Nat) = i) (q : Nat) (hk : lv[q]? = some (i, .long x)) (hd : decode cc pc = .ok (.lload_n n, 1)) (k : J E X Q S (pc + 1) lv (.long x :: st)) : J E X Q S pc lv (st) := by
  rcases X with ⟨p, l, e, R, s, m, args, below, meth, c, n0, A, cells, slots⟩
  obtain ⟨hx, hb, hml, hn0, hown, hts, hK, hStr, hLit, hr, hlocks, hl0, hd1, hd2, hd3, hd4⟩ := hF
  intro H locs ls hP hD hS hl
  exact lv_lload_n hx hb hd hi (lv_at hl q hk) (k H locs ls hP hD hS hl)
theorem j_lload {E : En} {X : Cx} {Q : State → Prop} {S : Mem} {cc : ByteArray} {own : String} {nL d pc : Nat} {ret : Option FieldType} {lv : List (Nat × Value)} {st : List Value} (hF : Fx E X cc own nL ret d) {i : Nat} {x : Int64} (q : Nat) (hk : lv[q]? = some (i, .long x)) (hd : decode cc pc = .ok (.lload i, 2)) (k : J E X Q S (pc + 2) lv (.long x :: st)) : J E X Q S pc lv (st) := by
  rcases X with ⟨p, l, e, R, s, m, args, below, meth, c, n0, A, cells, slots⟩
  obtain ⟨hx, hb, hml, hn0, hown, hts, hK, hStr, hLit, hr, hlocks, hl0, hd1, hd2, hd3, hd4⟩ := hF
  intro H locs ls hP hD hS hl
  exact lv_lload hx hb hd (lv_at hl q hk) (k H locs ls hP hD hS hl)
theorem j_lstore_n {E : En} {X : Cx} {Q : State → Prop} {S : Mem} {cc : ByteArray} {own : String} {nL d pc : Nat} {ret : Option FieldType} {lv : List (Nat × Value)} {st : List Value} (hF : Fx E X cc own nL ret d) {n : Fin 4} {i : Nat} {x : Int64} {lv' : List (Nat × Value)} (hi : (n : Nat) = i) (hn : i + 1 < nL) (hlv : (i, Value.long x) :: lv.filter (fun q => !(q.1 == i) && (!(q.1 == i + 1) && !(q.1 + 1 == i && q.2.category == 2))) = lv') (hd : decode cc pc = .ok (.lstore_n n, 1)) (k : J E X Q S (pc + 1) lv' st) : J E X Q S pc lv (.long x :: st) := by
  rcases X with ⟨p, l, e, R, s, m, args, below, meth, c, n0, A, cells, slots⟩
  obtain ⟨hx, hb, hml, hn0, hown, hts, hK, hStr, hLit, hr, hlocks, hl0, hd1, hd2, hd3, hd4⟩ := hF
  intro H locs ls hP hD hS hl
  subst hn0
  exact lv_lstore_n hx hb hd hi hl hn hlv (fun ls hl => k H locs ls hP hD hS hl)
theorem j_lstore {E : En} {X : Cx} {Q : State → Prop} {S : Mem} {cc : ByteArray} {own : String} {nL d pc : Nat} {ret : Option FieldType} {lv : List (Nat × Value)} {st : List Value} (hF : Fx E X cc own nL ret d) {i : Nat} {x : Int64} {lv' : List (Nat × Value)} (hn : i + 1 < nL) (hlv : (i, Value.long x) :: lv.filter (fun q => !(q.1 == i) && (!(q.1 == i + 1) && !(q.1 + 1 == i && q.2.category == 2))) = lv') (hd : decode cc pc = .ok (.lstore i, 2)) (k : J E X Q S (pc + 2) lv' st) : J E X Q S pc lv (.long x :: st) := by
  rcases X with ⟨p, l, e, R, s, m, args, below, meth, c, n0, A, cells, slots⟩
  obtain ⟨hx, hb, hml, hn0, hown, hts, hK, hStr, hLit, hr, hlocks, hl0, hd1, hd2, hd3, hd4⟩ := hF
  intro H locs ls hP hD hS hl
  subst hn0
  exact lv_lstore hx hb hd hl hn hlv (fun ls hl => k H locs ls hP hD hS hl)
theorem j_aload_n {E : En} {X : Cx} {Q : State → Prop} {S : Mem} {cc : ByteArray} {own : String} {nL d pc : Nat} {ret : Option FieldType} {lv : List (Nat × Value)} {st : List Value} (hF : Fx E X cc own nL ret d) {n : Fin 4} {i : Nat} {x : Nat} (hi : (n : Nat) = i) (q : Nat) (hk : lv[q]? = some (i, .ref x)) (hd : decode cc pc = .ok (.aload_n n, 1)) (k : J E X Q S (pc + 1) lv (.ref x :: st)) : J E X Q S pc lv (st) := by
  rcases X with ⟨p, l, e, R, s, m, args, below, meth, c, n0, A, cells, slots⟩
  obtain ⟨hx, hb, hml, hn0, hown, hts, hK, hStr, hLit, hr, hlocks, hl0, hd1, hd2, hd3, hd4⟩ := hF
  intro H locs ls hP hD hS hl
  exact lv_aload_n hx hb hd hi (lv_at hl q hk) (k H locs ls hP hD hS hl)
theorem j_aload {E : En} {X : Cx} {Q : State → Prop} {S : Mem} {cc : ByteArray} {own : String} {nL d pc : Nat} {ret : Option FieldType} {lv : List (Nat × Value)} {st : List Value} (hF : Fx E X cc own nL ret d) {i : Nat} {x : Nat} (q : Nat) (hk : lv[q]? = some (i, .ref x)) (hd : decode cc pc = .ok (.aload i, 2)) (k : J E X Q S (pc + 2) lv (.ref x :: st)) : J E X Q S pc lv (st) := by
  rcases X with ⟨p, l, e, R, s, m, args, below, meth, c, n0, A, cells, slots⟩
  obtain ⟨hx, hb, hml, hn0, hown, hts, hK, hStr, hLit, hr, hlocks, hl0, hd1, hd2, hd3, hd4⟩ := hF
  intro H locs ls hP hD hS hl
  exact lv_aload hx hb hd (lv_at hl q hk) (k H locs ls hP hD hS hl)
theorem j_astore_n {E : En} {X : Cx} {Q : State → Prop} {S : Mem} {cc : ByteArray} {own : String} {nL d pc : Nat} {ret : Option FieldType} {lv : List (Nat × Value)} {st : List Value} (hF : Fx E X cc own nL ret d) {n : Fin 4} {i : Nat} {x : Nat} {lv' : List (Nat × Value)} (hi : (n : Nat) = i) (hn : i < nL) (hlv : (i, Value.ref x) :: lv.filter (fun q => !(q.1 == i) && !(q.1 + 1 == i && q.2.category == 2)) = lv') (hd : decode cc pc = .ok (.astore_n n, 1)) (k : J E X Q S (pc + 1) lv' st) : J E X Q S pc lv (.ref x :: st) := by
  rcases X with ⟨p, l, e, R, s, m, args, below, meth, c, n0, A, cells, slots⟩
  obtain ⟨hx, hb, hml, hn0, hown, hts, hK, hStr, hLit, hr, hlocks, hl0, hd1, hd2, hd3, hd4⟩ := hF
  intro H locs ls hP hD hS hl
  subst hn0
  exact lv_astore_n hx hb hd hi hl hn hlv (fun ls hl => k H locs ls hP hD hS hl)
theorem j_astore {E : En} {X : Cx} {Q : State → Prop} {S : Mem} {cc : ByteArray} {own : String} {nL d pc : Nat} {ret : Option FieldType} {lv : List (Nat × Value)} {st : List Value} (hF : Fx E X cc own nL ret d) {i : Nat} {x : Nat} {lv' : List (Nat × Value)} (hn : i < nL) (hlv : (i, Value.ref x) :: lv.filter (fun q => !(q.1 == i) && !(q.1 + 1 == i && q.2.category == 2)) = lv') (hd : decode cc pc = .ok (.astore i, 2)) (k : J E X Q S (pc + 2) lv' st) : J E X Q S pc lv (.ref x :: st) := by
  rcases X with ⟨p, l, e, R, s, m, args, below, meth, c, n0, A, cells, slots⟩
  obtain ⟨hx, hb, hml, hn0, hown, hts, hK, hStr, hLit, hr, hlocks, hl0, hd1, hd2, hd3, hd4⟩ := hF
  intro H locs ls hP hD hS hl
  subst hn0
  exact lv_astore hx hb hd hl hn hlv (fun ls hl => k H locs ls hP hD hS hl)
theorem j_iinc {E : En} {X : Cx} {Q : State → Prop} {S : Mem} {cc : ByteArray} {own : String} {nL d pc : Nat} {ret : Option FieldType} {lv : List (Nat × Value)} {st : List Value} (hF : Fx E X cc own nL ret d) {i q : Nat} {n : Int} {x v : Int32} {lv' : List (Nat × Value)} (hk : lv[q]? = some (i, .int x)) (hv : x + Int32.ofInt n = v) (hn : i < nL) (hlv : (i, Value.int v) :: lv.filter (fun q => !(q.1 == i) && !(q.1 + 1 == i && q.2.category == 2)) = lv') (hd : decode cc pc = .ok (.iinc i n, 3)) (k : J E X Q S (pc + 3) lv' st) : J E X Q S pc lv st := by
  rcases X with ⟨p, l, e, R, s, m, args, below, meth, c, n0, A, cells, slots⟩
  obtain ⟨hx, hb, hml, hn0, hown, hts, hK, hStr, hLit, hr, hlocks, hl0, hd1, hd2, hd3, hd4⟩ := hF
  intro H locs ls hP hD hS hl
  subst hn0
  exact lv_iinc hx hb hd hl hk hv hn hlv (fun ls hl => k H locs ls hP hD hS hl)
theorem j_sub {E : En} {X : Cx} {Q : State → Prop} {S : Mem} {cc : ByteArray} {own : String} {nL d pc : Nat} {ret : Option FieldType} {lv : List (Nat × Value)} {st : List Value} (hF : Fx E X cc own nL ret d) {lv' : List (Nat × Value)} (ks : List Nat) (hlv : lv_pick lv ks = lv') (k : J E X Q S pc lv' st) : J E X Q S pc lv st := by
  rcases X with ⟨p, l, e, R, s, m, args, below, meth, c, n0, A, cells, slots⟩
  obtain ⟨hx, hb, hml, hn0, hown, hts, hK, hStr, hLit, hr, hlocks, hl0, hd1, hd2, hd3, hd4⟩ := hF
  intro H locs ls hP hD hS hl
  exact k H locs ls hP hD hS (lv_sub hl ks hlv)
theorem j_if_eq {α : Type} {A1 B1 : Option α} {o : α} {E : En} {X : Cx} {Q : State → Prop} {S : Mem} {cc : ByteArray} {own : String} {nL d pc : Nat} {ret : Option FieldType} {lv : List (Nat × Value)} {st : List Value} (hF : Fx E X cc own nL ret d) {x : Int32} {off : Int} {tgt : Nat} (h : (if x = 0 then A1 else B1) = some o) (ht : (pc : Int) + off = (tgt : Int)) (hd : decode cc pc = .ok (.ifCond .eq off, 3)) (k1 : A1 = some o → J E X Q S tgt lv st) (k2 : B1 = some o → J E X Q S (pc + 3) lv st) : J E X Q S pc lv (.int x :: st) := by
  rcases X with ⟨p, l, e, R, s, m, args, below, meth, c, n0, A, cells, slots⟩
  obtain ⟨hx, hb, hml, hn0, hown, hts, hK, hStr, hLit, hr, hlocks, hl0, hd1, hd2, hd3, hd4⟩ := hF
  intro H locs ls hP hD hS hl
  refine lv_if_eq hx hb hd ht (fun c => ?_) (fun c => ?_)
  · exact k1 (by rw [if_pos c] at h; exact h) H locs ls hP hD hS hl
  · exact k2 (by rw [if_neg c] at h; exact h) H locs ls hP hD hS hl
theorem j_if_ne {α : Type} {A1 B1 : Option α} {o : α} {E : En} {X : Cx} {Q : State → Prop} {S : Mem} {cc : ByteArray} {own : String} {nL d pc : Nat} {ret : Option FieldType} {lv : List (Nat × Value)} {st : List Value} (hF : Fx E X cc own nL ret d) {x : Int32} {off : Int} {tgt : Nat} (h : (if x = 0 then B1 else A1) = some o) (ht : (pc : Int) + off = (tgt : Int)) (hd : decode cc pc = .ok (.ifCond .ne off, 3)) (k1 : A1 = some o → J E X Q S tgt lv st) (k2 : B1 = some o → J E X Q S (pc + 3) lv st) : J E X Q S pc lv (.int x :: st) := by
  rcases X with ⟨p, l, e, R, s, m, args, below, meth, c, n0, A, cells, slots⟩
  obtain ⟨hx, hb, hml, hn0, hown, hts, hK, hStr, hLit, hr, hlocks, hl0, hd1, hd2, hd3, hd4⟩ := hF
  intro H locs ls hP hD hS hl
  refine lv_if_ne hx hb hd ht (fun c => ?_) (fun c => ?_)
  · exact k1 (by rw [if_neg c] at h; exact h) H locs ls hP hD hS hl
  · exact k2 (by rw [if_pos c] at h; exact h) H locs ls hP hD hS hl
theorem j_if_lt {α : Type} {A1 B1 : Option α} {o : α} {E : En} {X : Cx} {Q : State → Prop} {S : Mem} {cc : ByteArray} {own : String} {nL d pc : Nat} {ret : Option FieldType} {lv : List (Nat × Value)} {st : List Value} (hF : Fx E X cc own nL ret d) {x : Int32} {off : Int} {tgt : Nat} (h : (if x < 0 then A1 else B1) = some o) (ht : (pc : Int) + off = (tgt : Int)) (hd : decode cc pc = .ok (.ifCond .lt off, 3)) (k1 : A1 = some o → J E X Q S tgt lv st) (k2 : B1 = some o → J E X Q S (pc + 3) lv st) : J E X Q S pc lv (.int x :: st) := by
  rcases X with ⟨p, l, e, R, s, m, args, below, meth, c, n0, A, cells, slots⟩
  obtain ⟨hx, hb, hml, hn0, hown, hts, hK, hStr, hLit, hr, hlocks, hl0, hd1, hd2, hd3, hd4⟩ := hF
  intro H locs ls hP hD hS hl
  refine lv_if_lt hx hb hd ht (fun c => ?_) (fun c => ?_)
  · exact k1 (by rw [if_pos c] at h; exact h) H locs ls hP hD hS hl
  · exact k2 (by rw [if_neg c] at h; exact h) H locs ls hP hD hS hl
theorem j_if_ge {α : Type} {A1 B1 : Option α} {o : α} {E : En} {X : Cx} {Q : State → Prop} {S : Mem} {cc : ByteArray} {own : String} {nL d pc : Nat} {ret : Option FieldType} {lv : List (Nat × Value)} {st : List Value} (hF : Fx E X cc own nL ret d) {x : Int32} {off : Int} {tgt : Nat} (h : (if 0 ≤ x then A1 else B1) = some o) (ht : (pc : Int) + off = (tgt : Int)) (hd : decode cc pc = .ok (.ifCond .ge off, 3)) (k1 : A1 = some o → J E X Q S tgt lv st) (k2 : B1 = some o → J E X Q S (pc + 3) lv st) : J E X Q S pc lv (.int x :: st) := by
  rcases X with ⟨p, l, e, R, s, m, args, below, meth, c, n0, A, cells, slots⟩
  obtain ⟨hx, hb, hml, hn0, hown, hts, hK, hStr, hLit, hr, hlocks, hl0, hd1, hd2, hd3, hd4⟩ := hF
  intro H locs ls hP hD hS hl
  refine lv_if_ge hx hb hd ht (fun c => ?_) (fun c => ?_)
  · exact k1 (by rw [if_pos c] at h; exact h) H locs ls hP hD hS hl
  · exact k2 (by rw [if_neg c] at h; exact h) H locs ls hP hD hS hl
theorem j_if_gt {α : Type} {A1 B1 : Option α} {o : α} {E : En} {X : Cx} {Q : State → Prop} {S : Mem} {cc : ByteArray} {own : String} {nL d pc : Nat} {ret : Option FieldType} {lv : List (Nat × Value)} {st : List Value} (hF : Fx E X cc own nL ret d) {x : Int32} {off : Int} {tgt : Nat} (h : (if 0 < x then A1 else B1) = some o) (ht : (pc : Int) + off = (tgt : Int)) (hd : decode cc pc = .ok (.ifCond .gt off, 3)) (k1 : A1 = some o → J E X Q S tgt lv st) (k2 : B1 = some o → J E X Q S (pc + 3) lv st) : J E X Q S pc lv (.int x :: st) := by
  rcases X with ⟨p, l, e, R, s, m, args, below, meth, c, n0, A, cells, slots⟩
  obtain ⟨hx, hb, hml, hn0, hown, hts, hK, hStr, hLit, hr, hlocks, hl0, hd1, hd2, hd3, hd4⟩ := hF
  intro H locs ls hP hD hS hl
  refine lv_if_gt hx hb hd ht (fun c => ?_) (fun c => ?_)
  · exact k1 (by rw [if_pos c] at h; exact h) H locs ls hP hD hS hl
  · exact k2 (by rw [if_neg c] at h; exact h) H locs ls hP hD hS hl
theorem j_if_le {α : Type} {A1 B1 : Option α} {o : α} {E : En} {X : Cx} {Q : State → Prop} {S : Mem} {cc : ByteArray} {own : String} {nL d pc : Nat} {ret : Option FieldType} {lv : List (Nat × Value)} {st : List Value} (hF : Fx E X cc own nL ret d) {x : Int32} {off : Int} {tgt : Nat} (h : (if x ≤ 0 then A1 else B1) = some o) (ht : (pc : Int) + off = (tgt : Int)) (hd : decode cc pc = .ok (.ifCond .le off, 3)) (k1 : A1 = some o → J E X Q S tgt lv st) (k2 : B1 = some o → J E X Q S (pc + 3) lv st) : J E X Q S pc lv (.int x :: st) := by
  rcases X with ⟨p, l, e, R, s, m, args, below, meth, c, n0, A, cells, slots⟩
  obtain ⟨hx, hb, hml, hn0, hown, hts, hK, hStr, hLit, hr, hlocks, hl0, hd1, hd2, hd3, hd4⟩ := hF
  intro H locs ls hP hD hS hl
  refine lv_if_le hx hb hd ht (fun c => ?_) (fun c => ?_)
  · exact k1 (by rw [if_pos c] at h; exact h) H locs ls hP hD hS hl
  · exact k2 (by rw [if_neg c] at h; exact h) H locs ls hP hD hS hl
theorem j_icmp_eq {α : Type} {A1 B1 : Option α} {o : α} {E : En} {X : Cx} {Q : State → Prop} {S : Mem} {cc : ByteArray} {own : String} {nL d pc : Nat} {ret : Option FieldType} {lv : List (Nat × Value)} {st : List Value} (hF : Fx E X cc own nL ret d) {x y : Int32} {off : Int} {tgt : Nat} (h : (if x = y then A1 else B1) = some o) (ht : (pc : Int) + off = (tgt : Int)) (hd : decode cc pc = .ok (.if_icmp .eq off, 3)) (k1 : A1 = some o → J E X Q S tgt lv st) (k2 : B1 = some o → J E X Q S (pc + 3) lv st) : J E X Q S pc lv (.int y :: .int x :: st) := by
  rcases X with ⟨p, l, e, R, s, m, args, below, meth, c, n0, A, cells, slots⟩
  obtain ⟨hx, hb, hml, hn0, hown, hts, hK, hStr, hLit, hr, hlocks, hl0, hd1, hd2, hd3, hd4⟩ := hF
  intro H locs ls hP hD hS hl
  refine lv_icmp_eq hx hb hd ht (fun c => ?_) (fun c => ?_)
  · exact k1 (by rw [if_pos c] at h; exact h) H locs ls hP hD hS hl
  · exact k2 (by rw [if_neg c] at h; exact h) H locs ls hP hD hS hl
theorem j_icmp_ne {α : Type} {A1 B1 : Option α} {o : α} {E : En} {X : Cx} {Q : State → Prop} {S : Mem} {cc : ByteArray} {own : String} {nL d pc : Nat} {ret : Option FieldType} {lv : List (Nat × Value)} {st : List Value} (hF : Fx E X cc own nL ret d) {x y : Int32} {off : Int} {tgt : Nat} (h : (if x = y then B1 else A1) = some o) (ht : (pc : Int) + off = (tgt : Int)) (hd : decode cc pc = .ok (.if_icmp .ne off, 3)) (k1 : A1 = some o → J E X Q S tgt lv st) (k2 : B1 = some o → J E X Q S (pc + 3) lv st) : J E X Q S pc lv (.int y :: .int x :: st) := by
  rcases X with ⟨p, l, e, R, s, m, args, below, meth, c, n0, A, cells, slots⟩
  obtain ⟨hx, hb, hml, hn0, hown, hts, hK, hStr, hLit, hr, hlocks, hl0, hd1, hd2, hd3, hd4⟩ := hF
  intro H locs ls hP hD hS hl
  refine lv_icmp_ne hx hb hd ht (fun c => ?_) (fun c => ?_)
  · exact k1 (by rw [if_neg c] at h; exact h) H locs ls hP hD hS hl
  · exact k2 (by rw [if_pos c] at h; exact h) H locs ls hP hD hS hl
theorem j_icmp_lt {α : Type} {A1 B1 : Option α} {o : α} {E : En} {X : Cx} {Q : State → Prop} {S : Mem} {cc : ByteArray} {own : String} {nL d pc : Nat} {ret : Option FieldType} {lv : List (Nat × Value)} {st : List Value} (hF : Fx E X cc own nL ret d) {x y : Int32} {off : Int} {tgt : Nat} (h : (if x < y then A1 else B1) = some o) (ht : (pc : Int) + off = (tgt : Int)) (hd : decode cc pc = .ok (.if_icmp .lt off, 3)) (k1 : A1 = some o → J E X Q S tgt lv st) (k2 : B1 = some o → J E X Q S (pc + 3) lv st) : J E X Q S pc lv (.int y :: .int x :: st) := by
  rcases X with ⟨p, l, e, R, s, m, args, below, meth, c, n0, A, cells, slots⟩
  obtain ⟨hx, hb, hml, hn0, hown, hts, hK, hStr, hLit, hr, hlocks, hl0, hd1, hd2, hd3, hd4⟩ := hF
  intro H locs ls hP hD hS hl
  refine lv_icmp_lt hx hb hd ht (fun c => ?_) (fun c => ?_)
  · exact k1 (by rw [if_pos c] at h; exact h) H locs ls hP hD hS hl
  · exact k2 (by rw [if_neg c] at h; exact h) H locs ls hP hD hS hl
theorem j_icmp_ge {α : Type} {A1 B1 : Option α} {o : α} {E : En} {X : Cx} {Q : State → Prop} {S : Mem} {cc : ByteArray} {own : String} {nL d pc : Nat} {ret : Option FieldType} {lv : List (Nat × Value)} {st : List Value} (hF : Fx E X cc own nL ret d) {x y : Int32} {off : Int} {tgt : Nat} (h : (if y ≤ x then A1 else B1) = some o) (ht : (pc : Int) + off = (tgt : Int)) (hd : decode cc pc = .ok (.if_icmp .ge off, 3)) (k1 : A1 = some o → J E X Q S tgt lv st) (k2 : B1 = some o → J E X Q S (pc + 3) lv st) : J E X Q S pc lv (.int y :: .int x :: st) := by
  rcases X with ⟨p, l, e, R, s, m, args, below, meth, c, n0, A, cells, slots⟩
  obtain ⟨hx, hb, hml, hn0, hown, hts, hK, hStr, hLit, hr, hlocks, hl0, hd1, hd2, hd3, hd4⟩ := hF
  intro H locs ls hP hD hS hl
  refine lv_icmp_ge hx hb hd ht (fun c => ?_) (fun c => ?_)
  · exact k1 (by rw [if_pos c] at h; exact h) H locs ls hP hD hS hl
  · exact k2 (by rw [if_neg c] at h; exact h) H locs ls hP hD hS hl
theorem j_icmp_gt {α : Type} {A1 B1 : Option α} {o : α} {E : En} {X : Cx} {Q : State → Prop} {S : Mem} {cc : ByteArray} {own : String} {nL d pc : Nat} {ret : Option FieldType} {lv : List (Nat × Value)} {st : List Value} (hF : Fx E X cc own nL ret d) {x y : Int32} {off : Int} {tgt : Nat} (h : (if y < x then A1 else B1) = some o) (ht : (pc : Int) + off = (tgt : Int)) (hd : decode cc pc = .ok (.if_icmp .gt off, 3)) (k1 : A1 = some o → J E X Q S tgt lv st) (k2 : B1 = some o → J E X Q S (pc + 3) lv st) : J E X Q S pc lv (.int y :: .int x :: st) := by
  rcases X with ⟨p, l, e, R, s, m, args, below, meth, c, n0, A, cells, slots⟩
  obtain ⟨hx, hb, hml, hn0, hown, hts, hK, hStr, hLit, hr, hlocks, hl0, hd1, hd2, hd3, hd4⟩ := hF
  intro H locs ls hP hD hS hl
  refine lv_icmp_gt hx hb hd ht (fun c => ?_) (fun c => ?_)
  · exact k1 (by rw [if_pos c] at h; exact h) H locs ls hP hD hS hl
  · exact k2 (by rw [if_neg c] at h; exact h) H locs ls hP hD hS hl
theorem j_icmp_le {α : Type} {A1 B1 : Option α} {o : α} {E : En} {X : Cx} {Q : State → Prop} {S : Mem} {cc : ByteArray} {own : String} {nL d pc : Nat} {ret : Option FieldType} {lv : List (Nat × Value)} {st : List Value} (hF : Fx E X cc own nL ret d) {x y : Int32} {off : Int} {tgt : Nat} (h : (if x ≤ y then A1 else B1) = some o) (ht : (pc : Int) + off = (tgt : Int)) (hd : decode cc pc = .ok (.if_icmp .le off, 3)) (k1 : A1 = some o → J E X Q S tgt lv st) (k2 : B1 = some o → J E X Q S (pc + 3) lv st) : J E X Q S pc lv (.int y :: .int x :: st) := by
  rcases X with ⟨p, l, e, R, s, m, args, below, meth, c, n0, A, cells, slots⟩
  obtain ⟨hx, hb, hml, hn0, hown, hts, hK, hStr, hLit, hr, hlocks, hl0, hd1, hd2, hd3, hd4⟩ := hF
  intro H locs ls hP hD hS hl
  refine lv_icmp_le hx hb hd ht (fun c => ?_) (fun c => ?_)
  · exact k1 (by rw [if_pos c] at h; exact h) H locs ls hP hD hS hl
  · exact k2 (by rw [if_neg c] at h; exact h) H locs ls hP hD hS hl
theorem j_goto {E : En} {X : Cx} {Q : State → Prop} {S : Mem} {cc : ByteArray} {own : String} {nL d pc : Nat} {ret : Option FieldType} {lv : List (Nat × Value)} {st : List Value} (hF : Fx E X cc own nL ret d) {off : Int} {tgt : Nat} (ht : (pc : Int) + off = (tgt : Int)) (hd : decode cc pc = .ok (.goto off, 3)) (k : J E X Q S tgt lv st) : J E X Q S pc lv st := by
  rcases X with ⟨p, l, e, R, s, m, args, below, meth, c, n0, A, cells, slots⟩
  obtain ⟨hx, hb, hml, hn0, hown, hts, hK, hStr, hLit, hr, hlocks, hl0, hd1, hd2, hd3, hd4⟩ := hF
  intro H locs ls hP hD hS hl
  exact lv_goto hx hb hd ht (k H locs ls hP hD hS hl)
theorem j_idiv {α : Type} {A1 : Option α} {o : α} {E : En} {X : Cx} {Q : State → Prop} {S : Mem} {cc : ByteArray} {own : String} {nL d pc : Nat} {ret : Option FieldType} {lv : List (Nat × Value)} {st : List Value} (hF : Fx E X cc own nL ret d) {x y : Int32} (h : (if y = 0 then none else A1) = some o) (hd : decode cc pc = .ok (.idiv, 1)) (k : A1 = some o → J E X Q S (pc + 1) lv (.int (x / y) :: st)) : J E X Q S pc lv (.int y :: .int x :: st) := by
  rcases X with ⟨p, l, e, R, s, m, args, below, meth, c, n0, A, cells, slots⟩
  obtain ⟨hx, hb, hml, hn0, hown, hts, hK, hStr, hLit, hr, hlocks, hl0, hd1, hd2, hd3, hd4⟩ := hF
  intro H locs ls hP hD hS hl
  by_cases c : y = 0
  · rw [if_pos c] at h; cases h
  · exact lv_idiv hx hb hd c (k (by rw [if_neg c] at h; exact h) H locs ls hP hD hS hl)
theorem j_irem {α : Type} {A1 : Option α} {o : α} {E : En} {X : Cx} {Q : State → Prop} {S : Mem} {cc : ByteArray} {own : String} {nL d pc : Nat} {ret : Option FieldType} {lv : List (Nat × Value)} {st : List Value} (hF : Fx E X cc own nL ret d) {x y : Int32} (h : (if y = 0 then none else A1) = some o) (hd : decode cc pc = .ok (.irem, 1)) (k : A1 = some o → J E X Q S (pc + 1) lv (.int (x - x / y * y) :: st)) : J E X Q S pc lv (.int y :: .int x :: st) := by
  rcases X with ⟨p, l, e, R, s, m, args, below, meth, c, n0, A, cells, slots⟩
  obtain ⟨hx, hb, hml, hn0, hown, hts, hK, hStr, hLit, hr, hlocks, hl0, hd1, hd2, hd3, hd4⟩ := hF
  intro H locs ls hP hD hS hl
  by_cases c : y = 0
  · rw [if_pos c] at h; cases h
  · exact lv_irem hx hb hd c (k (by rw [if_neg c] at h; exact h) H locs ls hP hD hS hl)
theorem j_ldiv {α : Type} {A1 : Option α} {o : α} {E : En} {X : Cx} {Q : State → Prop} {S : Mem} {cc : ByteArray} {own : String} {nL d pc : Nat} {ret : Option FieldType} {lv : List (Nat × Value)} {st : List Value} (hF : Fx E X cc own nL ret d) {x y : Int64} (h : (if y = 0 then none else A1) = some o) (hd : decode cc pc = .ok (.ldiv, 1)) (k : A1 = some o → J E X Q S (pc + 1) lv (.long (x / y) :: st)) : J E X Q S pc lv (.long y :: .long x :: st) := by
  rcases X with ⟨p, l, e, R, s, m, args, below, meth, c, n0, A, cells, slots⟩
  obtain ⟨hx, hb, hml, hn0, hown, hts, hK, hStr, hLit, hr, hlocks, hl0, hd1, hd2, hd3, hd4⟩ := hF
  intro H locs ls hP hD hS hl
  by_cases c : y = 0
  · rw [if_pos c] at h; cases h
  · exact lv_ldiv hx hb hd c (k (by rw [if_neg c] at h; exact h) H locs ls hP hD hS hl)
theorem j_lrem {α : Type} {A1 : Option α} {o : α} {E : En} {X : Cx} {Q : State → Prop} {S : Mem} {cc : ByteArray} {own : String} {nL d pc : Nat} {ret : Option FieldType} {lv : List (Nat × Value)} {st : List Value} (hF : Fx E X cc own nL ret d) {x y : Int64} (h : (if y = 0 then none else A1) = some o) (hd : decode cc pc = .ok (.lrem, 1)) (k : A1 = some o → J E X Q S (pc + 1) lv (.long (x - x / y * y) :: st)) : J E X Q S pc lv (.long y :: .long x :: st) := by
  rcases X with ⟨p, l, e, R, s, m, args, below, meth, c, n0, A, cells, slots⟩
  obtain ⟨hx, hb, hml, hn0, hown, hts, hK, hStr, hLit, hr, hlocks, hl0, hd1, hd2, hd3, hd4⟩ := hF
  intro H locs ls hP hD hS hl
  by_cases c : y = 0
  · rw [if_pos c] at h; cases h
  · exact lv_lrem hx hb hd c (k (by rw [if_neg c] at h; exact h) H locs ls hP hD hS hl)
theorem j_lcmp {E : En} {X : Cx} {Q : State → Prop} {S : Mem} {cc : ByteArray} {own : String} {nL d pc : Nat} {ret : Option FieldType} {lv : List (Nat × Value)} {st : List Value} (hF : Fx E X cc own nL ret d) {x y : Int64} (hd : decode cc pc = .ok (.lcmp, 1)) (k : J E X Q S (pc + 1) lv (.int (lg_cmp x y) :: st)) : J E X Q S pc lv (.long y :: .long x :: st) := by
  rcases X with ⟨p, l, e, R, s, m, args, below, meth, c, n0, A, cells, slots⟩
  obtain ⟨hx, hb, hml, hn0, hown, hts, hK, hStr, hLit, hr, hlocks, hl0, hd1, hd2, hd3, hd4⟩ := hF
  intro H locs ls hP hD hS hl
  exact W.lcmp hx hb hd (k H locs ls hP hD hS hl)
end
section
theorem gf0_0 {E : En} {X : Cx} {Q : State → Prop} {S : Mem} {cc : ByteArray} {own : String} {nL d pc : Nat} {ret : Option FieldType} {lv : List (Nat × Value)} {st : List Value} (hF : Fx E X cc own nL ret d) {k idx : Nat} {fs : List Value} {v : Value} (hk : k < 70) (hs : sh E k (S k) = .inr (0, fs)) (hv : fs[0]? = some v) (hw : Cond.fieldLink own idx "SelfScale$Book" "sets" "LSelfScale$Row;" ∈ BIG) (hd : decode cc pc = .ok (.getfield idx, 3)) (kk : J E X Q S (pc + 3) lv (v :: st)) : J E X Q S pc lv (.ref (eA E k) :: st) := by
  rcases X with ⟨p, l, e, R, s, m, args, below, meth, c, n0, A, cells, slots⟩
  obtain ⟨hx, hb, hml, hn0, hown, hts, hK, hStr, hLit, hr, hlocks, hl0, hd1, hd2, hd3, hd4⟩ := hF
  intro H locs ls hP hD hS hl
  exact va_get (C := RX0) (T := TX0) (N := 4) hx hb hts inX0 hown hK hP k ((world_get E S hk).trans (by rw [hs])) rfl 0 (by decide) (hts _ hw) (fun _ h => h) hv hd (kk H locs ls hP hD hS hl)
theorem gf0_1 {E : En} {X : Cx} {Q : State → Prop} {S : Mem} {cc : ByteArray} {own : String} {nL d pc : Nat} {ret : Option FieldType} {lv : List (Nat × Value)} {st : List Value} (hF : Fx E X cc own nL ret d) {k idx : Nat} {fs : List Value} {v : Value} (hk : k < 70) (hs : sh E k (S k) = .inr (0, fs)) (hv : fs[1]? = some v) (hw : Cond.fieldLink own idx "SelfScale$Book" "shown" "LSelfScale$Row;" ∈ BIG) (hd : decode cc pc = .ok (.getfield idx, 3)) (kk : J E X Q S (pc + 3) lv (v :: st)) : J E X Q S pc lv (.ref (eA E k) :: st) := by
  rcases X with ⟨p, l, e, R, s, m, args, below, meth, c, n0, A, cells, slots⟩
  obtain ⟨hx, hb, hml, hn0, hown, hts, hK, hStr, hLit, hr, hlocks, hl0, hd1, hd2, hd3, hd4⟩ := hF
  intro H locs ls hP hD hS hl
  exact va_get (C := RX0) (T := TX0) (N := 4) hx hb hts inX0 hown hK hP k ((world_get E S hk).trans (by rw [hs])) rfl 1 (by decide) (hts _ hw) (fun _ h => h) hv hd (kk H locs ls hP hD hS hl)
theorem gf0_2 {E : En} {X : Cx} {Q : State → Prop} {S : Mem} {cc : ByteArray} {own : String} {nL d pc : Nat} {ret : Option FieldType} {lv : List (Nat × Value)} {st : List Value} (hF : Fx E X cc own nL ret d) {k idx : Nat} {fs : List Value} {v : Value} (hk : k < 70) (hs : sh E k (S k) = .inr (0, fs)) (hv : fs[2]? = some v) (hw : Cond.fieldLink own idx "SelfScale$Book" "laughs" "LSelfScale$Row;" ∈ BIG) (hd : decode cc pc = .ok (.getfield idx, 3)) (kk : J E X Q S (pc + 3) lv (v :: st)) : J E X Q S pc lv (.ref (eA E k) :: st) := by
  rcases X with ⟨p, l, e, R, s, m, args, below, meth, c, n0, A, cells, slots⟩
  obtain ⟨hx, hb, hml, hn0, hown, hts, hK, hStr, hLit, hr, hlocks, hl0, hd1, hd2, hd3, hd4⟩ := hF
  intro H locs ls hP hD hS hl
  exact va_get (C := RX0) (T := TX0) (N := 4) hx hb hts inX0 hown hK hP k ((world_get E S hk).trans (by rw [hs])) rfl 2 (by decide) (hts _ hw) (fun _ h => h) hv hd (kk H locs ls hP hD hS hl)
theorem gf0_3 {E : En} {X : Cx} {Q : State → Prop} {S : Mem} {cc : ByteArray} {own : String} {nL d pc : Nat} {ret : Option FieldType} {lv : List (Nat × Value)} {st : List Value} (hF : Fx E X cc own nL ret d) {k idx : Nat} {fs : List Value} {v : Value} (hk : k < 70) (hs : sh E k (S k) = .inr (0, fs)) (hv : fs[3]? = some v) (hw : Cond.fieldLink own idx "SelfScale$Book" "lines" "I" ∈ BIG) (hd : decode cc pc = .ok (.getfield idx, 3)) (kk : J E X Q S (pc + 3) lv (v :: st)) : J E X Q S pc lv (.ref (eA E k) :: st) := by
  rcases X with ⟨p, l, e, R, s, m, args, below, meth, c, n0, A, cells, slots⟩
  obtain ⟨hx, hb, hml, hn0, hown, hts, hK, hStr, hLit, hr, hlocks, hl0, hd1, hd2, hd3, hd4⟩ := hF
  intro H locs ls hP hD hS hl
  exact va_get (C := RX0) (T := TX0) (N := 4) hx hb hts inX0 hown hK hP k ((world_get E S hk).trans (by rw [hs])) rfl 3 (by decide) (hts _ hw) (fun _ h => h) hv hd (kk H locs ls hP hD hS hl)
theorem pf0_3 {E : En} {X : Cx} {Q : State → Prop} {S : Mem} {cc : ByteArray} {own : String} {nL d pc : Nat} {ret : Option FieldType} {lv : List (Nat × Value)} {st : List Value} (hF : Fx E X cc own nL ret d) {k idx : Nat} {fs : List Value} {x : Int32} (hk : k < 70) (hs : sh E k (S k) = .inr (0, fs)) (hs2 : sh E k (upd (S k).1 3 x, (S k).2) = .inr (0, fs.set 3 (.int x))) (hlen : 3 < fs.length) (hw : Cond.fieldLink own idx "SelfScale$Book" "lines" "I" ∈ BIG) (hd : decode cc pc = .ok (.putfield idx, 3)) (kk : J E X Q (wr S k 3 x) (pc + 3) lv st) : J E X Q S pc lv (.int x :: .ref (eA E k) :: st) := by
  rcases X with ⟨p, l, e, R, s, m, args, below, meth, c, n0, A, cells, slots⟩
  obtain ⟨hx, hb, hml, hn0, hown, hts, hK, hStr, hLit, hr, hlocks, hl0, hd1, hd2, hd3, hd4⟩ := hF
  intro H locs ls hP hD hS hl
  have e9 : (world E S).set k (eA E k, .inr (0, fs.set 3 (.int x))) = world E (wr S k 3 x) := by
    rw [← hs2, ← wr_at S k 3 x]
    exact world_set E hk (fun a h => wr_ne S k 3 x h)
  refine va_put (C := RX0) (T := TX0) (N := 4) (ty := .int) hx hb hts inX0 tyX0 tyX0_ok nmX0 hown hK hP hD hS k ((world_get E S hk).trans (by rw [hs])) rfl 3 (by decide) (hts _ hw) (fun _ h => h) rfl (by decide +kernel) rfl rfl hlen hd (fun H1 locs1 hP hD hS => ?_)
  rw [e9] at hP hD
  exact kk H1 locs1 ls hP hD hS hl
theorem gf1_0 {E : En} {X : Cx} {Q : State → Prop} {S : Mem} {cc : ByteArray} {own : String} {nL d pc : Nat} {ret : Option FieldType} {lv : List (Nat × Value)} {st : List Value} (hF : Fx E X cc own nL ret d) {k idx : Nat} {fs : List Value} {v : Value} (hk : k < 70) (hs : sh E k (S k) = .inr (1, fs)) (hv : fs[0]? = some v) (hw : Cond.fieldLink own idx "SelfScale$Image" "kept" "LSelfScale$Book;" ∈ BIG) (hd : decode cc pc = .ok (.getfield idx, 3)) (kk : J E X Q S (pc + 3) lv (v :: st)) : J E X Q S pc lv (.ref (eA E k) :: st) := by
  rcases X with ⟨p, l, e, R, s, m, args, below, meth, c, n0, A, cells, slots⟩
  obtain ⟨hx, hb, hml, hn0, hown, hts, hK, hStr, hLit, hr, hlocks, hl0, hd1, hd2, hd3, hd4⟩ := hF
  intro H locs ls hP hD hS hl
  exact va_get (C := RX1) (T := TX1) (N := 2) hx hb hts inX1 hown hK hP k ((world_get E S hk).trans (by rw [hs])) rfl 0 (by decide) (hts _ hw) (fun _ h => h) hv hd (kk H locs ls hP hD hS hl)
theorem gf1_1 {E : En} {X : Cx} {Q : State → Prop} {S : Mem} {cc : ByteArray} {own : String} {nL d pc : Nat} {ret : Option FieldType} {lv : List (Nat × Value)} {st : List Value} (hF : Fx E X cc own nL ret d) {k idx : Nat} {fs : List Value} {v : Value} (hk : k < 70) (hs : sh E k (S k) = .inr (1, fs)) (hv : fs[1]? = some v) (hw : Cond.fieldLink own idx "SelfScale$Image" "isKept" "Z" ∈ BIG) (hd : decode cc pc = .ok (.getfield idx, 3)) (kk : J E X Q S (pc + 3) lv (v :: st)) : J E X Q S pc lv (.ref (eA E k) :: st) := by
  rcases X with ⟨p, l, e, R, s, m, args, below, meth, c, n0, A, cells, slots⟩
  obtain ⟨hx, hb, hml, hn0, hown, hts, hK, hStr, hLit, hr, hlocks, hl0, hd1, hd2, hd3, hd4⟩ := hF
  intro H locs ls hP hD hS hl
  exact va_get (C := RX1) (T := TX1) (N := 2) hx hb hts inX1 hown hK hP k ((world_get E S hk).trans (by rw [hs])) rfl 1 (by decide) (hts _ hw) (fun _ h => h) hv hd (kk H locs ls hP hD hS hl)
theorem pf1_1 {E : En} {X : Cx} {Q : State → Prop} {S : Mem} {cc : ByteArray} {own : String} {nL d pc : Nat} {ret : Option FieldType} {lv : List (Nat × Value)} {st : List Value} (hF : Fx E X cc own nL ret d) {k idx : Nat} {fs : List Value} {x : Int32} (hn : narrow .boolean (.int x) = .int x) (hf : fits .boolean (.int x) = true) (hk : k < 70) (hs : sh E k (S k) = .inr (1, fs)) (hs2 : sh E k (upd (S k).1 1 x, (S k).2) = .inr (1, fs.set 1 (.int x))) (hlen : 1 < fs.length) (hw : Cond.fieldLink own idx "SelfScale$Image" "isKept" "Z" ∈ BIG) (hd : decode cc pc = .ok (.putfield idx, 3)) (kk : J E X Q (wr S k 1 x) (pc + 3) lv st) : J E X Q S pc lv (.int x :: .ref (eA E k) :: st) := by
  rcases X with ⟨p, l, e, R, s, m, args, below, meth, c, n0, A, cells, slots⟩
  obtain ⟨hx, hb, hml, hn0, hown, hts, hK, hStr, hLit, hr, hlocks, hl0, hd1, hd2, hd3, hd4⟩ := hF
  intro H locs ls hP hD hS hl
  have e9 : (world E S).set k (eA E k, .inr (1, fs.set 1 (.int x))) = world E (wr S k 1 x) := by
    rw [← hs2, ← wr_at S k 1 x]
    exact world_set E hk (fun a h => wr_ne S k 1 x h)
  refine va_put (C := RX1) (T := TX1) (N := 2) (ty := .boolean) hx hb hts inX1 tyX1 tyX1_ok nmX1 hown hK hP hD hS k ((world_get E S hk).trans (by rw [hs])) rfl 1 (by decide) (hts _ hw) (fun _ h => h) rfl (by decide +kernel) hn hf hlen hd (fun H1 locs1 hP hD hS => ?_)
  rw [e9] at hP hD
  exact kk H1 locs1 ls hP hD hS hl
theorem gf2_0 {E : En} {X : Cx} {Q : State → Prop} {S : Mem} {cc : ByteArray} {own : String} {nL d pc : Nat} {ret : Option FieldType} {lv : List (Nat × Value)} {st : List Value} (hF : Fx E X cc own nL ret d) {k idx : Nat} {fs : List Value} {v : Value} (hk : k < 70) (hs : sh E k (S k) = .inr (2, fs)) (hv : fs[0]? = some v) (hw : Cond.fieldLink own idx "SelfScale$Kinds" "scale" "LSelfScale$Scale;" ∈ BIG) (hd : decode cc pc = .ok (.getfield idx, 3)) (kk : J E X Q S (pc + 3) lv (v :: st)) : J E X Q S pc lv (.ref (eA E k) :: st) := by
  rcases X with ⟨p, l, e, R, s, m, args, below, meth, c, n0, A, cells, slots⟩
  obtain ⟨hx, hb, hml, hn0, hown, hts, hK, hStr, hLit, hr, hlocks, hl0, hd1, hd2, hd3, hd4⟩ := hF
  intro H locs ls hP hD hS hl
  exact va_get (C := RX2) (T := TX2) (N := 3) hx hb hts inX2 hown hK hP k ((world_get E S hk).trans (by rw [hs])) rfl 0 (by decide) (hts _ hw) (fun _ h => h) hv hd (kk H locs ls hP hD hS hl)
theorem gf2_1 {E : En} {X : Cx} {Q : State → Prop} {S : Mem} {cc : ByteArray} {own : String} {nL d pc : Nat} {ret : Option FieldType} {lv : List (Nat × Value)} {st : List Value} (hF : Fx E X cc own nL ret d) {k idx : Nat} {fs : List Value} {v : Value} (hk : k < 70) (hs : sh E k (S k) = .inr (2, fs)) (hv : fs[1]? = some v) (hw : Cond.fieldLink own idx "SelfScale$Kinds" "book" "LSelfScale$Book;" ∈ BIG) (hd : decode cc pc = .ok (.getfield idx, 3)) (kk : J E X Q S (pc + 3) lv (v :: st)) : J E X Q S pc lv (.ref (eA E k) :: st) := by
  rcases X with ⟨p, l, e, R, s, m, args, below, meth, c, n0, A, cells, slots⟩
  obtain ⟨hx, hb, hml, hn0, hown, hts, hK, hStr, hLit, hr, hlocks, hl0, hd1, hd2, hd3, hd4⟩ := hF
  intro H locs ls hP hD hS hl
  exact va_get (C := RX2) (T := TX2) (N := 3) hx hb hts inX2 hown hK hP k ((world_get E S hk).trans (by rw [hs])) rfl 1 (by decide) (hts _ hw) (fun _ h => h) hv hd (kk H locs ls hP hD hS hl)
theorem gf2_2 {E : En} {X : Cx} {Q : State → Prop} {S : Mem} {cc : ByteArray} {own : String} {nL d pc : Nat} {ret : Option FieldType} {lv : List (Nat × Value)} {st : List Value} (hF : Fx E X cc own nL ret d) {k idx : Nat} {fs : List Value} {v : Value} (hk : k < 70) (hs : sh E k (S k) = .inr (2, fs)) (hv : fs[2]? = some v) (hw : Cond.fieldLink own idx "SelfScale$Kinds" "asked" "J" ∈ BIG) (hd : decode cc pc = .ok (.getfield idx, 3)) (kk : J E X Q S (pc + 3) lv (v :: st)) : J E X Q S pc lv (.ref (eA E k) :: st) := by
  rcases X with ⟨p, l, e, R, s, m, args, below, meth, c, n0, A, cells, slots⟩
  obtain ⟨hx, hb, hml, hn0, hown, hts, hK, hStr, hLit, hr, hlocks, hl0, hd1, hd2, hd3, hd4⟩ := hF
  intro H locs ls hP hD hS hl
  exact va_get (C := RX2) (T := TX2) (N := 3) hx hb hts inX2 hown hK hP k ((world_get E S hk).trans (by rw [hs])) rfl 2 (by decide) (hts _ hw) (fun _ h => h) hv hd (kk H locs ls hP hD hS hl)
theorem pf2_2 {E : En} {X : Cx} {Q : State → Prop} {S : Mem} {cc : ByteArray} {own : String} {nL d pc : Nat} {ret : Option FieldType} {lv : List (Nat × Value)} {st : List Value} (hF : Fx E X cc own nL ret d) {k idx : Nat} {fs : List Value} {x : Int64} (hk : k < 70) (hs : sh E k (S k) = .inr (2, fs)) (hs2 : sh E k ((S k).1, x) = .inr (2, fs.set 2 (.long x))) (hlen : 2 < fs.length) (hw : Cond.fieldLink own idx "SelfScale$Kinds" "asked" "J" ∈ BIG) (hd : decode cc pc = .ok (.putfield idx, 3)) (kk : J E X Q (wrL S k x) (pc + 3) lv st) : J E X Q S pc lv (.long x :: .ref (eA E k) :: st) := by
  rcases X with ⟨p, l, e, R, s, m, args, below, meth, c, n0, A, cells, slots⟩
  obtain ⟨hx, hb, hml, hn0, hown, hts, hK, hStr, hLit, hr, hlocks, hl0, hd1, hd2, hd3, hd4⟩ := hF
  intro H locs ls hP hD hS hl
  have e9 : (world E S).set k (eA E k, .inr (2, fs.set 2 (.long x))) = world E (wrL S k x) := by
    rw [← hs2, ← wrL_at S k x]
    exact world_set E hk (fun a h => wrL_ne S k x h)
  refine va_put (C := RX2) (T := TX2) (N := 3) (ty := .long) hx hb hts inX2 tyX2 tyX2_ok nmX2 hown hK hP hD hS k ((world_get E S hk).trans (by rw [hs])) rfl 2 (by decide) (hts _ hw) (fun _ h => h) rfl (by decide +kernel) rfl rfl hlen hd (fun H1 locs1 hP hD hS => ?_)
  rw [e9] at hP hD
  exact kk H1 locs1 ls hP hD hS hl
theorem gf3_0 {E : En} {X : Cx} {Q : State → Prop} {S : Mem} {cc : ByteArray} {own : String} {nL d pc : Nat} {ret : Option FieldType} {lv : List (Nat × Value)} {st : List Value} (hF : Fx E X cc own nL ret d) {k idx : Nat} {fs : List Value} {v : Value} (hk : k < 70) (hs : sh E k (S k) = .inr (3, fs)) (hv : fs[0]? = some v) (hw : Cond.fieldLink own idx "SelfScale$Plan" "scale" "LSelfScale$Scale;" ∈ BIG) (hd : decode cc pc = .ok (.getfield idx, 3)) (kk : J E X Q S (pc + 3) lv (v :: st)) : J E X Q S pc lv (.ref (eA E k) :: st) := by
  rcases X with ⟨p, l, e, R, s, m, args, below, meth, c, n0, A, cells, slots⟩
  obtain ⟨hx, hb, hml, hn0, hown, hts, hK, hStr, hLit, hr, hlocks, hl0, hd1, hd2, hd3, hd4⟩ := hF
  intro H locs ls hP hD hS hl
  exact va_get (C := RX3) (T := TX3) (N := 5) hx hb hts inX3 hown hK hP k ((world_get E S hk).trans (by rw [hs])) rfl 0 (by decide) (hts _ hw) (fun _ h => h) hv hd (kk H locs ls hP hD hS hl)
theorem gf3_1 {E : En} {X : Cx} {Q : State → Prop} {S : Mem} {cc : ByteArray} {own : String} {nL d pc : Nat} {ret : Option FieldType} {lv : List (Nat × Value)} {st : List Value} (hF : Fx E X cc own nL ret d) {k idx : Nat} {fs : List Value} {v : Value} (hk : k < 70) (hs : sh E k (S k) = .inr (3, fs)) (hv : fs[1]? = some v) (hw : Cond.fieldLink own idx "SelfScale$Plan" "worlds" "LSelfScale$Worlds;" ∈ BIG) (hd : decode cc pc = .ok (.getfield idx, 3)) (kk : J E X Q S (pc + 3) lv (v :: st)) : J E X Q S pc lv (.ref (eA E k) :: st) := by
  rcases X with ⟨p, l, e, R, s, m, args, below, meth, c, n0, A, cells, slots⟩
  obtain ⟨hx, hb, hml, hn0, hown, hts, hK, hStr, hLit, hr, hlocks, hl0, hd1, hd2, hd3, hd4⟩ := hF
  intro H locs ls hP hD hS hl
  exact va_get (C := RX3) (T := TX3) (N := 5) hx hb hts inX3 hown hK hP k ((world_get E S hk).trans (by rw [hs])) rfl 1 (by decide) (hts _ hw) (fun _ h => h) hv hd (kk H locs ls hP hD hS hl)
theorem gf3_2 {E : En} {X : Cx} {Q : State → Prop} {S : Mem} {cc : ByteArray} {own : String} {nL d pc : Nat} {ret : Option FieldType} {lv : List (Nat × Value)} {st : List Value} (hF : Fx E X cc own nL ret d) {k idx : Nat} {fs : List Value} {v : Value} (hk : k < 70) (hs : sh E k (S k) = .inr (3, fs)) (hv : fs[2]? = some v) (hw : Cond.fieldLink own idx "SelfScale$Plan" "leftByShown" "LSelfScale$Row;" ∈ BIG) (hd : decode cc pc = .ok (.getfield idx, 3)) (kk : J E X Q S (pc + 3) lv (v :: st)) : J E X Q S pc lv (.ref (eA E k) :: st) := by
  rcases X with ⟨p, l, e, R, s, m, args, below, meth, c, n0, A, cells, slots⟩
  obtain ⟨hx, hb, hml, hn0, hown, hts, hK, hStr, hLit, hr, hlocks, hl0, hd1, hd2, hd3, hd4⟩ := hF
  intro H locs ls hP hD hS hl
  exact va_get (C := RX3) (T := TX3) (N := 5) hx hb hts inX3 hown hK hP k ((world_get E S hk).trans (by rw [hs])) rfl 2 (by decide) (hts _ hw) (fun _ h => h) hv hd (kk H locs ls hP hD hS hl)
theorem gf3_3 {E : En} {X : Cx} {Q : State → Prop} {S : Mem} {cc : ByteArray} {own : String} {nL d pc : Nat} {ret : Option FieldType} {lv : List (Nat × Value)} {st : List Value} (hF : Fx E X cc own nL ret d) {k idx : Nat} {fs : List Value} {v : Value} (hk : k < 70) (hs : sh E k (S k) = .inr (3, fs)) (hv : fs[3]? = some v) (hw : Cond.fieldLink own idx "SelfScale$Plan" "seenByOne" "LSelfScale$Row;" ∈ BIG) (hd : decode cc pc = .ok (.getfield idx, 3)) (kk : J E X Q S (pc + 3) lv (v :: st)) : J E X Q S pc lv (.ref (eA E k) :: st) := by
  rcases X with ⟨p, l, e, R, s, m, args, below, meth, c, n0, A, cells, slots⟩
  obtain ⟨hx, hb, hml, hn0, hown, hts, hK, hStr, hLit, hr, hlocks, hl0, hd1, hd2, hd3, hd4⟩ := hF
  intro H locs ls hP hD hS hl
  exact va_get (C := RX3) (T := TX3) (N := 5) hx hb hts inX3 hown hK hP k ((world_get E S hk).trans (by rw [hs])) rfl 3 (by decide) (hts _ hw) (fun _ h => h) hv hd (kk H locs ls hP hD hS hl)
theorem gf3_4 {E : En} {X : Cx} {Q : State → Prop} {S : Mem} {cc : ByteArray} {own : String} {nL d pc : Nat} {ret : Option FieldType} {lv : List (Nat × Value)} {st : List Value} (hF : Fx E X cc own nL ret d) {k idx : Nat} {fs : List Value} {v : Value} (hk : k < 70) (hs : sh E k (S k) = .inr (3, fs)) (hv : fs[4]? = some v) (hw : Cond.fieldLink own idx "SelfScale$Plan" "seenByTwo" "LSelfScale$Row;" ∈ BIG) (hd : decode cc pc = .ok (.getfield idx, 3)) (kk : J E X Q S (pc + 3) lv (v :: st)) : J E X Q S pc lv (.ref (eA E k) :: st) := by
  rcases X with ⟨p, l, e, R, s, m, args, below, meth, c, n0, A, cells, slots⟩
  obtain ⟨hx, hb, hml, hn0, hown, hts, hK, hStr, hLit, hr, hlocks, hl0, hd1, hd2, hd3, hd4⟩ := hF
  intro H locs ls hP hD hS hl
  exact va_get (C := RX3) (T := TX3) (N := 5) hx hb hts inX3 hown hK hP k ((world_get E S hk).trans (by rw [hs])) rfl 4 (by decide) (hts _ hw) (fun _ h => h) hv hd (kk H locs ls hP hD hS hl)
theorem gf4_0 {E : En} {X : Cx} {Q : State → Prop} {S : Mem} {cc : ByteArray} {own : String} {nL d pc : Nat} {ret : Option FieldType} {lv : List (Nat × Value)} {st : List Value} (hF : Fx E X cc own nL ret d) {k idx : Nat} {fs : List Value} {v : Value} (hk : k < 70) (hs : sh E k (S k) = .inr (4, fs)) (hv : fs[0]? = some v) (hw : Cond.fieldLink own idx "SelfScale$Reader" "text" "LSelfScale$Text;" ∈ BIG) (hd : decode cc pc = .ok (.getfield idx, 3)) (kk : J E X Q S (pc + 3) lv (v :: st)) : J E X Q S pc lv (.ref (eA E k) :: st) := by
  rcases X with ⟨p, l, e, R, s, m, args, below, meth, c, n0, A, cells, slots⟩
  obtain ⟨hx, hb, hml, hn0, hown, hts, hK, hStr, hLit, hr, hlocks, hl0, hd1, hd2, hd3, hd4⟩ := hF
  intro H locs ls hP hD hS hl
  exact va_get (C := RX4) (T := TX4) (N := 8) hx hb hts inX4 hown hK hP k ((world_get E S hk).trans (by rw [hs])) rfl 0 (by decide) (hts _ hw) (fun _ h => h) hv hd (kk H locs ls hP hD hS hl)
theorem gf4_1 {E : En} {X : Cx} {Q : State → Prop} {S : Mem} {cc : ByteArray} {own : String} {nL d pc : Nat} {ret : Option FieldType} {lv : List (Nat × Value)} {st : List Value} (hF : Fx E X cc own nL ret d) {k idx : Nat} {fs : List Value} {v : Value} (hk : k < 70) (hs : sh E k (S k) = .inr (4, fs)) (hv : fs[1]? = some v) (hw : Cond.fieldLink own idx "SelfScale$Reader" "told" "LSelfScale$Scale;" ∈ BIG) (hd : decode cc pc = .ok (.getfield idx, 3)) (kk : J E X Q S (pc + 3) lv (v :: st)) : J E X Q S pc lv (.ref (eA E k) :: st) := by
  rcases X with ⟨p, l, e, R, s, m, args, below, meth, c, n0, A, cells, slots⟩
  obtain ⟨hx, hb, hml, hn0, hown, hts, hK, hStr, hLit, hr, hlocks, hl0, hd1, hd2, hd3, hd4⟩ := hF
  intro H locs ls hP hD hS hl
  exact va_get (C := RX4) (T := TX4) (N := 8) hx hb hts inX4 hown hK hP k ((world_get E S hk).trans (by rw [hs])) rfl 1 (by decide) (hts _ hw) (fun _ h => h) hv hd (kk H locs ls hP hD hS hl)
theorem gf4_2 {E : En} {X : Cx} {Q : State → Prop} {S : Mem} {cc : ByteArray} {own : String} {nL d pc : Nat} {ret : Option FieldType} {lv : List (Nat × Value)} {st : List Value} (hF : Fx E X cc own nL ret d) {k idx : Nat} {fs : List Value} {v : Value} (hk : k < 70) (hs : sh E k (S k) = .inr (4, fs)) (hv : fs[2]? = some v) (hw : Cond.fieldLink own idx "SelfScale$Reader" "items" "I" ∈ BIG) (hd : decode cc pc = .ok (.getfield idx, 3)) (kk : J E X Q S (pc + 3) lv (v :: st)) : J E X Q S pc lv (.ref (eA E k) :: st) := by
  rcases X with ⟨p, l, e, R, s, m, args, below, meth, c, n0, A, cells, slots⟩
  obtain ⟨hx, hb, hml, hn0, hown, hts, hK, hStr, hLit, hr, hlocks, hl0, hd1, hd2, hd3, hd4⟩ := hF
  intro H locs ls hP hD hS hl
  exact va_get (C := RX4) (T := TX4) (N := 8) hx hb hts inX4 hown hK hP k ((world_get E S hk).trans (by rw [hs])) rfl 2 (by decide) (hts _ hw) (fun _ h => h) hv hd (kk H locs ls hP hD hS hl)
theorem pf4_2 {E : En} {X : Cx} {Q : State → Prop} {S : Mem} {cc : ByteArray} {own : String} {nL d pc : Nat} {ret : Option FieldType} {lv : List (Nat × Value)} {st : List Value} (hF : Fx E X cc own nL ret d) {k idx : Nat} {fs : List Value} {x : Int32} (hk : k < 70) (hs : sh E k (S k) = .inr (4, fs)) (hs2 : sh E k (upd (S k).1 2 x, (S k).2) = .inr (4, fs.set 2 (.int x))) (hlen : 2 < fs.length) (hw : Cond.fieldLink own idx "SelfScale$Reader" "items" "I" ∈ BIG) (hd : decode cc pc = .ok (.putfield idx, 3)) (kk : J E X Q (wr S k 2 x) (pc + 3) lv st) : J E X Q S pc lv (.int x :: .ref (eA E k) :: st) := by
  rcases X with ⟨p, l, e, R, s, m, args, below, meth, c, n0, A, cells, slots⟩
  obtain ⟨hx, hb, hml, hn0, hown, hts, hK, hStr, hLit, hr, hlocks, hl0, hd1, hd2, hd3, hd4⟩ := hF
  intro H locs ls hP hD hS hl
  have e9 : (world E S).set k (eA E k, .inr (4, fs.set 2 (.int x))) = world E (wr S k 2 x) := by
    rw [← hs2, ← wr_at S k 2 x]
    exact world_set E hk (fun a h => wr_ne S k 2 x h)
  refine va_put (C := RX4) (T := TX4) (N := 8) (ty := .int) hx hb hts inX4 tyX4 tyX4_ok nmX4 hown hK hP hD hS k ((world_get E S hk).trans (by rw [hs])) rfl 2 (by decide) (hts _ hw) (fun _ h => h) rfl (by decide +kernel) rfl rfl hlen hd (fun H1 locs1 hP hD hS => ?_)
  rw [e9] at hP hD
  exact kk H1 locs1 ls hP hD hS hl
theorem gf4_3 {E : En} {X : Cx} {Q : State → Prop} {S : Mem} {cc : ByteArray} {own : String} {nL d pc : Nat} {ret : Option FieldType} {lv : List (Nat × Value)} {st : List Value} (hF : Fx E X cc own nL ret d) {k idx : Nat} {fs : List Value} {v : Value} (hk : k < 70) (hs : sh E k (S k) = .inr (4, fs)) (hv : fs[3]? = some v) (hw : Cond.fieldLink own idx "SelfScale$Reader" "isOwnTold" "Z" ∈ BIG) (hd : decode cc pc = .ok (.getfield idx, 3)) (kk : J E X Q S (pc + 3) lv (v :: st)) : J E X Q S pc lv (.ref (eA E k) :: st) := by
  rcases X with ⟨p, l, e, R, s, m, args, below, meth, c, n0, A, cells, slots⟩
  obtain ⟨hx, hb, hml, hn0, hown, hts, hK, hStr, hLit, hr, hlocks, hl0, hd1, hd2, hd3, hd4⟩ := hF
  intro H locs ls hP hD hS hl
  exact va_get (C := RX4) (T := TX4) (N := 8) hx hb hts inX4 hown hK hP k ((world_get E S hk).trans (by rw [hs])) rfl 3 (by decide) (hts _ hw) (fun _ h => h) hv hd (kk H locs ls hP hD hS hl)
theorem pf4_3 {E : En} {X : Cx} {Q : State → Prop} {S : Mem} {cc : ByteArray} {own : String} {nL d pc : Nat} {ret : Option FieldType} {lv : List (Nat × Value)} {st : List Value} (hF : Fx E X cc own nL ret d) {k idx : Nat} {fs : List Value} {x : Int32} (hn : narrow .boolean (.int x) = .int x) (hf : fits .boolean (.int x) = true) (hk : k < 70) (hs : sh E k (S k) = .inr (4, fs)) (hs2 : sh E k (upd (S k).1 3 x, (S k).2) = .inr (4, fs.set 3 (.int x))) (hlen : 3 < fs.length) (hw : Cond.fieldLink own idx "SelfScale$Reader" "isOwnTold" "Z" ∈ BIG) (hd : decode cc pc = .ok (.putfield idx, 3)) (kk : J E X Q (wr S k 3 x) (pc + 3) lv st) : J E X Q S pc lv (.int x :: .ref (eA E k) :: st) := by
  rcases X with ⟨p, l, e, R, s, m, args, below, meth, c, n0, A, cells, slots⟩
  obtain ⟨hx, hb, hml, hn0, hown, hts, hK, hStr, hLit, hr, hlocks, hl0, hd1, hd2, hd3, hd4⟩ := hF
  intro H locs ls hP hD hS hl
  have e9 : (world E S).set k (eA E k, .inr (4, fs.set 3 (.int x))) = world E (wr S k 3 x) := by
    rw [← hs2, ← wr_at S k 3 x]
    exact world_set E hk (fun a h => wr_ne S k 3 x h)
  refine va_put (C := RX4) (T := TX4) (N := 8) (ty := .boolean) hx hb hts inX4 tyX4 tyX4_ok nmX4 hown hK hP hD hS k ((world_get E S hk).trans (by rw [hs])) rfl 3 (by decide) (hts _ hw) (fun _ h => h) rfl (by decide +kernel) hn hf hlen hd (fun H1 locs1 hP hD hS => ?_)
  rw [e9] at hP hD
  exact kk H1 locs1 ls hP hD hS hl
theorem gf4_4 {E : En} {X : Cx} {Q : State → Prop} {S : Mem} {cc : ByteArray} {own : String} {nL d pc : Nat} {ret : Option FieldType} {lv : List (Nat × Value)} {st : List Value} (hF : Fx E X cc own nL ret d) {k idx : Nat} {fs : List Value} {v : Value} (hk : k < 70) (hs : sh E k (S k) = .inr (4, fs)) (hv : fs[4]? = some v) (hw : Cond.fieldLink own idx "SelfScale$Reader" "areFiguresTold" "Z" ∈ BIG) (hd : decode cc pc = .ok (.getfield idx, 3)) (kk : J E X Q S (pc + 3) lv (v :: st)) : J E X Q S pc lv (.ref (eA E k) :: st) := by
  rcases X with ⟨p, l, e, R, s, m, args, below, meth, c, n0, A, cells, slots⟩
  obtain ⟨hx, hb, hml, hn0, hown, hts, hK, hStr, hLit, hr, hlocks, hl0, hd1, hd2, hd3, hd4⟩ := hF
  intro H locs ls hP hD hS hl
  exact va_get (C := RX4) (T := TX4) (N := 8) hx hb hts inX4 hown hK hP k ((world_get E S hk).trans (by rw [hs])) rfl 4 (by decide) (hts _ hw) (fun _ h => h) hv hd (kk H locs ls hP hD hS hl)
theorem pf4_4 {E : En} {X : Cx} {Q : State → Prop} {S : Mem} {cc : ByteArray} {own : String} {nL d pc : Nat} {ret : Option FieldType} {lv : List (Nat × Value)} {st : List Value} (hF : Fx E X cc own nL ret d) {k idx : Nat} {fs : List Value} {x : Int32} (hn : narrow .boolean (.int x) = .int x) (hf : fits .boolean (.int x) = true) (hk : k < 70) (hs : sh E k (S k) = .inr (4, fs)) (hs2 : sh E k (upd (S k).1 4 x, (S k).2) = .inr (4, fs.set 4 (.int x))) (hlen : 4 < fs.length) (hw : Cond.fieldLink own idx "SelfScale$Reader" "areFiguresTold" "Z" ∈ BIG) (hd : decode cc pc = .ok (.putfield idx, 3)) (kk : J E X Q (wr S k 4 x) (pc + 3) lv st) : J E X Q S pc lv (.int x :: .ref (eA E k) :: st) := by
  rcases X with ⟨p, l, e, R, s, m, args, below, meth, c, n0, A, cells, slots⟩
  obtain ⟨hx, hb, hml, hn0, hown, hts, hK, hStr, hLit, hr, hlocks, hl0, hd1, hd2, hd3, hd4⟩ := hF
  intro H locs ls hP hD hS hl
  have e9 : (world E S).set k (eA E k, .inr (4, fs.set 4 (.int x))) = world E (wr S k 4 x) := by
    rw [← hs2, ← wr_at S k 4 x]
    exact world_set E hk (fun a h => wr_ne S k 4 x h)
  refine va_put (C := RX4) (T := TX4) (N := 8) (ty := .boolean) hx hb hts inX4 tyX4 tyX4_ok nmX4 hown hK hP hD hS k ((world_get E S hk).trans (by rw [hs])) rfl 4 (by decide) (hts _ hw) (fun _ h => h) rfl (by decide +kernel) hn hf hlen hd (fun H1 locs1 hP hD hS => ?_)
  rw [e9] at hP hD
  exact kk H1 locs1 ls hP hD hS hl
theorem gf4_5 {E : En} {X : Cx} {Q : State → Prop} {S : Mem} {cc : ByteArray} {own : String} {nL d pc : Nat} {ret : Option FieldType} {lv : List (Nat × Value)} {st : List Value} (hF : Fx E X cc own nL ret d) {k idx : Nat} {fs : List Value} {v : Value} (hk : k < 70) (hs : sh E k (S k) = .inr (4, fs)) (hv : fs[5]? = some v) (hw : Cond.fieldLink own idx "SelfScale$Reader" "start" "I" ∈ BIG) (hd : decode cc pc = .ok (.getfield idx, 3)) (kk : J E X Q S (pc + 3) lv (v :: st)) : J E X Q S pc lv (.ref (eA E k) :: st) := by
  rcases X with ⟨p, l, e, R, s, m, args, below, meth, c, n0, A, cells, slots⟩
  obtain ⟨hx, hb, hml, hn0, hown, hts, hK, hStr, hLit, hr, hlocks, hl0, hd1, hd2, hd3, hd4⟩ := hF
  intro H locs ls hP hD hS hl
  exact va_get (C := RX4) (T := TX4) (N := 8) hx hb hts inX4 hown hK hP k ((world_get E S hk).trans (by rw [hs])) rfl 5 (by decide) (hts _ hw) (fun _ h => h) hv hd (kk H locs ls hP hD hS hl)
theorem pf4_5 {E : En} {X : Cx} {Q : State → Prop} {S : Mem} {cc : ByteArray} {own : String} {nL d pc : Nat} {ret : Option FieldType} {lv : List (Nat × Value)} {st : List Value} (hF : Fx E X cc own nL ret d) {k idx : Nat} {fs : List Value} {x : Int32} (hk : k < 70) (hs : sh E k (S k) = .inr (4, fs)) (hs2 : sh E k (upd (S k).1 5 x, (S k).2) = .inr (4, fs.set 5 (.int x))) (hlen : 5 < fs.length) (hw : Cond.fieldLink own idx "SelfScale$Reader" "start" "I" ∈ BIG) (hd : decode cc pc = .ok (.putfield idx, 3)) (kk : J E X Q (wr S k 5 x) (pc + 3) lv st) : J E X Q S pc lv (.int x :: .ref (eA E k) :: st) := by
  rcases X with ⟨p, l, e, R, s, m, args, below, meth, c, n0, A, cells, slots⟩
  obtain ⟨hx, hb, hml, hn0, hown, hts, hK, hStr, hLit, hr, hlocks, hl0, hd1, hd2, hd3, hd4⟩ := hF
  intro H locs ls hP hD hS hl
  have e9 : (world E S).set k (eA E k, .inr (4, fs.set 5 (.int x))) = world E (wr S k 5 x) := by
    rw [← hs2, ← wr_at S k 5 x]
    exact world_set E hk (fun a h => wr_ne S k 5 x h)
  refine va_put (C := RX4) (T := TX4) (N := 8) (ty := .int) hx hb hts inX4 tyX4 tyX4_ok nmX4 hown hK hP hD hS k ((world_get E S hk).trans (by rw [hs])) rfl 5 (by decide) (hts _ hw) (fun _ h => h) rfl (by decide +kernel) rfl rfl hlen hd (fun H1 locs1 hP hD hS => ?_)
  rw [e9] at hP hD
  exact kk H1 locs1 ls hP hD hS hl
theorem gf4_6 {E : En} {X : Cx} {Q : State → Prop} {S : Mem} {cc : ByteArray} {own : String} {nL d pc : Nat} {ret : Option FieldType} {lv : List (Nat × Value)} {st : List Value} (hF : Fx E X cc own nL ret d) {k idx : Nat} {fs : List Value} {v : Value} (hk : k < 70) (hs : sh E k (S k) = .inr (4, fs)) (hv : fs[6]? = some v) (hw : Cond.fieldLink own idx "SelfScale$Reader" "end" "I" ∈ BIG) (hd : decode cc pc = .ok (.getfield idx, 3)) (kk : J E X Q S (pc + 3) lv (v :: st)) : J E X Q S pc lv (.ref (eA E k) :: st) := by
  rcases X with ⟨p, l, e, R, s, m, args, below, meth, c, n0, A, cells, slots⟩
  obtain ⟨hx, hb, hml, hn0, hown, hts, hK, hStr, hLit, hr, hlocks, hl0, hd1, hd2, hd3, hd4⟩ := hF
  intro H locs ls hP hD hS hl
  exact va_get (C := RX4) (T := TX4) (N := 8) hx hb hts inX4 hown hK hP k ((world_get E S hk).trans (by rw [hs])) rfl 6 (by decide) (hts _ hw) (fun _ h => h) hv hd (kk H locs ls hP hD hS hl)
theorem pf4_6 {E : En} {X : Cx} {Q : State → Prop} {S : Mem} {cc : ByteArray} {own : String} {nL d pc : Nat} {ret : Option FieldType} {lv : List (Nat × Value)} {st : List Value} (hF : Fx E X cc own nL ret d) {k idx : Nat} {fs : List Value} {x : Int32} (hk : k < 70) (hs : sh E k (S k) = .inr (4, fs)) (hs2 : sh E k (upd (S k).1 6 x, (S k).2) = .inr (4, fs.set 6 (.int x))) (hlen : 6 < fs.length) (hw : Cond.fieldLink own idx "SelfScale$Reader" "end" "I" ∈ BIG) (hd : decode cc pc = .ok (.putfield idx, 3)) (kk : J E X Q (wr S k 6 x) (pc + 3) lv st) : J E X Q S pc lv (.int x :: .ref (eA E k) :: st) := by
  rcases X with ⟨p, l, e, R, s, m, args, below, meth, c, n0, A, cells, slots⟩
  obtain ⟨hx, hb, hml, hn0, hown, hts, hK, hStr, hLit, hr, hlocks, hl0, hd1, hd2, hd3, hd4⟩ := hF
  intro H locs ls hP hD hS hl
  have e9 : (world E S).set k (eA E k, .inr (4, fs.set 6 (.int x))) = world E (wr S k 6 x) := by
    rw [← hs2, ← wr_at S k 6 x]
    exact world_set E hk (fun a h => wr_ne S k 6 x h)
  refine va_put (C := RX4) (T := TX4) (N := 8) (ty := .int) hx hb hts inX4 tyX4 tyX4_ok nmX4 hown hK hP hD hS k ((world_get E S hk).trans (by rw [hs])) rfl 6 (by decide) (hts _ hw) (fun _ h => h) rfl (by decide +kernel) rfl rfl hlen hd (fun H1 locs1 hP hD hS => ?_)
  rw [e9] at hP hD
  exact kk H1 locs1 ls hP hD hS hl
theorem gf4_7 {E : En} {X : Cx} {Q : State → Prop} {S : Mem} {cc : ByteArray} {own : String} {nL d pc : Nat} {ret : Option FieldType} {lv : List (Nat × Value)} {st : List Value} (hF : Fx E X cc own nL ret d) {k idx : Nat} {fs : List Value} {v : Value} (hk : k < 70) (hs : sh E k (S k) = .inr (4, fs)) (hv : fs[7]? = some v) (hw : Cond.fieldLink own idx "SelfScale$Reader" "number" "I" ∈ BIG) (hd : decode cc pc = .ok (.getfield idx, 3)) (kk : J E X Q S (pc + 3) lv (v :: st)) : J E X Q S pc lv (.ref (eA E k) :: st) := by
  rcases X with ⟨p, l, e, R, s, m, args, below, meth, c, n0, A, cells, slots⟩
  obtain ⟨hx, hb, hml, hn0, hown, hts, hK, hStr, hLit, hr, hlocks, hl0, hd1, hd2, hd3, hd4⟩ := hF
  intro H locs ls hP hD hS hl
  exact va_get (C := RX4) (T := TX4) (N := 8) hx hb hts inX4 hown hK hP k ((world_get E S hk).trans (by rw [hs])) rfl 7 (by decide) (hts _ hw) (fun _ h => h) hv hd (kk H locs ls hP hD hS hl)
theorem pf4_7 {E : En} {X : Cx} {Q : State → Prop} {S : Mem} {cc : ByteArray} {own : String} {nL d pc : Nat} {ret : Option FieldType} {lv : List (Nat × Value)} {st : List Value} (hF : Fx E X cc own nL ret d) {k idx : Nat} {fs : List Value} {x : Int32} (hk : k < 70) (hs : sh E k (S k) = .inr (4, fs)) (hs2 : sh E k (upd (S k).1 7 x, (S k).2) = .inr (4, fs.set 7 (.int x))) (hlen : 7 < fs.length) (hw : Cond.fieldLink own idx "SelfScale$Reader" "number" "I" ∈ BIG) (hd : decode cc pc = .ok (.putfield idx, 3)) (kk : J E X Q (wr S k 7 x) (pc + 3) lv st) : J E X Q S pc lv (.int x :: .ref (eA E k) :: st) := by
  rcases X with ⟨p, l, e, R, s, m, args, below, meth, c, n0, A, cells, slots⟩
  obtain ⟨hx, hb, hml, hn0, hown, hts, hK, hStr, hLit, hr, hlocks, hl0, hd1, hd2, hd3, hd4⟩ := hF
  intro H locs ls hP hD hS hl
  have e9 : (world E S).set k (eA E k, .inr (4, fs.set 7 (.int x))) = world E (wr S k 7 x) := by
    rw [← hs2, ← wr_at S k 7 x]
    exact world_set E hk (fun a h => wr_ne S k 7 x h)
  refine va_put (C := RX4) (T := TX4) (N := 8) (ty := .int) hx hb hts inX4 tyX4 tyX4_ok nmX4 hown hK hP hD hS k ((world_get E S hk).trans (by rw [hs])) rfl 7 (by decide) (hts _ hw) (fun _ h => h) rfl (by decide +kernel) rfl rfl hlen hd (fun H1 locs1 hP hD hS => ?_)
  rw [e9] at hP hD
  exact kk H1 locs1 ls hP hD hS hl
theorem gf5_0 {E : En} {X : Cx} {Q : State → Prop} {S : Mem} {cc : ByteArray} {own : String} {nL d pc : Nat} {ret : Option FieldType} {lv : List (Nat × Value)} {st : List Value} (hF : Fx E X cc own nL ret d) {k idx : Nat} {fs : List Value} {v : Value} (hk : k < 70) (hs : sh E k (S k) = .inr (5, fs)) (hv : fs[0]? = some v) (hw : Cond.fieldLink own idx "SelfScale$Row" "cells" "[I" ∈ BIG) (hd : decode cc pc = .ok (.getfield idx, 3)) (kk : J E X Q S (pc + 3) lv (v :: st)) : J E X Q S pc lv (.ref (eA E k) :: st) := by
  rcases X with ⟨p, l, e, R, s, m, args, below, meth, c, n0, A, cells, slots⟩
  obtain ⟨hx, hb, hml, hn0, hown, hts, hK, hStr, hLit, hr, hlocks, hl0, hd1, hd2, hd3, hd4⟩ := hF
  intro H locs ls hP hD hS hl
  exact va_get (C := RX5) (T := TX5) (N := 1) hx hb hts inX5 hown hK hP k ((world_get E S hk).trans (by rw [hs])) rfl 0 (by decide) (hts _ hw) (fun _ h => h) hv hd (kk H locs ls hP hD hS hl)
theorem gf6_0 {E : En} {X : Cx} {Q : State → Prop} {S : Mem} {cc : ByteArray} {own : String} {nL d pc : Nat} {ret : Option FieldType} {lv : List (Nat × Value)} {st : List Value} (hF : Fx E X cc own nL ret d) {k idx : Nat} {fs : List Value} {v : Value} (hk : k < 70) (hs : sh E k (S k) = .inr (6, fs)) (hv : fs[0]? = some v) (hw : Cond.fieldLink own idx "SelfScale$Scale" "weights" "LSelfScale$Row;" ∈ BIG) (hd : decode cc pc = .ok (.getfield idx, 3)) (kk : J E X Q S (pc + 3) lv (v :: st)) : J E X Q S pc lv (.ref (eA E k) :: st) := by
  rcases X with ⟨p, l, e, R, s, m, args, below, meth, c, n0, A, cells, slots⟩
  obtain ⟨hx, hb, hml, hn0, hown, hts, hK, hStr, hLit, hr, hlocks, hl0, hd1, hd2, hd3, hd4⟩ := hF
  intro H locs ls hP hD hS hl
  exact va_get (C := RX6) (T := TX6) (N := 5) hx hb hts inX6 hown hK hP k ((world_get E S hk).trans (by rw [hs])) rfl 0 (by decide) (hts _ hw) (fun _ h => h) hv hd (kk H locs ls hP hD hS hl)
theorem gf6_1 {E : En} {X : Cx} {Q : State → Prop} {S : Mem} {cc : ByteArray} {own : String} {nL d pc : Nat} {ret : Option FieldType} {lv : List (Nat × Value)} {st : List Value} (hF : Fx E X cc own nL ret d) {k idx : Nat} {fs : List Value} {v : Value} (hk : k < 70) (hs : sh E k (S k) = .inr (6, fs)) (hv : fs[1]? = some v) (hw : Cond.fieldLink own idx "SelfScale$Scale" "outcomes" "LSelfScale$Row;" ∈ BIG) (hd : decode cc pc = .ok (.getfield idx, 3)) (kk : J E X Q S (pc + 3) lv (v :: st)) : J E X Q S pc lv (.ref (eA E k) :: st) := by
  rcases X with ⟨p, l, e, R, s, m, args, below, meth, c, n0, A, cells, slots⟩
  obtain ⟨hx, hb, hml, hn0, hown, hts, hK, hStr, hLit, hr, hlocks, hl0, hd1, hd2, hd3, hd4⟩ := hF
  intro H locs ls hP hD hS hl
  exact va_get (C := RX6) (T := TX6) (N := 5) hx hb hts inX6 hown hK hP k ((world_get E S hk).trans (by rw [hs])) rfl 1 (by decide) (hts _ hw) (fun _ h => h) hv hd (kk H locs ls hP hD hS hl)
theorem gf6_2 {E : En} {X : Cx} {Q : State → Prop} {S : Mem} {cc : ByteArray} {own : String} {nL d pc : Nat} {ret : Option FieldType} {lv : List (Nat × Value)} {st : List Value} (hF : Fx E X cc own nL ret d) {k idx : Nat} {fs : List Value} {v : Value} (hk : k < 70) (hs : sh E k (S k) = .inr (6, fs)) (hv : fs[2]? = some v) (hw : Cond.fieldLink own idx "SelfScale$Scale" "things" "I" ∈ BIG) (hd : decode cc pc = .ok (.getfield idx, 3)) (kk : J E X Q S (pc + 3) lv (v :: st)) : J E X Q S pc lv (.ref (eA E k) :: st) := by
  rcases X with ⟨p, l, e, R, s, m, args, below, meth, c, n0, A, cells, slots⟩
  obtain ⟨hx, hb, hml, hn0, hown, hts, hK, hStr, hLit, hr, hlocks, hl0, hd1, hd2, hd3, hd4⟩ := hF
  intro H locs ls hP hD hS hl
  exact va_get (C := RX6) (T := TX6) (N := 5) hx hb hts inX6 hown hK hP k ((world_get E S hk).trans (by rw [hs])) rfl 2 (by decide) (hts _ hw) (fun _ h => h) hv hd (kk H locs ls hP hD hS hl)
theorem pf6_2 {E : En} {X : Cx} {Q : State → Prop} {S : Mem} {cc : ByteArray} {own : String} {nL d pc : Nat} {ret : Option FieldType} {lv : List (Nat × Value)} {st : List Value} (hF : Fx E X cc own nL ret d) {k idx : Nat} {fs : List Value} {x : Int32} (hk : k < 70) (hs : sh E k (S k) = .inr (6, fs)) (hs2 : sh E k (upd (S k).1 2 x, (S k).2) = .inr (6, fs.set 2 (.int x))) (hlen : 2 < fs.length) (hw : Cond.fieldLink own idx "SelfScale$Scale" "things" "I" ∈ BIG) (hd : decode cc pc = .ok (.putfield idx, 3)) (kk : J E X Q (wr S k 2 x) (pc + 3) lv st) : J E X Q S pc lv (.int x :: .ref (eA E k) :: st) := by
  rcases X with ⟨p, l, e, R, s, m, args, below, meth, c, n0, A, cells, slots⟩
  obtain ⟨hx, hb, hml, hn0, hown, hts, hK, hStr, hLit, hr, hlocks, hl0, hd1, hd2, hd3, hd4⟩ := hF
  intro H locs ls hP hD hS hl
  have e9 : (world E S).set k (eA E k, .inr (6, fs.set 2 (.int x))) = world E (wr S k 2 x) := by
    rw [← hs2, ← wr_at S k 2 x]
    exact world_set E hk (fun a h => wr_ne S k 2 x h)
  refine va_put (C := RX6) (T := TX6) (N := 5) (ty := .int) hx hb hts inX6 tyX6 tyX6_ok nmX6 hown hK hP hD hS k ((world_get E S hk).trans (by rw [hs])) rfl 2 (by decide) (hts _ hw) (fun _ h => h) rfl (by decide +kernel) rfl rfl hlen hd (fun H1 locs1 hP hD hS => ?_)
  rw [e9] at hP hD
  exact kk H1 locs1 ls hP hD hS hl
theorem gf6_3 {E : En} {X : Cx} {Q : State → Prop} {S : Mem} {cc : ByteArray} {own : String} {nL d pc : Nat} {ret : Option FieldType} {lv : List (Nat × Value)} {st : List Value} (hF : Fx E X cc own nL ret d) {k idx : Nat} {fs : List Value} {v : Value} (hk : k < 70) (hs : sh E k (S k) = .inr (6, fs)) (hv : fs[3]? = some v) (hw : Cond.fieldLink own idx "SelfScale$Scale" "own" "I" ∈ BIG) (hd : decode cc pc = .ok (.getfield idx, 3)) (kk : J E X Q S (pc + 3) lv (v :: st)) : J E X Q S pc lv (.ref (eA E k) :: st) := by
  rcases X with ⟨p, l, e, R, s, m, args, below, meth, c, n0, A, cells, slots⟩
  obtain ⟨hx, hb, hml, hn0, hown, hts, hK, hStr, hLit, hr, hlocks, hl0, hd1, hd2, hd3, hd4⟩ := hF
  intro H locs ls hP hD hS hl
  exact va_get (C := RX6) (T := TX6) (N := 5) hx hb hts inX6 hown hK hP k ((world_get E S hk).trans (by rw [hs])) rfl 3 (by decide) (hts _ hw) (fun _ h => h) hv hd (kk H locs ls hP hD hS hl)
theorem pf6_3 {E : En} {X : Cx} {Q : State → Prop} {S : Mem} {cc : ByteArray} {own : String} {nL d pc : Nat} {ret : Option FieldType} {lv : List (Nat × Value)} {st : List Value} (hF : Fx E X cc own nL ret d) {k idx : Nat} {fs : List Value} {x : Int32} (hk : k < 70) (hs : sh E k (S k) = .inr (6, fs)) (hs2 : sh E k (upd (S k).1 3 x, (S k).2) = .inr (6, fs.set 3 (.int x))) (hlen : 3 < fs.length) (hw : Cond.fieldLink own idx "SelfScale$Scale" "own" "I" ∈ BIG) (hd : decode cc pc = .ok (.putfield idx, 3)) (kk : J E X Q (wr S k 3 x) (pc + 3) lv st) : J E X Q S pc lv (.int x :: .ref (eA E k) :: st) := by
  rcases X with ⟨p, l, e, R, s, m, args, below, meth, c, n0, A, cells, slots⟩
  obtain ⟨hx, hb, hml, hn0, hown, hts, hK, hStr, hLit, hr, hlocks, hl0, hd1, hd2, hd3, hd4⟩ := hF
  intro H locs ls hP hD hS hl
  have e9 : (world E S).set k (eA E k, .inr (6, fs.set 3 (.int x))) = world E (wr S k 3 x) := by
    rw [← hs2, ← wr_at S k 3 x]
    exact world_set E hk (fun a h => wr_ne S k 3 x h)
  refine va_put (C := RX6) (T := TX6) (N := 5) (ty := .int) hx hb hts inX6 tyX6 tyX6_ok nmX6 hown hK hP hD hS k ((world_get E S hk).trans (by rw [hs])) rfl 3 (by decide) (hts _ hw) (fun _ h => h) rfl (by decide +kernel) rfl rfl hlen hd (fun H1 locs1 hP hD hS => ?_)
  rw [e9] at hP hD
  exact kk H1 locs1 ls hP hD hS hl
theorem gf6_4 {E : En} {X : Cx} {Q : State → Prop} {S : Mem} {cc : ByteArray} {own : String} {nL d pc : Nat} {ret : Option FieldType} {lv : List (Nat × Value)} {st : List Value} (hF : Fx E X cc own nL ret d) {k idx : Nat} {fs : List Value} {v : Value} (hk : k < 70) (hs : sh E k (S k) = .inr (6, fs)) (hv : fs[4]? = some v) (hw : Cond.fieldLink own idx "SelfScale$Scale" "figures" "I" ∈ BIG) (hd : decode cc pc = .ok (.getfield idx, 3)) (kk : J E X Q S (pc + 3) lv (v :: st)) : J E X Q S pc lv (.ref (eA E k) :: st) := by
  rcases X with ⟨p, l, e, R, s, m, args, below, meth, c, n0, A, cells, slots⟩
  obtain ⟨hx, hb, hml, hn0, hown, hts, hK, hStr, hLit, hr, hlocks, hl0, hd1, hd2, hd3, hd4⟩ := hF
  intro H locs ls hP hD hS hl
  exact va_get (C := RX6) (T := TX6) (N := 5) hx hb hts inX6 hown hK hP k ((world_get E S hk).trans (by rw [hs])) rfl 4 (by decide) (hts _ hw) (fun _ h => h) hv hd (kk H locs ls hP hD hS hl)
theorem pf6_4 {E : En} {X : Cx} {Q : State → Prop} {S : Mem} {cc : ByteArray} {own : String} {nL d pc : Nat} {ret : Option FieldType} {lv : List (Nat × Value)} {st : List Value} (hF : Fx E X cc own nL ret d) {k idx : Nat} {fs : List Value} {x : Int32} (hk : k < 70) (hs : sh E k (S k) = .inr (6, fs)) (hs2 : sh E k (upd (S k).1 4 x, (S k).2) = .inr (6, fs.set 4 (.int x))) (hlen : 4 < fs.length) (hw : Cond.fieldLink own idx "SelfScale$Scale" "figures" "I" ∈ BIG) (hd : decode cc pc = .ok (.putfield idx, 3)) (kk : J E X Q (wr S k 4 x) (pc + 3) lv st) : J E X Q S pc lv (.int x :: .ref (eA E k) :: st) := by
  rcases X with ⟨p, l, e, R, s, m, args, below, meth, c, n0, A, cells, slots⟩
  obtain ⟨hx, hb, hml, hn0, hown, hts, hK, hStr, hLit, hr, hlocks, hl0, hd1, hd2, hd3, hd4⟩ := hF
  intro H locs ls hP hD hS hl
  have e9 : (world E S).set k (eA E k, .inr (6, fs.set 4 (.int x))) = world E (wr S k 4 x) := by
    rw [← hs2, ← wr_at S k 4 x]
    exact world_set E hk (fun a h => wr_ne S k 4 x h)
  refine va_put (C := RX6) (T := TX6) (N := 5) (ty := .int) hx hb hts inX6 tyX6 tyX6_ok nmX6 hown hK hP hD hS k ((world_get E S hk).trans (by rw [hs])) rfl 4 (by decide) (hts _ hw) (fun _ h => h) rfl (by decide +kernel) rfl rfl hlen hd (fun H1 locs1 hP hD hS => ?_)
  rw [e9] at hP hD
  exact kk H1 locs1 ls hP hD hS hl
theorem gf7_0 {E : En} {X : Cx} {Q : State → Prop} {S : Mem} {cc : ByteArray} {own : String} {nL d pc : Nat} {ret : Option FieldType} {lv : List (Nat × Value)} {st : List Value} (hF : Fx E X cc own nL ret d) {k idx : Nat} {fs : List Value} {v : Value} (hk : k < 70) (hs : sh E k (S k) = .inr (7, fs)) (hv : fs[0]? = some v) (hw : Cond.fieldLink own idx "SelfScale$Text" "bytes" "LSelfScale$Row;" ∈ BIG) (hd : decode cc pc = .ok (.getfield idx, 3)) (kk : J E X Q S (pc + 3) lv (v :: st)) : J E X Q S pc lv (.ref (eA E k) :: st) := by
  rcases X with ⟨p, l, e, R, s, m, args, below, meth, c, n0, A, cells, slots⟩
  obtain ⟨hx, hb, hml, hn0, hown, hts, hK, hStr, hLit, hr, hlocks, hl0, hd1, hd2, hd3, hd4⟩ := hF
  intro H locs ls hP hD hS hl
  exact va_get (C := RX7) (T := TX7) (N := 2) hx hb hts inX7 hown hK hP k ((world_get E S hk).trans (by rw [hs])) rfl 0 (by decide) (hts _ hw) (fun _ h => h) hv hd (kk H locs ls hP hD hS hl)
theorem gf7_1 {E : En} {X : Cx} {Q : State → Prop} {S : Mem} {cc : ByteArray} {own : String} {nL d pc : Nat} {ret : Option FieldType} {lv : List (Nat × Value)} {st : List Value} (hF : Fx E X cc own nL ret d) {k idx : Nat} {fs : List Value} {v : Value} (hk : k < 70) (hs : sh E k (S k) = .inr (7, fs)) (hv : fs[1]? = some v) (hw : Cond.fieldLink own idx "SelfScale$Text" "length" "I" ∈ BIG) (hd : decode cc pc = .ok (.getfield idx, 3)) (kk : J E X Q S (pc + 3) lv (v :: st)) : J E X Q S pc lv (.ref (eA E k) :: st) := by
  rcases X with ⟨p, l, e, R, s, m, args, below, meth, c, n0, A, cells, slots⟩
  obtain ⟨hx, hb, hml, hn0, hown, hts, hK, hStr, hLit, hr, hlocks, hl0, hd1, hd2, hd3, hd4⟩ := hF
  intro H locs ls hP hD hS hl
  exact va_get (C := RX7) (T := TX7) (N := 2) hx hb hts inX7 hown hK hP k ((world_get E S hk).trans (by rw [hs])) rfl 1 (by decide) (hts _ hw) (fun _ h => h) hv hd (kk H locs ls hP hD hS hl)
theorem pf7_1 {E : En} {X : Cx} {Q : State → Prop} {S : Mem} {cc : ByteArray} {own : String} {nL d pc : Nat} {ret : Option FieldType} {lv : List (Nat × Value)} {st : List Value} (hF : Fx E X cc own nL ret d) {k idx : Nat} {fs : List Value} {x : Int32} (hk : k < 70) (hs : sh E k (S k) = .inr (7, fs)) (hs2 : sh E k (upd (S k).1 1 x, (S k).2) = .inr (7, fs.set 1 (.int x))) (hlen : 1 < fs.length) (hw : Cond.fieldLink own idx "SelfScale$Text" "length" "I" ∈ BIG) (hd : decode cc pc = .ok (.putfield idx, 3)) (kk : J E X Q (wr S k 1 x) (pc + 3) lv st) : J E X Q S pc lv (.int x :: .ref (eA E k) :: st) := by
  rcases X with ⟨p, l, e, R, s, m, args, below, meth, c, n0, A, cells, slots⟩
  obtain ⟨hx, hb, hml, hn0, hown, hts, hK, hStr, hLit, hr, hlocks, hl0, hd1, hd2, hd3, hd4⟩ := hF
  intro H locs ls hP hD hS hl
  have e9 : (world E S).set k (eA E k, .inr (7, fs.set 1 (.int x))) = world E (wr S k 1 x) := by
    rw [← hs2, ← wr_at S k 1 x]
    exact world_set E hk (fun a h => wr_ne S k 1 x h)
  refine va_put (C := RX7) (T := TX7) (N := 2) (ty := .int) hx hb hts inX7 tyX7 tyX7_ok nmX7 hown hK hP hD hS k ((world_get E S hk).trans (by rw [hs])) rfl 1 (by decide) (hts _ hw) (fun _ h => h) rfl (by decide +kernel) rfl rfl hlen hd (fun H1 locs1 hP hD hS => ?_)
  rw [e9] at hP hD
  exact kk H1 locs1 ls hP hD hS hl
theorem gf8_0 {E : En} {X : Cx} {Q : State → Prop} {S : Mem} {cc : ByteArray} {own : String} {nL d pc : Nat} {ret : Option FieldType} {lv : List (Nat × Value)} {st : List Value} (hF : Fx E X cc own nL ret d) {k idx : Nat} {fs : List Value} {v : Value} (hk : k < 70) (hs : sh E k (S k) = .inr (8, fs)) (hv : fs[0]? = some v) (hw : Cond.fieldLink own idx "SelfScale$Worlds" "scale" "LSelfScale$Scale;" ∈ BIG) (hd : decode cc pc = .ok (.getfield idx, 3)) (kk : J E X Q S (pc + 3) lv (v :: st)) : J E X Q S pc lv (.ref (eA E k) :: st) := by
  rcases X with ⟨p, l, e, R, s, m, args, below, meth, c, n0, A, cells, slots⟩
  obtain ⟨hx, hb, hml, hn0, hown, hts, hK, hStr, hLit, hr, hlocks, hl0, hd1, hd2, hd3, hd4⟩ := hF
  intro H locs ls hP hD hS hl
  exact va_get (C := RX8) (T := TX8) (N := 11) hx hb hts inX8 hown hK hP k ((world_get E S hk).trans (by rw [hs])) rfl 0 (by decide) (hts _ hw) (fun _ h => h) hv hd (kk H locs ls hP hD hS hl)
theorem gf8_1 {E : En} {X : Cx} {Q : State → Prop} {S : Mem} {cc : ByteArray} {own : String} {nL d pc : Nat} {ret : Option FieldType} {lv : List (Nat × Value)} {st : List Value} (hF : Fx E X cc own nL ret d) {k idx : Nat} {fs : List Value} {v : Value} (hk : k < 70) (hs : sh E k (S k) = .inr (8, fs)) (hv : fs[1]? = some v) (hw : Cond.fieldLink own idx "SelfScale$Worlds" "book" "LSelfScale$Book;" ∈ BIG) (hd : decode cc pc = .ok (.getfield idx, 3)) (kk : J E X Q S (pc + 3) lv (v :: st)) : J E X Q S pc lv (.ref (eA E k) :: st) := by
  rcases X with ⟨p, l, e, R, s, m, args, below, meth, c, n0, A, cells, slots⟩
  obtain ⟨hx, hb, hml, hn0, hown, hts, hK, hStr, hLit, hr, hlocks, hl0, hd1, hd2, hd3, hd4⟩ := hF
  intro H locs ls hP hD hS hl
  exact va_get (C := RX8) (T := TX8) (N := 11) hx hb hts inX8 hown hK hP k ((world_get E S hk).trans (by rw [hs])) rfl 1 (by decide) (hts _ hw) (fun _ h => h) hv hd (kk H locs ls hP hD hS hl)
theorem gf8_2 {E : En} {X : Cx} {Q : State → Prop} {S : Mem} {cc : ByteArray} {own : String} {nL d pc : Nat} {ret : Option FieldType} {lv : List (Nat × Value)} {st : List Value} (hF : Fx E X cc own nL ret d) {k idx : Nat} {fs : List Value} {v : Value} (hk : k < 70) (hs : sh E k (S k) = .inr (8, fs)) (hv : fs[2]? = some v) (hw : Cond.fieldLink own idx "SelfScale$Worlds" "codes" "LSelfScale$Row;" ∈ BIG) (hd : decode cc pc = .ok (.getfield idx, 3)) (kk : J E X Q S (pc + 3) lv (v :: st)) : J E X Q S pc lv (.ref (eA E k) :: st) := by
  rcases X with ⟨p, l, e, R, s, m, args, below, meth, c, n0, A, cells, slots⟩
  obtain ⟨hx, hb, hml, hn0, hown, hts, hK, hStr, hLit, hr, hlocks, hl0, hd1, hd2, hd3, hd4⟩ := hF
  intro H locs ls hP hD hS hl
  exact va_get (C := RX8) (T := TX8) (N := 11) hx hb hts inX8 hown hK hP k ((world_get E S hk).trans (by rw [hs])) rfl 2 (by decide) (hts _ hw) (fun _ h => h) hv hd (kk H locs ls hP hD hS hl)
theorem gf8_3 {E : En} {X : Cx} {Q : State → Prop} {S : Mem} {cc : ByteArray} {own : String} {nL d pc : Nat} {ret : Option FieldType} {lv : List (Nat × Value)} {st : List Value} (hF : Fx E X cc own nL ret d) {k idx : Nat} {fs : List Value} {v : Value} (hk : k < 70) (hs : sh E k (S k) = .inr (8, fs)) (hv : fs[3]? = some v) (hw : Cond.fieldLink own idx "SelfScale$Worlds" "leftBits" "LSelfScale$Row;" ∈ BIG) (hd : decode cc pc = .ok (.getfield idx, 3)) (kk : J E X Q S (pc + 3) lv (v :: st)) : J E X Q S pc lv (.ref (eA E k) :: st) := by
  rcases X with ⟨p, l, e, R, s, m, args, below, meth, c, n0, A, cells, slots⟩
  obtain ⟨hx, hb, hml, hn0, hown, hts, hK, hStr, hLit, hr, hlocks, hl0, hd1, hd2, hd3, hd4⟩ := hF
  intro H locs ls hP hD hS hl
  exact va_get (C := RX8) (T := TX8) (N := 11) hx hb hts inX8 hown hK hP k ((world_get E S hk).trans (by rw [hs])) rfl 3 (by decide) (hts _ hw) (fun _ h => h) hv hd (kk H locs ls hP hD hS hl)
theorem gf8_4 {E : En} {X : Cx} {Q : State → Prop} {S : Mem} {cc : ByteArray} {own : String} {nL d pc : Nat} {ret : Option FieldType} {lv : List (Nat × Value)} {st : List Value} (hF : Fx E X cc own nL ret d) {k idx : Nat} {fs : List Value} {v : Value} (hk : k < 70) (hs : sh E k (S k) = .inr (8, fs)) (hv : fs[4]? = some v) (hw : Cond.fieldLink own idx "SelfScale$Worlds" "leftByWeight" "LSelfScale$Row;" ∈ BIG) (hd : decode cc pc = .ok (.getfield idx, 3)) (kk : J E X Q S (pc + 3) lv (v :: st)) : J E X Q S pc lv (.ref (eA E k) :: st) := by
  rcases X with ⟨p, l, e, R, s, m, args, below, meth, c, n0, A, cells, slots⟩
  obtain ⟨hx, hb, hml, hn0, hown, hts, hK, hStr, hLit, hr, hlocks, hl0, hd1, hd2, hd3, hd4⟩ := hF
  intro H locs ls hP hD hS hl
  exact va_get (C := RX8) (T := TX8) (N := 11) hx hb hts inX8 hown hK hP k ((world_get E S hk).trans (by rw [hs])) rfl 4 (by decide) (hts _ hw) (fun _ h => h) hv hd (kk H locs ls hP hD hS hl)
theorem gf8_5 {E : En} {X : Cx} {Q : State → Prop} {S : Mem} {cc : ByteArray} {own : String} {nL d pc : Nat} {ret : Option FieldType} {lv : List (Nat × Value)} {st : List Value} (hF : Fx E X cc own nL ret d) {k idx : Nat} {fs : List Value} {v : Value} (hk : k < 70) (hs : sh E k (S k) = .inr (8, fs)) (hv : fs[5]? = some v) (hw : Cond.fieldLink own idx "SelfScale$Worlds" "leftByLaughs" "LSelfScale$Row;" ∈ BIG) (hd : decode cc pc = .ok (.getfield idx, 3)) (kk : J E X Q S (pc + 3) lv (v :: st)) : J E X Q S pc lv (.ref (eA E k) :: st) := by
  rcases X with ⟨p, l, e, R, s, m, args, below, meth, c, n0, A, cells, slots⟩
  obtain ⟨hx, hb, hml, hn0, hown, hts, hK, hStr, hLit, hr, hlocks, hl0, hd1, hd2, hd3, hd4⟩ := hF
  intro H locs ls hP hD hS hl
  exact va_get (C := RX8) (T := TX8) (N := 11) hx hb hts inX8 hown hK hP k ((world_get E S hk).trans (by rw [hs])) rfl 5 (by decide) (hts _ hw) (fun _ h => h) hv hd (kk H locs ls hP hD hS hl)
theorem gf8_6 {E : En} {X : Cx} {Q : State → Prop} {S : Mem} {cc : ByteArray} {own : String} {nL d pc : Nat} {ret : Option FieldType} {lv : List (Nat × Value)} {st : List Value} (hF : Fx E X cc own nL ret d) {k idx : Nat} {fs : List Value} {v : Value} (hk : k < 70) (hs : sh E k (S k) = .inr (8, fs)) (hv : fs[6]? = some v) (hw : Cond.fieldLink own idx "SelfScale$Worlds" "laughedByLaughs" "LSelfScale$Row;" ∈ BIG) (hd : decode cc pc = .ok (.getfield idx, 3)) (kk : J E X Q S (pc + 3) lv (v :: st)) : J E X Q S pc lv (.ref (eA E k) :: st) := by
  rcases X with ⟨p, l, e, R, s, m, args, below, meth, c, n0, A, cells, slots⟩
  obtain ⟨hx, hb, hml, hn0, hown, hts, hK, hStr, hLit, hr, hlocks, hl0, hd1, hd2, hd3, hd4⟩ := hF
  intro H locs ls hP hD hS hl
  exact va_get (C := RX8) (T := TX8) (N := 11) hx hb hts inX8 hown hK hP k ((world_get E S hk).trans (by rw [hs])) rfl 6 (by decide) (hts _ hw) (fun _ h => h) hv hd (kk H locs ls hP hD hS hl)
theorem gf8_7 {E : En} {X : Cx} {Q : State → Prop} {S : Mem} {cc : ByteArray} {own : String} {nL d pc : Nat} {ret : Option FieldType} {lv : List (Nat × Value)} {st : List Value} (hF : Fx E X cc own nL ret d) {k idx : Nat} {fs : List Value} {v : Value} (hk : k < 70) (hs : sh E k (S k) = .inr (8, fs)) (hv : fs[7]? = some v) (hw : Cond.fieldLink own idx "SelfScale$Worlds" "isKnown" "Z" ∈ BIG) (hd : decode cc pc = .ok (.getfield idx, 3)) (kk : J E X Q S (pc + 3) lv (v :: st)) : J E X Q S pc lv (.ref (eA E k) :: st) := by
  rcases X with ⟨p, l, e, R, s, m, args, below, meth, c, n0, A, cells, slots⟩
  obtain ⟨hx, hb, hml, hn0, hown, hts, hK, hStr, hLit, hr, hlocks, hl0, hd1, hd2, hd3, hd4⟩ := hF
  intro H locs ls hP hD hS hl
  exact va_get (C := RX8) (T := TX8) (N := 11) hx hb hts inX8 hown hK hP k ((world_get E S hk).trans (by rw [hs])) rfl 7 (by decide) (hts _ hw) (fun _ h => h) hv hd (kk H locs ls hP hD hS hl)
theorem pf8_7 {E : En} {X : Cx} {Q : State → Prop} {S : Mem} {cc : ByteArray} {own : String} {nL d pc : Nat} {ret : Option FieldType} {lv : List (Nat × Value)} {st : List Value} (hF : Fx E X cc own nL ret d) {k idx : Nat} {fs : List Value} {x : Int32} (hn : narrow .boolean (.int x) = .int x) (hf : fits .boolean (.int x) = true) (hk : k < 70) (hs : sh E k (S k) = .inr (8, fs)) (hs2 : sh E k (upd (S k).1 7 x, (S k).2) = .inr (8, fs.set 7 (.int x))) (hlen : 7 < fs.length) (hw : Cond.fieldLink own idx "SelfScale$Worlds" "isKnown" "Z" ∈ BIG) (hd : decode cc pc = .ok (.putfield idx, 3)) (kk : J E X Q (wr S k 7 x) (pc + 3) lv st) : J E X Q S pc lv (.int x :: .ref (eA E k) :: st) := by
  rcases X with ⟨p, l, e, R, s, m, args, below, meth, c, n0, A, cells, slots⟩
  obtain ⟨hx, hb, hml, hn0, hown, hts, hK, hStr, hLit, hr, hlocks, hl0, hd1, hd2, hd3, hd4⟩ := hF
  intro H locs ls hP hD hS hl
  have e9 : (world E S).set k (eA E k, .inr (8, fs.set 7 (.int x))) = world E (wr S k 7 x) := by
    rw [← hs2, ← wr_at S k 7 x]
    exact world_set E hk (fun a h => wr_ne S k 7 x h)
  refine va_put (C := RX8) (T := TX8) (N := 11) (ty := .boolean) hx hb hts inX8 tyX8 tyX8_ok nmX8 hown hK hP hD hS k ((world_get E S hk).trans (by rw [hs])) rfl 7 (by decide) (hts _ hw) (fun _ h => h) rfl (by decide +kernel) hn hf hlen hd (fun H1 locs1 hP hD hS => ?_)
  rw [e9] at hP hD
  exact kk H1 locs1 ls hP hD hS hl
theorem gf8_8 {E : En} {X : Cx} {Q : State → Prop} {S : Mem} {cc : ByteArray} {own : String} {nL d pc : Nat} {ret : Option FieldType} {lv : List (Nat × Value)} {st : List Value} (hF : Fx E X cc own nL ret d) {k idx : Nat} {fs : List Value} {v : Value} (hk : k < 70) (hs : sh E k (S k) = .inr (8, fs)) (hv : fs[8]? = some v) (hw : Cond.fieldLink own idx "SelfScale$Worlds" "left" "I" ∈ BIG) (hd : decode cc pc = .ok (.getfield idx, 3)) (kk : J E X Q S (pc + 3) lv (v :: st)) : J E X Q S pc lv (.ref (eA E k) :: st) := by
  rcases X with ⟨p, l, e, R, s, m, args, below, meth, c, n0, A, cells, slots⟩
  obtain ⟨hx, hb, hml, hn0, hown, hts, hK, hStr, hLit, hr, hlocks, hl0, hd1, hd2, hd3, hd4⟩ := hF
  intro H locs ls hP hD hS hl
  exact va_get (C := RX8) (T := TX8) (N := 11) hx hb hts inX8 hown hK hP k ((world_get E S hk).trans (by rw [hs])) rfl 8 (by decide) (hts _ hw) (fun _ h => h) hv hd (kk H locs ls hP hD hS hl)
theorem pf8_8 {E : En} {X : Cx} {Q : State → Prop} {S : Mem} {cc : ByteArray} {own : String} {nL d pc : Nat} {ret : Option FieldType} {lv : List (Nat × Value)} {st : List Value} (hF : Fx E X cc own nL ret d) {k idx : Nat} {fs : List Value} {x : Int32} (hk : k < 70) (hs : sh E k (S k) = .inr (8, fs)) (hs2 : sh E k (upd (S k).1 8 x, (S k).2) = .inr (8, fs.set 8 (.int x))) (hlen : 8 < fs.length) (hw : Cond.fieldLink own idx "SelfScale$Worlds" "left" "I" ∈ BIG) (hd : decode cc pc = .ok (.putfield idx, 3)) (kk : J E X Q (wr S k 8 x) (pc + 3) lv st) : J E X Q S pc lv (.int x :: .ref (eA E k) :: st) := by
  rcases X with ⟨p, l, e, R, s, m, args, below, meth, c, n0, A, cells, slots⟩
  obtain ⟨hx, hb, hml, hn0, hown, hts, hK, hStr, hLit, hr, hlocks, hl0, hd1, hd2, hd3, hd4⟩ := hF
  intro H locs ls hP hD hS hl
  have e9 : (world E S).set k (eA E k, .inr (8, fs.set 8 (.int x))) = world E (wr S k 8 x) := by
    rw [← hs2, ← wr_at S k 8 x]
    exact world_set E hk (fun a h => wr_ne S k 8 x h)
  refine va_put (C := RX8) (T := TX8) (N := 11) (ty := .int) hx hb hts inX8 tyX8 tyX8_ok nmX8 hown hK hP hD hS k ((world_get E S hk).trans (by rw [hs])) rfl 8 (by decide) (hts _ hw) (fun _ h => h) rfl (by decide +kernel) rfl rfl hlen hd (fun H1 locs1 hP hD hS => ?_)
  rw [e9] at hP hD
  exact kk H1 locs1 ls hP hD hS hl
theorem gf8_9 {E : En} {X : Cx} {Q : State → Prop} {S : Mem} {cc : ByteArray} {own : String} {nL d pc : Nat} {ret : Option FieldType} {lv : List (Nat × Value)} {st : List Value} (hF : Fx E X cc own nL ret d) {k idx : Nat} {fs : List Value} {v : Value} (hk : k < 70) (hs : sh E k (S k) = .inr (8, fs)) (hv : fs[9]? = some v) (hw : Cond.fieldLink own idx "SelfScale$Worlds" "fewestFalse" "I" ∈ BIG) (hd : decode cc pc = .ok (.getfield idx, 3)) (kk : J E X Q S (pc + 3) lv (v :: st)) : J E X Q S pc lv (.ref (eA E k) :: st) := by
  rcases X with ⟨p, l, e, R, s, m, args, below, meth, c, n0, A, cells, slots⟩
  obtain ⟨hx, hb, hml, hn0, hown, hts, hK, hStr, hLit, hr, hlocks, hl0, hd1, hd2, hd3, hd4⟩ := hF
  intro H locs ls hP hD hS hl
  exact va_get (C := RX8) (T := TX8) (N := 11) hx hb hts inX8 hown hK hP k ((world_get E S hk).trans (by rw [hs])) rfl 9 (by decide) (hts _ hw) (fun _ h => h) hv hd (kk H locs ls hP hD hS hl)
theorem pf8_9 {E : En} {X : Cx} {Q : State → Prop} {S : Mem} {cc : ByteArray} {own : String} {nL d pc : Nat} {ret : Option FieldType} {lv : List (Nat × Value)} {st : List Value} (hF : Fx E X cc own nL ret d) {k idx : Nat} {fs : List Value} {x : Int32} (hk : k < 70) (hs : sh E k (S k) = .inr (8, fs)) (hs2 : sh E k (upd (S k).1 9 x, (S k).2) = .inr (8, fs.set 9 (.int x))) (hlen : 9 < fs.length) (hw : Cond.fieldLink own idx "SelfScale$Worlds" "fewestFalse" "I" ∈ BIG) (hd : decode cc pc = .ok (.putfield idx, 3)) (kk : J E X Q (wr S k 9 x) (pc + 3) lv st) : J E X Q S pc lv (.int x :: .ref (eA E k) :: st) := by
  rcases X with ⟨p, l, e, R, s, m, args, below, meth, c, n0, A, cells, slots⟩
  obtain ⟨hx, hb, hml, hn0, hown, hts, hK, hStr, hLit, hr, hlocks, hl0, hd1, hd2, hd3, hd4⟩ := hF
  intro H locs ls hP hD hS hl
  have e9 : (world E S).set k (eA E k, .inr (8, fs.set 9 (.int x))) = world E (wr S k 9 x) := by
    rw [← hs2, ← wr_at S k 9 x]
    exact world_set E hk (fun a h => wr_ne S k 9 x h)
  refine va_put (C := RX8) (T := TX8) (N := 11) (ty := .int) hx hb hts inX8 tyX8 tyX8_ok nmX8 hown hK hP hD hS k ((world_get E S hk).trans (by rw [hs])) rfl 9 (by decide) (hts _ hw) (fun _ h => h) rfl (by decide +kernel) rfl rfl hlen hd (fun H1 locs1 hP hD hS => ?_)
  rw [e9] at hP hD
  exact kk H1 locs1 ls hP hD hS hl
theorem gf8_10 {E : En} {X : Cx} {Q : State → Prop} {S : Mem} {cc : ByteArray} {own : String} {nL d pc : Nat} {ret : Option FieldType} {lv : List (Nat × Value)} {st : List Value} (hF : Fx E X cc own nL ret d) {k idx : Nat} {fs : List Value} {v : Value} (hk : k < 70) (hs : sh E k (S k) = .inr (8, fs)) (hv : fs[10]? = some v) (hw : Cond.fieldLink own idx "SelfScale$Worlds" "everFalse" "I" ∈ BIG) (hd : decode cc pc = .ok (.getfield idx, 3)) (kk : J E X Q S (pc + 3) lv (v :: st)) : J E X Q S pc lv (.ref (eA E k) :: st) := by
  rcases X with ⟨p, l, e, R, s, m, args, below, meth, c, n0, A, cells, slots⟩
  obtain ⟨hx, hb, hml, hn0, hown, hts, hK, hStr, hLit, hr, hlocks, hl0, hd1, hd2, hd3, hd4⟩ := hF
  intro H locs ls hP hD hS hl
  exact va_get (C := RX8) (T := TX8) (N := 11) hx hb hts inX8 hown hK hP k ((world_get E S hk).trans (by rw [hs])) rfl 10 (by decide) (hts _ hw) (fun _ h => h) hv hd (kk H locs ls hP hD hS hl)
theorem pf8_10 {E : En} {X : Cx} {Q : State → Prop} {S : Mem} {cc : ByteArray} {own : String} {nL d pc : Nat} {ret : Option FieldType} {lv : List (Nat × Value)} {st : List Value} (hF : Fx E X cc own nL ret d) {k idx : Nat} {fs : List Value} {x : Int32} (hk : k < 70) (hs : sh E k (S k) = .inr (8, fs)) (hs2 : sh E k (upd (S k).1 10 x, (S k).2) = .inr (8, fs.set 10 (.int x))) (hlen : 10 < fs.length) (hw : Cond.fieldLink own idx "SelfScale$Worlds" "everFalse" "I" ∈ BIG) (hd : decode cc pc = .ok (.putfield idx, 3)) (kk : J E X Q (wr S k 10 x) (pc + 3) lv st) : J E X Q S pc lv (.int x :: .ref (eA E k) :: st) := by
  rcases X with ⟨p, l, e, R, s, m, args, below, meth, c, n0, A, cells, slots⟩
  obtain ⟨hx, hb, hml, hn0, hown, hts, hK, hStr, hLit, hr, hlocks, hl0, hd1, hd2, hd3, hd4⟩ := hF
  intro H locs ls hP hD hS hl
  have e9 : (world E S).set k (eA E k, .inr (8, fs.set 10 (.int x))) = world E (wr S k 10 x) := by
    rw [← hs2, ← wr_at S k 10 x]
    exact world_set E hk (fun a h => wr_ne S k 10 x h)
  refine va_put (C := RX8) (T := TX8) (N := 11) (ty := .int) hx hb hts inX8 tyX8 tyX8_ok nmX8 hown hK hP hD hS k ((world_get E S hk).trans (by rw [hs])) rfl 10 (by decide) (hts _ hw) (fun _ h => h) rfl (by decide +kernel) rfl rfl hlen hd (fun H1 locs1 hP hD hS => ?_)
  rw [e9] at hP hD
  exact kk H1 locs1 ls hP hD hS hl
theorem gf9_0 {E : En} {X : Cx} {Q : State → Prop} {S : Mem} {cc : ByteArray} {own : String} {nL d pc : Nat} {ret : Option FieldType} {lv : List (Nat × Value)} {st : List Value} (hF : Fx E X cc own nL ret d) {k idx : Nat} {fs : List Value} {v : Value} (hk : k < 70) (hs : sh E k (S k) = .inr (9, fs)) (hv : fs[0]? = some v) (hw : Cond.fieldLink own idx "SelfScale" "text" "LSelfScale$Text;" ∈ BIG) (hd : decode cc pc = .ok (.getfield idx, 3)) (kk : J E X Q S (pc + 3) lv (v :: st)) : J E X Q S pc lv (.ref (eA E k) :: st) := by
  rcases X with ⟨p, l, e, R, s, m, args, below, meth, c, n0, A, cells, slots⟩
  obtain ⟨hx, hb, hml, hn0, hown, hts, hK, hStr, hLit, hr, hlocks, hl0, hd1, hd2, hd3, hd4⟩ := hF
  intro H locs ls hP hD hS hl
  exact va_get (C := RX9) (T := TX9) (N := 9) hx hb hts inX9 hown hK hP k ((world_get E S hk).trans (by rw [hs])) rfl 0 (by decide) (hts _ hw) (fun _ h => h) hv hd (kk H locs ls hP hD hS hl)
theorem gf9_1 {E : En} {X : Cx} {Q : State → Prop} {S : Mem} {cc : ByteArray} {own : String} {nL d pc : Nat} {ret : Option FieldType} {lv : List (Nat × Value)} {st : List Value} (hF : Fx E X cc own nL ret d) {k idx : Nat} {fs : List Value} {v : Value} (hk : k < 70) (hs : sh E k (S k) = .inr (9, fs)) (hv : fs[1]? = some v) (hw : Cond.fieldLink own idx "SelfScale" "reader" "LSelfScale$Reader;" ∈ BIG) (hd : decode cc pc = .ok (.getfield idx, 3)) (kk : J E X Q S (pc + 3) lv (v :: st)) : J E X Q S pc lv (.ref (eA E k) :: st) := by
  rcases X with ⟨p, l, e, R, s, m, args, below, meth, c, n0, A, cells, slots⟩
  obtain ⟨hx, hb, hml, hn0, hown, hts, hK, hStr, hLit, hr, hlocks, hl0, hd1, hd2, hd3, hd4⟩ := hF
  intro H locs ls hP hD hS hl
  exact va_get (C := RX9) (T := TX9) (N := 9) hx hb hts inX9 hown hK hP k ((world_get E S hk).trans (by rw [hs])) rfl 1 (by decide) (hts _ hw) (fun _ h => h) hv hd (kk H locs ls hP hD hS hl)
theorem gf9_2 {E : En} {X : Cx} {Q : State → Prop} {S : Mem} {cc : ByteArray} {own : String} {nL d pc : Nat} {ret : Option FieldType} {lv : List (Nat × Value)} {st : List Value} (hF : Fx E X cc own nL ret d) {k idx : Nat} {fs : List Value} {v : Value} (hk : k < 70) (hs : sh E k (S k) = .inr (9, fs)) (hv : fs[2]? = some v) (hw : Cond.fieldLink own idx "SelfScale" "scale" "LSelfScale$Scale;" ∈ BIG) (hd : decode cc pc = .ok (.getfield idx, 3)) (kk : J E X Q S (pc + 3) lv (v :: st)) : J E X Q S pc lv (.ref (eA E k) :: st) := by
  rcases X with ⟨p, l, e, R, s, m, args, below, meth, c, n0, A, cells, slots⟩
  obtain ⟨hx, hb, hml, hn0, hown, hts, hK, hStr, hLit, hr, hlocks, hl0, hd1, hd2, hd3, hd4⟩ := hF
  intro H locs ls hP hD hS hl
  exact va_get (C := RX9) (T := TX9) (N := 9) hx hb hts inX9 hown hK hP k ((world_get E S hk).trans (by rw [hs])) rfl 2 (by decide) (hts _ hw) (fun _ h => h) hv hd (kk H locs ls hP hD hS hl)
theorem gf9_3 {E : En} {X : Cx} {Q : State → Prop} {S : Mem} {cc : ByteArray} {own : String} {nL d pc : Nat} {ret : Option FieldType} {lv : List (Nat × Value)} {st : List Value} (hF : Fx E X cc own nL ret d) {k idx : Nat} {fs : List Value} {v : Value} (hk : k < 70) (hs : sh E k (S k) = .inr (9, fs)) (hv : fs[3]? = some v) (hw : Cond.fieldLink own idx "SelfScale" "book" "LSelfScale$Book;" ∈ BIG) (hd : decode cc pc = .ok (.getfield idx, 3)) (kk : J E X Q S (pc + 3) lv (v :: st)) : J E X Q S pc lv (.ref (eA E k) :: st) := by
  rcases X with ⟨p, l, e, R, s, m, args, below, meth, c, n0, A, cells, slots⟩
  obtain ⟨hx, hb, hml, hn0, hown, hts, hK, hStr, hLit, hr, hlocks, hl0, hd1, hd2, hd3, hd4⟩ := hF
  intro H locs ls hP hD hS hl
  exact va_get (C := RX9) (T := TX9) (N := 9) hx hb hts inX9 hown hK hP k ((world_get E S hk).trans (by rw [hs])) rfl 3 (by decide) (hts _ hw) (fun _ h => h) hv hd (kk H locs ls hP hD hS hl)
theorem gf9_4 {E : En} {X : Cx} {Q : State → Prop} {S : Mem} {cc : ByteArray} {own : String} {nL d pc : Nat} {ret : Option FieldType} {lv : List (Nat × Value)} {st : List Value} (hF : Fx E X cc own nL ret d) {k idx : Nat} {fs : List Value} {v : Value} (hk : k < 70) (hs : sh E k (S k) = .inr (9, fs)) (hv : fs[4]? = some v) (hw : Cond.fieldLink own idx "SelfScale" "firstImage" "LSelfScale$Image;" ∈ BIG) (hd : decode cc pc = .ok (.getfield idx, 3)) (kk : J E X Q S (pc + 3) lv (v :: st)) : J E X Q S pc lv (.ref (eA E k) :: st) := by
  rcases X with ⟨p, l, e, R, s, m, args, below, meth, c, n0, A, cells, slots⟩
  obtain ⟨hx, hb, hml, hn0, hown, hts, hK, hStr, hLit, hr, hlocks, hl0, hd1, hd2, hd3, hd4⟩ := hF
  intro H locs ls hP hD hS hl
  exact va_get (C := RX9) (T := TX9) (N := 9) hx hb hts inX9 hown hK hP k ((world_get E S hk).trans (by rw [hs])) rfl 4 (by decide) (hts _ hw) (fun _ h => h) hv hd (kk H locs ls hP hD hS hl)
theorem gf9_5 {E : En} {X : Cx} {Q : State → Prop} {S : Mem} {cc : ByteArray} {own : String} {nL d pc : Nat} {ret : Option FieldType} {lv : List (Nat × Value)} {st : List Value} (hF : Fx E X cc own nL ret d) {k idx : Nat} {fs : List Value} {v : Value} (hk : k < 70) (hs : sh E k (S k) = .inr (9, fs)) (hv : fs[5]? = some v) (hw : Cond.fieldLink own idx "SelfScale" "secondImage" "LSelfScale$Image;" ∈ BIG) (hd : decode cc pc = .ok (.getfield idx, 3)) (kk : J E X Q S (pc + 3) lv (v :: st)) : J E X Q S pc lv (.ref (eA E k) :: st) := by
  rcases X with ⟨p, l, e, R, s, m, args, below, meth, c, n0, A, cells, slots⟩
  obtain ⟨hx, hb, hml, hn0, hown, hts, hK, hStr, hLit, hr, hlocks, hl0, hd1, hd2, hd3, hd4⟩ := hF
  intro H locs ls hP hD hS hl
  exact va_get (C := RX9) (T := TX9) (N := 9) hx hb hts inX9 hown hK hP k ((world_get E S hk).trans (by rw [hs])) rfl 5 (by decide) (hts _ hw) (fun _ h => h) hv hd (kk H locs ls hP hD hS hl)
theorem gf9_6 {E : En} {X : Cx} {Q : State → Prop} {S : Mem} {cc : ByteArray} {own : String} {nL d pc : Nat} {ret : Option FieldType} {lv : List (Nat × Value)} {st : List Value} (hF : Fx E X cc own nL ret d) {k idx : Nat} {fs : List Value} {v : Value} (hk : k < 70) (hs : sh E k (S k) = .inr (9, fs)) (hv : fs[6]? = some v) (hw : Cond.fieldLink own idx "SelfScale" "kinds" "LSelfScale$Kinds;" ∈ BIG) (hd : decode cc pc = .ok (.getfield idx, 3)) (kk : J E X Q S (pc + 3) lv (v :: st)) : J E X Q S pc lv (.ref (eA E k) :: st) := by
  rcases X with ⟨p, l, e, R, s, m, args, below, meth, c, n0, A, cells, slots⟩
  obtain ⟨hx, hb, hml, hn0, hown, hts, hK, hStr, hLit, hr, hlocks, hl0, hd1, hd2, hd3, hd4⟩ := hF
  intro H locs ls hP hD hS hl
  exact va_get (C := RX9) (T := TX9) (N := 9) hx hb hts inX9 hown hK hP k ((world_get E S hk).trans (by rw [hs])) rfl 6 (by decide) (hts _ hw) (fun _ h => h) hv hd (kk H locs ls hP hD hS hl)
theorem gf9_7 {E : En} {X : Cx} {Q : State → Prop} {S : Mem} {cc : ByteArray} {own : String} {nL d pc : Nat} {ret : Option FieldType} {lv : List (Nat × Value)} {st : List Value} (hF : Fx E X cc own nL ret d) {k idx : Nat} {fs : List Value} {v : Value} (hk : k < 70) (hs : sh E k (S k) = .inr (9, fs)) (hv : fs[7]? = some v) (hw : Cond.fieldLink own idx "SelfScale" "worlds" "LSelfScale$Worlds;" ∈ BIG) (hd : decode cc pc = .ok (.getfield idx, 3)) (kk : J E X Q S (pc + 3) lv (v :: st)) : J E X Q S pc lv (.ref (eA E k) :: st) := by
  rcases X with ⟨p, l, e, R, s, m, args, below, meth, c, n0, A, cells, slots⟩
  obtain ⟨hx, hb, hml, hn0, hown, hts, hK, hStr, hLit, hr, hlocks, hl0, hd1, hd2, hd3, hd4⟩ := hF
  intro H locs ls hP hD hS hl
  exact va_get (C := RX9) (T := TX9) (N := 9) hx hb hts inX9 hown hK hP k ((world_get E S hk).trans (by rw [hs])) rfl 7 (by decide) (hts _ hw) (fun _ h => h) hv hd (kk H locs ls hP hD hS hl)
theorem gf9_8 {E : En} {X : Cx} {Q : State → Prop} {S : Mem} {cc : ByteArray} {own : String} {nL d pc : Nat} {ret : Option FieldType} {lv : List (Nat × Value)} {st : List Value} (hF : Fx E X cc own nL ret d) {k idx : Nat} {fs : List Value} {v : Value} (hk : k < 70) (hs : sh E k (S k) = .inr (9, fs)) (hv : fs[8]? = some v) (hw : Cond.fieldLink own idx "SelfScale" "plan" "LSelfScale$Plan;" ∈ BIG) (hd : decode cc pc = .ok (.getfield idx, 3)) (kk : J E X Q S (pc + 3) lv (v :: st)) : J E X Q S pc lv (.ref (eA E k) :: st) := by
  rcases X with ⟨p, l, e, R, s, m, args, below, meth, c, n0, A, cells, slots⟩
  obtain ⟨hx, hb, hml, hn0, hown, hts, hK, hStr, hLit, hr, hlocks, hl0, hd1, hd2, hd3, hd4⟩ := hF
  intro H locs ls hP hD hS hl
  exact va_get (C := RX9) (T := TX9) (N := 9) hx hb hts inX9 hown hK hP k ((world_get E S hk).trans (by rw [hs])) rfl 8 (by decide) (hts _ hw) (fun _ h => h) hv hd (kk H locs ls hP hD hS hl)
theorem gf10_0 {E : En} {X : Cx} {Q : State → Prop} {S : Mem} {cc : ByteArray} {own : String} {nL d pc : Nat} {ret : Option FieldType} {lv : List (Nat × Value)} {st : List Value} (hF : Fx E X cc own nL ret d) {k idx : Nat} {fs : List Value} {v : Value} (hk : k < 70) (hs : sh E k (S k) = .inr (10, fs)) (hv : fs[0]? = some v) (hw : Cond.fieldLink own idx "SelfScaleModel" "trace" "J" ∈ BIG) (hd : decode cc pc = .ok (.getfield idx, 3)) (kk : J E X Q S (pc + 3) lv (v :: st)) : J E X Q S pc lv (.ref (eA E k) :: st) := by
  rcases X with ⟨p, l, e, R, s, m, args, below, meth, c, n0, A, cells, slots⟩
  obtain ⟨hx, hb, hml, hn0, hown, hts, hK, hStr, hLit, hr, hlocks, hl0, hd1, hd2, hd3, hd4⟩ := hF
  intro H locs ls hP hD hS hl
  exact va_get (C := RX10) (T := TX10) (N := 20) hx hb hts inX10 hown hK hP k ((world_get E S hk).trans (by rw [hs])) rfl 0 (by decide) (hts _ hw) (fun _ h => h) hv hd (kk H locs ls hP hD hS hl)
theorem pf10_0 {E : En} {X : Cx} {Q : State → Prop} {S : Mem} {cc : ByteArray} {own : String} {nL d pc : Nat} {ret : Option FieldType} {lv : List (Nat × Value)} {st : List Value} (hF : Fx E X cc own nL ret d) {k idx : Nat} {fs : List Value} {x : Int64} (hk : k < 70) (hs : sh E k (S k) = .inr (10, fs)) (hs2 : sh E k ((S k).1, x) = .inr (10, fs.set 0 (.long x))) (hlen : 0 < fs.length) (hw : Cond.fieldLink own idx "SelfScaleModel" "trace" "J" ∈ BIG) (hd : decode cc pc = .ok (.putfield idx, 3)) (kk : J E X Q (wrL S k x) (pc + 3) lv st) : J E X Q S pc lv (.long x :: .ref (eA E k) :: st) := by
  rcases X with ⟨p, l, e, R, s, m, args, below, meth, c, n0, A, cells, slots⟩
  obtain ⟨hx, hb, hml, hn0, hown, hts, hK, hStr, hLit, hr, hlocks, hl0, hd1, hd2, hd3, hd4⟩ := hF
  intro H locs ls hP hD hS hl
  have e9 : (world E S).set k (eA E k, .inr (10, fs.set 0 (.long x))) = world E (wrL S k x) := by
    rw [← hs2, ← wrL_at S k x]
    exact world_set E hk (fun a h => wrL_ne S k x h)
  refine va_put (C := RX10) (T := TX10) (N := 20) (ty := .long) hx hb hts inX10 tyX10 tyX10_ok nmX10 hown hK hP hD hS k ((world_get E S hk).trans (by rw [hs])) rfl 0 (by decide) (hts _ hw) (fun _ h => h) rfl (by decide +kernel) rfl rfl hlen hd (fun H1 locs1 hP hD hS => ?_)
  rw [e9] at hP hD
  exact kk H1 locs1 ls hP hD hS hl
theorem gf10_1 {E : En} {X : Cx} {Q : State → Prop} {S : Mem} {cc : ByteArray} {own : String} {nL d pc : Nat} {ret : Option FieldType} {lv : List (Nat × Value)} {st : List Value} (hF : Fx E X cc own nL ret d) {k idx : Nat} {fs : List Value} {v : Value} (hk : k < 70) (hs : sh E k (S k) = .inr (10, fs)) (hv : fs[1]? = some v) (hw : Cond.fieldLink own idx "SelfScaleModel" "text" "[B" ∈ BIG) (hd : decode cc pc = .ok (.getfield idx, 3)) (kk : J E X Q S (pc + 3) lv (v :: st)) : J E X Q S pc lv (.ref (eA E k) :: st) := by
  rcases X with ⟨p, l, e, R, s, m, args, below, meth, c, n0, A, cells, slots⟩
  obtain ⟨hx, hb, hml, hn0, hown, hts, hK, hStr, hLit, hr, hlocks, hl0, hd1, hd2, hd3, hd4⟩ := hF
  intro H locs ls hP hD hS hl
  exact va_get (C := RX10) (T := TX10) (N := 20) hx hb hts inX10 hown hK hP k ((world_get E S hk).trans (by rw [hs])) rfl 1 (by decide) (hts _ hw) (fun _ h => h) hv hd (kk H locs ls hP hD hS hl)
theorem gf10_2 {E : En} {X : Cx} {Q : State → Prop} {S : Mem} {cc : ByteArray} {own : String} {nL d pc : Nat} {ret : Option FieldType} {lv : List (Nat × Value)} {st : List Value} (hF : Fx E X cc own nL ret d) {k idx : Nat} {fs : List Value} {v : Value} (hk : k < 70) (hs : sh E k (S k) = .inr (10, fs)) (hv : fs[2]? = some v) (hw : Cond.fieldLink own idx "SelfScaleModel" "typed" "I" ∈ BIG) (hd : decode cc pc = .ok (.getfield idx, 3)) (kk : J E X Q S (pc + 3) lv (v :: st)) : J E X Q S pc lv (.ref (eA E k) :: st) := by
  rcases X with ⟨p, l, e, R, s, m, args, below, meth, c, n0, A, cells, slots⟩
  obtain ⟨hx, hb, hml, hn0, hown, hts, hK, hStr, hLit, hr, hlocks, hl0, hd1, hd2, hd3, hd4⟩ := hF
  intro H locs ls hP hD hS hl
  exact va_get (C := RX10) (T := TX10) (N := 20) hx hb hts inX10 hown hK hP k ((world_get E S hk).trans (by rw [hs])) rfl 2 (by decide) (hts _ hw) (fun _ h => h) hv hd (kk H locs ls hP hD hS hl)
theorem pf10_2 {E : En} {X : Cx} {Q : State → Prop} {S : Mem} {cc : ByteArray} {own : String} {nL d pc : Nat} {ret : Option FieldType} {lv : List (Nat × Value)} {st : List Value} (hF : Fx E X cc own nL ret d) {k idx : Nat} {fs : List Value} {x : Int32} (hk : k < 70) (hs : sh E k (S k) = .inr (10, fs)) (hs2 : sh E k (upd (S k).1 2 x, (S k).2) = .inr (10, fs.set 2 (.int x))) (hlen : 2 < fs.length) (hw : Cond.fieldLink own idx "SelfScaleModel" "typed" "I" ∈ BIG) (hd : decode cc pc = .ok (.putfield idx, 3)) (kk : J E X Q (wr S k 2 x) (pc + 3) lv st) : J E X Q S pc lv (.int x :: .ref (eA E k) :: st) := by
  rcases X with ⟨p, l, e, R, s, m, args, below, meth, c, n0, A, cells, slots⟩
  obtain ⟨hx, hb, hml, hn0, hown, hts, hK, hStr, hLit, hr, hlocks, hl0, hd1, hd2, hd3, hd4⟩ := hF
  intro H locs ls hP hD hS hl
  have e9 : (world E S).set k (eA E k, .inr (10, fs.set 2 (.int x))) = world E (wr S k 2 x) := by
    rw [← hs2, ← wr_at S k 2 x]
    exact world_set E hk (fun a h => wr_ne S k 2 x h)
  refine va_put (C := RX10) (T := TX10) (N := 20) (ty := .int) hx hb hts inX10 tyX10 tyX10_ok nmX10 hown hK hP hD hS k ((world_get E S hk).trans (by rw [hs])) rfl 2 (by decide) (hts _ hw) (fun _ h => h) rfl (by decide +kernel) rfl rfl hlen hd (fun H1 locs1 hP hD hS => ?_)
  rw [e9] at hP hD
  exact kk H1 locs1 ls hP hD hS hl
theorem gf10_3 {E : En} {X : Cx} {Q : State → Prop} {S : Mem} {cc : ByteArray} {own : String} {nL d pc : Nat} {ret : Option FieldType} {lv : List (Nat × Value)} {st : List Value} (hF : Fx E X cc own nL ret d) {k idx : Nat} {fs : List Value} {v : Value} (hk : k < 70) (hs : sh E k (S k) = .inr (10, fs)) (hv : fs[3]? = some v) (hw : Cond.fieldLink own idx "SelfScaleModel" "things" "[I" ∈ BIG) (hd : decode cc pc = .ok (.getfield idx, 3)) (kk : J E X Q S (pc + 3) lv (v :: st)) : J E X Q S pc lv (.ref (eA E k) :: st) := by
  rcases X with ⟨p, l, e, R, s, m, args, below, meth, c, n0, A, cells, slots⟩
  obtain ⟨hx, hb, hml, hn0, hown, hts, hK, hStr, hLit, hr, hlocks, hl0, hd1, hd2, hd3, hd4⟩ := hF
  intro H locs ls hP hD hS hl
  exact va_get (C := RX10) (T := TX10) (N := 20) hx hb hts inX10 hown hK hP k ((world_get E S hk).trans (by rw [hs])) rfl 3 (by decide) (hts _ hw) (fun _ h => h) hv hd (kk H locs ls hP hD hS hl)
theorem gf10_4 {E : En} {X : Cx} {Q : State → Prop} {S : Mem} {cc : ByteArray} {own : String} {nL d pc : Nat} {ret : Option FieldType} {lv : List (Nat × Value)} {st : List Value} (hF : Fx E X cc own nL ret d) {k idx : Nat} {fs : List Value} {v : Value} (hk : k < 70) (hs : sh E k (S k) = .inr (10, fs)) (hv : fs[4]? = some v) (hw : Cond.fieldLink own idx "SelfScaleModel" "weights" "[I" ∈ BIG) (hd : decode cc pc = .ok (.getfield idx, 3)) (kk : J E X Q S (pc + 3) lv (v :: st)) : J E X Q S pc lv (.ref (eA E k) :: st) := by
  rcases X with ⟨p, l, e, R, s, m, args, below, meth, c, n0, A, cells, slots⟩
  obtain ⟨hx, hb, hml, hn0, hown, hts, hK, hStr, hLit, hr, hlocks, hl0, hd1, hd2, hd3, hd4⟩ := hF
  intro H locs ls hP hD hS hl
  exact va_get (C := RX10) (T := TX10) (N := 20) hx hb hts inX10 hown hK hP k ((world_get E S hk).trans (by rw [hs])) rfl 4 (by decide) (hts _ hw) (fun _ h => h) hv hd (kk H locs ls hP hD hS hl)
theorem gf10_5 {E : En} {X : Cx} {Q : State → Prop} {S : Mem} {cc : ByteArray} {own : String} {nL d pc : Nat} {ret : Option FieldType} {lv : List (Nat × Value)} {st : List Value} (hF : Fx E X cc own nL ret d) {k idx : Nat} {fs : List Value} {v : Value} (hk : k < 70) (hs : sh E k (S k) = .inr (10, fs)) (hv : fs[5]? = some v) (hw : Cond.fieldLink own idx "SelfScaleModel" "figures" "[I" ∈ BIG) (hd : decode cc pc = .ok (.getfield idx, 3)) (kk : J E X Q S (pc + 3) lv (v :: st)) : J E X Q S pc lv (.ref (eA E k) :: st) := by
  rcases X with ⟨p, l, e, R, s, m, args, below, meth, c, n0, A, cells, slots⟩
  obtain ⟨hx, hb, hml, hn0, hown, hts, hK, hStr, hLit, hr, hlocks, hl0, hd1, hd2, hd3, hd4⟩ := hF
  intro H locs ls hP hD hS hl
  exact va_get (C := RX10) (T := TX10) (N := 20) hx hb hts inX10 hown hK hP k ((world_get E S hk).trans (by rw [hs])) rfl 5 (by decide) (hts _ hw) (fun _ h => h) hv hd (kk H locs ls hP hD hS hl)
theorem gf10_6 {E : En} {X : Cx} {Q : State → Prop} {S : Mem} {cc : ByteArray} {own : String} {nL d pc : Nat} {ret : Option FieldType} {lv : List (Nat × Value)} {st : List Value} (hF : Fx E X cc own nL ret d) {k idx : Nat} {fs : List Value} {v : Value} (hk : k < 70) (hs : sh E k (S k) = .inr (10, fs)) (hv : fs[6]? = some v) (hw : Cond.fieldLink own idx "SelfScaleModel" "at" "I" ∈ BIG) (hd : decode cc pc = .ok (.getfield idx, 3)) (kk : J E X Q S (pc + 3) lv (v :: st)) : J E X Q S pc lv (.ref (eA E k) :: st) := by
  rcases X with ⟨p, l, e, R, s, m, args, below, meth, c, n0, A, cells, slots⟩
  obtain ⟨hx, hb, hml, hn0, hown, hts, hK, hStr, hLit, hr, hlocks, hl0, hd1, hd2, hd3, hd4⟩ := hF
  intro H locs ls hP hD hS hl
  exact va_get (C := RX10) (T := TX10) (N := 20) hx hb hts inX10 hown hK hP k ((world_get E S hk).trans (by rw [hs])) rfl 6 (by decide) (hts _ hw) (fun _ h => h) hv hd (kk H locs ls hP hD hS hl)
theorem pf10_6 {E : En} {X : Cx} {Q : State → Prop} {S : Mem} {cc : ByteArray} {own : String} {nL d pc : Nat} {ret : Option FieldType} {lv : List (Nat × Value)} {st : List Value} (hF : Fx E X cc own nL ret d) {k idx : Nat} {fs : List Value} {x : Int32} (hk : k < 70) (hs : sh E k (S k) = .inr (10, fs)) (hs2 : sh E k (upd (S k).1 6 x, (S k).2) = .inr (10, fs.set 6 (.int x))) (hlen : 6 < fs.length) (hw : Cond.fieldLink own idx "SelfScaleModel" "at" "I" ∈ BIG) (hd : decode cc pc = .ok (.putfield idx, 3)) (kk : J E X Q (wr S k 6 x) (pc + 3) lv st) : J E X Q S pc lv (.int x :: .ref (eA E k) :: st) := by
  rcases X with ⟨p, l, e, R, s, m, args, below, meth, c, n0, A, cells, slots⟩
  obtain ⟨hx, hb, hml, hn0, hown, hts, hK, hStr, hLit, hr, hlocks, hl0, hd1, hd2, hd3, hd4⟩ := hF
  intro H locs ls hP hD hS hl
  have e9 : (world E S).set k (eA E k, .inr (10, fs.set 6 (.int x))) = world E (wr S k 6 x) := by
    rw [← hs2, ← wr_at S k 6 x]
    exact world_set E hk (fun a h => wr_ne S k 6 x h)
  refine va_put (C := RX10) (T := TX10) (N := 20) (ty := .int) hx hb hts inX10 tyX10 tyX10_ok nmX10 hown hK hP hD hS k ((world_get E S hk).trans (by rw [hs])) rfl 6 (by decide) (hts _ hw) (fun _ h => h) rfl (by decide +kernel) rfl rfl hlen hd (fun H1 locs1 hP hD hS => ?_)
  rw [e9] at hP hD
  exact kk H1 locs1 ls hP hD hS hl
theorem gf10_7 {E : En} {X : Cx} {Q : State → Prop} {S : Mem} {cc : ByteArray} {own : String} {nL d pc : Nat} {ret : Option FieldType} {lv : List (Nat × Value)} {st : List Value} (hF : Fx E X cc own nL ret d) {k idx : Nat} {fs : List Value} {v : Value} (hk : k < 70) (hs : sh E k (S k) = .inr (10, fs)) (hv : fs[7]? = some v) (hw : Cond.fieldLink own idx "SelfScaleModel" "start" "I" ∈ BIG) (hd : decode cc pc = .ok (.getfield idx, 3)) (kk : J E X Q S (pc + 3) lv (v :: st)) : J E X Q S pc lv (.ref (eA E k) :: st) := by
  rcases X with ⟨p, l, e, R, s, m, args, below, meth, c, n0, A, cells, slots⟩
  obtain ⟨hx, hb, hml, hn0, hown, hts, hK, hStr, hLit, hr, hlocks, hl0, hd1, hd2, hd3, hd4⟩ := hF
  intro H locs ls hP hD hS hl
  exact va_get (C := RX10) (T := TX10) (N := 20) hx hb hts inX10 hown hK hP k ((world_get E S hk).trans (by rw [hs])) rfl 7 (by decide) (hts _ hw) (fun _ h => h) hv hd (kk H locs ls hP hD hS hl)
theorem pf10_7 {E : En} {X : Cx} {Q : State → Prop} {S : Mem} {cc : ByteArray} {own : String} {nL d pc : Nat} {ret : Option FieldType} {lv : List (Nat × Value)} {st : List Value} (hF : Fx E X cc own nL ret d) {k idx : Nat} {fs : List Value} {x : Int32} (hk : k < 70) (hs : sh E k (S k) = .inr (10, fs)) (hs2 : sh E k (upd (S k).1 7 x, (S k).2) = .inr (10, fs.set 7 (.int x))) (hlen : 7 < fs.length) (hw : Cond.fieldLink own idx "SelfScaleModel" "start" "I" ∈ BIG) (hd : decode cc pc = .ok (.putfield idx, 3)) (kk : J E X Q (wr S k 7 x) (pc + 3) lv st) : J E X Q S pc lv (.int x :: .ref (eA E k) :: st) := by
  rcases X with ⟨p, l, e, R, s, m, args, below, meth, c, n0, A, cells, slots⟩
  obtain ⟨hx, hb, hml, hn0, hown, hts, hK, hStr, hLit, hr, hlocks, hl0, hd1, hd2, hd3, hd4⟩ := hF
  intro H locs ls hP hD hS hl
  have e9 : (world E S).set k (eA E k, .inr (10, fs.set 7 (.int x))) = world E (wr S k 7 x) := by
    rw [← hs2, ← wr_at S k 7 x]
    exact world_set E hk (fun a h => wr_ne S k 7 x h)
  refine va_put (C := RX10) (T := TX10) (N := 20) (ty := .int) hx hb hts inX10 tyX10 tyX10_ok nmX10 hown hK hP hD hS k ((world_get E S hk).trans (by rw [hs])) rfl 7 (by decide) (hts _ hw) (fun _ h => h) rfl (by decide +kernel) rfl rfl hlen hd (fun H1 locs1 hP hD hS => ?_)
  rw [e9] at hP hD
  exact kk H1 locs1 ls hP hD hS hl
theorem gf10_8 {E : En} {X : Cx} {Q : State → Prop} {S : Mem} {cc : ByteArray} {own : String} {nL d pc : Nat} {ret : Option FieldType} {lv : List (Nat × Value)} {st : List Value} (hF : Fx E X cc own nL ret d) {k idx : Nat} {fs : List Value} {v : Value} (hk : k < 70) (hs : sh E k (S k) = .inr (10, fs)) (hv : fs[8]? = some v) (hw : Cond.fieldLink own idx "SelfScaleModel" "sort" "I" ∈ BIG) (hd : decode cc pc = .ok (.getfield idx, 3)) (kk : J E X Q S (pc + 3) lv (v :: st)) : J E X Q S pc lv (.ref (eA E k) :: st) := by
  rcases X with ⟨p, l, e, R, s, m, args, below, meth, c, n0, A, cells, slots⟩
  obtain ⟨hx, hb, hml, hn0, hown, hts, hK, hStr, hLit, hr, hlocks, hl0, hd1, hd2, hd3, hd4⟩ := hF
  intro H locs ls hP hD hS hl
  exact va_get (C := RX10) (T := TX10) (N := 20) hx hb hts inX10 hown hK hP k ((world_get E S hk).trans (by rw [hs])) rfl 8 (by decide) (hts _ hw) (fun _ h => h) hv hd (kk H locs ls hP hD hS hl)
theorem pf10_8 {E : En} {X : Cx} {Q : State → Prop} {S : Mem} {cc : ByteArray} {own : String} {nL d pc : Nat} {ret : Option FieldType} {lv : List (Nat × Value)} {st : List Value} (hF : Fx E X cc own nL ret d) {k idx : Nat} {fs : List Value} {x : Int32} (hk : k < 70) (hs : sh E k (S k) = .inr (10, fs)) (hs2 : sh E k (upd (S k).1 8 x, (S k).2) = .inr (10, fs.set 8 (.int x))) (hlen : 8 < fs.length) (hw : Cond.fieldLink own idx "SelfScaleModel" "sort" "I" ∈ BIG) (hd : decode cc pc = .ok (.putfield idx, 3)) (kk : J E X Q (wr S k 8 x) (pc + 3) lv st) : J E X Q S pc lv (.int x :: .ref (eA E k) :: st) := by
  rcases X with ⟨p, l, e, R, s, m, args, below, meth, c, n0, A, cells, slots⟩
  obtain ⟨hx, hb, hml, hn0, hown, hts, hK, hStr, hLit, hr, hlocks, hl0, hd1, hd2, hd3, hd4⟩ := hF
  intro H locs ls hP hD hS hl
  have e9 : (world E S).set k (eA E k, .inr (10, fs.set 8 (.int x))) = world E (wr S k 8 x) := by
    rw [← hs2, ← wr_at S k 8 x]
    exact world_set E hk (fun a h => wr_ne S k 8 x h)
  refine va_put (C := RX10) (T := TX10) (N := 20) (ty := .int) hx hb hts inX10 tyX10 tyX10_ok nmX10 hown hK hP hD hS k ((world_get E S hk).trans (by rw [hs])) rfl 8 (by decide) (hts _ hw) (fun _ h => h) rfl (by decide +kernel) rfl rfl hlen hd (fun H1 locs1 hP hD hS => ?_)
  rw [e9] at hP hD
  exact kk H1 locs1 ls hP hD hS hl
theorem gf10_9 {E : En} {X : Cx} {Q : State → Prop} {S : Mem} {cc : ByteArray} {own : String} {nL d pc : Nat} {ret : Option FieldType} {lv : List (Nat × Value)} {st : List Value} (hF : Fx E X cc own nL ret d) {k idx : Nat} {fs : List Value} {v : Value} (hk : k < 70) (hs : sh E k (S k) = .inr (10, fs)) (hv : fs[9]? = some v) (hw : Cond.fieldLink own idx "SelfScaleModel" "value" "I" ∈ BIG) (hd : decode cc pc = .ok (.getfield idx, 3)) (kk : J E X Q S (pc + 3) lv (v :: st)) : J E X Q S pc lv (.ref (eA E k) :: st) := by
  rcases X with ⟨p, l, e, R, s, m, args, below, meth, c, n0, A, cells, slots⟩
  obtain ⟨hx, hb, hml, hn0, hown, hts, hK, hStr, hLit, hr, hlocks, hl0, hd1, hd2, hd3, hd4⟩ := hF
  intro H locs ls hP hD hS hl
  exact va_get (C := RX10) (T := TX10) (N := 20) hx hb hts inX10 hown hK hP k ((world_get E S hk).trans (by rw [hs])) rfl 9 (by decide) (hts _ hw) (fun _ h => h) hv hd (kk H locs ls hP hD hS hl)
theorem pf10_9 {E : En} {X : Cx} {Q : State → Prop} {S : Mem} {cc : ByteArray} {own : String} {nL d pc : Nat} {ret : Option FieldType} {lv : List (Nat × Value)} {st : List Value} (hF : Fx E X cc own nL ret d) {k idx : Nat} {fs : List Value} {x : Int32} (hk : k < 70) (hs : sh E k (S k) = .inr (10, fs)) (hs2 : sh E k (upd (S k).1 9 x, (S k).2) = .inr (10, fs.set 9 (.int x))) (hlen : 9 < fs.length) (hw : Cond.fieldLink own idx "SelfScaleModel" "value" "I" ∈ BIG) (hd : decode cc pc = .ok (.putfield idx, 3)) (kk : J E X Q (wr S k 9 x) (pc + 3) lv st) : J E X Q S pc lv (.int x :: .ref (eA E k) :: st) := by
  rcases X with ⟨p, l, e, R, s, m, args, below, meth, c, n0, A, cells, slots⟩
  obtain ⟨hx, hb, hml, hn0, hown, hts, hK, hStr, hLit, hr, hlocks, hl0, hd1, hd2, hd3, hd4⟩ := hF
  intro H locs ls hP hD hS hl
  have e9 : (world E S).set k (eA E k, .inr (10, fs.set 9 (.int x))) = world E (wr S k 9 x) := by
    rw [← hs2, ← wr_at S k 9 x]
    exact world_set E hk (fun a h => wr_ne S k 9 x h)
  refine va_put (C := RX10) (T := TX10) (N := 20) (ty := .int) hx hb hts inX10 tyX10 tyX10_ok nmX10 hown hK hP hD hS k ((world_get E S hk).trans (by rw [hs])) rfl 9 (by decide) (hts _ hw) (fun _ h => h) rfl (by decide +kernel) rfl rfl hlen hd (fun H1 locs1 hP hD hS => ?_)
  rw [e9] at hP hD
  exact kk H1 locs1 ls hP hD hS hl
theorem gf10_10 {E : En} {X : Cx} {Q : State → Prop} {S : Mem} {cc : ByteArray} {own : String} {nL d pc : Nat} {ret : Option FieldType} {lv : List (Nat × Value)} {st : List Value} (hF : Fx E X cc own nL ret d) {k idx : Nat} {fs : List Value} {v : Value} (hk : k < 70) (hs : sh E k (S k) = .inr (10, fs)) (hv : fs[10]? = some v) (hw : Cond.fieldLink own idx "SelfScaleModel" "fault" "I" ∈ BIG) (hd : decode cc pc = .ok (.getfield idx, 3)) (kk : J E X Q S (pc + 3) lv (v :: st)) : J E X Q S pc lv (.ref (eA E k) :: st) := by
  rcases X with ⟨p, l, e, R, s, m, args, below, meth, c, n0, A, cells, slots⟩
  obtain ⟨hx, hb, hml, hn0, hown, hts, hK, hStr, hLit, hr, hlocks, hl0, hd1, hd2, hd3, hd4⟩ := hF
  intro H locs ls hP hD hS hl
  exact va_get (C := RX10) (T := TX10) (N := 20) hx hb hts inX10 hown hK hP k ((world_get E S hk).trans (by rw [hs])) rfl 10 (by decide) (hts _ hw) (fun _ h => h) hv hd (kk H locs ls hP hD hS hl)
theorem pf10_10 {E : En} {X : Cx} {Q : State → Prop} {S : Mem} {cc : ByteArray} {own : String} {nL d pc : Nat} {ret : Option FieldType} {lv : List (Nat × Value)} {st : List Value} (hF : Fx E X cc own nL ret d) {k idx : Nat} {fs : List Value} {x : Int32} (hk : k < 70) (hs : sh E k (S k) = .inr (10, fs)) (hs2 : sh E k (upd (S k).1 10 x, (S k).2) = .inr (10, fs.set 10 (.int x))) (hlen : 10 < fs.length) (hw : Cond.fieldLink own idx "SelfScaleModel" "fault" "I" ∈ BIG) (hd : decode cc pc = .ok (.putfield idx, 3)) (kk : J E X Q (wr S k 10 x) (pc + 3) lv st) : J E X Q S pc lv (.int x :: .ref (eA E k) :: st) := by
  rcases X with ⟨p, l, e, R, s, m, args, below, meth, c, n0, A, cells, slots⟩
  obtain ⟨hx, hb, hml, hn0, hown, hts, hK, hStr, hLit, hr, hlocks, hl0, hd1, hd2, hd3, hd4⟩ := hF
  intro H locs ls hP hD hS hl
  have e9 : (world E S).set k (eA E k, .inr (10, fs.set 10 (.int x))) = world E (wr S k 10 x) := by
    rw [← hs2, ← wr_at S k 10 x]
    exact world_set E hk (fun a h => wr_ne S k 10 x h)
  refine va_put (C := RX10) (T := TX10) (N := 20) (ty := .int) hx hb hts inX10 tyX10 tyX10_ok nmX10 hown hK hP hD hS k ((world_get E S hk).trans (by rw [hs])) rfl 10 (by decide) (hts _ hw) (fun _ h => h) rfl (by decide +kernel) rfl rfl hlen hd (fun H1 locs1 hP hD hS => ?_)
  rw [e9] at hP hD
  exact kk H1 locs1 ls hP hD hS hl
theorem gf10_11 {E : En} {X : Cx} {Q : State → Prop} {S : Mem} {cc : ByteArray} {own : String} {nL d pc : Nat} {ret : Option FieldType} {lv : List (Nat × Value)} {st : List Value} (hF : Fx E X cc own nL ret d) {k idx : Nat} {fs : List Value} {v : Value} (hk : k < 70) (hs : sh E k (S k) = .inr (10, fs)) (hv : fs[11]? = some v) (hw : Cond.fieldLink own idx "SelfScaleModel" "told" "I" ∈ BIG) (hd : decode cc pc = .ok (.getfield idx, 3)) (kk : J E X Q S (pc + 3) lv (v :: st)) : J E X Q S pc lv (.ref (eA E k) :: st) := by
  rcases X with ⟨p, l, e, R, s, m, args, below, meth, c, n0, A, cells, slots⟩
  obtain ⟨hx, hb, hml, hn0, hown, hts, hK, hStr, hLit, hr, hlocks, hl0, hd1, hd2, hd3, hd4⟩ := hF
  intro H locs ls hP hD hS hl
  exact va_get (C := RX10) (T := TX10) (N := 20) hx hb hts inX10 hown hK hP k ((world_get E S hk).trans (by rw [hs])) rfl 11 (by decide) (hts _ hw) (fun _ h => h) hv hd (kk H locs ls hP hD hS hl)
theorem pf10_11 {E : En} {X : Cx} {Q : State → Prop} {S : Mem} {cc : ByteArray} {own : String} {nL d pc : Nat} {ret : Option FieldType} {lv : List (Nat × Value)} {st : List Value} (hF : Fx E X cc own nL ret d) {k idx : Nat} {fs : List Value} {x : Int32} (hk : k < 70) (hs : sh E k (S k) = .inr (10, fs)) (hs2 : sh E k (upd (S k).1 11 x, (S k).2) = .inr (10, fs.set 11 (.int x))) (hlen : 11 < fs.length) (hw : Cond.fieldLink own idx "SelfScaleModel" "told" "I" ∈ BIG) (hd : decode cc pc = .ok (.putfield idx, 3)) (kk : J E X Q (wr S k 11 x) (pc + 3) lv st) : J E X Q S pc lv (.int x :: .ref (eA E k) :: st) := by
  rcases X with ⟨p, l, e, R, s, m, args, below, meth, c, n0, A, cells, slots⟩
  obtain ⟨hx, hb, hml, hn0, hown, hts, hK, hStr, hLit, hr, hlocks, hl0, hd1, hd2, hd3, hd4⟩ := hF
  intro H locs ls hP hD hS hl
  have e9 : (world E S).set k (eA E k, .inr (10, fs.set 11 (.int x))) = world E (wr S k 11 x) := by
    rw [← hs2, ← wr_at S k 11 x]
    exact world_set E hk (fun a h => wr_ne S k 11 x h)
  refine va_put (C := RX10) (T := TX10) (N := 20) (ty := .int) hx hb hts inX10 tyX10 tyX10_ok nmX10 hown hK hP hD hS k ((world_get E S hk).trans (by rw [hs])) rfl 11 (by decide) (hts _ hw) (fun _ h => h) rfl (by decide +kernel) rfl rfl hlen hd (fun H1 locs1 hP hD hS => ?_)
  rw [e9] at hP hD
  exact kk H1 locs1 ls hP hD hS hl
theorem gf10_12 {E : En} {X : Cx} {Q : State → Prop} {S : Mem} {cc : ByteArray} {own : String} {nL d pc : Nat} {ret : Option FieldType} {lv : List (Nat × Value)} {st : List Value} (hF : Fx E X cc own nL ret d) {k idx : Nat} {fs : List Value} {v : Value} (hk : k < 70) (hs : sh E k (S k) = .inr (10, fs)) (hv : fs[12]? = some v) (hw : Cond.fieldLink own idx "SelfScaleModel" "lines" "[I" ∈ BIG) (hd : decode cc pc = .ok (.getfield idx, 3)) (kk : J E X Q S (pc + 3) lv (v :: st)) : J E X Q S pc lv (.ref (eA E k) :: st) := by
  rcases X with ⟨p, l, e, R, s, m, args, below, meth, c, n0, A, cells, slots⟩
  obtain ⟨hx, hb, hml, hn0, hown, hts, hK, hStr, hLit, hr, hlocks, hl0, hd1, hd2, hd3, hd4⟩ := hF
  intro H locs ls hP hD hS hl
  exact va_get (C := RX10) (T := TX10) (N := 20) hx hb hts inX10 hown hK hP k ((world_get E S hk).trans (by rw [hs])) rfl 12 (by decide) (hts _ hw) (fun _ h => h) hv hd (kk H locs ls hP hD hS hl)
theorem gf10_13 {E : En} {X : Cx} {Q : State → Prop} {S : Mem} {cc : ByteArray} {own : String} {nL d pc : Nat} {ret : Option FieldType} {lv : List (Nat × Value)} {st : List Value} (hF : Fx E X cc own nL ret d) {k idx : Nat} {fs : List Value} {v : Value} (hk : k < 70) (hs : sh E k (S k) = .inr (10, fs)) (hv : fs[13]? = some v) (hw : Cond.fieldLink own idx "SelfScaleModel" "row" "[I" ∈ BIG) (hd : decode cc pc = .ok (.getfield idx, 3)) (kk : J E X Q S (pc + 3) lv (v :: st)) : J E X Q S pc lv (.ref (eA E k) :: st) := by
  rcases X with ⟨p, l, e, R, s, m, args, below, meth, c, n0, A, cells, slots⟩
  obtain ⟨hx, hb, hml, hn0, hown, hts, hK, hStr, hLit, hr, hlocks, hl0, hd1, hd2, hd3, hd4⟩ := hF
  intro H locs ls hP hD hS hl
  exact va_get (C := RX10) (T := TX10) (N := 20) hx hb hts inX10 hown hK hP k ((world_get E S hk).trans (by rw [hs])) rfl 13 (by decide) (hts _ hw) (fun _ h => h) hv hd (kk H locs ls hP hD hS hl)
theorem gf10_14 {E : En} {X : Cx} {Q : State → Prop} {S : Mem} {cc : ByteArray} {own : String} {nL d pc : Nat} {ret : Option FieldType} {lv : List (Nat × Value)} {st : List Value} (hF : Fx E X cc own nL ret d) {k idx : Nat} {fs : List Value} {v : Value} (hk : k < 70) (hs : sh E k (S k) = .inr (10, fs)) (hv : fs[14]? = some v) (hw : Cond.fieldLink own idx "SelfScaleModel" "isKept" "[Z" ∈ BIG) (hd : decode cc pc = .ok (.getfield idx, 3)) (kk : J E X Q S (pc + 3) lv (v :: st)) : J E X Q S pc lv (.ref (eA E k) :: st) := by
  rcases X with ⟨p, l, e, R, s, m, args, below, meth, c, n0, A, cells, slots⟩
  obtain ⟨hx, hb, hml, hn0, hown, hts, hK, hStr, hLit, hr, hlocks, hl0, hd1, hd2, hd3, hd4⟩ := hF
  intro H locs ls hP hD hS hl
  exact va_get (C := RX10) (T := TX10) (N := 20) hx hb hts inX10 hown hK hP k ((world_get E S hk).trans (by rw [hs])) rfl 14 (by decide) (hts _ hw) (fun _ h => h) hv hd (kk H locs ls hP hD hS hl)
theorem gf10_15 {E : En} {X : Cx} {Q : State → Prop} {S : Mem} {cc : ByteArray} {own : String} {nL d pc : Nat} {ret : Option FieldType} {lv : List (Nat × Value)} {st : List Value} (hF : Fx E X cc own nL ret d) {k idx : Nat} {fs : List Value} {v : Value} (hk : k < 70) (hs : sh E k (S k) = .inr (10, fs)) (hv : fs[15]? = some v) (hw : Cond.fieldLink own idx "SelfScaleModel" "world" "[I" ∈ BIG) (hd : decode cc pc = .ok (.getfield idx, 3)) (kk : J E X Q S (pc + 3) lv (v :: st)) : J E X Q S pc lv (.ref (eA E k) :: st) := by
  rcases X with ⟨p, l, e, R, s, m, args, below, meth, c, n0, A, cells, slots⟩
  obtain ⟨hx, hb, hml, hn0, hown, hts, hK, hStr, hLit, hr, hlocks, hl0, hd1, hd2, hd3, hd4⟩ := hF
  intro H locs ls hP hD hS hl
  exact va_get (C := RX10) (T := TX10) (N := 20) hx hb hts inX10 hown hK hP k ((world_get E S hk).trans (by rw [hs])) rfl 15 (by decide) (hts _ hw) (fun _ h => h) hv hd (kk H locs ls hP hD hS hl)
theorem gf10_16 {E : En} {X : Cx} {Q : State → Prop} {S : Mem} {cc : ByteArray} {own : String} {nL d pc : Nat} {ret : Option FieldType} {lv : List (Nat × Value)} {st : List Value} (hF : Fx E X cc own nL ret d) {k idx : Nat} {fs : List Value} {v : Value} (hk : k < 70) (hs : sh E k (S k) = .inr (10, fs)) (hv : fs[16]? = some v) (hw : Cond.fieldLink own idx "SelfScaleModel" "shownMany" "[I" ∈ BIG) (hd : decode cc pc = .ok (.getfield idx, 3)) (kk : J E X Q S (pc + 3) lv (v :: st)) : J E X Q S pc lv (.ref (eA E k) :: st) := by
  rcases X with ⟨p, l, e, R, s, m, args, below, meth, c, n0, A, cells, slots⟩
  obtain ⟨hx, hb, hml, hn0, hown, hts, hK, hStr, hLit, hr, hlocks, hl0, hd1, hd2, hd3, hd4⟩ := hF
  intro H locs ls hP hD hS hl
  exact va_get (C := RX10) (T := TX10) (N := 20) hx hb hts inX10 hown hK hP k ((world_get E S hk).trans (by rw [hs])) rfl 16 (by decide) (hts _ hw) (fun _ h => h) hv hd (kk H locs ls hP hD hS hl)
theorem gf10_17 {E : En} {X : Cx} {Q : State → Prop} {S : Mem} {cc : ByteArray} {own : String} {nL d pc : Nat} {ret : Option FieldType} {lv : List (Nat × Value)} {st : List Value} (hF : Fx E X cc own nL ret d) {k idx : Nat} {fs : List Value} {v : Value} (hk : k < 70) (hs : sh E k (S k) = .inr (10, fs)) (hv : fs[17]? = some v) (hw : Cond.fieldLink own idx "SelfScaleModel" "seen" "[I" ∈ BIG) (hd : decode cc pc = .ok (.getfield idx, 3)) (kk : J E X Q S (pc + 3) lv (v :: st)) : J E X Q S pc lv (.ref (eA E k) :: st) := by
  rcases X with ⟨p, l, e, R, s, m, args, below, meth, c, n0, A, cells, slots⟩
  obtain ⟨hx, hb, hml, hn0, hown, hts, hK, hStr, hLit, hr, hlocks, hl0, hd1, hd2, hd3, hd4⟩ := hF
  intro H locs ls hP hD hS hl
  exact va_get (C := RX10) (T := TX10) (N := 20) hx hb hts inX10 hown hK hP k ((world_get E S hk).trans (by rw [hs])) rfl 17 (by decide) (hts _ hw) (fun _ h => h) hv hd (kk H locs ls hP hD hS hl)
theorem gf10_18 {E : En} {X : Cx} {Q : State → Prop} {S : Mem} {cc : ByteArray} {own : String} {nL d pc : Nat} {ret : Option FieldType} {lv : List (Nat × Value)} {st : List Value} (hF : Fx E X cc own nL ret d) {k idx : Nat} {fs : List Value} {v : Value} (hk : k < 70) (hs : sh E k (S k) = .inr (10, fs)) (hv : fs[18]? = some v) (hw : Cond.fieldLink own idx "SelfScaleModel" "isBad" "[Z" ∈ BIG) (hd : decode cc pc = .ok (.getfield idx, 3)) (kk : J E X Q S (pc + 3) lv (v :: st)) : J E X Q S pc lv (.ref (eA E k) :: st) := by
  rcases X with ⟨p, l, e, R, s, m, args, below, meth, c, n0, A, cells, slots⟩
  obtain ⟨hx, hb, hml, hn0, hown, hts, hK, hStr, hLit, hr, hlocks, hl0, hd1, hd2, hd3, hd4⟩ := hF
  intro H locs ls hP hD hS hl
  exact va_get (C := RX10) (T := TX10) (N := 20) hx hb hts inX10 hown hK hP k ((world_get E S hk).trans (by rw [hs])) rfl 18 (by decide) (hts _ hw) (fun _ h => h) hv hd (kk H locs ls hP hD hS hl)
theorem gf10_19 {E : En} {X : Cx} {Q : State → Prop} {S : Mem} {cc : ByteArray} {own : String} {nL d pc : Nat} {ret : Option FieldType} {lv : List (Nat × Value)} {st : List Value} (hF : Fx E X cc own nL ret d) {k idx : Nat} {fs : List Value} {v : Value} (hk : k < 70) (hs : sh E k (S k) = .inr (10, fs)) (hv : fs[19]? = some v) (hw : Cond.fieldLink own idx "SelfScaleModel" "comes" "[I" ∈ BIG) (hd : decode cc pc = .ok (.getfield idx, 3)) (kk : J E X Q S (pc + 3) lv (v :: st)) : J E X Q S pc lv (.ref (eA E k) :: st) := by
  rcases X with ⟨p, l, e, R, s, m, args, below, meth, c, n0, A, cells, slots⟩
  obtain ⟨hx, hb, hml, hn0, hown, hts, hK, hStr, hLit, hr, hlocks, hl0, hd1, hd2, hd3, hd4⟩ := hF
  intro H locs ls hP hD hS hl
  exact va_get (C := RX10) (T := TX10) (N := 20) hx hb hts inX10 hown hK hP k ((world_get E S hk).trans (by rw [hs])) rfl 19 (by decide) (hts _ hw) (fun _ h => h) hv hd (kk H locs ls hP hD hS hl)
theorem j_iald {α : Type} {A1 : Option α} {o : α} {E : En} {X : Cx} {Q : State → Prop} {S : Mem} {cc : ByteArray} {own : String} {nL d pc : Nat} {ret : Option FieldType} {lv : List (Nat × Value)} {st : List Value} (hF : Fx E X cc own nL ret d) {k n : Nat} {i : Int32} (hk : k < 70) (hs : ∀ c, sh E k c = .inl (eI E, n, .inl c.1)) (h : (if i < 0 ∨ n ≤ i.toNatClampNeg then none else A1) = some o) (hd : decode cc pc = .ok (.iaload, 1)) (kk : A1 = some o → J E X Q S (pc + 1) lv (.int ((S k).1 i.toNatClampNeg) :: st)) : J E X Q S pc lv (.int i :: .ref (eA E k) :: st) := by
  rcases X with ⟨p, l, e, R, s, m, args, below, meth, c, n0, A, cells, slots⟩
  obtain ⟨hx, hb, hml, hn0, hown, hts, hK, hStr, hLit, hr, hlocks, hl0, hd1, hd2, hd3, hd4⟩ := hF
  intro H locs ls hP hD hS hl
  by_cases c0 : i < 0 ∨ n ≤ i.toNatClampNeg
  · rw [if_pos c0] at h; cases h
  · exact va_iald hx hb hK hP k 0 ((world_get E S hk).trans (by rw [hs])) rfl c0 hd (kk (by rw [if_neg c0] at h; exact h) H locs ls hP hD hS hl)
theorem j_iast {α : Type} {A1 : Option α} {o : α} {E : En} {X : Cx} {Q : State → Prop} {S : Mem} {cc : ByteArray} {own : String} {nL d pc : Nat} {ret : Option FieldType} {lv : List (Nat × Value)} {st : List Value} (hF : Fx E X cc own nL ret d) {k n : Nat} {i x : Int32} (hk : k < 70) (hs : ∀ c, sh E k c = .inl (eI E, n, .inl c.1)) (h : (if i < 0 ∨ n ≤ i.toNatClampNeg then none else A1) = some o) (hd : decode cc pc = .ok (.iastore, 1)) (kk : A1 = some o → J E X Q (wr S k i.toNatClampNeg (x)) (pc + 1) lv st) : J E X Q S pc lv (.int x :: .int i :: .ref (eA E k) :: st) := by
  rcases X with ⟨p, l, e, R, s, m, args, below, meth, c, n0, A, cells, slots⟩
  obtain ⟨hx, hb, hml, hn0, hown, hts, hK, hStr, hLit, hr, hlocks, hl0, hd1, hd2, hd3, hd4⟩ := hF
  intro H locs ls hP hD hS hl
  by_cases c0 : i < 0 ∨ n ≤ i.toNatClampNeg
  · rw [if_pos c0] at h; cases h
  · have e9 : (world E S).set k (eA E k, .inl (eI E, n, .inl (upd (S k).1 i.toNatClampNeg (x)))) = world E (wr S k i.toNatClampNeg (x)) := by
      rw [← world_set E hk (fun a h => wr_ne S k i.toNatClampNeg (x) h), hs, wr_at]
    refine va_iast hx hb hK hP hD hS k 0 ((world_get E S hk).trans (by rw [hs])) rfl c0 hd (fun H1 locs1 hP hD hS => ?_)
    rw [e9] at hP hD
    exact kk (by rw [if_neg c0] at h; exact h) H1 locs1 ls hP hD hS hl
theorem j_bald {α : Type} {A1 : Option α} {o : α} {E : En} {X : Cx} {Q : State → Prop} {S : Mem} {cc : ByteArray} {own : String} {nL d pc : Nat} {ret : Option FieldType} {lv : List (Nat × Value)} {st : List Value} (hF : Fx E X cc own nL ret d) {k n : Nat} {i : Int32} (hk : k < 70) (hs : ∀ c, sh E k c = .inl (eB E, n, .inl c.1)) (h : (if i < 0 ∨ n ≤ i.toNatClampNeg then none else A1) = some o) (hd : decode cc pc = .ok (.baload, 1)) (kk : A1 = some o → J E X Q S (pc + 1) lv (.int ((S k).1 i.toNatClampNeg) :: st)) : J E X Q S pc lv (.int i :: .ref (eA E k) :: st) := by
  rcases X with ⟨p, l, e, R, s, m, args, below, meth, c, n0, A, cells, slots⟩
  obtain ⟨hx, hb, hml, hn0, hown, hts, hK, hStr, hLit, hr, hlocks, hl0, hd1, hd2, hd3, hd4⟩ := hF
  intro H locs ls hP hD hS hl
  by_cases c0 : i < 0 ∨ n ≤ i.toNatClampNeg
  · rw [if_pos c0] at h; cases h
  · exact va_bald hx hb hK hP k 1 ((world_get E S hk).trans (by rw [hs])) rfl c0 hd (kk (by rw [if_neg c0] at h; exact h) H locs ls hP hD hS hl)
theorem j_bast {α : Type} {A1 : Option α} {o : α} {E : En} {X : Cx} {Q : State → Prop} {S : Mem} {cc : ByteArray} {own : String} {nL d pc : Nat} {ret : Option FieldType} {lv : List (Nat × Value)} {st : List Value} (hF : Fx E X cc own nL ret d) {k n : Nat} {i x : Int32} (hk : k < 70) (hs : ∀ c, sh E k c = .inl (eB E, n, .inl c.1)) (h : (if i < 0 ∨ n ≤ i.toNatClampNeg then none else A1) = some o) (hd : decode cc pc = .ok (.bastore, 1)) (kk : A1 = some o → J E X Q (wr S k i.toNatClampNeg (vp_nar .byte x)) (pc + 1) lv st) : J E X Q S pc lv (.int x :: .int i :: .ref (eA E k) :: st) := by
  rcases X with ⟨p, l, e, R, s, m, args, below, meth, c, n0, A, cells, slots⟩
  obtain ⟨hx, hb, hml, hn0, hown, hts, hK, hStr, hLit, hr, hlocks, hl0, hd1, hd2, hd3, hd4⟩ := hF
  intro H locs ls hP hD hS hl
  by_cases c0 : i < 0 ∨ n ≤ i.toNatClampNeg
  · rw [if_pos c0] at h; cases h
  · have e9 : (world E S).set k (eA E k, .inl (eB E, n, .inl (upd (S k).1 i.toNatClampNeg (vp_nar .byte x)))) = world E (wr S k i.toNatClampNeg (vp_nar .byte x)) := by
      rw [← world_set E hk (fun a h => wr_ne S k i.toNatClampNeg (vp_nar .byte x) h), hs, wr_at]
    refine va_bast hx hb hK hP hD hS k 1 ((world_get E S hk).trans (by rw [hs])) rfl c0 hd (fun H1 locs1 hP hD hS => ?_)
    rw [e9] at hP hD
    exact kk (by rw [if_neg c0] at h; exact h) H1 locs1 ls hP hD hS hl
theorem j_zald {α : Type} {A1 : Option α} {o : α} {E : En} {X : Cx} {Q : State → Prop} {S : Mem} {cc : ByteArray} {own : String} {nL d pc : Nat} {ret : Option FieldType} {lv : List (Nat × Value)} {st : List Value} (hF : Fx E X cc own nL ret d) {k n : Nat} {i : Int32} (hk : k < 70) (hs : ∀ c, sh E k c = .inl (eZ E, n, .inl c.1)) (h : (if i < 0 ∨ n ≤ i.toNatClampNeg then none else A1) = some o) (hd : decode cc pc = .ok (.baload, 1)) (kk : A1 = some o → J E X Q S (pc + 1) lv (.int ((S k).1 i.toNatClampNeg) :: st)) : J E X Q S pc lv (.int i :: .ref (eA E k) :: st) := by
  rcases X with ⟨p, l, e, R, s, m, args, below, meth, c, n0, A, cells, slots⟩
  obtain ⟨hx, hb, hml, hn0, hown, hts, hK, hStr, hLit, hr, hlocks, hl0, hd1, hd2, hd3, hd4⟩ := hF
  intro H locs ls hP hD hS hl
  by_cases c0 : i < 0 ∨ n ≤ i.toNatClampNeg
  · rw [if_pos c0] at h; cases h
  · exact va_zald hx hb hK hP k 2 ((world_get E S hk).trans (by rw [hs])) rfl c0 hd (kk (by rw [if_neg c0] at h; exact h) H locs ls hP hD hS hl)
theorem j_zast {α : Type} {A1 : Option α} {o : α} {E : En} {X : Cx} {Q : State → Prop} {S : Mem} {cc : ByteArray} {own : String} {nL d pc : Nat} {ret : Option FieldType} {lv : List (Nat × Value)} {st : List Value} (hF : Fx E X cc own nL ret d) {k n : Nat} {i x : Int32} (hk : k < 70) (hs : ∀ c, sh E k c = .inl (eZ E, n, .inl c.1)) (h : (if i < 0 ∨ n ≤ i.toNatClampNeg then none else A1) = some o) (hd : decode cc pc = .ok (.bastore, 1)) (kk : A1 = some o → J E X Q (wr S k i.toNatClampNeg (vp_nar .boolean x)) (pc + 1) lv st) : J E X Q S pc lv (.int x :: .int i :: .ref (eA E k) :: st) := by
  rcases X with ⟨p, l, e, R, s, m, args, below, meth, c, n0, A, cells, slots⟩
  obtain ⟨hx, hb, hml, hn0, hown, hts, hK, hStr, hLit, hr, hlocks, hl0, hd1, hd2, hd3, hd4⟩ := hF
  intro H locs ls hP hD hS hl
  by_cases c0 : i < 0 ∨ n ≤ i.toNatClampNeg
  · rw [if_pos c0] at h; cases h
  · have e9 : (world E S).set k (eA E k, .inl (eZ E, n, .inl (upd (S k).1 i.toNatClampNeg (vp_nar .boolean x)))) = world E (wr S k i.toNatClampNeg (vp_nar .boolean x)) := by
      rw [← world_set E hk (fun a h => wr_ne S k i.toNatClampNeg (vp_nar .boolean x) h), hs, wr_at]
    refine va_zast hx hb hK hP hD hS k 2 ((world_get E S hk).trans (by rw [hs])) rfl c0 hd (fun H1 locs1 hP hD hS => ?_)
    rw [e9] at hP hD
    exact kk (by rw [if_neg c0] at h; exact h) H1 locs1 ls hP hD hS hl
theorem j_alen {E : En} {X : Cx} {Q : State → Prop} {S : Mem} {cc : ByteArray} {own : String} {nL d pc : Nat} {ret : Option FieldType} {lv : List (Nat × Value)} {st : List Value} (hF : Fx E X cc own nL ret d) {k n t0 : Nat} {cA : ClassId} {f : Nat → Int32} {ty : FieldType} {v : Int32} (hk : k < 70) (hs : sh E k (S k) = .inl (cA, n, .inl f)) (ht : (en_ty E)[t0]? = some (cA, ty)) (hv : Int32.ofNat n = v) (hd : decode cc pc = .ok (.arraylength, 1)) (kk : J E X Q S (pc + 1) lv (.int v :: st)) : J E X Q S pc lv (.ref (eA E k) :: st) := by
  rcases X with ⟨p, l, e, R, s, m, args, below, meth, c, n0, A, cells, slots⟩
  obtain ⟨hx, hb, hml, hn0, hown, hts, hK, hStr, hLit, hr, hlocks, hl0, hd1, hd2, hd3, hd4⟩ := hF
  intro H locs ls hP hD hS hl
  exact va_alen hx hb hK hP k t0 ((world_get E S hk).trans (by rw [hs])) ht hv hd (kk H locs ls hP hD hS hl)
theorem j_iret {E : En} {X : Cx} {Q : State → Prop} {S : Mem} {cc : ByteArray} {own : String} {nL d pc : Nat} {lv : List (Nat × Value)} {st : List Value} (hF : Fx E X cc own nL (some .int) d) {v : Int32} (hQ : Q = RQ E X (some (.int v)) S) (hd : decode cc pc = .ok (.ireturn, 1)) : J E X Q S pc lv [.int v] := by
  subst hQ
  rcases X with ⟨p, l, e, R, s, m, args, below, meth, c, n0, A, cells, slots⟩
  obtain ⟨hx, hb, hml, hn0, hown, hts, hK, hStr, hLit, hr, hlocks, hl0, hd1, hd2, hd3, hd4⟩ := hF
  intro H locs ls hP hD hS hl
  exact W.iret (Qc := fun _ st oc t => oc = .returned (some (.int v)) ∧ Hd E S t ∧ va_F A st t) hx hb hr (fun t ht hW => ⟨rfl, ⟨by rw [ht]; exact hP, va_K.moved hW.alike hK, world_D E S S hD (fun _ h => h), by rw [ht]; exact ((hStr.kept hS.2.1).moved hW.alike).narrow (world_in E S hD), hLit.warm hW⟩, hS.F ht⟩) hS.2.2 hd hlocks
theorem j_ret_boolean {E : En} {X : Cx} {Q : State → Prop} {S : Mem} {cc : ByteArray} {own : String} {nL d pc : Nat} {lv : List (Nat × Value)} {st : List Value} (hF : Fx E X cc own nL (some .boolean) d) {v : Int32} (hn : narrow .boolean (.int v) = .int v) (hQ : Q = RQ E X (some (.int v)) S) (hd : decode cc pc = .ok (.ireturn, 1)) : J E X Q S pc lv [.int v] := by
  subst hQ
  rcases X with ⟨p, l, e, R, s, m, args, below, meth, c, n0, A, cells, slots⟩
  obtain ⟨hx, hb, hml, hn0, hown, hts, hK, hStr, hLit, hr, hlocks, hl0, hd1, hd2, hd3, hd4⟩ := hF
  intro H locs ls hP hD hS hl
  exact W.zret (Qc := fun _ st oc t => oc = .returned (some (.int v)) ∧ Hd E S t ∧ va_F A st t) hx hb hr hn (fun t ht hW => ⟨rfl, ⟨by rw [ht]; exact hP, va_K.moved hW.alike hK, world_D E S S hD (fun _ h => h), by rw [ht]; exact ((hStr.kept hS.2.1).moved hW.alike).narrow (world_in E S hD), hLit.warm hW⟩, hS.F ht⟩) hS.2.2 hd hlocks
theorem j_ret_byte {E : En} {X : Cx} {Q : State → Prop} {S : Mem} {cc : ByteArray} {own : String} {nL d pc : Nat} {lv : List (Nat × Value)} {st : List Value} (hF : Fx E X cc own nL (some .byte) d) {v : Int32} (hn : narrow .byte (.int v) = .int v) (hQ : Q = RQ E X (some (.int v)) S) (hd : decode cc pc = .ok (.ireturn, 1)) : J E X Q S pc lv [.int v] := by
  subst hQ
  rcases X with ⟨p, l, e, R, s, m, args, below, meth, c, n0, A, cells, slots⟩
  obtain ⟨hx, hb, hml, hn0, hown, hts, hK, hStr, hLit, hr, hlocks, hl0, hd1, hd2, hd3, hd4⟩ := hF
  intro H locs ls hP hD hS hl
  exact W.zret (Qc := fun _ st oc t => oc = .returned (some (.int v)) ∧ Hd E S t ∧ va_F A st t) hx hb hr hn (fun t ht hW => ⟨rfl, ⟨by rw [ht]; exact hP, va_K.moved hW.alike hK, world_D E S S hD (fun _ h => h), by rw [ht]; exact ((hStr.kept hS.2.1).moved hW.alike).narrow (world_in E S hD), hLit.warm hW⟩, hS.F ht⟩) hS.2.2 hd hlocks
theorem j_ret_char {E : En} {X : Cx} {Q : State → Prop} {S : Mem} {cc : ByteArray} {own : String} {nL d pc : Nat} {lv : List (Nat × Value)} {st : List Value} (hF : Fx E X cc own nL (some .char) d) {v : Int32} (hn : narrow .char (.int v) = .int v) (hQ : Q = RQ E X (some (.int v)) S) (hd : decode cc pc = .ok (.ireturn, 1)) : J E X Q S pc lv [.int v] := by
  subst hQ
  rcases X with ⟨p, l, e, R, s, m, args, below, meth, c, n0, A, cells, slots⟩
  obtain ⟨hx, hb, hml, hn0, hown, hts, hK, hStr, hLit, hr, hlocks, hl0, hd1, hd2, hd3, hd4⟩ := hF
  intro H locs ls hP hD hS hl
  exact W.zret (Qc := fun _ st oc t => oc = .returned (some (.int v)) ∧ Hd E S t ∧ va_F A st t) hx hb hr hn (fun t ht hW => ⟨rfl, ⟨by rw [ht]; exact hP, va_K.moved hW.alike hK, world_D E S S hD (fun _ h => h), by rw [ht]; exact ((hStr.kept hS.2.1).moved hW.alike).narrow (world_in E S hD), hLit.warm hW⟩, hS.F ht⟩) hS.2.2 hd hlocks
theorem j_lret {E : En} {X : Cx} {Q : State → Prop} {S : Mem} {cc : ByteArray} {own : String} {nL d pc : Nat} {lv : List (Nat × Value)} {st : List Value} (hF : Fx E X cc own nL (some .long) d) {v : Int64} (hQ : Q = RQ E X (some (.long v)) S) (hd : decode cc pc = .ok (.lreturn, 1)) : J E X Q S pc lv [.long v] := by
  subst hQ
  rcases X with ⟨p, l, e, R, s, m, args, below, meth, c, n0, A, cells, slots⟩
  obtain ⟨hx, hb, hml, hn0, hown, hts, hK, hStr, hLit, hr, hlocks, hl0, hd1, hd2, hd3, hd4⟩ := hF
  intro H locs ls hP hD hS hl
  exact W.lret (Qc := fun _ st oc t => oc = .returned (some (.long v)) ∧ Hd E S t ∧ va_F A st t) hx hb hr (fun t ht hW => ⟨rfl, ⟨by rw [ht]; exact hP, va_K.moved hW.alike hK, world_D E S S hD (fun _ h => h), by rw [ht]; exact ((hStr.kept hS.2.1).moved hW.alike).narrow (world_in E S hD), hLit.warm hW⟩, hS.F ht⟩) hS.2.2 hd hlocks
theorem j_aret {n : String} {E : En} {X : Cx} {Q : State → Prop} {S : Mem} {cc : ByteArray} {own : String} {nL d pc : Nat} {lv : List (Nat × Value)} {st : List Value} (hF : Fx E X cc own nL (some (.object n)) d) {a : Nat} (hQ : Q = RQ E X (some (.ref a)) S) (hd : decode cc pc = .ok (.areturn, 1)) : J E X Q S pc lv [.ref a] := by
  subst hQ
  rcases X with ⟨p, l, e, R, s, m, args, below, meth, c, n0, A, cells, slots⟩
  obtain ⟨hx, hb, hml, hn0, hown, hts, hK, hStr, hLit, hr, hlocks, hl0, hd1, hd2, hd3, hd4⟩ := hF
  intro H locs ls hP hD hS hl
  exact W.aret (Qc := fun _ st oc t => oc = .returned (some (.ref a)) ∧ Hd E S t ∧ va_F A st t) hx hb hr (Or.inl ⟨_, rfl⟩) (Or.inr ⟨_, rfl⟩) (fun t ht hW => ⟨rfl, ⟨by rw [ht]; exact hP, va_K.moved hW.alike hK, world_D E S S hD (fun _ h => h), by rw [ht]; exact ((hStr.kept hS.2.1).moved hW.alike).narrow (world_in E S hD), hLit.warm hW⟩, hS.F ht⟩) hS.2.2 hd hlocks
theorem j_vret {E : En} {X : Cx} {Q : State → Prop} {S : Mem} {cc : ByteArray} {own : String} {nL d pc : Nat} {lv : List (Nat × Value)} {st : List Value} (hF : Fx E X cc own nL none d) (hQ : Q = RQ E X none S) (hd : decode cc pc = .ok (.return_, 1)) : J E X Q S pc lv [] := by
  subst hQ
  rcases X with ⟨p, l, e, R, s, m, args, below, meth, c, n0, A, cells, slots⟩
  obtain ⟨hx, hb, hml, hn0, hown, hts, hK, hStr, hLit, hr, hlocks, hl0, hd1, hd2, hd3, hd4⟩ := hF
  intro H locs ls hP hD hS hl
  exact W.vret (Qc := fun _ st oc t => oc = .returned (none) ∧ Hd E S t ∧ va_F A st t) hx hb hr (fun t ht hW => ⟨rfl, ⟨by rw [ht]; exact hP, va_K.moved hW.alike hK, world_D E S S hD (fun _ h => h), by rw [ht]; exact ((hStr.kept hS.2.1).moved hW.alike).narrow (world_in E S hD), hLit.warm hW⟩, hS.F ht⟩) hS.2.2 hd hlocks
theorem Hd_blind {E : En} {S : Mem} {av : List Value} : FrameBlind (va_Pc av (Hd E S)) := fun a U g mk q => ⟨q.1, q.2.1, va_K.moved (u := U) (U := U.calling g mk a) (Vm.Alike.refl U.vm) q.2.2.1, q.2.2.2.1, Str.moved (u := U) (U := U.calling g mk a) (Vm.Alike.refl U.vm) q.2.2.2.2.1, Lit.same (u := U) (U := U.calling g mk a) rfl q.2.2.2.2.2⟩
theorem call_end {E : En} {p : Program} {l : Launch} {e : Env} {R : Room} {s : State} {m : MethodId} {args : Array Value} {below : List Frame} {meth : Method} {c : Code} {n0 : Nat} {A : Nat → Prop} {cells slots : Nat} {Q : State → Prop} {H : Heap} {locs : List Loc} {pc : Nat} {ls : Array Slot} {st0 rest : List Value} {S S' : Mem} {lv : List (Nat × Value)} {ov : Option Value}
    (hr : va_Run p l e R s m args below meth c H locs cells slots 0 0 (F0 m pc ls st0) rest (fun st oc t => oc = .returned ov ∧ Hd E S' t ∧ va_F (inW E) st t) (inW E)) (hD : va_D A (world E S)) (hS : va_S A s.heap H locs) (hl : lv_has ls n0 lv)
    (k : J E (p, l, e, R, s, m, args, below, meth, c, n0, A, cells, slots) Q S' (pc + 3) lv (ov.toList ++ rest)) : W p l e R s m args below meth c H locs cells slots Q (F0 m pc ls st0) := by
  intro T hT X
  obtain ⟨v, st₀, t, T', L, h0, X', hL, e1, e2, ⟨hv, hH, hz, hk⟩, stp⟩ := hr T hT X
  cases hv
  rw [h0] at hz hk
  have hin := world_in E S hD
  obtain ⟨t2, a1, b1⟩ := k T'.heap (locs ++ L) ls (by rw [e1]; exact hH.1) (world_D E S S' hD hin) ⟨Nat.le_trans hS.1 (by rw [e1]; exact hz), fun q h1 h2 => by rw [e1, hk q (Nat.lt_of_lt_of_le h1 hS.1) (fun z => h2 (hin q z))]; exact hS.2.1 q h1 h2, fun q hq => by
      rcases List.mem_append.mp hq with h | h
      · exact hS.2.2 q h
      · exact hin _ (hL q h)⟩ hl T' rfl X'
  exact ⟨t2, stp t2 a1, b1⟩
/-- what the tables say of an instance method of C with n arguments -/
def MV (y : MethodName) (bytes : ByteArray) (maxL : Nat) (ret : Option FieldType) (C : String) (n : Nat) : Prop := (y.cls = C ∧ maxL ≤ 13) ∧ (y.cls ≠ "java/lang/invoke/MethodHandle" ∧ y.cls ≠ "java/lang/invoke/VarHandle" ∧ (parseMethodDescriptor y.desc).map (fun d => d.parameters.length) = some n) ∧ Cond.code y bytes maxL ret ∈ BIG ∧ Cond.initialized C ∈ BIG ∧ Cond.instanceMethod y ∈ BIG ∧ Cond.selects C y y ∈ BIG
/-- of a static one -/
def MS (y : MethodName) (bytes : ByteArray) (maxL : Nat) (ret : Option FieldType) (n : Nat) : Prop := maxL ≤ 13 ∧ (y.cls ≠ "java/lang/invoke/MethodHandle" ∧ y.cls ≠ "java/lang/invoke/VarHandle" ∧ (parseMethodDescriptor y.desc).map (fun d => d.parameters.length) = some n) ∧ Cond.code y bytes maxL ret ∈ BIG ∧ Cond.initialized y.cls ∈ BIG ∧ Cond.static y ∈ BIG
theorem j_callV {E : En} {X : Cx} {Q : State → Prop} {S : Mem} {cc : ByteArray} {own : String} {nL d pc : Nat} {ret : Option FieldType} {lv : List (Nat × Value)} {st : List Value} (hF : Fx E X cc own nL ret d) {y : MethodName} {bytes : ByteArray} {maxL d2 idx n k ci N : Nat} {ret2 : Option FieldType} {As : List Value} {ov : Option Value} {S2 : Mem} {fs : List Value} {C : String} {T : u_T} (hm : MV y bytes maxL ret2 C n) (hk : k < 70) (hs : sh E k (S k) = .inr (ci, fs)) (hcl : classes[ci]? = some (C, T, N)) (wl : Cond.methodLink own idx y ∈ BIG) (hn : As.length = n) (hdd : d2 + 1 ≤ d) (hst : (st.map fun v => v.category).sum ≤ 8) (hd : decode cc pc = .ok (.invokevirtual idx, 3)) (hM : CT E y bytes maxL ret2 d2 (.ref (eA E k) :: As) S ov S2) (kk : J E X Q S2 (pc + 3) lv (ov.toList ++ st)) : J E X Q S pc lv (As.reverse ++ .ref (eA E k) :: st) := by
  rcases X with ⟨p, l, e, R, s, m, args, below, meth, c, n0, A, cells, slots⟩
  obtain ⟨hx, hb, hml, hn0, hown, hts, hK, hStr, hLit, hr, hlocks, hl0, hd1, hd2, hd3, hd4⟩ := hF
  intro H locs ls hP hD hS hl
  obtain ⟨⟨hyC, hmx⟩, hy, wc, wini, wi, wse⟩ := hm
  subst hl0
  subst hn0
  refine call_end (S := S) (S' := S2) (ov := ov) (rest := st) (va_runV (As := As) (rest := st) (n := n) (C := C) ⟨hx, hb, hml, hown, hts⟩ hM ⟨callB_of n hts (goodBIG0 wc) rfl rfl rfl (by rw [hyC]; exact hts _ wini) (hts _ wl) hy ⟨by show d2 + 1 ≤ _; omega, by show 8 + (maxL + 11) + 32 * d2 ≤ _; omega⟩, hts _ wi, hts _ wse⟩ ⟨Hd_blind, va_recv hK hP hcl ((world_get E S hk).trans (by rw [hs])), (fun U hU hW => ⟨rfl, by rw [hU]; exact hP, va_K.moved hW.alike hK, world_D E S S hD (fun _ h => h), by rw [hU]; exact ((hStr.kept hS.2.1).moved hW.alike).narrow (world_in E S hD), hLit.warm hW⟩)⟩ rfl hn hl.1 rfl (by show 2 * 0 + _ ≤ 8; omega) hd ⟨hd3, hd4⟩) hD hS hl kk
theorem j_callS {E : En} {X : Cx} {Q : State → Prop} {S : Mem} {cc : ByteArray} {own : String} {nL d pc : Nat} {ret : Option FieldType} {lv : List (Nat × Value)} {st : List Value} (hF : Fx E X cc own nL ret d) {y : MethodName} {bytes : ByteArray} {maxL d2 idx n : Nat} {ret2 : Option FieldType} {As : List Value} {ov : Option Value} {S2 : Mem} (hm : MS y bytes maxL ret2 n) (wl : Cond.methodLink own idx y ∈ BIG) (hn : As.length = n) (hdd : d2 + 1 ≤ d) (hst : (st.map fun v => v.category).sum ≤ 8) (hd : decode cc pc = .ok (.invokestatic idx, 3)) (hM : CT E y bytes maxL ret2 d2 As S ov S2) (kk : J E X Q S2 (pc + 3) lv (ov.toList ++ st)) : J E X Q S pc lv (As.reverse ++ st) := by
  rcases X with ⟨p, l, e, R, s, m, args, below, meth, c, n0, A, cells, slots⟩
  obtain ⟨hx, hb, hml, hn0, hown, hts, hK, hStr, hLit, hr, hlocks, hl0, hd1, hd2, hd3, hd4⟩ := hF
  intro H locs ls hP hD hS hl
  obtain ⟨hmx, hy, wc, wini, wst⟩ := hm
  subst hl0
  subst hn0
  refine call_end (S := S) (S' := S2) (ov := ov) (rest := st) (va_runS (As := As) (rest := st) (n := n) ⟨hx, hb, hml, hown, hts⟩ hM ⟨callB_of n hts (goodBIG0 wc) rfl rfl rfl (hts _ wini) (hts _ wl) hy ⟨by show d2 + 1 ≤ _; omega, by show 8 + (maxL + 11) + 32 * d2 ≤ _; omega⟩, hts _ wst⟩ ⟨Hd_blind, (fun U hU hW => ⟨rfl, by rw [hU]; exact hP, va_K.moved hW.alike hK, world_D E S S hD (fun _ h => h), by rw [hU]; exact ((hStr.kept hS.2.1).moved hW.alike).narrow (world_in E S hD), hLit.warm hW⟩)⟩ rfl hn hl.1 rfl (by show 2 * 0 + _ ≤ 8; omega) hd ⟨hd3, hd4⟩) hD hS hl kk
theorem j_callSN {E : En} {X : Cx} {Q : State → Prop} {S : Mem} {cc : ByteArray} {own : String} {nL d pc : Nat} {ret : Option FieldType} {lv : List (Nat × Value)} {st : List Value} (hF : Fx E X cc own nL ret d) {bytes : ByteArray} {maxL d2 n : Nat} {ret2 : Option FieldType} {As : List Value} {ov : Option Value} {S2 : Mem} (hown4 : own = RX4) (hm : MS yX9_isBetween bytes maxL ret2 n) (hn : As.length = n) (hdd : d2 + 1 ≤ d) (hst : (st.map fun v => v.category).sum ≤ 8) (hd : decode cc pc = .ok (.invokestatic 66, 3)) (hM : CT E yX9_isBetween bytes maxL ret2 d2 As S ov S2) (kk : J E X Q S2 (pc + 3) lv (ov.toList ++ st)) : J E X Q S pc lv (As.reverse ++ st) := by
  subst hown4
  rcases X with ⟨p, l, e, R, s, m, args, below, meth, c, n0, A, cells, slots⟩
  obtain ⟨hx, hb, hml, hn0, hown, hts, hK, hStr, hLit, hr, hlocks, hl0, hd1, hd2, hd3, hd4⟩ := hF
  intro H locs ls hP hD hS hl
  obtain ⟨hmx, hy, wc, wini, wst⟩ := hm
  subst hl0
  subst hn0
  refine call_end (S := S) (S' := S2) (ov := ov) (rest := st) (va_runSN (As := As) (rest := st) (n := n) (host := RX9) ⟨hx, hb, hml, hown, hts⟩ hM ⟨va_cnB n hts (goodBIG0 wc) rfl rfl rfl hLit.2.2.2 (hts _ wini) hy ⟨by show d2 + 1 ≤ _; omega, by show 8 + (maxL + 11) + 32 * d2 ≤ _; omega⟩, hts _ wst, trivial⟩ ⟨Hd_blind, (fun U hU hW => ⟨rfl, by rw [hU]; exact hP, va_K.moved hW.alike hK, world_D E S S hD (fun _ h => h), by rw [hU]; exact ((hStr.kept hS.2.1).moved hW.alike).narrow (world_in E S hD), hLit.warm hW⟩)⟩ rfl hn hl.1 rfl (by show 2 * 0 + _ ≤ 8; omega) hd ⟨hd3, hd4⟩) hD hS hl kk
theorem j_mmax {E : En} {X : Cx} {Q : State → Prop} {S : Mem} {cc : ByteArray} {own : String} {nL d pc : Nat} {ret : Option FieldType} {lv : List (Nat × Value)} {st : List Value} (hF : Fx E X cc own nL ret d) {idx : Nat} {x y : Int32} (wl : Cond.methodLink own idx Lib.Math.max.name ∈ BIG) (ws : Cond.static Lib.Math.max.name ∈ BIG) (wi : Cond.initialized "java/lang/Math" ∈ BIG) (wc : Cond.code Lib.Math.max.name Lib.Math.max.code 2 (some .int) ∈ BIG) (h1 : 1 ≤ d) (hst : (st.map fun v => v.category).sum ≤ 8) (hd : decode cc pc = .ok (.invokestatic idx, 3)) (kk : J E X Q S (pc + 3) lv (.int (if x < y then y else x) :: st)) : J E X Q S pc lv (.int y :: .int x :: st) := by
  rcases X with ⟨p, l, e, R, s, m, args, below, meth, c, n0, A, cells, slots⟩
  obtain ⟨hx, hb, hml, hn0, hown, hts, hK, hStr, hLit, hr, hlocks, hl0, hd1, hd2, hd3, hd4⟩ := hF
  intro H locs ls hP hD hS hl
  exact va_mmax hx hb (by rw [hml, ← hn0]; exact hl.1.symm) hown (hts _ wl) (hts _ ws) (hts _ wi) (hts _ wc) (by omega) (by omega) hd3 hd4 hd (kk H locs ls hP hD hS hl)
theorem j_mmin {E : En} {X : Cx} {Q : State → Prop} {S : Mem} {cc : ByteArray} {own : String} {nL d pc : Nat} {ret : Option FieldType} {lv : List (Nat × Value)} {st : List Value} (hF : Fx E X cc own nL ret d) {idx : Nat} {x y : Int32} (wl : Cond.methodLink own idx Lib.Math.min.name ∈ BIG) (ws : Cond.static Lib.Math.min.name ∈ BIG) (wi : Cond.initialized "java/lang/Math" ∈ BIG) (wc : Cond.code Lib.Math.min.name Lib.Math.min.code 2 (some .int) ∈ BIG) (h1 : 1 ≤ d) (hst : (st.map fun v => v.category).sum ≤ 8) (hd : decode cc pc = .ok (.invokestatic idx, 3)) (kk : J E X Q S (pc + 3) lv (.int (if y < x then y else x) :: st)) : J E X Q S pc lv (.int y :: .int x :: st) := by
  rcases X with ⟨p, l, e, R, s, m, args, below, meth, c, n0, A, cells, slots⟩
  obtain ⟨hx, hb, hml, hn0, hown, hts, hK, hStr, hLit, hr, hlocks, hl0, hd1, hd2, hd3, hd4⟩ := hF
  intro H locs ls hP hD hS hl
  exact va_mmin hx hb (by rw [hml, ← hn0]; exact hl.1.symm) hown (hts _ wl) (hts _ ws) (hts _ wi) (hts _ wc) (by omega) (by omega) hd3 hd4 hd (kk H locs ls hP hD hS hl)
end
section
theorem dX0_init_0 : decode cX0_init 0 = .ok (.aload_n 0, 1) := by decide +kernel
theorem dX0_init_1 : decode cX0_init 1 = .ok (.invokespecial 3, 3) := by decide +kernel
theorem dX0_init_4 : decode cX0_init 4 = .ok (.aload_n 0, 1) := by decide +kernel
theorem dX0_init_5 : decode cX0_init 5 = .ok (.new 9, 3) := by decide +kernel
theorem dX0_init_8 : decode cX0_init 8 = .ok (.dup, 1) := by decide +kernel
theorem dX0_init_9 : decode cX0_init 9 = .ok (.bipush 12, 2) := by decide +kernel
theorem dX0_init_11 : decode cX0_init 11 = .ok (.invokespecial 11, 3) := by decide +kernel
theorem dX0_init_14 : decode cX0_init 14 = .ok (.putfield 14, 3) := by decide +kernel
theorem dX0_init_17 : decode cX0_init 17 = .ok (.aload_n 0, 1) := by decide +kernel
theorem dX0_init_18 : decode cX0_init 18 = .ok (.new 9, 3) := by decide +kernel
theorem dX0_init_21 : decode cX0_init 21 = .ok (.dup, 1) := by decide +kernel
theorem dX0_init_22 : decode cX0_init 22 = .ok (.bipush 12, 2) := by decide +kernel
theorem dX0_init_24 : decode cX0_init 24 = .ok (.invokespecial 11, 3) := by decide +kernel
theorem dX0_init_27 : decode cX0_init 27 = .ok (.putfield 20, 3) := by decide +kernel
theorem dX0_init_30 : decode cX0_init 30 = .ok (.aload_n 0, 1) := by decide +kernel
theorem dX0_init_31 : decode cX0_init 31 = .ok (.new 9, 3) := by decide +kernel
theorem dX0_init_34 : decode cX0_init 34 = .ok (.dup, 1) := by decide +kernel
theorem dX0_init_35 : decode cX0_init 35 = .ok (.bipush 12, 2) := by decide +kernel
theorem dX0_init_37 : decode cX0_init 37 = .ok (.invokespecial 11, 3) := by decide +kernel
theorem dX0_init_40 : decode cX0_init 40 = .ok (.putfield 23, 3) := by decide +kernel
theorem dX0_init_43 : decode cX0_init 43 = .ok (.return_, 1) := by decide +kernel
theorem dX0_lines_0 : decode cX0_lines 0 = .ok (.aload_n 0, 1) := by decide +kernel
theorem dX0_lines_1 : decode cX0_lines 1 = .ok (.getfield 26, 3) := by decide +kernel
theorem dX0_lines_4 : decode cX0_lines 4 = .ok (.ireturn, 1) := by decide +kernel
theorem dX0_isFull_0 : decode cX0_isFull 0 = .ok (.aload_n 0, 1) := by decide +kernel
theorem dX0_isFull_1 : decode cX0_isFull 1 = .ok (.getfield 26, 3) := by decide +kernel
theorem dX0_isFull_4 : decode cX0_isFull 4 = .ok (.bipush 12, 2) := by decide +kernel
theorem dX0_isFull_6 : decode cX0_isFull 6 = .ok (.if_icmp .lt 7, 3) := by decide +kernel
theorem dX0_isFull_9 : decode cX0_isFull 9 = .ok (.iconst 1, 1) := by decide +kernel
theorem dX0_isFull_10 : decode cX0_isFull 10 = .ok (.goto 4, 3) := by decide +kernel
theorem dX0_isFull_13 : decode cX0_isFull 13 = .ok (.iconst 0, 1) := by decide +kernel
theorem dX0_isFull_14 : decode cX0_isFull 14 = .ok (.ireturn, 1) := by decide +kernel
theorem dX0_wipe_0 : decode cX0_wipe 0 = .ok (.aload_n 0, 1) := by decide +kernel
theorem dX0_wipe_1 : decode cX0_wipe 1 = .ok (.iconst 0, 1) := by decide +kernel
theorem dX0_wipe_2 : decode cX0_wipe 2 = .ok (.putfield 26, 3) := by decide +kernel
theorem dX0_wipe_5 : decode cX0_wipe 5 = .ok (.return_, 1) := by decide +kernel
theorem dX0_add_0 : decode cX0_add 0 = .ok (.aload_n 0, 1) := by decide +kernel
theorem dX0_add_1 : decode cX0_add 1 = .ok (.invokevirtual 30, 3) := by decide +kernel
theorem dX0_add_4 : decode cX0_add 4 = .ok (.ifCond .eq 4, 3) := by decide +kernel
theorem dX0_add_7 : decode cX0_add 7 = .ok (.return_, 1) := by decide +kernel
theorem dX0_add_8 : decode cX0_add 8 = .ok (.aload_n 0, 1) := by decide +kernel
theorem dX0_add_9 : decode cX0_add 9 = .ok (.getfield 14, 3) := by decide +kernel
theorem dX0_add_12 : decode cX0_add 12 = .ok (.aload_n 0, 1) := by decide +kernel
theorem dX0_add_13 : decode cX0_add 13 = .ok (.getfield 26, 3) := by decide +kernel
theorem dX0_add_16 : decode cX0_add 16 = .ok (.iload_n 1, 1) := by decide +kernel
theorem dX0_add_17 : decode cX0_add 17 = .ok (.invokevirtual 34, 3) := by decide +kernel
theorem dX0_add_20 : decode cX0_add 20 = .ok (.aload_n 0, 1) := by decide +kernel
theorem dX0_add_21 : decode cX0_add 21 = .ok (.getfield 20, 3) := by decide +kernel
theorem dX0_add_24 : decode cX0_add 24 = .ok (.aload_n 0, 1) := by decide +kernel
theorem dX0_add_25 : decode cX0_add 25 = .ok (.getfield 26, 3) := by decide +kernel
theorem dX0_add_28 : decode cX0_add 28 = .ok (.iload_n 2, 1) := by decide +kernel
theorem dX0_add_29 : decode cX0_add 29 = .ok (.invokevirtual 34, 3) := by decide +kernel
theorem dX0_add_32 : decode cX0_add 32 = .ok (.aload_n 0, 1) := by decide +kernel
theorem dX0_add_33 : decode cX0_add 33 = .ok (.getfield 23, 3) := by decide +kernel
theorem dX0_add_36 : decode cX0_add 36 = .ok (.aload_n 0, 1) := by decide +kernel
theorem dX0_add_37 : decode cX0_add 37 = .ok (.getfield 26, 3) := by decide +kernel
theorem dX0_add_40 : decode cX0_add 40 = .ok (.iload_n 3, 1) := by decide +kernel
theorem dX0_add_41 : decode cX0_add 41 = .ok (.invokevirtual 34, 3) := by decide +kernel
theorem dX0_add_44 : decode cX0_add 44 = .ok (.aload_n 0, 1) := by decide +kernel
theorem dX0_add_45 : decode cX0_add 45 = .ok (.dup, 1) := by decide +kernel
theorem dX0_add_46 : decode cX0_add 46 = .ok (.getfield 26, 3) := by decide +kernel
theorem dX0_add_49 : decode cX0_add 49 = .ok (.iconst 1, 1) := by decide +kernel
theorem dX0_add_50 : decode cX0_add 50 = .ok (.iadd, 1) := by decide +kernel
theorem dX0_add_51 : decode cX0_add 51 = .ok (.putfield 26, 3) := by decide +kernel
theorem dX0_add_54 : decode cX0_add 54 = .ok (.return_, 1) := by decide +kernel
theorem dX0_dropLatest_0 : decode cX0_dropLatest 0 = .ok (.aload_n 0, 1) := by decide +kernel
theorem dX0_dropLatest_1 : decode cX0_dropLatest 1 = .ok (.getfield 26, 3) := by decide +kernel
theorem dX0_dropLatest_4 : decode cX0_dropLatest 4 = .ok (.ifCond .le 13, 3) := by decide +kernel
theorem dX0_dropLatest_7 : decode cX0_dropLatest 7 = .ok (.aload_n 0, 1) := by decide +kernel
theorem dX0_dropLatest_8 : decode cX0_dropLatest 8 = .ok (.dup, 1) := by decide +kernel
theorem dX0_dropLatest_9 : decode cX0_dropLatest 9 = .ok (.getfield 26, 3) := by decide +kernel
theorem dX0_dropLatest_12 : decode cX0_dropLatest 12 = .ok (.iconst 1, 1) := by decide +kernel
theorem dX0_dropLatest_13 : decode cX0_dropLatest 13 = .ok (.isub, 1) := by decide +kernel
theorem dX0_dropLatest_14 : decode cX0_dropLatest 14 = .ok (.putfield 26, 3) := by decide +kernel
theorem dX0_dropLatest_17 : decode cX0_dropLatest 17 = .ok (.return_, 1) := by decide +kernel
theorem dX0_copyFrom_0 : decode cX0_copyFrom 0 = .ok (.aload_n 0, 1) := by decide +kernel
theorem dX0_copyFrom_1 : decode cX0_copyFrom 1 = .ok (.getfield 14, 3) := by decide +kernel
theorem dX0_copyFrom_4 : decode cX0_copyFrom 4 = .ok (.aload_n 1, 1) := by decide +kernel
theorem dX0_copyFrom_5 : decode cX0_copyFrom 5 = .ok (.getfield 14, 3) := by decide +kernel
theorem dX0_copyFrom_8 : decode cX0_copyFrom 8 = .ok (.invokevirtual 38, 3) := by decide +kernel
theorem dX0_copyFrom_11 : decode cX0_copyFrom 11 = .ok (.aload_n 0, 1) := by decide +kernel
theorem dX0_copyFrom_12 : decode cX0_copyFrom 12 = .ok (.getfield 20, 3) := by decide +kernel
theorem dX0_copyFrom_15 : decode cX0_copyFrom 15 = .ok (.aload_n 1, 1) := by decide +kernel
theorem dX0_copyFrom_16 : decode cX0_copyFrom 16 = .ok (.getfield 20, 3) := by decide +kernel
theorem dX0_copyFrom_19 : decode cX0_copyFrom 19 = .ok (.invokevirtual 38, 3) := by decide +kernel
theorem dX0_copyFrom_22 : decode cX0_copyFrom 22 = .ok (.aload_n 0, 1) := by decide +kernel
theorem dX0_copyFrom_23 : decode cX0_copyFrom 23 = .ok (.getfield 23, 3) := by decide +kernel
theorem dX0_copyFrom_26 : decode cX0_copyFrom 26 = .ok (.aload_n 1, 1) := by decide +kernel
theorem dX0_copyFrom_27 : decode cX0_copyFrom 27 = .ok (.getfield 23, 3) := by decide +kernel
theorem dX0_copyFrom_30 : decode cX0_copyFrom 30 = .ok (.invokevirtual 38, 3) := by decide +kernel
theorem dX0_copyFrom_33 : decode cX0_copyFrom 33 = .ok (.aload_n 0, 1) := by decide +kernel
theorem dX0_copyFrom_34 : decode cX0_copyFrom 34 = .ok (.aload_n 1, 1) := by decide +kernel
theorem dX0_copyFrom_35 : decode cX0_copyFrom 35 = .ok (.getfield 26, 3) := by decide +kernel
theorem dX0_copyFrom_38 : decode cX0_copyFrom 38 = .ok (.putfield 26, 3) := by decide +kernel
theorem dX0_copyFrom_41 : decode cX0_copyFrom 41 = .ok (.return_, 1) := by decide +kernel
theorem dX0_setOf_0 : decode cX0_setOf 0 = .ok (.aload_n 0, 1) := by decide +kernel
theorem dX0_setOf_1 : decode cX0_setOf 1 = .ok (.getfield 14, 3) := by decide +kernel
theorem dX0_setOf_4 : decode cX0_setOf 4 = .ok (.iload_n 1, 1) := by decide +kernel
theorem dX0_setOf_5 : decode cX0_setOf 5 = .ok (.invokevirtual 42, 3) := by decide +kernel
theorem dX0_setOf_8 : decode cX0_setOf 8 = .ok (.ireturn, 1) := by decide +kernel
theorem dX0_shownOf_0 : decode cX0_shownOf 0 = .ok (.aload_n 0, 1) := by decide +kernel
theorem dX0_shownOf_1 : decode cX0_shownOf 1 = .ok (.getfield 20, 3) := by decide +kernel
theorem dX0_shownOf_4 : decode cX0_shownOf 4 = .ok (.iload_n 1, 1) := by decide +kernel
theorem dX0_shownOf_5 : decode cX0_shownOf 5 = .ok (.invokevirtual 42, 3) := by decide +kernel
theorem dX0_shownOf_8 : decode cX0_shownOf 8 = .ok (.ireturn, 1) := by decide +kernel
theorem dX0_laughOf_0 : decode cX0_laughOf 0 = .ok (.aload_n 0, 1) := by decide +kernel
theorem dX0_laughOf_1 : decode cX0_laughOf 1 = .ok (.getfield 23, 3) := by decide +kernel
theorem dX0_laughOf_4 : decode cX0_laughOf 4 = .ok (.iload_n 1, 1) := by decide +kernel
theorem dX0_laughOf_5 : decode cX0_laughOf 5 = .ok (.invokevirtual 42, 3) := by decide +kernel
theorem dX0_laughOf_8 : decode cX0_laughOf 8 = .ok (.ireturn, 1) := by decide +kernel
theorem dX0_linesWith_0 : decode cX0_linesWith 0 = .ok (.iconst 0, 1) := by decide +kernel
theorem dX0_linesWith_1 : decode cX0_linesWith 1 = .ok (.istore_n 2, 1) := by decide +kernel
theorem dX0_linesWith_2 : decode cX0_linesWith 2 = .ok (.iconst 0, 1) := by decide +kernel
theorem dX0_linesWith_3 : decode cX0_linesWith 3 = .ok (.istore_n 3, 1) := by decide +kernel
theorem dX0_linesWith_4 : decode cX0_linesWith 4 = .ok (.iload_n 3, 1) := by decide +kernel
theorem dX0_linesWith_5 : decode cX0_linesWith 5 = .ok (.aload_n 0, 1) := by decide +kernel
theorem dX0_linesWith_6 : decode cX0_linesWith 6 = .ok (.getfield 26, 3) := by decide +kernel
theorem dX0_linesWith_9 : decode cX0_linesWith 9 = .ok (.if_icmp .ge 21, 3) := by decide +kernel
theorem dX0_linesWith_12 : decode cX0_linesWith 12 = .ok (.iload_n 2, 1) := by decide +kernel
theorem dX0_linesWith_13 : decode cX0_linesWith 13 = .ok (.aload_n 0, 1) := by decide +kernel
theorem dX0_linesWith_14 : decode cX0_linesWith 14 = .ok (.iload_n 3, 1) := by decide +kernel
theorem dX0_linesWith_15 : decode cX0_linesWith 15 = .ok (.invokevirtual 46, 3) := by decide +kernel
theorem dX0_linesWith_18 : decode cX0_linesWith 18 = .ok (.iload_n 1, 1) := by decide +kernel
theorem dX0_linesWith_19 : decode cX0_linesWith 19 = .ok (.ishr, 1) := by decide +kernel
theorem dX0_linesWith_20 : decode cX0_linesWith 20 = .ok (.iconst 1, 1) := by decide +kernel
theorem dX0_linesWith_21 : decode cX0_linesWith 21 = .ok (.iand, 1) := by decide +kernel
theorem dX0_linesWith_22 : decode cX0_linesWith 22 = .ok (.iadd, 1) := by decide +kernel
theorem dX0_linesWith_23 : decode cX0_linesWith 23 = .ok (.istore_n 2, 1) := by decide +kernel
theorem dX0_linesWith_24 : decode cX0_linesWith 24 = .ok (.iinc 3 1, 3) := by decide +kernel
theorem dX0_linesWith_27 : decode cX0_linesWith 27 = .ok (.goto (-23), 3) := by decide +kernel
theorem dX0_linesWith_30 : decode cX0_linesWith 30 = .ok (.iload_n 2, 1) := by decide +kernel
theorem dX0_linesWith_31 : decode cX0_linesWith 31 = .ok (.ireturn, 1) := by decide +kernel
theorem dX0_unheardLines_0 : decode cX0_unheardLines 0 = .ok (.iconst 0, 1) := by decide +kernel
theorem dX0_unheardLines_1 : decode cX0_unheardLines 1 = .ok (.istore_n 1, 1) := by decide +kernel
theorem dX0_unheardLines_2 : decode cX0_unheardLines 2 = .ok (.iconst 0, 1) := by decide +kernel
theorem dX0_unheardLines_3 : decode cX0_unheardLines 3 = .ok (.istore_n 2, 1) := by decide +kernel
theorem dX0_unheardLines_4 : decode cX0_unheardLines 4 = .ok (.iload_n 2, 1) := by decide +kernel
theorem dX0_unheardLines_5 : decode cX0_unheardLines 5 = .ok (.aload_n 0, 1) := by decide +kernel
theorem dX0_unheardLines_6 : decode cX0_unheardLines 6 = .ok (.getfield 26, 3) := by decide +kernel
theorem dX0_unheardLines_9 : decode cX0_unheardLines 9 = .ok (.if_icmp .ge 21, 3) := by decide +kernel
theorem dX0_unheardLines_12 : decode cX0_unheardLines 12 = .ok (.aload_n 0, 1) := by decide +kernel
theorem dX0_unheardLines_13 : decode cX0_unheardLines 13 = .ok (.iload_n 2, 1) := by decide +kernel
theorem dX0_unheardLines_14 : decode cX0_unheardLines 14 = .ok (.invokevirtual 49, 3) := by decide +kernel
theorem dX0_unheardLines_17 : decode cX0_unheardLines 17 = .ok (.iconst 2, 1) := by decide +kernel
theorem dX0_unheardLines_18 : decode cX0_unheardLines 18 = .ok (.if_icmp .ne 6, 3) := by decide +kernel
theorem dX0_unheardLines_21 : decode cX0_unheardLines 21 = .ok (.iinc 1 1, 3) := by decide +kernel
theorem dX0_unheardLines_24 : decode cX0_unheardLines 24 = .ok (.iinc 2 1, 3) := by decide +kernel
theorem dX0_unheardLines_27 : decode cX0_unheardLines 27 = .ok (.goto (-23), 3) := by decide +kernel
theorem dX0_unheardLines_30 : decode cX0_unheardLines 30 = .ok (.iload_n 1, 1) := by decide +kernel
theorem dX0_unheardLines_31 : decode cX0_unheardLines 31 = .ok (.ireturn, 1) := by decide +kernel
theorem dX1_init_0 : decode cX1_init 0 = .ok (.aload_n 0, 1) := by decide +kernel
theorem dX1_init_1 : decode cX1_init 1 = .ok (.invokespecial 1, 3) := by decide +kernel
theorem dX1_init_4 : decode cX1_init 4 = .ok (.aload_n 0, 1) := by decide +kernel
theorem dX1_init_5 : decode cX1_init 5 = .ok (.new 7, 3) := by decide +kernel
theorem dX1_init_8 : decode cX1_init 8 = .ok (.dup, 1) := by decide +kernel
theorem dX1_init_9 : decode cX1_init 9 = .ok (.invokespecial 9, 3) := by decide +kernel
theorem dX1_init_12 : decode cX1_init 12 = .ok (.putfield 10, 3) := by decide +kernel
theorem dX1_init_15 : decode cX1_init 15 = .ok (.return_, 1) := by decide +kernel
theorem dX1_take_0 : decode cX1_take 0 = .ok (.aload_n 0, 1) := by decide +kernel
theorem dX1_take_1 : decode cX1_take 1 = .ok (.getfield 10, 3) := by decide +kernel
theorem dX1_take_4 : decode cX1_take 4 = .ok (.aload_n 1, 1) := by decide +kernel
theorem dX1_take_5 : decode cX1_take 5 = .ok (.invokevirtual 16, 3) := by decide +kernel
theorem dX1_take_8 : decode cX1_take 8 = .ok (.aload_n 0, 1) := by decide +kernel
theorem dX1_take_9 : decode cX1_take 9 = .ok (.iconst 1, 1) := by decide +kernel
theorem dX1_take_10 : decode cX1_take 10 = .ok (.putfield 20, 3) := by decide +kernel
theorem dX1_take_13 : decode cX1_take 13 = .ok (.return_, 1) := by decide +kernel
theorem dX1_drop_0 : decode cX1_drop 0 = .ok (.aload_n 0, 1) := by decide +kernel
theorem dX1_drop_1 : decode cX1_drop 1 = .ok (.iconst 0, 1) := by decide +kernel
theorem dX1_drop_2 : decode cX1_drop 2 = .ok (.putfield 20, 3) := by decide +kernel
theorem dX1_drop_5 : decode cX1_drop 5 = .ok (.return_, 1) := by decide +kernel
theorem dX1_isKept_0 : decode cX1_isKept 0 = .ok (.aload_n 0, 1) := by decide +kernel
theorem dX1_isKept_1 : decode cX1_isKept 1 = .ok (.getfield 20, 3) := by decide +kernel
theorem dX1_isKept_4 : decode cX1_isKept 4 = .ok (.ireturn, 1) := by decide +kernel
theorem dX1_kept_0 : decode cX1_kept 0 = .ok (.aload_n 0, 1) := by decide +kernel
theorem dX1_kept_1 : decode cX1_kept 1 = .ok (.getfield 10, 3) := by decide +kernel
theorem dX1_kept_4 : decode cX1_kept 4 = .ok (.areturn, 1) := by decide +kernel
theorem dX2_init_0 : decode cX2_init 0 = .ok (.aload_n 0, 1) := by decide +kernel
theorem dX2_init_1 : decode cX2_init 1 = .ok (.invokespecial 3, 3) := by decide +kernel
theorem dX2_init_4 : decode cX2_init 4 = .ok (.aload_n 0, 1) := by decide +kernel
theorem dX2_init_5 : decode cX2_init 5 = .ok (.aload_n 1, 1) := by decide +kernel
theorem dX2_init_6 : decode cX2_init 6 = .ok (.putfield 9, 3) := by decide +kernel
theorem dX2_init_9 : decode cX2_init 9 = .ok (.aload_n 0, 1) := by decide +kernel
theorem dX2_init_10 : decode cX2_init 10 = .ok (.aload_n 2, 1) := by decide +kernel
theorem dX2_init_11 : decode cX2_init 11 = .ok (.putfield 15, 3) := by decide +kernel
theorem dX2_init_14 : decode cX2_init 14 = .ok (.return_, 1) := by decide +kernel
theorem dX2_asked_0 : decode cX2_asked 0 = .ok (.aload_n 0, 1) := by decide +kernel
theorem dX2_asked_1 : decode cX2_asked 1 = .ok (.getfield 19, 3) := by decide +kernel
theorem dX2_asked_4 : decode cX2_asked 4 = .ok (.lreturn, 1) := by decide +kernel
theorem dX2_markAs_0 : decode cX2_markAs 0 = .ok (.iload_n 1, 1) := by decide +kernel
theorem dX2_markAs_1 : decode cX2_markAs 1 = .ok (.tableswitch 75 0 5 #[39, 45, 51, 57, 63, 69], 39) := by decide +kernel
theorem dX2_markAs_40 : decode cX2_markAs 40 = .ok (.aload_n 0, 1) := by decide +kernel
theorem dX2_markAs_41 : decode cX2_markAs 41 = .ok (.iload_n 2, 1) := by decide +kernel
theorem dX2_markAs_42 : decode cX2_markAs 42 = .ok (.invokevirtual 23, 3) := by decide +kernel
theorem dX2_markAs_45 : decode cX2_markAs 45 = .ok (.ireturn, 1) := by decide +kernel
theorem dX2_markAs_46 : decode cX2_markAs 46 = .ok (.aload_n 0, 1) := by decide +kernel
theorem dX2_markAs_47 : decode cX2_markAs 47 = .ok (.iload_n 2, 1) := by decide +kernel
theorem dX2_markAs_48 : decode cX2_markAs 48 = .ok (.invokevirtual 27, 3) := by decide +kernel
theorem dX2_markAs_51 : decode cX2_markAs 51 = .ok (.ireturn, 1) := by decide +kernel
theorem dX2_markAs_52 : decode cX2_markAs 52 = .ok (.aload_n 0, 1) := by decide +kernel
theorem dX2_markAs_53 : decode cX2_markAs 53 = .ok (.iload_n 2, 1) := by decide +kernel
theorem dX2_markAs_54 : decode cX2_markAs 54 = .ok (.invokevirtual 30, 3) := by decide +kernel
theorem dX2_markAs_57 : decode cX2_markAs 57 = .ok (.ireturn, 1) := by decide +kernel
theorem dX2_markAs_58 : decode cX2_markAs 58 = .ok (.aload_n 0, 1) := by decide +kernel
theorem dX2_markAs_59 : decode cX2_markAs 59 = .ok (.iload_n 2, 1) := by decide +kernel
theorem dX2_markAs_60 : decode cX2_markAs 60 = .ok (.invokevirtual 33, 3) := by decide +kernel
theorem dX2_markAs_63 : decode cX2_markAs 63 = .ok (.ireturn, 1) := by decide +kernel
theorem dX2_markAs_64 : decode cX2_markAs 64 = .ok (.aload_n 0, 1) := by decide +kernel
theorem dX2_markAs_65 : decode cX2_markAs 65 = .ok (.iload_n 2, 1) := by decide +kernel
theorem dX2_markAs_66 : decode cX2_markAs 66 = .ok (.invokevirtual 36, 3) := by decide +kernel
theorem dX2_markAs_69 : decode cX2_markAs 69 = .ok (.ireturn, 1) := by decide +kernel
theorem dX2_markAs_70 : decode cX2_markAs 70 = .ok (.aload_n 0, 1) := by decide +kernel
theorem dX2_markAs_71 : decode cX2_markAs 71 = .ok (.iload_n 2, 1) := by decide +kernel
theorem dX2_markAs_72 : decode cX2_markAs 72 = .ok (.invokevirtual 39, 3) := by decide +kernel
theorem dX2_markAs_75 : decode cX2_markAs 75 = .ok (.ireturn, 1) := by decide +kernel
theorem dX2_markAs_76 : decode cX2_markAs 76 = .ok (.ldc 42, 2) := by decide +kernel
theorem dX2_markAs_78 : decode cX2_markAs 78 = .ok (.ireturn, 1) := by decide +kernel
theorem dX2_asThing_0 : decode cX2_asThing 0 = .ok (.aload_n 0, 1) := by decide +kernel
theorem dX2_asThing_1 : decode cX2_asThing 1 = .ok (.dup, 1) := by decide +kernel
theorem dX2_asThing_2 : decode cX2_asThing 2 = .ok (.getfield 19, 3) := by decide +kernel
theorem dX2_asThing_5 : decode cX2_asThing 5 = .ok (.lconst 1, 1) := by decide +kernel
theorem dX2_asThing_6 : decode cX2_asThing 6 = .ok (.ladd, 1) := by decide +kernel
theorem dX2_asThing_7 : decode cX2_asThing 7 = .ok (.putfield 19, 3) := by decide +kernel
theorem dX2_asThing_10 : decode cX2_asThing 10 = .ok (.aload_n 0, 1) := by decide +kernel
theorem dX2_asThing_11 : decode cX2_asThing 11 = .ok (.getfield 9, 3) := by decide +kernel
theorem dX2_asThing_14 : decode cX2_asThing 14 = .ok (.iload_n 1, 1) := by decide +kernel
theorem dX2_asThing_15 : decode cX2_asThing 15 = .ok (.invokevirtual 43, 3) := by decide +kernel
theorem dX2_asThing_18 : decode cX2_asThing 18 = .ok (.ireturn, 1) := by decide +kernel
theorem dX2_asSack_0 : decode cX2_asSack 0 = .ok (.aload_n 0, 1) := by decide +kernel
theorem dX2_asSack_1 : decode cX2_asSack 1 = .ok (.dup, 1) := by decide +kernel
theorem dX2_asSack_2 : decode cX2_asSack 2 = .ok (.getfield 19, 3) := by decide +kernel
theorem dX2_asSack_5 : decode cX2_asSack 5 = .ok (.ldc2_w 48, 3) := by decide +kernel
theorem dX2_asSack_8 : decode cX2_asSack 8 = .ok (.ladd, 1) := by decide +kernel
theorem dX2_asSack_9 : decode cX2_asSack 9 = .ok (.putfield 19, 3) := by decide +kernel
theorem dX2_asSack_12 : decode cX2_asSack 12 = .ok (.aload_n 0, 1) := by decide +kernel
theorem dX2_asSack_13 : decode cX2_asSack 13 = .ok (.iload_n 1, 1) := by decide +kernel
theorem dX2_asSack_14 : decode cX2_asSack 14 = .ok (.invokevirtual 23, 3) := by decide +kernel
theorem dX2_asSack_17 : decode cX2_asSack 17 = .ok (.aload_n 0, 1) := by decide +kernel
theorem dX2_asSack_18 : decode cX2_asSack 18 = .ok (.getfield 9, 3) := by decide +kernel
theorem dX2_asSack_21 : decode cX2_asSack 21 = .ok (.invokevirtual 50, 3) := by decide +kernel
theorem dX2_asSack_24 : decode cX2_asSack 24 = .ok (.iadd, 1) := by decide +kernel
theorem dX2_asSack_25 : decode cX2_asSack 25 = .ok (.ireturn, 1) := by decide +kernel
theorem dX2_asLead_0 : decode cX2_asLead 0 = .ok (.aload_n 0, 1) := by decide +kernel
theorem dX2_asLead_1 : decode cX2_asLead 1 = .ok (.dup, 1) := by decide +kernel
theorem dX2_asLead_2 : decode cX2_asLead 2 = .ok (.getfield 19, 3) := by decide +kernel
theorem dX2_asLead_5 : decode cX2_asLead 5 = .ok (.ldc2_w 54, 3) := by decide +kernel
theorem dX2_asLead_8 : decode cX2_asLead 8 = .ok (.ladd, 1) := by decide +kernel
theorem dX2_asLead_9 : decode cX2_asLead 9 = .ok (.putfield 19, 3) := by decide +kernel
theorem dX2_asLead_12 : decode cX2_asLead 12 = .ok (.aload_n 0, 1) := by decide +kernel
theorem dX2_asLead_13 : decode cX2_asLead 13 = .ok (.iload_n 1, 1) := by decide +kernel
theorem dX2_asLead_14 : decode cX2_asLead 14 = .ok (.invokevirtual 23, 3) := by decide +kernel
theorem dX2_asLead_17 : decode cX2_asLead 17 = .ok (.iconst 2, 1) := by decide +kernel
theorem dX2_asLead_18 : decode cX2_asLead 18 = .ok (.imul, 1) := by decide +kernel
theorem dX2_asLead_19 : decode cX2_asLead 19 = .ok (.ireturn, 1) := by decide +kernel
theorem dX2_asFlour_0 : decode cX2_asFlour 0 = .ok (.aload_n 0, 1) := by decide +kernel
theorem dX2_asFlour_1 : decode cX2_asFlour 1 = .ok (.dup, 1) := by decide +kernel
theorem dX2_asFlour_2 : decode cX2_asFlour 2 = .ok (.getfield 19, 3) := by decide +kernel
theorem dX2_asFlour_5 : decode cX2_asFlour 5 = .ok (.ldc2_w 56, 3) := by decide +kernel
theorem dX2_asFlour_8 : decode cX2_asFlour 8 = .ok (.ladd, 1) := by decide +kernel
theorem dX2_asFlour_9 : decode cX2_asFlour 9 = .ok (.putfield 19, 3) := by decide +kernel
theorem dX2_asFlour_12 : decode cX2_asFlour 12 = .ok (.aload_n 0, 1) := by decide +kernel
theorem dX2_asFlour_13 : decode cX2_asFlour 13 = .ok (.iload_n 1, 1) := by decide +kernel
theorem dX2_asFlour_14 : decode cX2_asFlour 14 = .ok (.invokevirtual 27, 3) := by decide +kernel
theorem dX2_asFlour_17 : decode cX2_asFlour 17 = .ok (.aload_n 0, 1) := by decide +kernel
theorem dX2_asFlour_18 : decode cX2_asFlour 18 = .ok (.getfield 15, 3) := by decide +kernel
theorem dX2_asFlour_21 : decode cX2_asFlour 21 = .ok (.invokevirtual 58, 3) := by decide +kernel
theorem dX2_asFlour_24 : decode cX2_asFlour 24 = .ok (.isub, 1) := by decide +kernel
theorem dX2_asFlour_25 : decode cX2_asFlour 25 = .ok (.ireturn, 1) := by decide +kernel
theorem dX2_asGold_0 : decode cX2_asGold 0 = .ok (.aload_n 0, 1) := by decide +kernel
theorem dX2_asGold_1 : decode cX2_asGold 1 = .ok (.dup, 1) := by decide +kernel
theorem dX2_asGold_2 : decode cX2_asGold 2 = .ok (.getfield 19, 3) := by decide +kernel
theorem dX2_asGold_5 : decode cX2_asGold 5 = .ok (.ldc2_w 63, 3) := by decide +kernel
theorem dX2_asGold_8 : decode cX2_asGold 8 = .ok (.ladd, 1) := by decide +kernel
theorem dX2_asGold_9 : decode cX2_asGold 9 = .ok (.putfield 19, 3) := by decide +kernel
theorem dX2_asGold_12 : decode cX2_asGold 12 = .ok (.aload_n 0, 1) := by decide +kernel
theorem dX2_asGold_13 : decode cX2_asGold 13 = .ok (.iload_n 1, 1) := by decide +kernel
theorem dX2_asGold_14 : decode cX2_asGold 14 = .ok (.invokevirtual 30, 3) := by decide +kernel
theorem dX2_asGold_17 : decode cX2_asGold 17 = .ok (.iload_n 1, 1) := by decide +kernel
theorem dX2_asGold_18 : decode cX2_asGold 18 = .ok (.iadd, 1) := by decide +kernel
theorem dX2_asGold_19 : decode cX2_asGold 19 = .ok (.ireturn, 1) := by decide +kernel
theorem dX2_asBaby_0 : decode cX2_asBaby 0 = .ok (.aload_n 0, 1) := by decide +kernel
theorem dX2_asBaby_1 : decode cX2_asBaby 1 = .ok (.dup, 1) := by decide +kernel
theorem dX2_asBaby_2 : decode cX2_asBaby 2 = .ok (.getfield 19, 3) := by decide +kernel
theorem dX2_asBaby_5 : decode cX2_asBaby 5 = .ok (.ldc2_w 65, 3) := by decide +kernel
theorem dX2_asBaby_8 : decode cX2_asBaby 8 = .ok (.ladd, 1) := by decide +kernel
theorem dX2_asBaby_9 : decode cX2_asBaby 9 = .ok (.putfield 19, 3) := by decide +kernel
theorem dX2_asBaby_12 : decode cX2_asBaby 12 = .ok (.aload_n 0, 1) := by decide +kernel
theorem dX2_asBaby_13 : decode cX2_asBaby 13 = .ok (.iload_n 1, 1) := by decide +kernel
theorem dX2_asBaby_14 : decode cX2_asBaby 14 = .ok (.invokevirtual 23, 3) := by decide +kernel
theorem dX2_asBaby_17 : decode cX2_asBaby 17 = .ok (.aload_n 0, 1) := by decide +kernel
theorem dX2_asBaby_18 : decode cX2_asBaby 18 = .ok (.getfield 15, 3) := by decide +kernel
theorem dX2_asBaby_21 : decode cX2_asBaby 21 = .ok (.iload_n 1, 1) := by decide +kernel
theorem dX2_asBaby_22 : decode cX2_asBaby 22 = .ok (.invokevirtual 67, 3) := by decide +kernel
theorem dX2_asBaby_25 : decode cX2_asBaby 25 = .ok (.iadd, 1) := by decide +kernel
theorem dX2_asBaby_26 : decode cX2_asBaby 26 = .ok (.ireturn, 1) := by decide +kernel
theorem dX3_init_0 : decode cX3_init 0 = .ok (.aload_n 0, 1) := by decide +kernel
theorem dX3_init_1 : decode cX3_init 1 = .ok (.invokespecial 3, 3) := by decide +kernel
theorem dX3_init_4 : decode cX3_init 4 = .ok (.aload_n 0, 1) := by decide +kernel
theorem dX3_init_5 : decode cX3_init 5 = .ok (.new 9, 3) := by decide +kernel
theorem dX3_init_8 : decode cX3_init 8 = .ok (.dup, 1) := by decide +kernel
theorem dX3_init_9 : decode cX3_init 9 = .ok (.bipush 20, 2) := by decide +kernel
theorem dX3_init_11 : decode cX3_init 11 = .ok (.invokespecial 11, 3) := by decide +kernel
theorem dX3_init_14 : decode cX3_init 14 = .ok (.putfield 14, 3) := by decide +kernel
theorem dX3_init_17 : decode cX3_init 17 = .ok (.aload_n 0, 1) := by decide +kernel
theorem dX3_init_18 : decode cX3_init 18 = .ok (.new 9, 3) := by decide +kernel
theorem dX3_init_21 : decode cX3_init 21 = .ok (.dup, 1) := by decide +kernel
theorem dX3_init_22 : decode cX3_init 22 = .ok (.bipush 20, 2) := by decide +kernel
theorem dX3_init_24 : decode cX3_init 24 = .ok (.invokespecial 11, 3) := by decide +kernel
theorem dX3_init_27 : decode cX3_init 27 = .ok (.putfield 20, 3) := by decide +kernel
theorem dX3_init_30 : decode cX3_init 30 = .ok (.aload_n 0, 1) := by decide +kernel
theorem dX3_init_31 : decode cX3_init 31 = .ok (.new 9, 3) := by decide +kernel
theorem dX3_init_34 : decode cX3_init 34 = .ok (.dup, 1) := by decide +kernel
theorem dX3_init_35 : decode cX3_init 35 = .ok (.sipush 400, 3) := by decide +kernel
theorem dX3_init_38 : decode cX3_init 38 = .ok (.invokespecial 11, 3) := by decide +kernel
theorem dX3_init_41 : decode cX3_init 41 = .ok (.putfield 23, 3) := by decide +kernel
theorem dX3_init_44 : decode cX3_init 44 = .ok (.aload_n 0, 1) := by decide +kernel
theorem dX3_init_45 : decode cX3_init 45 = .ok (.aload_n 1, 1) := by decide +kernel
theorem dX3_init_46 : decode cX3_init 46 = .ok (.putfield 26, 3) := by decide +kernel
theorem dX3_init_49 : decode cX3_init 49 = .ok (.aload_n 0, 1) := by decide +kernel
theorem dX3_init_50 : decode cX3_init 50 = .ok (.aload_n 2, 1) := by decide +kernel
theorem dX3_init_51 : decode cX3_init 51 = .ok (.putfield 30, 3) := by decide +kernel
theorem dX3_init_54 : decode cX3_init 54 = .ok (.return_, 1) := by decide +kernel
theorem dX3_bestSet_0 : decode cX3_bestSet 0 = .ok (.iconst 1, 1) := by decide +kernel
theorem dX3_bestSet_1 : decode cX3_bestSet 1 = .ok (.istore_n 1, 1) := by decide +kernel
theorem dX3_bestSet_2 : decode cX3_bestSet 2 = .ok (.aload_n 0, 1) := by decide +kernel
theorem dX3_bestSet_3 : decode cX3_bestSet 3 = .ok (.iconst 1, 1) := by decide +kernel
theorem dX3_bestSet_4 : decode cX3_bestSet 4 = .ok (.invokevirtual 34, 3) := by decide +kernel
theorem dX3_bestSet_7 : decode cX3_bestSet 7 = .ok (.istore_n 2, 1) := by decide +kernel
theorem dX3_bestSet_8 : decode cX3_bestSet 8 = .ok (.iconst 2, 1) := by decide +kernel
theorem dX3_bestSet_9 : decode cX3_bestSet 9 = .ok (.istore_n 3, 1) := by decide +kernel
theorem dX3_bestSet_10 : decode cX3_bestSet 10 = .ok (.iload_n 3, 1) := by decide +kernel
theorem dX3_bestSet_11 : decode cX3_bestSet 11 = .ok (.aload_n 0, 1) := by decide +kernel
theorem dX3_bestSet_12 : decode cX3_bestSet 12 = .ok (.getfield 26, 3) := by decide +kernel
theorem dX3_bestSet_15 : decode cX3_bestSet 15 = .ok (.invokevirtual 38, 3) := by decide +kernel
theorem dX3_bestSet_18 : decode cX3_bestSet 18 = .ok (.if_icmp .ge 27, 3) := by decide +kernel
theorem dX3_bestSet_21 : decode cX3_bestSet 21 = .ok (.aload_n 0, 1) := by decide +kernel
theorem dX3_bestSet_22 : decode cX3_bestSet 22 = .ok (.iload_n 3, 1) := by decide +kernel
theorem dX3_bestSet_23 : decode cX3_bestSet 23 = .ok (.invokevirtual 34, 3) := by decide +kernel
theorem dX3_bestSet_26 : decode cX3_bestSet 26 = .ok (.istore 4, 2) := by decide +kernel
theorem dX3_bestSet_28 : decode cX3_bestSet 28 = .ok (.iload 4, 2) := by decide +kernel
theorem dX3_bestSet_30 : decode cX3_bestSet 30 = .ok (.iload_n 2, 1) := by decide +kernel
theorem dX3_bestSet_31 : decode cX3_bestSet 31 = .ok (.if_icmp .ge 8, 3) := by decide +kernel
theorem dX3_bestSet_34 : decode cX3_bestSet 34 = .ok (.iload 4, 2) := by decide +kernel
theorem dX3_bestSet_36 : decode cX3_bestSet 36 = .ok (.istore_n 2, 1) := by decide +kernel
theorem dX3_bestSet_37 : decode cX3_bestSet 37 = .ok (.iload_n 3, 1) := by decide +kernel
theorem dX3_bestSet_38 : decode cX3_bestSet 38 = .ok (.istore_n 1, 1) := by decide +kernel
theorem dX3_bestSet_39 : decode cX3_bestSet 39 = .ok (.iinc 3 1, 3) := by decide +kernel
theorem dX3_bestSet_42 : decode cX3_bestSet 42 = .ok (.goto (-32), 3) := by decide +kernel
theorem dX3_bestSet_45 : decode cX3_bestSet 45 = .ok (.iload_n 1, 1) := by decide +kernel
theorem dX3_bestSet_46 : decode cX3_bestSet 46 = .ok (.ireturn, 1) := by decide +kernel
theorem dX3_worstOf_0 : decode cX3_worstOf 0 = .ok (.aload_n 0, 1) := by decide +kernel
theorem dX3_worstOf_1 : decode cX3_worstOf 1 = .ok (.getfield 14, 3) := by decide +kernel
theorem dX3_worstOf_4 : decode cX3_worstOf 4 = .ok (.invokevirtual 44, 3) := by decide +kernel
theorem dX3_worstOf_7 : decode cX3_worstOf 7 = .ok (.aload_n 0, 1) := by decide +kernel
theorem dX3_worstOf_8 : decode cX3_worstOf 8 = .ok (.getfield 30, 3) := by decide +kernel
theorem dX3_worstOf_11 : decode cX3_worstOf 11 = .ok (.invokevirtual 47, 3) := by decide +kernel
theorem dX3_worstOf_14 : decode cX3_worstOf 14 = .ok (.istore_n 2, 1) := by decide +kernel
theorem dX3_worstOf_15 : decode cX3_worstOf 15 = .ok (.iconst 0, 1) := by decide +kernel
theorem dX3_worstOf_16 : decode cX3_worstOf 16 = .ok (.istore_n 3, 1) := by decide +kernel
theorem dX3_worstOf_17 : decode cX3_worstOf 17 = .ok (.iconst (-1), 1) := by decide +kernel
theorem dX3_worstOf_18 : decode cX3_worstOf 18 = .ok (.istore 4, 2) := by decide +kernel
theorem dX3_worstOf_20 : decode cX3_worstOf 20 = .ok (.iconst 0, 1) := by decide +kernel
theorem dX3_worstOf_21 : decode cX3_worstOf 21 = .ok (.istore 5, 2) := by decide +kernel
theorem dX3_worstOf_23 : decode cX3_worstOf 23 = .ok (.iload 5, 2) := by decide +kernel
theorem dX3_worstOf_25 : decode cX3_worstOf 25 = .ok (.iload_n 2, 1) := by decide +kernel
theorem dX3_worstOf_26 : decode cX3_worstOf 26 = .ok (.if_icmp .ge 53, 3) := by decide +kernel
theorem dX3_worstOf_29 : decode cX3_worstOf 29 = .ok (.aload_n 0, 1) := by decide +kernel
theorem dX3_worstOf_30 : decode cX3_worstOf 30 = .ok (.getfield 30, 3) := by decide +kernel
theorem dX3_worstOf_33 : decode cX3_worstOf 33 = .ok (.iload 4, 2) := by decide +kernel
theorem dX3_worstOf_35 : decode cX3_worstOf 35 = .ok (.invokevirtual 52, 3) := by decide +kernel
theorem dX3_worstOf_38 : decode cX3_worstOf 38 = .ok (.istore 4, 2) := by decide +kernel
theorem dX3_worstOf_40 : decode cX3_worstOf 40 = .ok (.aload_n 0, 1) := by decide +kernel
theorem dX3_worstOf_41 : decode cX3_worstOf 41 = .ok (.iload 4, 2) := by decide +kernel
theorem dX3_worstOf_43 : decode cX3_worstOf 43 = .ok (.iload_n 1, 1) := by decide +kernel
theorem dX3_worstOf_44 : decode cX3_worstOf 44 = .ok (.invokevirtual 55, 3) := by decide +kernel
theorem dX3_worstOf_47 : decode cX3_worstOf 47 = .ok (.istore 6, 2) := by decide +kernel
theorem dX3_worstOf_49 : decode cX3_worstOf 49 = .ok (.aload_n 0, 1) := by decide +kernel
theorem dX3_worstOf_50 : decode cX3_worstOf 50 = .ok (.getfield 14, 3) := by decide +kernel
theorem dX3_worstOf_53 : decode cX3_worstOf 53 = .ok (.iload 6, 2) := by decide +kernel
theorem dX3_worstOf_55 : decode cX3_worstOf 55 = .ok (.iconst 1, 1) := by decide +kernel
theorem dX3_worstOf_56 : decode cX3_worstOf 56 = .ok (.invokevirtual 59, 3) := by decide +kernel
theorem dX3_worstOf_59 : decode cX3_worstOf 59 = .ok (.iload_n 3, 1) := by decide +kernel
theorem dX3_worstOf_60 : decode cX3_worstOf 60 = .ok (.aload_n 0, 1) := by decide +kernel
theorem dX3_worstOf_61 : decode cX3_worstOf 61 = .ok (.getfield 14, 3) := by decide +kernel
theorem dX3_worstOf_64 : decode cX3_worstOf 64 = .ok (.iload 6, 2) := by decide +kernel
theorem dX3_worstOf_66 : decode cX3_worstOf 66 = .ok (.invokevirtual 63, 3) := by decide +kernel
theorem dX3_worstOf_69 : decode cX3_worstOf 69 = .ok (.invokestatic 66, 3) := by decide +kernel
theorem dX3_worstOf_72 : decode cX3_worstOf 72 = .ok (.istore_n 3, 1) := by decide +kernel
theorem dX3_worstOf_73 : decode cX3_worstOf 73 = .ok (.iinc 5 1, 3) := by decide +kernel
theorem dX3_worstOf_76 : decode cX3_worstOf 76 = .ok (.goto (-53), 3) := by decide +kernel
theorem dX3_worstOf_79 : decode cX3_worstOf 79 = .ok (.iload_n 3, 1) := by decide +kernel
theorem dX3_worstOf_80 : decode cX3_worstOf 80 = .ok (.ireturn, 1) := by decide +kernel
theorem dX3_weighingsFor_0 : decode cX3_weighingsFor 0 = .ok (.aload_n 0, 1) := by decide +kernel
theorem dX3_weighingsFor_1 : decode cX3_weighingsFor 1 = .ok (.getfield 30, 3) := by decide +kernel
theorem dX3_weighingsFor_4 : decode cX3_weighingsFor 4 = .ok (.invokevirtual 47, 3) := by decide +kernel
theorem dX3_weighingsFor_7 : decode cX3_weighingsFor 7 = .ok (.ifCond .eq 16, 3) := by decide +kernel
theorem dX3_weighingsFor_10 : decode cX3_weighingsFor 10 = .ok (.aload_n 0, 1) := by decide +kernel
theorem dX3_weighingsFor_11 : decode cX3_weighingsFor 11 = .ok (.getfield 30, 3) := by decide +kernel
theorem dX3_weighingsFor_14 : decode cX3_weighingsFor 14 = .ok (.iload_n 1, 1) := by decide +kernel
theorem dX3_weighingsFor_15 : decode cX3_weighingsFor 15 = .ok (.invokevirtual 71, 3) := by decide +kernel
theorem dX3_weighingsFor_18 : decode cX3_weighingsFor 18 = .ok (.bipush (-9), 2) := by decide +kernel
theorem dX3_weighingsFor_20 : decode cX3_weighingsFor 20 = .ok (.if_icmp .eq 5, 3) := by decide +kernel
theorem dX3_weighingsFor_23 : decode cX3_weighingsFor 23 = .ok (.iconst 0, 1) := by decide +kernel
theorem dX3_weighingsFor_24 : decode cX3_weighingsFor 24 = .ok (.ireturn, 1) := by decide +kernel
theorem dX3_weighingsFor_25 : decode cX3_weighingsFor 25 = .ok (.iconst 0, 1) := by decide +kernel
theorem dX3_weighingsFor_26 : decode cX3_weighingsFor 26 = .ok (.istore_n 2, 1) := by decide +kernel
theorem dX3_weighingsFor_27 : decode cX3_weighingsFor 27 = .ok (.iload_n 2, 1) := by decide +kernel
theorem dX3_weighingsFor_28 : decode cX3_weighingsFor 28 = .ok (.aload_n 0, 1) := by decide +kernel
theorem dX3_weighingsFor_29 : decode cX3_weighingsFor 29 = .ok (.getfield 26, 3) := by decide +kernel
theorem dX3_weighingsFor_32 : decode cX3_weighingsFor 32 = .ok (.invokevirtual 38, 3) := by decide +kernel
theorem dX3_weighingsFor_35 : decode cX3_weighingsFor 35 = .ok (.if_icmp .ge 20, 3) := by decide +kernel
theorem dX3_weighingsFor_38 : decode cX3_weighingsFor 38 = .ok (.aload_n 0, 1) := by decide +kernel
theorem dX3_weighingsFor_39 : decode cX3_weighingsFor 39 = .ok (.iload_n 2, 1) := by decide +kernel
theorem dX3_weighingsFor_40 : decode cX3_weighingsFor 40 = .ok (.iload_n 1, 1) := by decide +kernel
theorem dX3_weighingsFor_41 : decode cX3_weighingsFor 41 = .ok (.invokevirtual 74, 3) := by decide +kernel
theorem dX3_weighingsFor_44 : decode cX3_weighingsFor 44 = .ok (.ifCond .eq 5, 3) := by decide +kernel
theorem dX3_weighingsFor_47 : decode cX3_weighingsFor 47 = .ok (.iconst 1, 1) := by decide +kernel
theorem dX3_weighingsFor_48 : decode cX3_weighingsFor 48 = .ok (.ireturn, 1) := by decide +kernel
theorem dX3_weighingsFor_49 : decode cX3_weighingsFor 49 = .ok (.iinc 2 1, 3) := by decide +kernel
theorem dX3_weighingsFor_52 : decode cX3_weighingsFor 52 = .ok (.goto (-25), 3) := by decide +kernel
theorem dX3_weighingsFor_55 : decode cX3_weighingsFor 55 = .ok (.iconst 0, 1) := by decide +kernel
theorem dX3_weighingsFor_56 : decode cX3_weighingsFor 56 = .ok (.istore_n 2, 1) := by decide +kernel
theorem dX3_weighingsFor_57 : decode cX3_weighingsFor 57 = .ok (.iload_n 2, 1) := by decide +kernel
theorem dX3_weighingsFor_58 : decode cX3_weighingsFor 58 = .ok (.aload_n 0, 1) := by decide +kernel
theorem dX3_weighingsFor_59 : decode cX3_weighingsFor 59 = .ok (.getfield 26, 3) := by decide +kernel
theorem dX3_weighingsFor_62 : decode cX3_weighingsFor 62 = .ok (.invokevirtual 38, 3) := by decide +kernel
theorem dX3_weighingsFor_65 : decode cX3_weighingsFor 65 = .ok (.if_icmp .ge 20, 3) := by decide +kernel
theorem dX3_weighingsFor_68 : decode cX3_weighingsFor 68 = .ok (.aload_n 0, 1) := by decide +kernel
theorem dX3_weighingsFor_69 : decode cX3_weighingsFor 69 = .ok (.iload_n 2, 1) := by decide +kernel
theorem dX3_weighingsFor_70 : decode cX3_weighingsFor 70 = .ok (.iload_n 1, 1) := by decide +kernel
theorem dX3_weighingsFor_71 : decode cX3_weighingsFor 71 = .ok (.invokevirtual 78, 3) := by decide +kernel
theorem dX3_weighingsFor_74 : decode cX3_weighingsFor 74 = .ok (.ifCond .eq 5, 3) := by decide +kernel
theorem dX3_weighingsFor_77 : decode cX3_weighingsFor 77 = .ok (.iconst 2, 1) := by decide +kernel
theorem dX3_weighingsFor_78 : decode cX3_weighingsFor 78 = .ok (.ireturn, 1) := by decide +kernel
theorem dX3_weighingsFor_79 : decode cX3_weighingsFor 79 = .ok (.iinc 2 1, 3) := by decide +kernel
theorem dX3_weighingsFor_82 : decode cX3_weighingsFor 82 = .ok (.goto (-25), 3) := by decide +kernel
theorem dX3_weighingsFor_85 : decode cX3_weighingsFor 85 = .ok (.bipush (-9), 2) := by decide +kernel
theorem dX3_weighingsFor_87 : decode cX3_weighingsFor 87 = .ok (.ireturn, 1) := by decide +kernel
theorem dX3_isSureBy_0 : decode cX3_isSureBy 0 = .ok (.aload_n 0, 1) := by decide +kernel
theorem dX3_isSureBy_1 : decode cX3_isSureBy 1 = .ok (.getfield 20, 3) := by decide +kernel
theorem dX3_isSureBy_4 : decode cX3_isSureBy 4 = .ok (.invokevirtual 44, 3) := by decide +kernel
theorem dX3_isSureBy_7 : decode cX3_isSureBy 7 = .ok (.aload_n 0, 1) := by decide +kernel
theorem dX3_isSureBy_8 : decode cX3_isSureBy 8 = .ok (.getfield 30, 3) := by decide +kernel
theorem dX3_isSureBy_11 : decode cX3_isSureBy 11 = .ok (.invokevirtual 47, 3) := by decide +kernel
theorem dX3_isSureBy_14 : decode cX3_isSureBy 14 = .ok (.istore_n 3, 1) := by decide +kernel
theorem dX3_isSureBy_15 : decode cX3_isSureBy 15 = .ok (.iconst (-1), 1) := by decide +kernel
theorem dX3_isSureBy_16 : decode cX3_isSureBy 16 = .ok (.istore 4, 2) := by decide +kernel
theorem dX3_isSureBy_18 : decode cX3_isSureBy 18 = .ok (.iconst 0, 1) := by decide +kernel
theorem dX3_isSureBy_19 : decode cX3_isSureBy 19 = .ok (.istore 5, 2) := by decide +kernel
theorem dX3_isSureBy_21 : decode cX3_isSureBy 21 = .ok (.iload 5, 2) := by decide +kernel
theorem dX3_isSureBy_23 : decode cX3_isSureBy 23 = .ok (.iload_n 3, 1) := by decide +kernel
theorem dX3_isSureBy_24 : decode cX3_isSureBy 24 = .ok (.if_icmp .ge 45, 3) := by decide +kernel
theorem dX3_isSureBy_27 : decode cX3_isSureBy 27 = .ok (.aload_n 0, 1) := by decide +kernel
theorem dX3_isSureBy_28 : decode cX3_isSureBy 28 = .ok (.getfield 30, 3) := by decide +kernel
theorem dX3_isSureBy_31 : decode cX3_isSureBy 31 = .ok (.iload 4, 2) := by decide +kernel
theorem dX3_isSureBy_33 : decode cX3_isSureBy 33 = .ok (.invokevirtual 52, 3) := by decide +kernel
theorem dX3_isSureBy_36 : decode cX3_isSureBy 36 = .ok (.istore 4, 2) := by decide +kernel
theorem dX3_isSureBy_38 : decode cX3_isSureBy 38 = .ok (.aload_n 0, 1) := by decide +kernel
theorem dX3_isSureBy_39 : decode cX3_isSureBy 39 = .ok (.getfield 20, 3) := by decide +kernel
theorem dX3_isSureBy_42 : decode cX3_isSureBy 42 = .ok (.aload_n 0, 1) := by decide +kernel
theorem dX3_isSureBy_43 : decode cX3_isSureBy 43 = .ok (.iload 4, 2) := by decide +kernel
theorem dX3_isSureBy_45 : decode cX3_isSureBy 45 = .ok (.iload_n 1, 1) := by decide +kernel
theorem dX3_isSureBy_46 : decode cX3_isSureBy 46 = .ok (.invokevirtual 55, 3) := by decide +kernel
theorem dX3_isSureBy_49 : decode cX3_isSureBy 49 = .ok (.iload 4, 2) := by decide +kernel
theorem dX3_isSureBy_51 : decode cX3_isSureBy 51 = .ok (.iload_n 2, 1) := by decide +kernel
theorem dX3_isSureBy_52 : decode cX3_isSureBy 52 = .ok (.invokestatic 81, 3) := by decide +kernel
theorem dX3_isSureBy_55 : decode cX3_isSureBy 55 = .ok (.invokestatic 84, 3) := by decide +kernel
theorem dX3_isSureBy_58 : decode cX3_isSureBy 58 = .ok (.ifCond .eq 5, 3) := by decide +kernel
theorem dX3_isSureBy_61 : decode cX3_isSureBy 61 = .ok (.iconst 0, 1) := by decide +kernel
theorem dX3_isSureBy_62 : decode cX3_isSureBy 62 = .ok (.ireturn, 1) := by decide +kernel
theorem dX3_isSureBy_63 : decode cX3_isSureBy 63 = .ok (.iinc 5 1, 3) := by decide +kernel
theorem dX3_isSureBy_66 : decode cX3_isSureBy 66 = .ok (.goto (-45), 3) := by decide +kernel
theorem dX3_isSureBy_69 : decode cX3_isSureBy 69 = .ok (.iconst 1, 1) := by decide +kernel
theorem dX3_isSureBy_70 : decode cX3_isSureBy 70 = .ok (.ireturn, 1) := by decide +kernel
theorem dX3_isSureByTwo_0 : decode cX3_isSureByTwo 0 = .ok (.iconst 1, 1) := by decide +kernel
theorem dX3_isSureByTwo_1 : decode cX3_isSureByTwo 1 = .ok (.aload_n 0, 1) := by decide +kernel
theorem dX3_isSureByTwo_2 : decode cX3_isSureByTwo 2 = .ok (.getfield 26, 3) := by decide +kernel
theorem dX3_isSureByTwo_5 : decode cX3_isSureByTwo 5 = .ok (.invokevirtual 88, 3) := by decide +kernel
theorem dX3_isSureByTwo_8 : decode cX3_isSureByTwo 8 = .ok (.ishl, 1) := by decide +kernel
theorem dX3_isSureByTwo_9 : decode cX3_isSureByTwo 9 = .ok (.iconst 1, 1) := by decide +kernel
theorem dX3_isSureByTwo_10 : decode cX3_isSureByTwo 10 = .ok (.isub, 1) := by decide +kernel
theorem dX3_isSureByTwo_11 : decode cX3_isSureByTwo 11 = .ok (.istore_n 3, 1) := by decide +kernel
theorem dX3_isSureByTwo_12 : decode cX3_isSureByTwo 12 = .ok (.iconst 0, 1) := by decide +kernel
theorem dX3_isSureByTwo_13 : decode cX3_isSureByTwo 13 = .ok (.istore 4, 2) := by decide +kernel
theorem dX3_isSureByTwo_15 : decode cX3_isSureByTwo 15 = .ok (.iload 4, 2) := by decide +kernel
theorem dX3_isSureByTwo_17 : decode cX3_isSureByTwo 17 = .ok (.aload_n 0, 1) := by decide +kernel
theorem dX3_isSureByTwo_18 : decode cX3_isSureByTwo 18 = .ok (.getfield 26, 3) := by decide +kernel
theorem dX3_isSureByTwo_21 : decode cX3_isSureByTwo 21 = .ok (.invokevirtual 38, 3) := by decide +kernel
theorem dX3_isSureByTwo_24 : decode cX3_isSureByTwo 24 = .ok (.if_icmp .ge 19, 3) := by decide +kernel
theorem dX3_isSureByTwo_27 : decode cX3_isSureByTwo 27 = .ok (.aload_n 0, 1) := by decide +kernel
theorem dX3_isSureByTwo_28 : decode cX3_isSureByTwo 28 = .ok (.iload_n 3, 1) := by decide +kernel
theorem dX3_isSureByTwo_29 : decode cX3_isSureByTwo 29 = .ok (.iload_n 1, 1) := by decide +kernel
theorem dX3_isSureByTwo_30 : decode cX3_isSureByTwo 30 = .ok (.iload 4, 2) := by decide +kernel
theorem dX3_isSureByTwo_32 : decode cX3_isSureByTwo 32 = .ok (.iload_n 2, 1) := by decide +kernel
theorem dX3_isSureByTwo_33 : decode cX3_isSureByTwo 33 = .ok (.invokevirtual 91, 3) := by decide +kernel
theorem dX3_isSureByTwo_36 : decode cX3_isSureByTwo 36 = .ok (.istore_n 3, 1) := by decide +kernel
theorem dX3_isSureByTwo_37 : decode cX3_isSureByTwo 37 = .ok (.iinc 4 1, 3) := by decide +kernel
theorem dX3_isSureByTwo_40 : decode cX3_isSureByTwo 40 = .ok (.goto (-25), 3) := by decide +kernel
theorem dX3_isSureByTwo_43 : decode cX3_isSureByTwo 43 = .ok (.iload_n 3, 1) := by decide +kernel
theorem dX3_isSureByTwo_44 : decode cX3_isSureByTwo 44 = .ok (.ifCond .ne 7, 3) := by decide +kernel
theorem dX3_isSureByTwo_47 : decode cX3_isSureByTwo 47 = .ok (.iconst 1, 1) := by decide +kernel
theorem dX3_isSureByTwo_48 : decode cX3_isSureByTwo 48 = .ok (.goto 4, 3) := by decide +kernel
theorem dX3_isSureByTwo_51 : decode cX3_isSureByTwo 51 = .ok (.iconst 0, 1) := by decide +kernel
theorem dX3_isSureByTwo_52 : decode cX3_isSureByTwo 52 = .ok (.ireturn, 1) := by decide +kernel
theorem dX3_stillUnsure_0 : decode cX3_stillUnsure 0 = .ok (.aload_n 0, 1) := by decide +kernel
theorem dX3_stillUnsure_1 : decode cX3_stillUnsure 1 = .ok (.getfield 23, 3) := by decide +kernel
theorem dX3_stillUnsure_4 : decode cX3_stillUnsure 4 = .ok (.invokevirtual 44, 3) := by decide +kernel
theorem dX3_stillUnsure_7 : decode cX3_stillUnsure 7 = .ok (.iconst 0, 1) := by decide +kernel
theorem dX3_stillUnsure_8 : decode cX3_stillUnsure 8 = .ok (.istore 5, 2) := by decide +kernel
theorem dX3_stillUnsure_10 : decode cX3_stillUnsure 10 = .ok (.aload_n 0, 1) := by decide +kernel
theorem dX3_stillUnsure_11 : decode cX3_stillUnsure 11 = .ok (.getfield 30, 3) := by decide +kernel
theorem dX3_stillUnsure_14 : decode cX3_stillUnsure 14 = .ok (.invokevirtual 47, 3) := by decide +kernel
theorem dX3_stillUnsure_17 : decode cX3_stillUnsure 17 = .ok (.istore 6, 2) := by decide +kernel
theorem dX3_stillUnsure_19 : decode cX3_stillUnsure 19 = .ok (.iconst (-1), 1) := by decide +kernel
theorem dX3_stillUnsure_20 : decode cX3_stillUnsure 20 = .ok (.istore 7, 2) := by decide +kernel
theorem dX3_stillUnsure_22 : decode cX3_stillUnsure 22 = .ok (.iconst 0, 1) := by decide +kernel
theorem dX3_stillUnsure_23 : decode cX3_stillUnsure 23 = .ok (.istore 8, 2) := by decide +kernel
theorem dX3_stillUnsure_25 : decode cX3_stillUnsure 25 = .ok (.iload 8, 2) := by decide +kernel
theorem dX3_stillUnsure_27 : decode cX3_stillUnsure 27 = .ok (.iload 6, 2) := by decide +kernel
theorem dX3_stillUnsure_29 : decode cX3_stillUnsure 29 = .ok (.if_icmp .ge 105, 3) := by decide +kernel
theorem dX3_stillUnsure_32 : decode cX3_stillUnsure 32 = .ok (.iload 5, 2) := by decide +kernel
theorem dX3_stillUnsure_34 : decode cX3_stillUnsure 34 = .ok (.iload_n 1, 1) := by decide +kernel
theorem dX3_stillUnsure_35 : decode cX3_stillUnsure 35 = .ok (.if_icmp .eq 99, 3) := by decide +kernel
theorem dX3_stillUnsure_38 : decode cX3_stillUnsure 38 = .ok (.aload_n 0, 1) := by decide +kernel
theorem dX3_stillUnsure_39 : decode cX3_stillUnsure 39 = .ok (.getfield 30, 3) := by decide +kernel
theorem dX3_stillUnsure_42 : decode cX3_stillUnsure 42 = .ok (.iload 7, 2) := by decide +kernel
theorem dX3_stillUnsure_44 : decode cX3_stillUnsure 44 = .ok (.invokevirtual 52, 3) := by decide +kernel
theorem dX3_stillUnsure_47 : decode cX3_stillUnsure 47 = .ok (.istore 7, 2) := by decide +kernel
theorem dX3_stillUnsure_49 : decode cX3_stillUnsure 49 = .ok (.aload_n 0, 1) := by decide +kernel
theorem dX3_stillUnsure_50 : decode cX3_stillUnsure 50 = .ok (.iload 7, 2) := by decide +kernel
theorem dX3_stillUnsure_52 : decode cX3_stillUnsure 52 = .ok (.iload_n 2, 1) := by decide +kernel
theorem dX3_stillUnsure_53 : decode cX3_stillUnsure 53 = .ok (.invokevirtual 55, 3) := by decide +kernel
theorem dX3_stillUnsure_56 : decode cX3_stillUnsure 56 = .ok (.istore 9, 2) := by decide +kernel
theorem dX3_stillUnsure_58 : decode cX3_stillUnsure 58 = .ok (.iload 9, 2) := by decide +kernel
theorem dX3_stillUnsure_60 : decode cX3_stillUnsure 60 = .ok (.bipush 20, 2) := by decide +kernel
theorem dX3_stillUnsure_62 : decode cX3_stillUnsure 62 = .ok (.imul, 1) := by decide +kernel
theorem dX3_stillUnsure_63 : decode cX3_stillUnsure 63 = .ok (.aload_n 0, 1) := by decide +kernel
theorem dX3_stillUnsure_64 : decode cX3_stillUnsure 64 = .ok (.iload 7, 2) := by decide +kernel
theorem dX3_stillUnsure_66 : decode cX3_stillUnsure 66 = .ok (.iload_n 3, 1) := by decide +kernel
theorem dX3_stillUnsure_67 : decode cX3_stillUnsure 67 = .ok (.invokevirtual 55, 3) := by decide +kernel
theorem dX3_stillUnsure_70 : decode cX3_stillUnsure 70 = .ok (.iadd, 1) := by decide +kernel
theorem dX3_stillUnsure_71 : decode cX3_stillUnsure 71 = .ok (.istore 10, 2) := by decide +kernel
theorem dX3_stillUnsure_73 : decode cX3_stillUnsure 73 = .ok (.iload_n 1, 1) := by decide +kernel
theorem dX3_stillUnsure_74 : decode cX3_stillUnsure 74 = .ok (.iload 5, 2) := by decide +kernel
theorem dX3_stillUnsure_76 : decode cX3_stillUnsure 76 = .ok (.iconst (-1), 1) := by decide +kernel
theorem dX3_stillUnsure_77 : decode cX3_stillUnsure 77 = .ok (.ixor, 1) := by decide +kernel
theorem dX3_stillUnsure_78 : decode cX3_stillUnsure 78 = .ok (.iand, 1) := by decide +kernel
theorem dX3_stillUnsure_79 : decode cX3_stillUnsure 79 = .ok (.iload 9, 2) := by decide +kernel
theorem dX3_stillUnsure_81 : decode cX3_stillUnsure 81 = .ok (.ishr, 1) := by decide +kernel
theorem dX3_stillUnsure_82 : decode cX3_stillUnsure 82 = .ok (.iconst 1, 1) := by decide +kernel
theorem dX3_stillUnsure_83 : decode cX3_stillUnsure 83 = .ok (.iand, 1) := by decide +kernel
theorem dX3_stillUnsure_84 : decode cX3_stillUnsure 84 = .ok (.iconst 1, 1) := by decide +kernel
theorem dX3_stillUnsure_85 : decode cX3_stillUnsure 85 = .ok (.if_icmp .ne 7, 3) := by decide +kernel
theorem dX3_stillUnsure_88 : decode cX3_stillUnsure 88 = .ok (.iconst 1, 1) := by decide +kernel
theorem dX3_stillUnsure_89 : decode cX3_stillUnsure 89 = .ok (.goto 4, 3) := by decide +kernel
theorem dX3_stillUnsure_92 : decode cX3_stillUnsure 92 = .ok (.iconst 0, 1) := by decide +kernel
theorem dX3_stillUnsure_93 : decode cX3_stillUnsure 93 = .ok (.istore 11, 2) := by decide +kernel
theorem dX3_stillUnsure_95 : decode cX3_stillUnsure 95 = .ok (.iload 11, 2) := by decide +kernel
theorem dX3_stillUnsure_97 : decode cX3_stillUnsure 97 = .ok (.ifCond .eq 31, 3) := by decide +kernel
theorem dX3_stillUnsure_100 : decode cX3_stillUnsure 100 = .ok (.aload_n 0, 1) := by decide +kernel
theorem dX3_stillUnsure_101 : decode cX3_stillUnsure 101 = .ok (.getfield 23, 3) := by decide +kernel
theorem dX3_stillUnsure_104 : decode cX3_stillUnsure 104 = .ok (.iload 10, 2) := by decide +kernel
theorem dX3_stillUnsure_106 : decode cX3_stillUnsure 106 = .ok (.iload 7, 2) := by decide +kernel
theorem dX3_stillUnsure_108 : decode cX3_stillUnsure 108 = .ok (.iload 4, 2) := by decide +kernel
theorem dX3_stillUnsure_110 : decode cX3_stillUnsure 110 = .ok (.invokestatic 81, 3) := by decide +kernel
theorem dX3_stillUnsure_113 : decode cX3_stillUnsure 113 = .ok (.invokestatic 84, 3) := by decide +kernel
theorem dX3_stillUnsure_116 : decode cX3_stillUnsure 116 = .ok (.ifCond .eq 12, 3) := by decide +kernel
theorem dX3_stillUnsure_119 : decode cX3_stillUnsure 119 = .ok (.iload 5, 2) := by decide +kernel
theorem dX3_stillUnsure_121 : decode cX3_stillUnsure 121 = .ok (.iconst 1, 1) := by decide +kernel
theorem dX3_stillUnsure_122 : decode cX3_stillUnsure 122 = .ok (.iload 9, 2) := by decide +kernel
theorem dX3_stillUnsure_124 : decode cX3_stillUnsure 124 = .ok (.ishl, 1) := by decide +kernel
theorem dX3_stillUnsure_125 : decode cX3_stillUnsure 125 = .ok (.ior, 1) := by decide +kernel
theorem dX3_stillUnsure_126 : decode cX3_stillUnsure 126 = .ok (.istore 5, 2) := by decide +kernel
theorem dX3_stillUnsure_128 : decode cX3_stillUnsure 128 = .ok (.iinc 8 1, 3) := by decide +kernel
theorem dX3_stillUnsure_131 : decode cX3_stillUnsure 131 = .ok (.goto (-106), 3) := by decide +kernel
theorem dX3_stillUnsure_134 : decode cX3_stillUnsure 134 = .ok (.iload 5, 2) := by decide +kernel
theorem dX3_stillUnsure_136 : decode cX3_stillUnsure 136 = .ok (.ireturn, 1) := by decide +kernel
theorem dX3_isTorn_0 : decode cX3_isTorn 0 = .ok (.aload_n 0, 1) := by decide +kernel
theorem dX3_isTorn_1 : decode cX3_isTorn 1 = .ok (.iload_n 1, 1) := by decide +kernel
theorem dX3_isTorn_2 : decode cX3_isTorn 2 = .ok (.iconst 1, 1) := by decide +kernel
theorem dX3_isTorn_3 : decode cX3_isTorn 3 = .ok (.iload_n 2, 1) := by decide +kernel
theorem dX3_isTorn_4 : decode cX3_isTorn 4 = .ok (.ishl, 1) := by decide +kernel
theorem dX3_isTorn_5 : decode cX3_isTorn 5 = .ok (.invokevirtual 95, 3) := by decide +kernel
theorem dX3_isTorn_8 : decode cX3_isTorn 8 = .ok (.aload_n 0, 1) := by decide +kernel
theorem dX3_isTorn_9 : decode cX3_isTorn 9 = .ok (.iload_n 1, 1) := by decide +kernel
theorem dX3_isTorn_10 : decode cX3_isTorn 10 = .ok (.invokevirtual 63, 3) := by decide +kernel
theorem dX3_isTorn_13 : decode cX3_isTorn 13 = .ok (.invokestatic 98, 3) := by decide +kernel
theorem dX3_isTorn_16 : decode cX3_isTorn 16 = .ok (.iconst 1, 1) := by decide +kernel
theorem dX3_isTorn_17 : decode cX3_isTorn 17 = .ok (.if_icmp .le 7, 3) := by decide +kernel
theorem dX3_isTorn_20 : decode cX3_isTorn 20 = .ok (.iconst 1, 1) := by decide +kernel
theorem dX3_isTorn_21 : decode cX3_isTorn 21 = .ok (.goto 4, 3) := by decide +kernel
theorem dX3_isTorn_24 : decode cX3_isTorn 24 = .ok (.iconst 0, 1) := by decide +kernel
theorem dX3_isTorn_25 : decode cX3_isTorn 25 = .ok (.ireturn, 1) := by decide +kernel
theorem dX3_shownIn_0 : decode cX3_shownIn 0 = .ok (.aload_n 0, 1) := by decide +kernel
theorem dX3_shownIn_1 : decode cX3_shownIn 1 = .ok (.getfield 26, 3) := by decide +kernel
theorem dX3_shownIn_4 : decode cX3_shownIn 4 = .ok (.iload_n 1, 1) := by decide +kernel
theorem dX3_shownIn_5 : decode cX3_shownIn 5 = .ok (.iload_n 2, 1) := by decide +kernel
theorem dX3_shownIn_6 : decode cX3_shownIn 6 = .ok (.invokestatic 103, 3) := by decide +kernel
theorem dX3_shownIn_9 : decode cX3_shownIn 9 = .ok (.invokevirtual 106, 3) := by decide +kernel
theorem dX3_shownIn_12 : decode cX3_shownIn 12 = .ok (.ireturn, 1) := by decide +kernel
theorem dX5_init_0 : decode cX5_init 0 = .ok (.aload_n 0, 1) := by decide +kernel
theorem dX5_init_1 : decode cX5_init 1 = .ok (.invokespecial 1, 3) := by decide +kernel
theorem dX5_init_4 : decode cX5_init 4 = .ok (.aload_n 0, 1) := by decide +kernel
theorem dX5_init_5 : decode cX5_init 5 = .ok (.iload_n 1, 1) := by decide +kernel
theorem dX5_init_6 : decode cX5_init 6 = .ok (.ifCond .ge 7, 3) := by decide +kernel
theorem dX5_init_9 : decode cX5_init 9 = .ok (.iconst 0, 1) := by decide +kernel
theorem dX5_init_10 : decode cX5_init 10 = .ok (.goto 4, 3) := by decide +kernel
theorem dX5_init_13 : decode cX5_init 13 = .ok (.iload_n 1, 1) := by decide +kernel
theorem dX5_init_14 : decode cX5_init 14 = .ok (.newarray .int, 2) := by decide +kernel
theorem dX5_init_16 : decode cX5_init 16 = .ok (.putfield 7, 3) := by decide +kernel
theorem dX5_init_19 : decode cX5_init 19 = .ok (.return_, 1) := by decide +kernel
theorem dX5_get_0 : decode cX5_get 0 = .ok (.iload_n 1, 1) := by decide +kernel
theorem dX5_get_1 : decode cX5_get 1 = .ok (.ifCond .lt 21, 3) := by decide +kernel
theorem dX5_get_4 : decode cX5_get 4 = .ok (.iload_n 1, 1) := by decide +kernel
theorem dX5_get_5 : decode cX5_get 5 = .ok (.aload_n 0, 1) := by decide +kernel
theorem dX5_get_6 : decode cX5_get 6 = .ok (.getfield 7, 3) := by decide +kernel
theorem dX5_get_9 : decode cX5_get 9 = .ok (.arraylength, 1) := by decide +kernel
theorem dX5_get_10 : decode cX5_get 10 = .ok (.if_icmp .ge 12, 3) := by decide +kernel
theorem dX5_get_13 : decode cX5_get 13 = .ok (.aload_n 0, 1) := by decide +kernel
theorem dX5_get_14 : decode cX5_get 14 = .ok (.getfield 7, 3) := by decide +kernel
theorem dX5_get_17 : decode cX5_get 17 = .ok (.iload_n 1, 1) := by decide +kernel
theorem dX5_get_18 : decode cX5_get 18 = .ok (.iaload, 1) := by decide +kernel
theorem dX5_get_19 : decode cX5_get 19 = .ok (.goto 4, 3) := by decide +kernel
theorem dX5_get_22 : decode cX5_get 22 = .ok (.iconst 0, 1) := by decide +kernel
theorem dX5_get_23 : decode cX5_get 23 = .ok (.ireturn, 1) := by decide +kernel
theorem dX5_put_0 : decode cX5_put 0 = .ok (.iload_n 1, 1) := by decide +kernel
theorem dX5_put_1 : decode cX5_put 1 = .ok (.ifCond .lt 19, 3) := by decide +kernel
theorem dX5_put_4 : decode cX5_put 4 = .ok (.iload_n 1, 1) := by decide +kernel
theorem dX5_put_5 : decode cX5_put 5 = .ok (.aload_n 0, 1) := by decide +kernel
theorem dX5_put_6 : decode cX5_put 6 = .ok (.getfield 7, 3) := by decide +kernel
theorem dX5_put_9 : decode cX5_put 9 = .ok (.arraylength, 1) := by decide +kernel
theorem dX5_put_10 : decode cX5_put 10 = .ok (.if_icmp .ge 10, 3) := by decide +kernel
theorem dX5_put_13 : decode cX5_put 13 = .ok (.aload_n 0, 1) := by decide +kernel
theorem dX5_put_14 : decode cX5_put 14 = .ok (.getfield 7, 3) := by decide +kernel
theorem dX5_put_17 : decode cX5_put 17 = .ok (.iload_n 1, 1) := by decide +kernel
theorem dX5_put_18 : decode cX5_put 18 = .ok (.iload_n 2, 1) := by decide +kernel
theorem dX5_put_19 : decode cX5_put 19 = .ok (.iastore, 1) := by decide +kernel
theorem dX5_put_20 : decode cX5_put 20 = .ok (.return_, 1) := by decide +kernel
theorem dX5_add_0 : decode cX5_add 0 = .ok (.iload_n 1, 1) := by decide +kernel
theorem dX5_add_1 : decode cX5_add 1 = .ok (.ifCond .lt 22, 3) := by decide +kernel
theorem dX5_add_4 : decode cX5_add 4 = .ok (.iload_n 1, 1) := by decide +kernel
theorem dX5_add_5 : decode cX5_add 5 = .ok (.aload_n 0, 1) := by decide +kernel
theorem dX5_add_6 : decode cX5_add 6 = .ok (.getfield 7, 3) := by decide +kernel
theorem dX5_add_9 : decode cX5_add 9 = .ok (.arraylength, 1) := by decide +kernel
theorem dX5_add_10 : decode cX5_add 10 = .ok (.if_icmp .ge 13, 3) := by decide +kernel
theorem dX5_add_13 : decode cX5_add 13 = .ok (.aload_n 0, 1) := by decide +kernel
theorem dX5_add_14 : decode cX5_add 14 = .ok (.getfield 7, 3) := by decide +kernel
theorem dX5_add_17 : decode cX5_add 17 = .ok (.iload_n 1, 1) := by decide +kernel
theorem dX5_add_18 : decode cX5_add 18 = .ok (.dup2, 1) := by decide +kernel
theorem dX5_add_19 : decode cX5_add 19 = .ok (.iaload, 1) := by decide +kernel
theorem dX5_add_20 : decode cX5_add 20 = .ok (.iload_n 2, 1) := by decide +kernel
theorem dX5_add_21 : decode cX5_add 21 = .ok (.iadd, 1) := by decide +kernel
theorem dX5_add_22 : decode cX5_add 22 = .ok (.iastore, 1) := by decide +kernel
theorem dX5_add_23 : decode cX5_add 23 = .ok (.return_, 1) := by decide +kernel
theorem dX5_join_0 : decode cX5_join 0 = .ok (.iload_n 1, 1) := by decide +kernel
theorem dX5_join_1 : decode cX5_join 1 = .ok (.ifCond .lt 22, 3) := by decide +kernel
theorem dX5_join_4 : decode cX5_join 4 = .ok (.iload_n 1, 1) := by decide +kernel
theorem dX5_join_5 : decode cX5_join 5 = .ok (.aload_n 0, 1) := by decide +kernel
theorem dX5_join_6 : decode cX5_join 6 = .ok (.getfield 7, 3) := by decide +kernel
theorem dX5_join_9 : decode cX5_join 9 = .ok (.arraylength, 1) := by decide +kernel
theorem dX5_join_10 : decode cX5_join 10 = .ok (.if_icmp .ge 13, 3) := by decide +kernel
theorem dX5_join_13 : decode cX5_join 13 = .ok (.aload_n 0, 1) := by decide +kernel
theorem dX5_join_14 : decode cX5_join 14 = .ok (.getfield 7, 3) := by decide +kernel
theorem dX5_join_17 : decode cX5_join 17 = .ok (.iload_n 1, 1) := by decide +kernel
theorem dX5_join_18 : decode cX5_join 18 = .ok (.dup2, 1) := by decide +kernel
theorem dX5_join_19 : decode cX5_join 19 = .ok (.iaload, 1) := by decide +kernel
theorem dX5_join_20 : decode cX5_join 20 = .ok (.iload_n 2, 1) := by decide +kernel
theorem dX5_join_21 : decode cX5_join 21 = .ok (.ior, 1) := by decide +kernel
theorem dX5_join_22 : decode cX5_join 22 = .ok (.iastore, 1) := by decide +kernel
theorem dX5_join_23 : decode cX5_join 23 = .ok (.return_, 1) := by decide +kernel
theorem dX5_wipe_0 : decode cX5_wipe 0 = .ok (.iconst 0, 1) := by decide +kernel
theorem dX5_wipe_1 : decode cX5_wipe 1 = .ok (.istore_n 1, 1) := by decide +kernel
theorem dX5_wipe_2 : decode cX5_wipe 2 = .ok (.iload_n 1, 1) := by decide +kernel
theorem dX5_wipe_3 : decode cX5_wipe 3 = .ok (.aload_n 0, 1) := by decide +kernel
theorem dX5_wipe_4 : decode cX5_wipe 4 = .ok (.getfield 7, 3) := by decide +kernel
theorem dX5_wipe_7 : decode cX5_wipe 7 = .ok (.arraylength, 1) := by decide +kernel
theorem dX5_wipe_8 : decode cX5_wipe 8 = .ok (.if_icmp .ge 16, 3) := by decide +kernel
theorem dX5_wipe_11 : decode cX5_wipe 11 = .ok (.aload_n 0, 1) := by decide +kernel
theorem dX5_wipe_12 : decode cX5_wipe 12 = .ok (.getfield 7, 3) := by decide +kernel
theorem dX5_wipe_15 : decode cX5_wipe 15 = .ok (.iload_n 1, 1) := by decide +kernel
theorem dX5_wipe_16 : decode cX5_wipe 16 = .ok (.iconst 0, 1) := by decide +kernel
theorem dX5_wipe_17 : decode cX5_wipe 17 = .ok (.iastore, 1) := by decide +kernel
theorem dX5_wipe_18 : decode cX5_wipe 18 = .ok (.iinc 1 1, 3) := by decide +kernel
theorem dX5_wipe_21 : decode cX5_wipe 21 = .ok (.goto (-19), 3) := by decide +kernel
theorem dX5_wipe_24 : decode cX5_wipe 24 = .ok (.return_, 1) := by decide +kernel
theorem dX5_copyFrom_0 : decode cX5_copyFrom 0 = .ok (.iconst 0, 1) := by decide +kernel
theorem dX5_copyFrom_1 : decode cX5_copyFrom 1 = .ok (.istore_n 2, 1) := by decide +kernel
theorem dX5_copyFrom_2 : decode cX5_copyFrom 2 = .ok (.iload_n 2, 1) := by decide +kernel
theorem dX5_copyFrom_3 : decode cX5_copyFrom 3 = .ok (.aload_n 0, 1) := by decide +kernel
theorem dX5_copyFrom_4 : decode cX5_copyFrom 4 = .ok (.getfield 7, 3) := by decide +kernel
theorem dX5_copyFrom_7 : decode cX5_copyFrom 7 = .ok (.arraylength, 1) := by decide +kernel
theorem dX5_copyFrom_8 : decode cX5_copyFrom 8 = .ok (.if_icmp .ge 20, 3) := by decide +kernel
theorem dX5_copyFrom_11 : decode cX5_copyFrom 11 = .ok (.aload_n 0, 1) := by decide +kernel
theorem dX5_copyFrom_12 : decode cX5_copyFrom 12 = .ok (.getfield 7, 3) := by decide +kernel
theorem dX5_copyFrom_15 : decode cX5_copyFrom 15 = .ok (.iload_n 2, 1) := by decide +kernel
theorem dX5_copyFrom_16 : decode cX5_copyFrom 16 = .ok (.aload_n 1, 1) := by decide +kernel
theorem dX5_copyFrom_17 : decode cX5_copyFrom 17 = .ok (.iload_n 2, 1) := by decide +kernel
theorem dX5_copyFrom_18 : decode cX5_copyFrom 18 = .ok (.invokevirtual 13, 3) := by decide +kernel
theorem dX5_copyFrom_21 : decode cX5_copyFrom 21 = .ok (.iastore, 1) := by decide +kernel
theorem dX5_copyFrom_22 : decode cX5_copyFrom 22 = .ok (.iinc 2 1, 3) := by decide +kernel
theorem dX5_copyFrom_25 : decode cX5_copyFrom 25 = .ok (.goto (-23), 3) := by decide +kernel
theorem dX5_copyFrom_28 : decode cX5_copyFrom 28 = .ok (.return_, 1) := by decide +kernel
theorem dX6_init_0 : decode cX6_init 0 = .ok (.aload_n 0, 1) := by decide +kernel
theorem dX6_init_1 : decode cX6_init 1 = .ok (.invokespecial 3, 3) := by decide +kernel
theorem dX6_init_4 : decode cX6_init 4 = .ok (.aload_n 0, 1) := by decide +kernel
theorem dX6_init_5 : decode cX6_init 5 = .ok (.new 9, 3) := by decide +kernel
theorem dX6_init_8 : decode cX6_init 8 = .ok (.dup, 1) := by decide +kernel
theorem dX6_init_9 : decode cX6_init 9 = .ok (.iconst 3, 1) := by decide +kernel
theorem dX6_init_10 : decode cX6_init 10 = .ok (.invokespecial 11, 3) := by decide +kernel
theorem dX6_init_13 : decode cX6_init 13 = .ok (.putfield 14, 3) := by decide +kernel
theorem dX6_init_16 : decode cX6_init 16 = .ok (.aload_n 0, 1) := by decide +kernel
theorem dX6_init_17 : decode cX6_init 17 = .ok (.new 9, 3) := by decide +kernel
theorem dX6_init_20 : decode cX6_init 20 = .ok (.dup, 1) := by decide +kernel
theorem dX6_init_21 : decode cX6_init 21 = .ok (.bipush 8, 2) := by decide +kernel
theorem dX6_init_23 : decode cX6_init 23 = .ok (.invokespecial 11, 3) := by decide +kernel
theorem dX6_init_26 : decode cX6_init 26 = .ok (.putfield 20, 3) := by decide +kernel
theorem dX6_init_29 : decode cX6_init 29 = .ok (.aload_n 0, 1) := by decide +kernel
theorem dX6_init_30 : decode cX6_init 30 = .ok (.bipush 10, 2) := by decide +kernel
theorem dX6_init_32 : decode cX6_init 32 = .ok (.putfield 23, 3) := by decide +kernel
theorem dX6_init_35 : decode cX6_init 35 = .ok (.return_, 1) := by decide +kernel
theorem dX6_reset_0 : decode cX6_reset 0 = .ok (.aload_n 0, 1) := by decide +kernel
theorem dX6_reset_1 : decode cX6_reset 1 = .ok (.iconst 0, 1) := by decide +kernel
theorem dX6_reset_2 : decode cX6_reset 2 = .ok (.putfield 27, 3) := by decide +kernel
theorem dX6_reset_5 : decode cX6_reset 5 = .ok (.aload_n 0, 1) := by decide +kernel
theorem dX6_reset_6 : decode cX6_reset 6 = .ok (.iconst 0, 1) := by decide +kernel
theorem dX6_reset_7 : decode cX6_reset 7 = .ok (.putfield 30, 3) := by decide +kernel
theorem dX6_reset_10 : decode cX6_reset 10 = .ok (.aload_n 0, 1) := by decide +kernel
theorem dX6_reset_11 : decode cX6_reset 11 = .ok (.bipush 10, 2) := by decide +kernel
theorem dX6_reset_13 : decode cX6_reset 13 = .ok (.putfield 23, 3) := by decide +kernel
theorem dX6_reset_16 : decode cX6_reset 16 = .ok (.return_, 1) := by decide +kernel
theorem dX6_copyFrom_0 : decode cX6_copyFrom 0 = .ok (.aload_n 0, 1) := by decide +kernel
theorem dX6_copyFrom_1 : decode cX6_copyFrom 1 = .ok (.getfield 14, 3) := by decide +kernel
theorem dX6_copyFrom_4 : decode cX6_copyFrom 4 = .ok (.aload_n 1, 1) := by decide +kernel
theorem dX6_copyFrom_5 : decode cX6_copyFrom 5 = .ok (.getfield 14, 3) := by decide +kernel
theorem dX6_copyFrom_8 : decode cX6_copyFrom 8 = .ok (.invokevirtual 33, 3) := by decide +kernel
theorem dX6_copyFrom_11 : decode cX6_copyFrom 11 = .ok (.aload_n 0, 1) := by decide +kernel
theorem dX6_copyFrom_12 : decode cX6_copyFrom 12 = .ok (.aload_n 1, 1) := by decide +kernel
theorem dX6_copyFrom_13 : decode cX6_copyFrom 13 = .ok (.getfield 27, 3) := by decide +kernel
theorem dX6_copyFrom_16 : decode cX6_copyFrom 16 = .ok (.putfield 27, 3) := by decide +kernel
theorem dX6_copyFrom_19 : decode cX6_copyFrom 19 = .ok (.aload_n 0, 1) := by decide +kernel
theorem dX6_copyFrom_20 : decode cX6_copyFrom 20 = .ok (.aload_n 1, 1) := by decide +kernel
theorem dX6_copyFrom_21 : decode cX6_copyFrom 21 = .ok (.getfield 30, 3) := by decide +kernel
theorem dX6_copyFrom_24 : decode cX6_copyFrom 24 = .ok (.putfield 30, 3) := by decide +kernel
theorem dX6_copyFrom_27 : decode cX6_copyFrom 27 = .ok (.aload_n 0, 1) := by decide +kernel
theorem dX6_copyFrom_28 : decode cX6_copyFrom 28 = .ok (.aload_n 1, 1) := by decide +kernel
theorem dX6_copyFrom_29 : decode cX6_copyFrom 29 = .ok (.getfield 23, 3) := by decide +kernel
theorem dX6_copyFrom_32 : decode cX6_copyFrom 32 = .ok (.putfield 23, 3) := by decide +kernel
theorem dX6_copyFrom_35 : decode cX6_copyFrom 35 = .ok (.return_, 1) := by decide +kernel
theorem dX6_addThing_0 : decode cX6_addThing 0 = .ok (.aload_n 0, 1) := by decide +kernel
theorem dX6_addThing_1 : decode cX6_addThing 1 = .ok (.getfield 27, 3) := by decide +kernel
theorem dX6_addThing_4 : decode cX6_addThing 4 = .ok (.iconst 3, 1) := by decide +kernel
theorem dX6_addThing_5 : decode cX6_addThing 5 = .ok (.if_icmp .ge 25, 3) := by decide +kernel
theorem dX6_addThing_8 : decode cX6_addThing 8 = .ok (.aload_n 0, 1) := by decide +kernel
theorem dX6_addThing_9 : decode cX6_addThing 9 = .ok (.getfield 14, 3) := by decide +kernel
theorem dX6_addThing_12 : decode cX6_addThing 12 = .ok (.aload_n 0, 1) := by decide +kernel
theorem dX6_addThing_13 : decode cX6_addThing 13 = .ok (.getfield 27, 3) := by decide +kernel
theorem dX6_addThing_16 : decode cX6_addThing 16 = .ok (.iload_n 1, 1) := by decide +kernel
theorem dX6_addThing_17 : decode cX6_addThing 17 = .ok (.invokevirtual 37, 3) := by decide +kernel
theorem dX6_addThing_20 : decode cX6_addThing 20 = .ok (.aload_n 0, 1) := by decide +kernel
theorem dX6_addThing_21 : decode cX6_addThing 21 = .ok (.dup, 1) := by decide +kernel
theorem dX6_addThing_22 : decode cX6_addThing 22 = .ok (.getfield 27, 3) := by decide +kernel
theorem dX6_addThing_25 : decode cX6_addThing 25 = .ok (.iconst 1, 1) := by decide +kernel
theorem dX6_addThing_26 : decode cX6_addThing 26 = .ok (.iadd, 1) := by decide +kernel
theorem dX6_addThing_27 : decode cX6_addThing 27 = .ok (.putfield 27, 3) := by decide +kernel
theorem dX6_addThing_30 : decode cX6_addThing 30 = .ok (.return_, 1) := by decide +kernel
theorem dX6_setOwn_0 : decode cX6_setOwn 0 = .ok (.aload_n 0, 1) := by decide +kernel
theorem dX6_setOwn_1 : decode cX6_setOwn 1 = .ok (.iload_n 1, 1) := by decide +kernel
theorem dX6_setOwn_2 : decode cX6_setOwn 2 = .ok (.putfield 30, 3) := by decide +kernel
theorem dX6_setOwn_5 : decode cX6_setOwn 5 = .ok (.return_, 1) := by decide +kernel
theorem dX6_setFigures_0 : decode cX6_setFigures 0 = .ok (.aload_n 0, 1) := by decide +kernel
theorem dX6_setFigures_1 : decode cX6_setFigures 1 = .ok (.iload_n 1, 1) := by decide +kernel
theorem dX6_setFigures_2 : decode cX6_setFigures 2 = .ok (.putfield 23, 3) := by decide +kernel
theorem dX6_setFigures_5 : decode cX6_setFigures 5 = .ok (.return_, 1) := by decide +kernel
theorem dX6_things_0 : decode cX6_things 0 = .ok (.aload_n 0, 1) := by decide +kernel
theorem dX6_things_1 : decode cX6_things 1 = .ok (.getfield 27, 3) := by decide +kernel
theorem dX6_things_4 : decode cX6_things 4 = .ok (.ireturn, 1) := by decide +kernel
theorem dX6_sets_0 : decode cX6_sets 0 = .ok (.iconst 1, 1) := by decide +kernel
theorem dX6_sets_1 : decode cX6_sets 1 = .ok (.aload_n 0, 1) := by decide +kernel
theorem dX6_sets_2 : decode cX6_sets 2 = .ok (.getfield 27, 3) := by decide +kernel
theorem dX6_sets_5 : decode cX6_sets 5 = .ok (.ishl, 1) := by decide +kernel
theorem dX6_sets_6 : decode cX6_sets 6 = .ok (.ireturn, 1) := by decide +kernel
theorem dX6_own_0 : decode cX6_own 0 = .ok (.aload_n 0, 1) := by decide +kernel
theorem dX6_own_1 : decode cX6_own 1 = .ok (.getfield 30, 3) := by decide +kernel
theorem dX6_own_4 : decode cX6_own 4 = .ok (.ireturn, 1) := by decide +kernel
theorem dX6_figures_0 : decode cX6_figures 0 = .ok (.aload_n 0, 1) := by decide +kernel
theorem dX6_figures_1 : decode cX6_figures 1 = .ok (.getfield 23, 3) := by decide +kernel
theorem dX6_figures_4 : decode cX6_figures 4 = .ok (.ireturn, 1) := by decide +kernel
theorem dX6_weightOf_0 : decode cX6_weightOf 0 = .ok (.iload_n 1, 1) := by decide +kernel
theorem dX6_weightOf_1 : decode cX6_weightOf 1 = .ok (.iconst 3, 1) := by decide +kernel
theorem dX6_weightOf_2 : decode cX6_weightOf 2 = .ok (.if_icmp .ne 10, 3) := by decide +kernel
theorem dX6_weightOf_5 : decode cX6_weightOf 5 = .ok (.aload_n 0, 1) := by decide +kernel
theorem dX6_weightOf_6 : decode cX6_weightOf 6 = .ok (.getfield 30, 3) := by decide +kernel
theorem dX6_weightOf_9 : decode cX6_weightOf 9 = .ok (.goto 11, 3) := by decide +kernel
theorem dX6_weightOf_12 : decode cX6_weightOf 12 = .ok (.aload_n 0, 1) := by decide +kernel
theorem dX6_weightOf_13 : decode cX6_weightOf 13 = .ok (.getfield 14, 3) := by decide +kernel
theorem dX6_weightOf_16 : decode cX6_weightOf 16 = .ok (.iload_n 1, 1) := by decide +kernel
theorem dX6_weightOf_17 : decode cX6_weightOf 17 = .ok (.invokevirtual 41, 3) := by decide +kernel
theorem dX6_weightOf_20 : decode cX6_weightOf 20 = .ok (.ireturn, 1) := by decide +kernel
theorem dX6_loadOf_0 : decode cX6_loadOf 0 = .ok (.iconst 0, 1) := by decide +kernel
theorem dX6_loadOf_1 : decode cX6_loadOf 1 = .ok (.istore_n 2, 1) := by decide +kernel
theorem dX6_loadOf_2 : decode cX6_loadOf 2 = .ok (.iconst 0, 1) := by decide +kernel
theorem dX6_loadOf_3 : decode cX6_loadOf 3 = .ok (.istore_n 3, 1) := by decide +kernel
theorem dX6_loadOf_4 : decode cX6_loadOf 4 = .ok (.iload_n 3, 1) := by decide +kernel
theorem dX6_loadOf_5 : decode cX6_loadOf 5 = .ok (.aload_n 0, 1) := by decide +kernel
theorem dX6_loadOf_6 : decode cX6_loadOf 6 = .ok (.getfield 27, 3) := by decide +kernel
theorem dX6_loadOf_9 : decode cX6_loadOf 9 = .ok (.if_icmp .ge 29, 3) := by decide +kernel
theorem dX6_loadOf_12 : decode cX6_loadOf 12 = .ok (.iload_n 1, 1) := by decide +kernel
theorem dX6_loadOf_13 : decode cX6_loadOf 13 = .ok (.iload_n 3, 1) := by decide +kernel
theorem dX6_loadOf_14 : decode cX6_loadOf 14 = .ok (.ishr, 1) := by decide +kernel
theorem dX6_loadOf_15 : decode cX6_loadOf 15 = .ok (.iconst 1, 1) := by decide +kernel
theorem dX6_loadOf_16 : decode cX6_loadOf 16 = .ok (.iand, 1) := by decide +kernel
theorem dX6_loadOf_17 : decode cX6_loadOf 17 = .ok (.iconst 1, 1) := by decide +kernel
theorem dX6_loadOf_18 : decode cX6_loadOf 18 = .ok (.if_icmp .ne 14, 3) := by decide +kernel
theorem dX6_loadOf_21 : decode cX6_loadOf 21 = .ok (.iload_n 2, 1) := by decide +kernel
theorem dX6_loadOf_22 : decode cX6_loadOf 22 = .ok (.aload_n 0, 1) := by decide +kernel
theorem dX6_loadOf_23 : decode cX6_loadOf 23 = .ok (.getfield 14, 3) := by decide +kernel
theorem dX6_loadOf_26 : decode cX6_loadOf 26 = .ok (.iload_n 3, 1) := by decide +kernel
theorem dX6_loadOf_27 : decode cX6_loadOf 27 = .ok (.invokevirtual 41, 3) := by decide +kernel
theorem dX6_loadOf_30 : decode cX6_loadOf 30 = .ok (.iadd, 1) := by decide +kernel
theorem dX6_loadOf_31 : decode cX6_loadOf 31 = .ok (.istore_n 2, 1) := by decide +kernel
theorem dX6_loadOf_32 : decode cX6_loadOf 32 = .ok (.iinc 3 1, 3) := by decide +kernel
theorem dX6_loadOf_35 : decode cX6_loadOf 35 = .ok (.goto (-31), 3) := by decide +kernel
theorem dX6_loadOf_38 : decode cX6_loadOf 38 = .ok (.iload_n 2, 1) := by decide +kernel
theorem dX6_loadOf_39 : decode cX6_loadOf 39 = .ok (.ireturn, 1) := by decide +kernel
theorem dX6_leftOver_0 : decode cX6_leftOver 0 = .ok (.aload_n 0, 1) := by decide +kernel
theorem dX6_leftOver_1 : decode cX6_leftOver 1 = .ok (.getfield 23, 3) := by decide +kernel
theorem dX6_leftOver_4 : decode cX6_leftOver 4 = .ok (.iconst 1, 1) := by decide +kernel
theorem dX6_leftOver_5 : decode cX6_leftOver 5 = .ok (.if_icmp .ge 7, 3) := by decide +kernel
theorem dX6_leftOver_8 : decode cX6_leftOver 8 = .ok (.iconst 0, 1) := by decide +kernel
theorem dX6_leftOver_9 : decode cX6_leftOver 9 = .ok (.goto 9, 3) := by decide +kernel
theorem dX6_leftOver_12 : decode cX6_leftOver 12 = .ok (.iload_n 1, 1) := by decide +kernel
theorem dX6_leftOver_13 : decode cX6_leftOver 13 = .ok (.aload_n 0, 1) := by decide +kernel
theorem dX6_leftOver_14 : decode cX6_leftOver 14 = .ok (.getfield 23, 3) := by decide +kernel
theorem dX6_leftOver_17 : decode cX6_leftOver 17 = .ok (.irem, 1) := by decide +kernel
theorem dX6_leftOver_18 : decode cX6_leftOver 18 = .ok (.ireturn, 1) := by decide +kernel
theorem dX6_sidesOf_0 : decode cX6_sidesOf 0 = .ok (.iconst 4, 1) := by decide +kernel
theorem dX6_sidesOf_1 : decode cX6_sidesOf 1 = .ok (.istore_n 2, 1) := by decide +kernel
theorem dX6_sidesOf_2 : decode cX6_sidesOf 2 = .ok (.iconst (-1), 1) := by decide +kernel
theorem dX6_sidesOf_3 : decode cX6_sidesOf 3 = .ok (.istore_n 3, 1) := by decide +kernel
theorem dX6_sidesOf_4 : decode cX6_sidesOf 4 = .ok (.iconst 0, 1) := by decide +kernel
theorem dX6_sidesOf_5 : decode cX6_sidesOf 5 = .ok (.istore 4, 2) := by decide +kernel
theorem dX6_sidesOf_7 : decode cX6_sidesOf 7 = .ok (.iload 4, 2) := by decide +kernel
theorem dX6_sidesOf_9 : decode cX6_sidesOf 9 = .ok (.aload_n 0, 1) := by decide +kernel
theorem dX6_sidesOf_10 : decode cX6_sidesOf 10 = .ok (.invokevirtual 45, 3) := by decide +kernel
theorem dX6_sidesOf_13 : decode cX6_sidesOf 13 = .ok (.if_icmp .ge 95, 3) := by decide +kernel
theorem dX6_sidesOf_16 : decode cX6_sidesOf 16 = .ok (.iconst 0, 1) := by decide +kernel
theorem dX6_sidesOf_17 : decode cX6_sidesOf 17 = .ok (.istore 5, 2) := by decide +kernel
theorem dX6_sidesOf_19 : decode cX6_sidesOf 19 = .ok (.iload 5, 2) := by decide +kernel
theorem dX6_sidesOf_21 : decode cX6_sidesOf 21 = .ok (.aload_n 0, 1) := by decide +kernel
theorem dX6_sidesOf_22 : decode cX6_sidesOf 22 = .ok (.invokevirtual 45, 3) := by decide +kernel
theorem dX6_sidesOf_25 : decode cX6_sidesOf 25 = .ok (.if_icmp .ge 77, 3) := by decide +kernel
theorem dX6_sidesOf_28 : decode cX6_sidesOf 28 = .ok (.iload 4, 2) := by decide +kernel
theorem dX6_sidesOf_30 : decode cX6_sidesOf 30 = .ok (.invokestatic 49, 3) := by decide +kernel
theorem dX6_sidesOf_33 : decode cX6_sidesOf 33 = .ok (.iload 5, 2) := by decide +kernel
theorem dX6_sidesOf_35 : decode cX6_sidesOf 35 = .ok (.invokestatic 49, 3) := by decide +kernel
theorem dX6_sidesOf_38 : decode cX6_sidesOf 38 = .ok (.iadd, 1) := by decide +kernel
theorem dX6_sidesOf_39 : decode cX6_sidesOf 39 = .ok (.istore 6, 2) := by decide +kernel
theorem dX6_sidesOf_41 : decode cX6_sidesOf 41 = .ok (.iload 4, 2) := by decide +kernel
theorem dX6_sidesOf_43 : decode cX6_sidesOf 43 = .ok (.iload 5, 2) := by decide +kernel
theorem dX6_sidesOf_45 : decode cX6_sidesOf 45 = .ok (.iand, 1) := by decide +kernel
theorem dX6_sidesOf_46 : decode cX6_sidesOf 46 = .ok (.ifCond .ne 24, 3) := by decide +kernel
theorem dX6_sidesOf_49 : decode cX6_sidesOf 49 = .ok (.aload_n 0, 1) := by decide +kernel
theorem dX6_sidesOf_50 : decode cX6_sidesOf 50 = .ok (.iload 4, 2) := by decide +kernel
theorem dX6_sidesOf_52 : decode cX6_sidesOf 52 = .ok (.invokevirtual 54, 3) := by decide +kernel
theorem dX6_sidesOf_55 : decode cX6_sidesOf 55 = .ok (.aload_n 0, 1) := by decide +kernel
theorem dX6_sidesOf_56 : decode cX6_sidesOf 56 = .ok (.iload 5, 2) := by decide +kernel
theorem dX6_sidesOf_58 : decode cX6_sidesOf 58 = .ok (.invokevirtual 54, 3) := by decide +kernel
theorem dX6_sidesOf_61 : decode cX6_sidesOf 61 = .ok (.isub, 1) := by decide +kernel
theorem dX6_sidesOf_62 : decode cX6_sidesOf 62 = .ok (.iload_n 1, 1) := by decide +kernel
theorem dX6_sidesOf_63 : decode cX6_sidesOf 63 = .ok (.if_icmp .ne 7, 3) := by decide +kernel
theorem dX6_sidesOf_66 : decode cX6_sidesOf 66 = .ok (.iconst 1, 1) := by decide +kernel
theorem dX6_sidesOf_67 : decode cX6_sidesOf 67 = .ok (.goto 4, 3) := by decide +kernel
theorem dX6_sidesOf_70 : decode cX6_sidesOf 70 = .ok (.iconst 0, 1) := by decide +kernel
theorem dX6_sidesOf_71 : decode cX6_sidesOf 71 = .ok (.istore 7, 2) := by decide +kernel
theorem dX6_sidesOf_73 : decode cX6_sidesOf 73 = .ok (.iload 7, 2) := by decide +kernel
theorem dX6_sidesOf_75 : decode cX6_sidesOf 75 = .ok (.ifCond .eq 21, 3) := by decide +kernel
theorem dX6_sidesOf_78 : decode cX6_sidesOf 78 = .ok (.iload 6, 2) := by decide +kernel
theorem dX6_sidesOf_80 : decode cX6_sidesOf 80 = .ok (.iload_n 2, 1) := by decide +kernel
theorem dX6_sidesOf_81 : decode cX6_sidesOf 81 = .ok (.if_icmp .ge 15, 3) := by decide +kernel
theorem dX6_sidesOf_84 : decode cX6_sidesOf 84 = .ok (.iload 6, 2) := by decide +kernel
theorem dX6_sidesOf_86 : decode cX6_sidesOf 86 = .ok (.istore_n 2, 1) := by decide +kernel
theorem dX6_sidesOf_87 : decode cX6_sidesOf 87 = .ok (.iload 4, 2) := by decide +kernel
theorem dX6_sidesOf_89 : decode cX6_sidesOf 89 = .ok (.bipush 8, 2) := by decide +kernel
theorem dX6_sidesOf_91 : decode cX6_sidesOf 91 = .ok (.imul, 1) := by decide +kernel
theorem dX6_sidesOf_92 : decode cX6_sidesOf 92 = .ok (.iload 5, 2) := by decide +kernel
theorem dX6_sidesOf_94 : decode cX6_sidesOf 94 = .ok (.iadd, 1) := by decide +kernel
theorem dX6_sidesOf_95 : decode cX6_sidesOf 95 = .ok (.istore_n 3, 1) := by decide +kernel
theorem dX6_sidesOf_96 : decode cX6_sidesOf 96 = .ok (.iinc 5 1, 3) := by decide +kernel
theorem dX6_sidesOf_99 : decode cX6_sidesOf 99 = .ok (.goto (-80), 3) := by decide +kernel
theorem dX6_sidesOf_102 : decode cX6_sidesOf 102 = .ok (.iinc 4 1, 3) := by decide +kernel
theorem dX6_sidesOf_105 : decode cX6_sidesOf 105 = .ok (.goto (-98), 3) := by decide +kernel
theorem dX6_sidesOf_108 : decode cX6_sidesOf 108 = .ok (.iload_n 3, 1) := by decide +kernel
theorem dX6_sidesOf_109 : decode cX6_sidesOf 109 = .ok (.ireturn, 1) := by decide +kernel
theorem dX6_shownByTurns_0 : decode cX6_shownByTurns 0 = .ok (.aload_n 0, 1) := by decide +kernel
theorem dX6_shownByTurns_1 : decode cX6_shownByTurns 1 = .ok (.invokevirtual 45, 3) := by decide +kernel
theorem dX6_shownByTurns_4 : decode cX6_shownByTurns 4 = .ok (.iconst 1, 1) := by decide +kernel
theorem dX6_shownByTurns_5 : decode cX6_shownByTurns 5 = .ok (.isub, 1) := by decide +kernel
theorem dX6_shownByTurns_6 : decode cX6_shownByTurns 6 = .ok (.istore_n 1, 1) := by decide +kernel
theorem dX6_shownByTurns_7 : decode cX6_shownByTurns 7 = .ok (.iload_n 1, 1) := by decide +kernel
theorem dX6_shownByTurns_8 : decode cX6_shownByTurns 8 = .ok (.ifCond .lt 22, 3) := by decide +kernel
theorem dX6_shownByTurns_11 : decode cX6_shownByTurns 11 = .ok (.aload_n 0, 1) := by decide +kernel
theorem dX6_shownByTurns_12 : decode cX6_shownByTurns 12 = .ok (.getfield 20, 3) := by decide +kernel
theorem dX6_shownByTurns_15 : decode cX6_shownByTurns 15 = .ok (.iload_n 1, 1) := by decide +kernel
theorem dX6_shownByTurns_16 : decode cX6_shownByTurns 16 = .ok (.aload_n 0, 1) := by decide +kernel
theorem dX6_shownByTurns_17 : decode cX6_shownByTurns 17 = .ok (.iload_n 1, 1) := by decide +kernel
theorem dX6_shownByTurns_18 : decode cX6_shownByTurns 18 = .ok (.invokevirtual 57, 3) := by decide +kernel
theorem dX6_shownByTurns_21 : decode cX6_shownByTurns 21 = .ok (.invokevirtual 37, 3) := by decide +kernel
theorem dX6_shownByTurns_24 : decode cX6_shownByTurns 24 = .ok (.iinc 1 (-1), 3) := by decide +kernel
theorem dX6_shownByTurns_27 : decode cX6_shownByTurns 27 = .ok (.goto (-20), 3) := by decide +kernel
theorem dX6_shownByTurns_30 : decode cX6_shownByTurns 30 = .ok (.aload_n 0, 1) := by decide +kernel
theorem dX6_shownByTurns_31 : decode cX6_shownByTurns 31 = .ok (.getfield 20, 3) := by decide +kernel
theorem dX6_shownByTurns_34 : decode cX6_shownByTurns 34 = .ok (.iconst 0, 1) := by decide +kernel
theorem dX6_shownByTurns_35 : decode cX6_shownByTurns 35 = .ok (.invokevirtual 41, 3) := by decide +kernel
theorem dX6_shownByTurns_38 : decode cX6_shownByTurns 38 = .ok (.ireturn, 1) := by decide +kernel
theorem dX6_outcomeFrom_0 : decode cX6_outcomeFrom 0 = .ok (.iload_n 1, 1) := by decide +kernel
theorem dX6_outcomeFrom_1 : decode cX6_outcomeFrom 1 = .ok (.invokestatic 49, 3) := by decide +kernel
theorem dX6_outcomeFrom_4 : decode cX6_outcomeFrom 4 = .ok (.iconst 2, 1) := by decide +kernel
theorem dX6_outcomeFrom_5 : decode cX6_outcomeFrom 5 = .ok (.irem, 1) := by decide +kernel
theorem dX6_outcomeFrom_6 : decode cX6_outcomeFrom 6 = .ok (.ifCond .ne 7, 3) := by decide +kernel
theorem dX6_outcomeFrom_9 : decode cX6_outcomeFrom 9 = .ok (.iconst 1, 1) := by decide +kernel
theorem dX6_outcomeFrom_10 : decode cX6_outcomeFrom 10 = .ok (.goto 4, 3) := by decide +kernel
theorem dX6_outcomeFrom_13 : decode cX6_outcomeFrom 13 = .ok (.iconst 0, 1) := by decide +kernel
theorem dX6_outcomeFrom_14 : decode cX6_outcomeFrom 14 = .ok (.istore_n 2, 1) := by decide +kernel
theorem dX6_outcomeFrom_15 : decode cX6_outcomeFrom 15 = .ok (.aload_n 0, 1) := by decide +kernel
theorem dX6_outcomeFrom_16 : decode cX6_outcomeFrom 16 = .ok (.aload_n 0, 1) := by decide +kernel
theorem dX6_outcomeFrom_17 : decode cX6_outcomeFrom 17 = .ok (.iload_n 1, 1) := by decide +kernel
theorem dX6_outcomeFrom_18 : decode cX6_outcomeFrom 18 = .ok (.invokevirtual 54, 3) := by decide +kernel
theorem dX6_outcomeFrom_21 : decode cX6_outcomeFrom 21 = .ok (.aload_n 0, 1) := by decide +kernel
theorem dX6_outcomeFrom_22 : decode cX6_outcomeFrom 22 = .ok (.getfield 30, 3) := by decide +kernel
theorem dX6_outcomeFrom_25 : decode cX6_outcomeFrom 25 = .ok (.iadd, 1) := by decide +kernel
theorem dX6_outcomeFrom_26 : decode cX6_outcomeFrom 26 = .ok (.invokevirtual 60, 3) := by decide +kernel
theorem dX6_outcomeFrom_29 : decode cX6_outcomeFrom 29 = .ok (.istore_n 3, 1) := by decide +kernel
theorem dX6_outcomeFrom_30 : decode cX6_outcomeFrom 30 = .ok (.iconst 0, 1) := by decide +kernel
theorem dX6_outcomeFrom_31 : decode cX6_outcomeFrom 31 = .ok (.istore 4, 2) := by decide +kernel
theorem dX6_outcomeFrom_33 : decode cX6_outcomeFrom 33 = .ok (.iload 4, 2) := by decide +kernel
theorem dX6_outcomeFrom_35 : decode cX6_outcomeFrom 35 = .ok (.aload_n 0, 1) := by decide +kernel
theorem dX6_outcomeFrom_36 : decode cX6_outcomeFrom 36 = .ok (.getfield 27, 3) := by decide +kernel
theorem dX6_outcomeFrom_39 : decode cX6_outcomeFrom 39 = .ok (.if_icmp .ge 53, 3) := by decide +kernel
theorem dX6_outcomeFrom_42 : decode cX6_outcomeFrom 42 = .ok (.iload_n 1, 1) := by decide +kernel
theorem dX6_outcomeFrom_43 : decode cX6_outcomeFrom 43 = .ok (.iload 4, 2) := by decide +kernel
theorem dX6_outcomeFrom_45 : decode cX6_outcomeFrom 45 = .ok (.ishr, 1) := by decide +kernel
theorem dX6_outcomeFrom_46 : decode cX6_outcomeFrom 46 = .ok (.iconst 1, 1) := by decide +kernel
theorem dX6_outcomeFrom_47 : decode cX6_outcomeFrom 47 = .ok (.iand, 1) := by decide +kernel
theorem dX6_outcomeFrom_48 : decode cX6_outcomeFrom 48 = .ok (.ifCond .ne 38, 3) := by decide +kernel
theorem dX6_outcomeFrom_51 : decode cX6_outcomeFrom 51 = .ok (.aload_n 0, 1) := by decide +kernel
theorem dX6_outcomeFrom_52 : decode cX6_outcomeFrom 52 = .ok (.getfield 20, 3) := by decide +kernel
theorem dX6_outcomeFrom_55 : decode cX6_outcomeFrom 55 = .ok (.iload_n 1, 1) := by decide +kernel
theorem dX6_outcomeFrom_56 : decode cX6_outcomeFrom 56 = .ok (.iconst 1, 1) := by decide +kernel
theorem dX6_outcomeFrom_57 : decode cX6_outcomeFrom 57 = .ok (.iload 4, 2) := by decide +kernel
theorem dX6_outcomeFrom_59 : decode cX6_outcomeFrom 59 = .ok (.ishl, 1) := by decide +kernel
theorem dX6_outcomeFrom_60 : decode cX6_outcomeFrom 60 = .ok (.ior, 1) := by decide +kernel
theorem dX6_outcomeFrom_61 : decode cX6_outcomeFrom 61 = .ok (.invokevirtual 41, 3) := by decide +kernel
theorem dX6_outcomeFrom_64 : decode cX6_outcomeFrom 64 = .ok (.istore 5, 2) := by decide +kernel
theorem dX6_outcomeFrom_66 : decode cX6_outcomeFrom 66 = .ok (.iload_n 2, 1) := by decide +kernel
theorem dX6_outcomeFrom_67 : decode cX6_outcomeFrom 67 = .ok (.ifCond .eq 12, 3) := by decide +kernel
theorem dX6_outcomeFrom_70 : decode cX6_outcomeFrom 70 = .ok (.iload_n 3, 1) := by decide +kernel
theorem dX6_outcomeFrom_71 : decode cX6_outcomeFrom 71 = .ok (.iload 5, 2) := by decide +kernel
theorem dX6_outcomeFrom_73 : decode cX6_outcomeFrom 73 = .ok (.invokestatic 63, 3) := by decide +kernel
theorem dX6_outcomeFrom_76 : decode cX6_outcomeFrom 76 = .ok (.goto 9, 3) := by decide +kernel
theorem dX6_outcomeFrom_79 : decode cX6_outcomeFrom 79 = .ok (.iload_n 3, 1) := by decide +kernel
theorem dX6_outcomeFrom_80 : decode cX6_outcomeFrom 80 = .ok (.iload 5, 2) := by decide +kernel
theorem dX6_outcomeFrom_82 : decode cX6_outcomeFrom 82 = .ok (.invokestatic 69, 3) := by decide +kernel
theorem dX6_outcomeFrom_85 : decode cX6_outcomeFrom 85 = .ok (.istore_n 3, 1) := by decide +kernel
theorem dX6_outcomeFrom_86 : decode cX6_outcomeFrom 86 = .ok (.iinc 4 1, 3) := by decide +kernel
theorem dX6_outcomeFrom_89 : decode cX6_outcomeFrom 89 = .ok (.goto (-56), 3) := by decide +kernel
theorem dX6_outcomeFrom_92 : decode cX6_outcomeFrom 92 = .ok (.iload_n 3, 1) := by decide +kernel
theorem dX6_outcomeFrom_93 : decode cX6_outcomeFrom 93 = .ok (.ireturn, 1) := by decide +kernel
theorem dX7_init_0 : decode cX7_init 0 = .ok (.aload_n 0, 1) := by decide +kernel
theorem dX7_init_1 : decode cX7_init 1 = .ok (.invokespecial 3, 3) := by decide +kernel
theorem dX7_init_4 : decode cX7_init 4 = .ok (.aload_n 0, 1) := by decide +kernel
theorem dX7_init_5 : decode cX7_init 5 = .ok (.new 9, 3) := by decide +kernel
theorem dX7_init_8 : decode cX7_init 8 = .ok (.dup, 1) := by decide +kernel
theorem dX7_init_9 : decode cX7_init 9 = .ok (.sipush 200, 3) := by decide +kernel
theorem dX7_init_12 : decode cX7_init 12 = .ok (.invokespecial 11, 3) := by decide +kernel
theorem dX7_init_15 : decode cX7_init 15 = .ok (.putfield 14, 3) := by decide +kernel
theorem dX7_init_18 : decode cX7_init 18 = .ok (.return_, 1) := by decide +kernel
theorem dX7_length_0 : decode cX7_length 0 = .ok (.aload_n 0, 1) := by decide +kernel
theorem dX7_length_1 : decode cX7_length 1 = .ok (.getfield 20, 3) := by decide +kernel
theorem dX7_length_4 : decode cX7_length 4 = .ok (.ireturn, 1) := by decide +kernel
theorem dX7_byteAt_0 : decode cX7_byteAt 0 = .ok (.iload_n 1, 1) := by decide +kernel
theorem dX7_byteAt_1 : decode cX7_byteAt 1 = .ok (.aload_n 0, 1) := by decide +kernel
theorem dX7_byteAt_2 : decode cX7_byteAt 2 = .ok (.getfield 20, 3) := by decide +kernel
theorem dX7_byteAt_5 : decode cX7_byteAt 5 = .ok (.if_icmp .ge 14, 3) := by decide +kernel
theorem dX7_byteAt_8 : decode cX7_byteAt 8 = .ok (.aload_n 0, 1) := by decide +kernel
theorem dX7_byteAt_9 : decode cX7_byteAt 9 = .ok (.getfield 14, 3) := by decide +kernel
theorem dX7_byteAt_12 : decode cX7_byteAt 12 = .ok (.iload_n 1, 1) := by decide +kernel
theorem dX7_byteAt_13 : decode cX7_byteAt 13 = .ok (.invokevirtual 24, 3) := by decide +kernel
theorem dX7_byteAt_16 : decode cX7_byteAt 16 = .ok (.goto 4, 3) := by decide +kernel
theorem dX7_byteAt_19 : decode cX7_byteAt 19 = .ok (.iconst (-1), 1) := by decide +kernel
theorem dX7_byteAt_20 : decode cX7_byteAt 20 = .ok (.ireturn, 1) := by decide +kernel
theorem dX7_append_0 : decode cX7_append 0 = .ok (.aload_n 0, 1) := by decide +kernel
theorem dX7_append_1 : decode cX7_append 1 = .ok (.getfield 20, 3) := by decide +kernel
theorem dX7_append_4 : decode cX7_append 4 = .ok (.sipush 200, 3) := by decide +kernel
theorem dX7_append_7 : decode cX7_append 7 = .ok (.if_icmp .ge 25, 3) := by decide +kernel
theorem dX7_append_10 : decode cX7_append 10 = .ok (.aload_n 0, 1) := by decide +kernel
theorem dX7_append_11 : decode cX7_append 11 = .ok (.getfield 14, 3) := by decide +kernel
theorem dX7_append_14 : decode cX7_append 14 = .ok (.aload_n 0, 1) := by decide +kernel
theorem dX7_append_15 : decode cX7_append 15 = .ok (.getfield 20, 3) := by decide +kernel
theorem dX7_append_18 : decode cX7_append 18 = .ok (.iload_n 1, 1) := by decide +kernel
theorem dX7_append_19 : decode cX7_append 19 = .ok (.invokevirtual 28, 3) := by decide +kernel
theorem dX7_append_22 : decode cX7_append 22 = .ok (.aload_n 0, 1) := by decide +kernel
theorem dX7_append_23 : decode cX7_append 23 = .ok (.dup, 1) := by decide +kernel
theorem dX7_append_24 : decode cX7_append 24 = .ok (.getfield 20, 3) := by decide +kernel
theorem dX7_append_27 : decode cX7_append 27 = .ok (.iconst 1, 1) := by decide +kernel
theorem dX7_append_28 : decode cX7_append 28 = .ok (.iadd, 1) := by decide +kernel
theorem dX7_append_29 : decode cX7_append 29 = .ok (.putfield 20, 3) := by decide +kernel
theorem dX7_append_32 : decode cX7_append 32 = .ok (.return_, 1) := by decide +kernel
theorem dX7_wipe_0 : decode cX7_wipe 0 = .ok (.aload_n 0, 1) := by decide +kernel
theorem dX7_wipe_1 : decode cX7_wipe 1 = .ok (.iconst 0, 1) := by decide +kernel
theorem dX7_wipe_2 : decode cX7_wipe 2 = .ok (.putfield 20, 3) := by decide +kernel
theorem dX7_wipe_5 : decode cX7_wipe 5 = .ok (.return_, 1) := by decide +kernel
theorem dX7_has_0 : decode cX7_has 0 = .ok (.iload_n 3, 1) := by decide +kernel
theorem dX7_has_1 : decode cX7_has 1 = .ok (.iload_n 2, 1) := by decide +kernel
theorem dX7_has_2 : decode cX7_has 2 = .ok (.isub, 1) := by decide +kernel
theorem dX7_has_3 : decode cX7_has 3 = .ok (.aload_n 1, 1) := by decide +kernel
theorem dX7_has_4 : decode cX7_has 4 = .ok (.invokevirtual 32, 3) := by decide +kernel
theorem dX7_has_7 : decode cX7_has 7 = .ok (.if_icmp .eq 5, 3) := by decide +kernel
theorem dX7_has_10 : decode cX7_has 10 = .ok (.iconst 0, 1) := by decide +kernel
theorem dX7_has_11 : decode cX7_has 11 = .ok (.ireturn, 1) := by decide +kernel
theorem dX7_has_12 : decode cX7_has 12 = .ok (.iconst 0, 1) := by decide +kernel
theorem dX7_has_13 : decode cX7_has 13 = .ok (.istore 4, 2) := by decide +kernel
theorem dX7_has_15 : decode cX7_has 15 = .ok (.iload 4, 2) := by decide +kernel
theorem dX7_has_17 : decode cX7_has 17 = .ok (.aload_n 1, 1) := by decide +kernel
theorem dX7_has_18 : decode cX7_has 18 = .ok (.invokevirtual 32, 3) := by decide +kernel
theorem dX7_has_21 : decode cX7_has 21 = .ok (.if_icmp .ge 28, 3) := by decide +kernel
theorem dX7_has_24 : decode cX7_has 24 = .ok (.aload_n 0, 1) := by decide +kernel
theorem dX7_has_25 : decode cX7_has 25 = .ok (.iload_n 2, 1) := by decide +kernel
theorem dX7_has_26 : decode cX7_has 26 = .ok (.iload 4, 2) := by decide +kernel
theorem dX7_has_28 : decode cX7_has 28 = .ok (.iadd, 1) := by decide +kernel
theorem dX7_has_29 : decode cX7_has 29 = .ok (.invokevirtual 37, 3) := by decide +kernel
theorem dX7_has_32 : decode cX7_has 32 = .ok (.aload_n 1, 1) := by decide +kernel
theorem dX7_has_33 : decode cX7_has 33 = .ok (.iload 4, 2) := by decide +kernel
theorem dX7_has_35 : decode cX7_has 35 = .ok (.invokevirtual 40, 3) := by decide +kernel
theorem dX7_has_38 : decode cX7_has 38 = .ok (.if_icmp .eq 5, 3) := by decide +kernel
theorem dX7_has_41 : decode cX7_has 41 = .ok (.iconst 0, 1) := by decide +kernel
theorem dX7_has_42 : decode cX7_has 42 = .ok (.ireturn, 1) := by decide +kernel
theorem dX7_has_43 : decode cX7_has 43 = .ok (.iinc 4 1, 3) := by decide +kernel
theorem dX7_has_46 : decode cX7_has 46 = .ok (.goto (-31), 3) := by decide +kernel
theorem dX7_has_49 : decode cX7_has 49 = .ok (.iconst 1, 1) := by decide +kernel
theorem dX7_has_50 : decode cX7_has 50 = .ok (.ireturn, 1) := by decide +kernel
end
section
theorem dX4_init_0 : decode cX4_init 0 = .ok (.aload_n 0, 1) := by decide +kernel
theorem dX4_init_1 : decode cX4_init 1 = .ok (.invokespecial 3, 3) := by decide +kernel
theorem dX4_init_4 : decode cX4_init 4 = .ok (.aload_n 0, 1) := by decide +kernel
theorem dX4_init_5 : decode cX4_init 5 = .ok (.new 9, 3) := by decide +kernel
theorem dX4_init_8 : decode cX4_init 8 = .ok (.dup, 1) := by decide +kernel
theorem dX4_init_9 : decode cX4_init 9 = .ok (.invokespecial 11, 3) := by decide +kernel
theorem dX4_init_12 : decode cX4_init 12 = .ok (.putfield 12, 3) := by decide +kernel
theorem dX4_init_15 : decode cX4_init 15 = .ok (.aload_n 0, 1) := by decide +kernel
theorem dX4_init_16 : decode cX4_init 16 = .ok (.aload_n 1, 1) := by decide +kernel
theorem dX4_init_17 : decode cX4_init 17 = .ok (.putfield 18, 3) := by decide +kernel
theorem dX4_init_20 : decode cX4_init 20 = .ok (.return_, 1) := by decide +kernel
theorem dX4_told_0 : decode cX4_told 0 = .ok (.aload_n 0, 1) := by decide +kernel
theorem dX4_told_1 : decode cX4_told 1 = .ok (.getfield 12, 3) := by decide +kernel
theorem dX4_told_4 : decode cX4_told 4 = .ok (.areturn, 1) := by decide +kernel
theorem dX4_items_0 : decode cX4_items 0 = .ok (.aload_n 0, 1) := by decide +kernel
theorem dX4_items_1 : decode cX4_items 1 = .ok (.getfield 22, 3) := by decide +kernel
theorem dX4_items_4 : decode cX4_items 4 = .ok (.ireturn, 1) := by decide +kernel
theorem dX4_read_0 : decode cX4_read 0 = .ok (.aload_n 0, 1) := by decide +kernel
theorem dX4_read_1 : decode cX4_read 1 = .ok (.invokevirtual 26, 3) := by decide +kernel
theorem dX4_read_4 : decode cX4_read 4 = .ok (.iconst 0, 1) := by decide +kernel
theorem dX4_read_5 : decode cX4_read 5 = .ok (.istore_n 1, 1) := by decide +kernel
theorem dX4_read_6 : decode cX4_read 6 = .ok (.iload_n 1, 1) := by decide +kernel
theorem dX4_read_7 : decode cX4_read 7 = .ok (.sipush 200, 3) := by decide +kernel
theorem dX4_read_10 : decode cX4_read 10 = .ok (.if_icmp .gt 78, 3) := by decide +kernel
theorem dX4_read_13 : decode cX4_read 13 = .ok (.aload_n 0, 1) := by decide +kernel
theorem dX4_read_14 : decode cX4_read 14 = .ok (.invokevirtual 29, 3) := by decide +kernel
theorem dX4_read_17 : decode cX4_read 17 = .ok (.istore_n 2, 1) := by decide +kernel
theorem dX4_read_18 : decode cX4_read 18 = .ok (.iload_n 2, 1) := by decide +kernel
theorem dX4_read_19 : decode cX4_read 19 = .ok (.ifCond .ne 5, 3) := by decide +kernel
theorem dX4_read_22 : decode cX4_read 22 = .ok (.iconst (-1), 1) := by decide +kernel
theorem dX4_read_23 : decode cX4_read 23 = .ok (.ireturn, 1) := by decide +kernel
theorem dX4_read_24 : decode cX4_read 24 = .ok (.aload_n 0, 1) := by decide +kernel
theorem dX4_read_25 : decode cX4_read 25 = .ok (.iload_n 2, 1) := by decide +kernel
theorem dX4_read_26 : decode cX4_read 26 = .ok (.invokevirtual 33, 3) := by decide +kernel
theorem dX4_read_29 : decode cX4_read 29 = .ok (.ifCond .eq 19, 3) := by decide +kernel
theorem dX4_read_32 : decode cX4_read 32 = .ok (.aload_n 0, 1) := by decide +kernel
theorem dX4_read_33 : decode cX4_read 33 = .ok (.invokevirtual 29, 3) := by decide +kernel
theorem dX4_read_36 : decode cX4_read 36 = .ok (.iconst 5, 1) := by decide +kernel
theorem dX4_read_37 : decode cX4_read 37 = .ok (.if_icmp .ne 11, 3) := by decide +kernel
theorem dX4_read_40 : decode cX4_read 40 = .ok (.aload_n 0, 1) := by decide +kernel
theorem dX4_read_41 : decode cX4_read 41 = .ok (.iload_n 2, 1) := by decide +kernel
theorem dX4_read_42 : decode cX4_read 42 = .ok (.invokevirtual 37, 3) := by decide +kernel
theorem dX4_read_45 : decode cX4_read 45 = .ok (.ifCond .ne 8, 3) := by decide +kernel
theorem dX4_read_48 : decode cX4_read 48 = .ok (.aload_n 0, 1) := by decide +kernel
theorem dX4_read_49 : decode cX4_read 49 = .ok (.getfield 40, 3) := by decide +kernel
theorem dX4_read_52 : decode cX4_read 52 = .ok (.ireturn, 1) := by decide +kernel
theorem dX4_read_53 : decode cX4_read 53 = .ok (.aload_n 0, 1) := by decide +kernel
theorem dX4_read_54 : decode cX4_read 54 = .ok (.iload_n 2, 1) := by decide +kernel
theorem dX4_read_55 : decode cX4_read 55 = .ok (.invokevirtual 43, 3) := by decide +kernel
theorem dX4_read_58 : decode cX4_read 58 = .ok (.aload_n 0, 1) := by decide +kernel
theorem dX4_read_59 : decode cX4_read 59 = .ok (.invokevirtual 29, 3) := by decide +kernel
theorem dX4_read_62 : decode cX4_read 62 = .ok (.bipush 6, 2) := by decide +kernel
theorem dX4_read_64 : decode cX4_read 64 = .ok (.if_icmp .eq 8, 3) := by decide +kernel
theorem dX4_read_67 : decode cX4_read 67 = .ok (.aload_n 0, 1) := by decide +kernel
theorem dX4_read_68 : decode cX4_read 68 = .ok (.getfield 40, 3) := by decide +kernel
theorem dX4_read_71 : decode cX4_read 71 = .ok (.ireturn, 1) := by decide +kernel
theorem dX4_read_72 : decode cX4_read 72 = .ok (.aload_n 0, 1) := by decide +kernel
theorem dX4_read_73 : decode cX4_read 73 = .ok (.dup, 1) := by decide +kernel
theorem dX4_read_74 : decode cX4_read 74 = .ok (.getfield 22, 3) := by decide +kernel
theorem dX4_read_77 : decode cX4_read 77 = .ok (.iconst 1, 1) := by decide +kernel
theorem dX4_read_78 : decode cX4_read 78 = .ok (.iadd, 1) := by decide +kernel
theorem dX4_read_79 : decode cX4_read 79 = .ok (.putfield 22, 3) := by decide +kernel
theorem dX4_read_82 : decode cX4_read 82 = .ok (.iinc 1 1, 3) := by decide +kernel
theorem dX4_read_85 : decode cX4_read 85 = .ok (.goto (-79), 3) := by decide +kernel
theorem dX4_read_88 : decode cX4_read 88 = .ok (.aload_n 0, 1) := by decide +kernel
theorem dX4_read_89 : decode cX4_read 89 = .ok (.getfield 40, 3) := by decide +kernel
theorem dX4_read_92 : decode cX4_read 92 = .ok (.ireturn, 1) := by decide +kernel
theorem dX4_begin_0 : decode cX4_begin 0 = .ok (.aload_n 0, 1) := by decide +kernel
theorem dX4_begin_1 : decode cX4_begin 1 = .ok (.getfield 12, 3) := by decide +kernel
theorem dX4_begin_4 : decode cX4_begin 4 = .ok (.invokevirtual 47, 3) := by decide +kernel
theorem dX4_begin_7 : decode cX4_begin 7 = .ok (.aload_n 0, 1) := by decide +kernel
theorem dX4_begin_8 : decode cX4_begin 8 = .ok (.iconst 0, 1) := by decide +kernel
theorem dX4_begin_9 : decode cX4_begin 9 = .ok (.putfield 22, 3) := by decide +kernel
theorem dX4_begin_12 : decode cX4_begin 12 = .ok (.aload_n 0, 1) := by decide +kernel
theorem dX4_begin_13 : decode cX4_begin 13 = .ok (.iconst 0, 1) := by decide +kernel
theorem dX4_begin_14 : decode cX4_begin 14 = .ok (.putfield 50, 3) := by decide +kernel
theorem dX4_begin_17 : decode cX4_begin 17 = .ok (.aload_n 0, 1) := by decide +kernel
theorem dX4_begin_18 : decode cX4_begin 18 = .ok (.iconst 0, 1) := by decide +kernel
theorem dX4_begin_19 : decode cX4_begin 19 = .ok (.putfield 54, 3) := by decide +kernel
theorem dX4_begin_22 : decode cX4_begin 22 = .ok (.aload_n 0, 1) := by decide +kernel
theorem dX4_begin_23 : decode cX4_begin 23 = .ok (.iconst 0, 1) := by decide +kernel
theorem dX4_begin_24 : decode cX4_begin 24 = .ok (.putfield 57, 3) := by decide +kernel
theorem dX4_begin_27 : decode cX4_begin 27 = .ok (.return_, 1) := by decide +kernel
theorem dX4_mayBegin_0 : decode cX4_mayBegin 0 = .ok (.iload_n 1, 1) := by decide +kernel
theorem dX4_mayBegin_1 : decode cX4_mayBegin 1 = .ok (.tableswitch 70 2 4 #[27, 44, 57], 27) := by decide +kernel
theorem dX4_mayBegin_28 : decode cX4_mayBegin 28 = .ok (.aload_n 0, 1) := by decide +kernel
theorem dX4_mayBegin_29 : decode cX4_mayBegin 29 = .ok (.getfield 12, 3) := by decide +kernel
theorem dX4_mayBegin_32 : decode cX4_mayBegin 32 = .ok (.invokevirtual 60, 3) := by decide +kernel
theorem dX4_mayBegin_35 : decode cX4_mayBegin 35 = .ok (.iconst 3, 1) := by decide +kernel
theorem dX4_mayBegin_36 : decode cX4_mayBegin 36 = .ok (.if_icmp .ge 7, 3) := by decide +kernel
theorem dX4_mayBegin_39 : decode cX4_mayBegin 39 = .ok (.iconst 1, 1) := by decide +kernel
theorem dX4_mayBegin_40 : decode cX4_mayBegin 40 = .ok (.goto 4, 3) := by decide +kernel
theorem dX4_mayBegin_43 : decode cX4_mayBegin 43 = .ok (.iconst 0, 1) := by decide +kernel
theorem dX4_mayBegin_44 : decode cX4_mayBegin 44 = .ok (.ireturn, 1) := by decide +kernel
theorem dX4_mayBegin_45 : decode cX4_mayBegin 45 = .ok (.aload_n 0, 1) := by decide +kernel
theorem dX4_mayBegin_46 : decode cX4_mayBegin 46 = .ok (.getfield 50, 3) := by decide +kernel
theorem dX4_mayBegin_49 : decode cX4_mayBegin 49 = .ok (.ifCond .ne 7, 3) := by decide +kernel
theorem dX4_mayBegin_52 : decode cX4_mayBegin 52 = .ok (.iconst 1, 1) := by decide +kernel
theorem dX4_mayBegin_53 : decode cX4_mayBegin 53 = .ok (.goto 4, 3) := by decide +kernel
theorem dX4_mayBegin_56 : decode cX4_mayBegin 56 = .ok (.iconst 0, 1) := by decide +kernel
theorem dX4_mayBegin_57 : decode cX4_mayBegin 57 = .ok (.ireturn, 1) := by decide +kernel
theorem dX4_mayBegin_58 : decode cX4_mayBegin 58 = .ok (.aload_n 0, 1) := by decide +kernel
theorem dX4_mayBegin_59 : decode cX4_mayBegin 59 = .ok (.getfield 54, 3) := by decide +kernel
theorem dX4_mayBegin_62 : decode cX4_mayBegin 62 = .ok (.ifCond .ne 7, 3) := by decide +kernel
theorem dX4_mayBegin_65 : decode cX4_mayBegin 65 = .ok (.iconst 1, 1) := by decide +kernel
theorem dX4_mayBegin_66 : decode cX4_mayBegin 66 = .ok (.goto 4, 3) := by decide +kernel
theorem dX4_mayBegin_69 : decode cX4_mayBegin 69 = .ok (.iconst 0, 1) := by decide +kernel
theorem dX4_mayBegin_70 : decode cX4_mayBegin 70 = .ok (.ireturn, 1) := by decide +kernel
theorem dX4_mayBegin_71 : decode cX4_mayBegin 71 = .ok (.iconst 0, 1) := by decide +kernel
theorem dX4_mayBegin_72 : decode cX4_mayBegin 72 = .ok (.ireturn, 1) := by decide +kernel
theorem dX4_mayTake_0 : decode cX4_mayTake 0 = .ok (.iload_n 1, 1) := by decide +kernel
theorem dX4_mayTake_1 : decode cX4_mayTake 1 = .ok (.lookupswitch 49 #[(2, 27), (3, 38)], 27) := by decide +kernel
theorem dX4_mayTake_28 : decode cX4_mayTake 28 = .ok (.aload_n 0, 1) := by decide +kernel
theorem dX4_mayTake_29 : decode cX4_mayTake 29 = .ok (.getfield 63, 3) := by decide +kernel
theorem dX4_mayTake_32 : decode cX4_mayTake 32 = .ok (.iconst 1, 1) := by decide +kernel
theorem dX4_mayTake_33 : decode cX4_mayTake 33 = .ok (.bipush 9, 2) := by decide +kernel
theorem dX4_mayTake_35 : decode cX4_mayTake 35 = .ok (.invokestatic 66, 3) := by decide +kernel
theorem dX4_mayTake_38 : decode cX4_mayTake 38 = .ok (.ireturn, 1) := by decide +kernel
theorem dX4_mayTake_39 : decode cX4_mayTake 39 = .ok (.aload_n 0, 1) := by decide +kernel
theorem dX4_mayTake_40 : decode cX4_mayTake 40 = .ok (.getfield 63, 3) := by decide +kernel
theorem dX4_mayTake_43 : decode cX4_mayTake 43 = .ok (.iconst 0, 1) := by decide +kernel
theorem dX4_mayTake_44 : decode cX4_mayTake 44 = .ok (.bipush 9, 2) := by decide +kernel
theorem dX4_mayTake_46 : decode cX4_mayTake 46 = .ok (.invokestatic 66, 3) := by decide +kernel
theorem dX4_mayTake_49 : decode cX4_mayTake 49 = .ok (.ireturn, 1) := by decide +kernel
theorem dX4_mayTake_50 : decode cX4_mayTake 50 = .ok (.aload_n 0, 1) := by decide +kernel
theorem dX4_mayTake_51 : decode cX4_mayTake 51 = .ok (.getfield 63, 3) := by decide +kernel
theorem dX4_mayTake_54 : decode cX4_mayTake 54 = .ok (.iconst 2, 1) := by decide +kernel
theorem dX4_mayTake_55 : decode cX4_mayTake 55 = .ok (.bipush 20, 2) := by decide +kernel
theorem dX4_mayTake_57 : decode cX4_mayTake 57 = .ok (.invokestatic 66, 3) := by decide +kernel
theorem dX4_mayTake_60 : decode cX4_mayTake 60 = .ok (.ireturn, 1) := by decide +kernel
theorem dX4_take_0 : decode cX4_take 0 = .ok (.iload_n 1, 1) := by decide +kernel
theorem dX4_take_1 : decode cX4_take 1 = .ok (.lookupswitch 60 #[(2, 27), (3, 41)], 27) := by decide +kernel
theorem dX4_take_28 : decode cX4_take 28 = .ok (.aload_n 0, 1) := by decide +kernel
theorem dX4_take_29 : decode cX4_take 29 = .ok (.getfield 12, 3) := by decide +kernel
theorem dX4_take_32 : decode cX4_take 32 = .ok (.aload_n 0, 1) := by decide +kernel
theorem dX4_take_33 : decode cX4_take 33 = .ok (.getfield 63, 3) := by decide +kernel
theorem dX4_take_36 : decode cX4_take 36 = .ok (.invokevirtual 70, 3) := by decide +kernel
theorem dX4_take_39 : decode cX4_take 39 = .ok (.goto 38, 3) := by decide +kernel
theorem dX4_take_42 : decode cX4_take 42 = .ok (.aload_n 0, 1) := by decide +kernel
theorem dX4_take_43 : decode cX4_take 43 = .ok (.getfield 12, 3) := by decide +kernel
theorem dX4_take_46 : decode cX4_take 46 = .ok (.aload_n 0, 1) := by decide +kernel
theorem dX4_take_47 : decode cX4_take 47 = .ok (.getfield 63, 3) := by decide +kernel
theorem dX4_take_50 : decode cX4_take 50 = .ok (.invokevirtual 73, 3) := by decide +kernel
theorem dX4_take_53 : decode cX4_take 53 = .ok (.aload_n 0, 1) := by decide +kernel
theorem dX4_take_54 : decode cX4_take 54 = .ok (.iconst 1, 1) := by decide +kernel
theorem dX4_take_55 : decode cX4_take 55 = .ok (.putfield 50, 3) := by decide +kernel
theorem dX4_take_58 : decode cX4_take 58 = .ok (.goto 19, 3) := by decide +kernel
theorem dX4_take_61 : decode cX4_take 61 = .ok (.aload_n 0, 1) := by decide +kernel
theorem dX4_take_62 : decode cX4_take 62 = .ok (.getfield 12, 3) := by decide +kernel
theorem dX4_take_65 : decode cX4_take 65 = .ok (.aload_n 0, 1) := by decide +kernel
theorem dX4_take_66 : decode cX4_take 66 = .ok (.getfield 63, 3) := by decide +kernel
theorem dX4_take_69 : decode cX4_take 69 = .ok (.invokevirtual 76, 3) := by decide +kernel
theorem dX4_take_72 : decode cX4_take 72 = .ok (.aload_n 0, 1) := by decide +kernel
theorem dX4_take_73 : decode cX4_take 73 = .ok (.iconst 1, 1) := by decide +kernel
theorem dX4_take_74 : decode cX4_take 74 = .ok (.putfield 54, 3) := by decide +kernel
theorem dX4_take_77 : decode cX4_take 77 = .ok (.return_, 1) := by decide +kernel
theorem dX4_token_0 : decode cX4_token 0 = .ok (.aload_n 0, 1) := by decide +kernel
theorem dX4_token_1 : decode cX4_token 1 = .ok (.aload_n 0, 1) := by decide +kernel
theorem dX4_token_2 : decode cX4_token 2 = .ok (.aload_n 0, 1) := by decide +kernel
theorem dX4_token_3 : decode cX4_token 3 = .ok (.getfield 57, 3) := by decide +kernel
theorem dX4_token_6 : decode cX4_token 6 = .ok (.invokevirtual 79, 3) := by decide +kernel
theorem dX4_token_9 : decode cX4_token 9 = .ok (.putfield 40, 3) := by decide +kernel
theorem dX4_token_12 : decode cX4_token 12 = .ok (.aload_n 0, 1) := by decide +kernel
theorem dX4_token_13 : decode cX4_token 13 = .ok (.getfield 18, 3) := by decide +kernel
theorem dX4_token_16 : decode cX4_token 16 = .ok (.aload_n 0, 1) := by decide +kernel
theorem dX4_token_17 : decode cX4_token 17 = .ok (.getfield 40, 3) := by decide +kernel
theorem dX4_token_20 : decode cX4_token 20 = .ok (.invokevirtual 83, 3) := by decide +kernel
theorem dX4_token_23 : decode cX4_token 23 = .ok (.istore_n 1, 1) := by decide +kernel
theorem dX4_token_24 : decode cX4_token 24 = .ok (.iload_n 1, 1) := by decide +kernel
theorem dX4_token_25 : decode cX4_token 25 = .ok (.ifCond .ge 5, 3) := by decide +kernel
theorem dX4_token_28 : decode cX4_token 28 = .ok (.iconst 0, 1) := by decide +kernel
theorem dX4_token_29 : decode cX4_token 29 = .ok (.ireturn, 1) := by decide +kernel
theorem dX4_token_30 : decode cX4_token 30 = .ok (.iload_n 1, 1) := by decide +kernel
theorem dX4_token_31 : decode cX4_token 31 = .ok (.invokestatic 88, 3) := by decide +kernel
theorem dX4_token_34 : decode cX4_token 34 = .ok (.ifCond .eq 20, 3) := by decide +kernel
theorem dX4_token_37 : decode cX4_token 37 = .ok (.aload_n 0, 1) := by decide +kernel
theorem dX4_token_38 : decode cX4_token 38 = .ok (.aload_n 0, 1) := by decide +kernel
theorem dX4_token_39 : decode cX4_token 39 = .ok (.aload_n 0, 1) := by decide +kernel
theorem dX4_token_40 : decode cX4_token 40 = .ok (.getfield 40, 3) := by decide +kernel
theorem dX4_token_43 : decode cX4_token 43 = .ok (.invokevirtual 91, 3) := by decide +kernel
theorem dX4_token_46 : decode cX4_token 46 = .ok (.putfield 57, 3) := by decide +kernel
theorem dX4_token_49 : decode cX4_token 49 = .ok (.aload_n 0, 1) := by decide +kernel
theorem dX4_token_50 : decode cX4_token 50 = .ok (.invokevirtual 94, 3) := by decide +kernel
theorem dX4_token_53 : decode cX4_token 53 = .ok (.ireturn, 1) := by decide +kernel
theorem dX4_token_54 : decode cX4_token 54 = .ok (.iload_n 1, 1) := by decide +kernel
theorem dX4_token_55 : decode cX4_token 55 = .ok (.invokestatic 97, 3) := by decide +kernel
theorem dX4_token_58 : decode cX4_token 58 = .ok (.ifCond .eq 20, 3) := by decide +kernel
theorem dX4_token_61 : decode cX4_token 61 = .ok (.aload_n 0, 1) := by decide +kernel
theorem dX4_token_62 : decode cX4_token 62 = .ok (.aload_n 0, 1) := by decide +kernel
theorem dX4_token_63 : decode cX4_token 63 = .ok (.aload_n 0, 1) := by decide +kernel
theorem dX4_token_64 : decode cX4_token 64 = .ok (.getfield 40, 3) := by decide +kernel
theorem dX4_token_67 : decode cX4_token 67 = .ok (.invokevirtual 100, 3) := by decide +kernel
theorem dX4_token_70 : decode cX4_token 70 = .ok (.putfield 57, 3) := by decide +kernel
theorem dX4_token_73 : decode cX4_token 73 = .ok (.aload_n 0, 1) := by decide +kernel
theorem dX4_token_74 : decode cX4_token 74 = .ok (.invokevirtual 103, 3) := by decide +kernel
theorem dX4_token_77 : decode cX4_token 77 = .ok (.ireturn, 1) := by decide +kernel
theorem dX4_token_78 : decode cX4_token 78 = .ok (.aload_n 0, 1) := by decide +kernel
theorem dX4_token_79 : decode cX4_token 79 = .ok (.aload_n 0, 1) := by decide +kernel
theorem dX4_token_80 : decode cX4_token 80 = .ok (.getfield 40, 3) := by decide +kernel
theorem dX4_token_83 : decode cX4_token 83 = .ok (.iconst 1, 1) := by decide +kernel
theorem dX4_token_84 : decode cX4_token 84 = .ok (.iadd, 1) := by decide +kernel
theorem dX4_token_85 : decode cX4_token 85 = .ok (.putfield 57, 3) := by decide +kernel
theorem dX4_token_88 : decode cX4_token 88 = .ok (.iload_n 1, 1) := by decide +kernel
theorem dX4_token_89 : decode cX4_token 89 = .ok (.bipush 59, 2) := by decide +kernel
theorem dX4_token_91 : decode cX4_token 91 = .ok (.if_icmp .ne 8, 3) := by decide +kernel
theorem dX4_token_94 : decode cX4_token 94 = .ok (.bipush 6, 2) := by decide +kernel
theorem dX4_token_96 : decode cX4_token 96 = .ok (.goto 4, 3) := by decide +kernel
theorem dX4_token_99 : decode cX4_token 99 = .ok (.iconst 1, 1) := by decide +kernel
theorem dX4_token_100 : decode cX4_token 100 = .ok (.ireturn, 1) := by decide +kernel
theorem dX4_wordToken_0 : decode cX4_wordToken 0 = .ok (.aload_n 0, 1) := by decide +kernel
theorem dX4_wordToken_1 : decode cX4_wordToken 1 = .ok (.getfield 18, 3) := by decide +kernel
theorem dX4_wordToken_4 : decode cX4_wordToken 4 = .ok (.ldc 106, 2) := by decide +kernel
theorem dX4_wordToken_6 : decode cX4_wordToken 6 = .ok (.aload_n 0, 1) := by decide +kernel
theorem dX4_wordToken_7 : decode cX4_wordToken 7 = .ok (.getfield 40, 3) := by decide +kernel
theorem dX4_wordToken_10 : decode cX4_wordToken 10 = .ok (.aload_n 0, 1) := by decide +kernel
theorem dX4_wordToken_11 : decode cX4_wordToken 11 = .ok (.getfield 57, 3) := by decide +kernel
theorem dX4_wordToken_14 : decode cX4_wordToken 14 = .ok (.invokevirtual 108, 3) := by decide +kernel
theorem dX4_wordToken_17 : decode cX4_wordToken 17 = .ok (.ifCond .eq 5, 3) := by decide +kernel
theorem dX4_wordToken_20 : decode cX4_wordToken 20 = .ok (.iconst 2, 1) := by decide +kernel
theorem dX4_wordToken_21 : decode cX4_wordToken 21 = .ok (.ireturn, 1) := by decide +kernel
theorem dX4_wordToken_22 : decode cX4_wordToken 22 = .ok (.aload_n 0, 1) := by decide +kernel
theorem dX4_wordToken_23 : decode cX4_wordToken 23 = .ok (.getfield 18, 3) := by decide +kernel
theorem dX4_wordToken_26 : decode cX4_wordToken 26 = .ok (.ldc 112, 2) := by decide +kernel
theorem dX4_wordToken_28 : decode cX4_wordToken 28 = .ok (.aload_n 0, 1) := by decide +kernel
theorem dX4_wordToken_29 : decode cX4_wordToken 29 = .ok (.getfield 40, 3) := by decide +kernel
theorem dX4_wordToken_32 : decode cX4_wordToken 32 = .ok (.aload_n 0, 1) := by decide +kernel
theorem dX4_wordToken_33 : decode cX4_wordToken 33 = .ok (.getfield 57, 3) := by decide +kernel
theorem dX4_wordToken_36 : decode cX4_wordToken 36 = .ok (.invokevirtual 108, 3) := by decide +kernel
theorem dX4_wordToken_39 : decode cX4_wordToken 39 = .ok (.ifCond .eq 5, 3) := by decide +kernel
theorem dX4_wordToken_42 : decode cX4_wordToken 42 = .ok (.iconst 3, 1) := by decide +kernel
theorem dX4_wordToken_43 : decode cX4_wordToken 43 = .ok (.ireturn, 1) := by decide +kernel
theorem dX4_wordToken_44 : decode cX4_wordToken 44 = .ok (.aload_n 0, 1) := by decide +kernel
theorem dX4_wordToken_45 : decode cX4_wordToken 45 = .ok (.getfield 18, 3) := by decide +kernel
theorem dX4_wordToken_48 : decode cX4_wordToken 48 = .ok (.ldc 114, 2) := by decide +kernel
theorem dX4_wordToken_50 : decode cX4_wordToken 50 = .ok (.aload_n 0, 1) := by decide +kernel
theorem dX4_wordToken_51 : decode cX4_wordToken 51 = .ok (.getfield 40, 3) := by decide +kernel
theorem dX4_wordToken_54 : decode cX4_wordToken 54 = .ok (.aload_n 0, 1) := by decide +kernel
theorem dX4_wordToken_55 : decode cX4_wordToken 55 = .ok (.getfield 57, 3) := by decide +kernel
theorem dX4_wordToken_58 : decode cX4_wordToken 58 = .ok (.invokevirtual 108, 3) := by decide +kernel
theorem dX4_wordToken_61 : decode cX4_wordToken 61 = .ok (.ifCond .eq 7, 3) := by decide +kernel
theorem dX4_wordToken_64 : decode cX4_wordToken 64 = .ok (.iconst 4, 1) := by decide +kernel
theorem dX4_wordToken_65 : decode cX4_wordToken 65 = .ok (.goto 4, 3) := by decide +kernel
theorem dX4_wordToken_68 : decode cX4_wordToken 68 = .ok (.iconst 1, 1) := by decide +kernel
theorem dX4_wordToken_69 : decode cX4_wordToken 69 = .ok (.ireturn, 1) := by decide +kernel
theorem dX4_numberToken_0 : decode cX4_numberToken 0 = .ok (.aload_n 0, 1) := by decide +kernel
theorem dX4_numberToken_1 : decode cX4_numberToken 1 = .ok (.getfield 18, 3) := by decide +kernel
theorem dX4_numberToken_4 : decode cX4_numberToken 4 = .ok (.aload_n 0, 1) := by decide +kernel
theorem dX4_numberToken_5 : decode cX4_numberToken 5 = .ok (.getfield 40, 3) := by decide +kernel
theorem dX4_numberToken_8 : decode cX4_numberToken 8 = .ok (.invokevirtual 83, 3) := by decide +kernel
theorem dX4_numberToken_11 : decode cX4_numberToken 11 = .ok (.bipush 48, 2) := by decide +kernel
theorem dX4_numberToken_13 : decode cX4_numberToken 13 = .ok (.isub, 1) := by decide +kernel
theorem dX4_numberToken_14 : decode cX4_numberToken 14 = .ok (.istore_n 1, 1) := by decide +kernel
theorem dX4_numberToken_15 : decode cX4_numberToken 15 = .ok (.aload_n 0, 1) := by decide +kernel
theorem dX4_numberToken_16 : decode cX4_numberToken 16 = .ok (.getfield 57, 3) := by decide +kernel
theorem dX4_numberToken_19 : decode cX4_numberToken 19 = .ok (.aload_n 0, 1) := by decide +kernel
theorem dX4_numberToken_20 : decode cX4_numberToken 20 = .ok (.getfield 40, 3) := by decide +kernel
theorem dX4_numberToken_23 : decode cX4_numberToken 23 = .ok (.isub, 1) := by decide +kernel
theorem dX4_numberToken_24 : decode cX4_numberToken 24 = .ok (.iconst 1, 1) := by decide +kernel
theorem dX4_numberToken_25 : decode cX4_numberToken 25 = .ok (.if_icmp .ne 10, 3) := by decide +kernel
theorem dX4_numberToken_28 : decode cX4_numberToken 28 = .ok (.aload_n 0, 1) := by decide +kernel
theorem dX4_numberToken_29 : decode cX4_numberToken 29 = .ok (.iload_n 1, 1) := by decide +kernel
theorem dX4_numberToken_30 : decode cX4_numberToken 30 = .ok (.putfield 63, 3) := by decide +kernel
theorem dX4_numberToken_33 : decode cX4_numberToken 33 = .ok (.iconst 5, 1) := by decide +kernel
theorem dX4_numberToken_34 : decode cX4_numberToken 34 = .ok (.ireturn, 1) := by decide +kernel
theorem dX4_numberToken_35 : decode cX4_numberToken 35 = .ok (.aload_n 0, 1) := by decide +kernel
theorem dX4_numberToken_36 : decode cX4_numberToken 36 = .ok (.getfield 57, 3) := by decide +kernel
theorem dX4_numberToken_39 : decode cX4_numberToken 39 = .ok (.aload_n 0, 1) := by decide +kernel
theorem dX4_numberToken_40 : decode cX4_numberToken 40 = .ok (.getfield 40, 3) := by decide +kernel
theorem dX4_numberToken_43 : decode cX4_numberToken 43 = .ok (.isub, 1) := by decide +kernel
theorem dX4_numberToken_44 : decode cX4_numberToken 44 = .ok (.iconst 2, 1) := by decide +kernel
theorem dX4_numberToken_45 : decode cX4_numberToken 45 = .ok (.if_icmp .gt 7, 3) := by decide +kernel
theorem dX4_numberToken_48 : decode cX4_numberToken 48 = .ok (.iload_n 1, 1) := by decide +kernel
theorem dX4_numberToken_49 : decode cX4_numberToken 49 = .ok (.ifCond .ne 5, 3) := by decide +kernel
theorem dX4_numberToken_52 : decode cX4_numberToken 52 = .ok (.iconst 1, 1) := by decide +kernel
theorem dX4_numberToken_53 : decode cX4_numberToken 53 = .ok (.ireturn, 1) := by decide +kernel
theorem dX4_numberToken_54 : decode cX4_numberToken 54 = .ok (.aload_n 0, 1) := by decide +kernel
theorem dX4_numberToken_55 : decode cX4_numberToken 55 = .ok (.iload_n 1, 1) := by decide +kernel
theorem dX4_numberToken_56 : decode cX4_numberToken 56 = .ok (.bipush 10, 2) := by decide +kernel
theorem dX4_numberToken_58 : decode cX4_numberToken 58 = .ok (.imul, 1) := by decide +kernel
theorem dX4_numberToken_59 : decode cX4_numberToken 59 = .ok (.aload_n 0, 1) := by decide +kernel
theorem dX4_numberToken_60 : decode cX4_numberToken 60 = .ok (.getfield 18, 3) := by decide +kernel
theorem dX4_numberToken_63 : decode cX4_numberToken 63 = .ok (.aload_n 0, 1) := by decide +kernel
theorem dX4_numberToken_64 : decode cX4_numberToken 64 = .ok (.getfield 40, 3) := by decide +kernel
theorem dX4_numberToken_67 : decode cX4_numberToken 67 = .ok (.iconst 1, 1) := by decide +kernel
theorem dX4_numberToken_68 : decode cX4_numberToken 68 = .ok (.iadd, 1) := by decide +kernel
theorem dX4_numberToken_69 : decode cX4_numberToken 69 = .ok (.invokevirtual 83, 3) := by decide +kernel
theorem dX4_numberToken_72 : decode cX4_numberToken 72 = .ok (.iadd, 1) := by decide +kernel
theorem dX4_numberToken_73 : decode cX4_numberToken 73 = .ok (.bipush 48, 2) := by decide +kernel
theorem dX4_numberToken_75 : decode cX4_numberToken 75 = .ok (.isub, 1) := by decide +kernel
theorem dX4_numberToken_76 : decode cX4_numberToken 76 = .ok (.putfield 63, 3) := by decide +kernel
theorem dX4_numberToken_79 : decode cX4_numberToken 79 = .ok (.iconst 5, 1) := by decide +kernel
theorem dX4_numberToken_80 : decode cX4_numberToken 80 = .ok (.ireturn, 1) := by decide +kernel
theorem dX4_endOfBlanks_0 : decode cX4_endOfBlanks 0 = .ok (.iload_n 1, 1) := by decide +kernel
theorem dX4_endOfBlanks_1 : decode cX4_endOfBlanks 1 = .ok (.istore_n 2, 1) := by decide +kernel
theorem dX4_endOfBlanks_2 : decode cX4_endOfBlanks 2 = .ok (.iload_n 2, 1) := by decide +kernel
theorem dX4_endOfBlanks_3 : decode cX4_endOfBlanks 3 = .ok (.aload_n 0, 1) := by decide +kernel
theorem dX4_endOfBlanks_4 : decode cX4_endOfBlanks 4 = .ok (.getfield 18, 3) := by decide +kernel
theorem dX4_endOfBlanks_7 : decode cX4_endOfBlanks 7 = .ok (.invokevirtual 116, 3) := by decide +kernel
theorem dX4_endOfBlanks_10 : decode cX4_endOfBlanks 10 = .ok (.if_icmp .ge 22, 3) := by decide +kernel
theorem dX4_endOfBlanks_13 : decode cX4_endOfBlanks 13 = .ok (.aload_n 0, 1) := by decide +kernel
theorem dX4_endOfBlanks_14 : decode cX4_endOfBlanks 14 = .ok (.getfield 18, 3) := by decide +kernel
theorem dX4_endOfBlanks_17 : decode cX4_endOfBlanks 17 = .ok (.iload_n 2, 1) := by decide +kernel
theorem dX4_endOfBlanks_18 : decode cX4_endOfBlanks 18 = .ok (.invokevirtual 83, 3) := by decide +kernel
theorem dX4_endOfBlanks_21 : decode cX4_endOfBlanks 21 = .ok (.bipush 32, 2) := by decide +kernel
theorem dX4_endOfBlanks_23 : decode cX4_endOfBlanks 23 = .ok (.if_icmp .ne 9, 3) := by decide +kernel
theorem dX4_endOfBlanks_26 : decode cX4_endOfBlanks 26 = .ok (.iinc 2 1, 3) := by decide +kernel
theorem dX4_endOfBlanks_29 : decode cX4_endOfBlanks 29 = .ok (.goto (-27), 3) := by decide +kernel
theorem dX4_endOfBlanks_32 : decode cX4_endOfBlanks 32 = .ok (.iload_n 2, 1) := by decide +kernel
theorem dX4_endOfBlanks_33 : decode cX4_endOfBlanks 33 = .ok (.ireturn, 1) := by decide +kernel
theorem dX4_endOfWord_0 : decode cX4_endOfWord 0 = .ok (.iload_n 1, 1) := by decide +kernel
theorem dX4_endOfWord_1 : decode cX4_endOfWord 1 = .ok (.istore_n 2, 1) := by decide +kernel
theorem dX4_endOfWord_2 : decode cX4_endOfWord 2 = .ok (.iload_n 2, 1) := by decide +kernel
theorem dX4_endOfWord_3 : decode cX4_endOfWord 3 = .ok (.aload_n 0, 1) := by decide +kernel
theorem dX4_endOfWord_4 : decode cX4_endOfWord 4 = .ok (.getfield 18, 3) := by decide +kernel
theorem dX4_endOfWord_7 : decode cX4_endOfWord 7 = .ok (.invokevirtual 116, 3) := by decide +kernel
theorem dX4_endOfWord_10 : decode cX4_endOfWord 10 = .ok (.if_icmp .ge 23, 3) := by decide +kernel
theorem dX4_endOfWord_13 : decode cX4_endOfWord 13 = .ok (.aload_n 0, 1) := by decide +kernel
theorem dX4_endOfWord_14 : decode cX4_endOfWord 14 = .ok (.getfield 18, 3) := by decide +kernel
theorem dX4_endOfWord_17 : decode cX4_endOfWord 17 = .ok (.iload_n 2, 1) := by decide +kernel
theorem dX4_endOfWord_18 : decode cX4_endOfWord 18 = .ok (.invokevirtual 83, 3) := by decide +kernel
theorem dX4_endOfWord_21 : decode cX4_endOfWord 21 = .ok (.invokestatic 88, 3) := by decide +kernel
theorem dX4_endOfWord_24 : decode cX4_endOfWord 24 = .ok (.ifCond .eq 9, 3) := by decide +kernel
theorem dX4_endOfWord_27 : decode cX4_endOfWord 27 = .ok (.iinc 2 1, 3) := by decide +kernel
theorem dX4_endOfWord_30 : decode cX4_endOfWord 30 = .ok (.goto (-28), 3) := by decide +kernel
theorem dX4_endOfWord_33 : decode cX4_endOfWord 33 = .ok (.iload_n 2, 1) := by decide +kernel
theorem dX4_endOfWord_34 : decode cX4_endOfWord 34 = .ok (.ireturn, 1) := by decide +kernel
theorem dX4_endOfDigits_0 : decode cX4_endOfDigits 0 = .ok (.iload_n 1, 1) := by decide +kernel
theorem dX4_endOfDigits_1 : decode cX4_endOfDigits 1 = .ok (.istore_n 2, 1) := by decide +kernel
theorem dX4_endOfDigits_2 : decode cX4_endOfDigits 2 = .ok (.iload_n 2, 1) := by decide +kernel
theorem dX4_endOfDigits_3 : decode cX4_endOfDigits 3 = .ok (.aload_n 0, 1) := by decide +kernel
theorem dX4_endOfDigits_4 : decode cX4_endOfDigits 4 = .ok (.getfield 18, 3) := by decide +kernel
theorem dX4_endOfDigits_7 : decode cX4_endOfDigits 7 = .ok (.invokevirtual 116, 3) := by decide +kernel
theorem dX4_endOfDigits_10 : decode cX4_endOfDigits 10 = .ok (.if_icmp .ge 23, 3) := by decide +kernel
theorem dX4_endOfDigits_13 : decode cX4_endOfDigits 13 = .ok (.aload_n 0, 1) := by decide +kernel
theorem dX4_endOfDigits_14 : decode cX4_endOfDigits 14 = .ok (.getfield 18, 3) := by decide +kernel
theorem dX4_endOfDigits_17 : decode cX4_endOfDigits 17 = .ok (.iload_n 2, 1) := by decide +kernel
theorem dX4_endOfDigits_18 : decode cX4_endOfDigits 18 = .ok (.invokevirtual 83, 3) := by decide +kernel
theorem dX4_endOfDigits_21 : decode cX4_endOfDigits 21 = .ok (.invokestatic 97, 3) := by decide +kernel
theorem dX4_endOfDigits_24 : decode cX4_endOfDigits 24 = .ok (.ifCond .eq 9, 3) := by decide +kernel
theorem dX4_endOfDigits_27 : decode cX4_endOfDigits 27 = .ok (.iinc 2 1, 3) := by decide +kernel
theorem dX4_endOfDigits_30 : decode cX4_endOfDigits 30 = .ok (.goto (-28), 3) := by decide +kernel
theorem dX4_endOfDigits_33 : decode cX4_endOfDigits 33 = .ok (.iload_n 2, 1) := by decide +kernel
theorem dX4_endOfDigits_34 : decode cX4_endOfDigits 34 = .ok (.ireturn, 1) := by decide +kernel
theorem dX4_isLetter_0 : decode cX4_isLetter 0 = .ok (.iload_n 0, 1) := by decide +kernel
theorem dX4_isLetter_1 : decode cX4_isLetter 1 = .ok (.bipush 97, 2) := by decide +kernel
theorem dX4_isLetter_3 : decode cX4_isLetter 3 = .ok (.bipush 122, 2) := by decide +kernel
theorem dX4_isLetter_5 : decode cX4_isLetter 5 = .ok (.invokestatic 66, 3) := by decide +kernel
theorem dX4_isLetter_8 : decode cX4_isLetter 8 = .ok (.ireturn, 1) := by decide +kernel
theorem dX4_isDigit_0 : decode cX4_isDigit 0 = .ok (.iload_n 0, 1) := by decide +kernel
theorem dX4_isDigit_1 : decode cX4_isDigit 1 = .ok (.bipush 48, 2) := by decide +kernel
theorem dX4_isDigit_3 : decode cX4_isDigit 3 = .ok (.bipush 57, 2) := by decide +kernel
theorem dX4_isDigit_5 : decode cX4_isDigit 5 = .ok (.invokestatic 66, 3) := by decide +kernel
theorem dX4_isDigit_8 : decode cX4_isDigit 8 = .ok (.ireturn, 1) := by decide +kernel
theorem dX8_init_0 : decode cX8_init 0 = .ok (.aload_n 0, 1) := by decide +kernel
theorem dX8_init_1 : decode cX8_init 1 = .ok (.invokespecial 3, 3) := by decide +kernel
theorem dX8_init_4 : decode cX8_init 4 = .ok (.aload_n 0, 1) := by decide +kernel
theorem dX8_init_5 : decode cX8_init 5 = .ok (.new 9, 3) := by decide +kernel
theorem dX8_init_8 : decode cX8_init 8 = .ok (.dup, 1) := by decide +kernel
theorem dX8_init_9 : decode cX8_init 9 = .ok (.sipush 296, 3) := by decide +kernel
theorem dX8_init_12 : decode cX8_init 12 = .ok (.invokespecial 13, 3) := by decide +kernel
theorem dX8_init_15 : decode cX8_init 15 = .ok (.putfield 16, 3) := by decide +kernel
theorem dX8_init_18 : decode cX8_init 18 = .ok (.aload_n 0, 1) := by decide +kernel
theorem dX8_init_19 : decode cX8_init 19 = .ok (.new 9, 3) := by decide +kernel
theorem dX8_init_22 : decode cX8_init 22 = .ok (.dup, 1) := by decide +kernel
theorem dX8_init_23 : decode cX8_init 23 = .ok (.sipush 313, 3) := by decide +kernel
theorem dX8_init_26 : decode cX8_init 26 = .ok (.invokespecial 13, 3) := by decide +kernel
theorem dX8_init_29 : decode cX8_init 29 = .ok (.putfield 20, 3) := by decide +kernel
theorem dX8_init_32 : decode cX8_init 32 = .ok (.aload_n 0, 1) := by decide +kernel
theorem dX8_init_33 : decode cX8_init 33 = .ok (.new 9, 3) := by decide +kernel
theorem dX8_init_36 : decode cX8_init 36 = .ok (.dup, 1) := by decide +kernel
theorem dX8_init_37 : decode cX8_init 37 = .ok (.bipush 40, 2) := by decide +kernel
theorem dX8_init_39 : decode cX8_init 39 = .ok (.invokespecial 13, 3) := by decide +kernel
theorem dX8_init_42 : decode cX8_init 42 = .ok (.putfield 23, 3) := by decide +kernel
theorem dX8_init_45 : decode cX8_init 45 = .ok (.aload_n 0, 1) := by decide +kernel
theorem dX8_init_46 : decode cX8_init 46 = .ok (.new 9, 3) := by decide +kernel
theorem dX8_init_49 : decode cX8_init 49 = .ok (.dup, 1) := by decide +kernel
theorem dX8_init_50 : decode cX8_init 50 = .ok (.bipush 13, 2) := by decide +kernel
theorem dX8_init_52 : decode cX8_init 52 = .ok (.invokespecial 13, 3) := by decide +kernel
theorem dX8_init_55 : decode cX8_init 55 = .ok (.putfield 26, 3) := by decide +kernel
theorem dX8_init_58 : decode cX8_init 58 = .ok (.aload_n 0, 1) := by decide +kernel
theorem dX8_init_59 : decode cX8_init 59 = .ok (.new 9, 3) := by decide +kernel
theorem dX8_init_62 : decode cX8_init 62 = .ok (.dup, 1) := by decide +kernel
theorem dX8_init_63 : decode cX8_init 63 = .ok (.sipush 156, 3) := by decide +kernel
theorem dX8_init_66 : decode cX8_init 66 = .ok (.invokespecial 13, 3) := by decide +kernel
theorem dX8_init_69 : decode cX8_init 69 = .ok (.putfield 29, 3) := by decide +kernel
theorem dX8_init_72 : decode cX8_init 72 = .ok (.aload_n 0, 1) := by decide +kernel
theorem dX8_init_73 : decode cX8_init 73 = .ok (.aload_n 1, 1) := by decide +kernel
theorem dX8_init_74 : decode cX8_init 74 = .ok (.putfield 32, 3) := by decide +kernel
theorem dX8_init_77 : decode cX8_init 77 = .ok (.aload_n 0, 1) := by decide +kernel
theorem dX8_init_78 : decode cX8_init 78 = .ok (.aload_n 2, 1) := by decide +kernel
theorem dX8_init_79 : decode cX8_init 79 = .ok (.putfield 36, 3) := by decide +kernel
theorem dX8_init_82 : decode cX8_init 82 = .ok (.return_, 1) := by decide +kernel
theorem dX8_forget_0 : decode cX8_forget 0 = .ok (.aload_n 0, 1) := by decide +kernel
theorem dX8_forget_1 : decode cX8_forget 1 = .ok (.iconst 0, 1) := by decide +kernel
theorem dX8_forget_2 : decode cX8_forget 2 = .ok (.putfield 40, 3) := by decide +kernel
theorem dX8_forget_5 : decode cX8_forget 5 = .ok (.return_, 1) := by decide +kernel
theorem dX8_learn_0 : decode cX8_learn 0 = .ok (.aload_n 0, 1) := by decide +kernel
theorem dX8_learn_1 : decode cX8_learn 1 = .ok (.getfield 40, 3) := by decide +kernel
theorem dX8_learn_4 : decode cX8_learn 4 = .ok (.ifCond .eq 4, 3) := by decide +kernel
theorem dX8_learn_7 : decode cX8_learn 7 = .ok (.return_, 1) := by decide +kernel
theorem dX8_learn_8 : decode cX8_learn 8 = .ok (.aload_n 0, 1) := by decide +kernel
theorem dX8_learn_9 : decode cX8_learn 9 = .ok (.iconst 1, 1) := by decide +kernel
theorem dX8_learn_10 : decode cX8_learn 10 = .ok (.putfield 40, 3) := by decide +kernel
theorem dX8_learn_13 : decode cX8_learn 13 = .ok (.aload_n 0, 1) := by decide +kernel
theorem dX8_learn_14 : decode cX8_learn 14 = .ok (.iconst 0, 1) := by decide +kernel
theorem dX8_learn_15 : decode cX8_learn 15 = .ok (.putfield 44, 3) := by decide +kernel
theorem dX8_learn_18 : decode cX8_learn 18 = .ok (.aload_n 0, 1) := by decide +kernel
theorem dX8_learn_19 : decode cX8_learn 19 = .ok (.bipush 13, 2) := by decide +kernel
theorem dX8_learn_21 : decode cX8_learn 21 = .ok (.putfield 48, 3) := by decide +kernel
theorem dX8_learn_24 : decode cX8_learn 24 = .ok (.aload_n 0, 1) := by decide +kernel
theorem dX8_learn_25 : decode cX8_learn 25 = .ok (.iconst 0, 1) := by decide +kernel
theorem dX8_learn_26 : decode cX8_learn 26 = .ok (.putfield 51, 3) := by decide +kernel
theorem dX8_learn_29 : decode cX8_learn 29 = .ok (.aload_n 0, 1) := by decide +kernel
theorem dX8_learn_30 : decode cX8_learn 30 = .ok (.getfield 20, 3) := by decide +kernel
theorem dX8_learn_33 : decode cX8_learn 33 = .ok (.invokevirtual 54, 3) := by decide +kernel
theorem dX8_learn_36 : decode cX8_learn 36 = .ok (.aload_n 0, 1) := by decide +kernel
theorem dX8_learn_37 : decode cX8_learn 37 = .ok (.getfield 23, 3) := by decide +kernel
theorem dX8_learn_40 : decode cX8_learn 40 = .ok (.invokevirtual 54, 3) := by decide +kernel
theorem dX8_learn_43 : decode cX8_learn 43 = .ok (.aload_n 0, 1) := by decide +kernel
theorem dX8_learn_44 : decode cX8_learn 44 = .ok (.getfield 26, 3) := by decide +kernel
theorem dX8_learn_47 : decode cX8_learn 47 = .ok (.invokevirtual 54, 3) := by decide +kernel
theorem dX8_learn_50 : decode cX8_learn 50 = .ok (.aload_n 0, 1) := by decide +kernel
theorem dX8_learn_51 : decode cX8_learn 51 = .ok (.getfield 29, 3) := by decide +kernel
theorem dX8_learn_54 : decode cX8_learn 54 = .ok (.invokevirtual 54, 3) := by decide +kernel
theorem dX8_learn_57 : decode cX8_learn 57 = .ok (.aload_n 0, 1) := by decide +kernel
theorem dX8_learn_58 : decode cX8_learn 58 = .ok (.invokevirtual 57, 3) := by decide +kernel
theorem dX8_learn_61 : decode cX8_learn 61 = .ok (.iconst 0, 1) := by decide +kernel
theorem dX8_learn_62 : decode cX8_learn 62 = .ok (.istore_n 1, 1) := by decide +kernel
theorem dX8_learn_63 : decode cX8_learn 63 = .ok (.iload_n 1, 1) := by decide +kernel
theorem dX8_learn_64 : decode cX8_learn 64 = .ok (.bipush 9, 2) := by decide +kernel
theorem dX8_learn_66 : decode cX8_learn 66 = .ok (.if_icmp .gt 14, 3) := by decide +kernel
theorem dX8_learn_69 : decode cX8_learn 69 = .ok (.aload_n 0, 1) := by decide +kernel
theorem dX8_learn_70 : decode cX8_learn 70 = .ok (.iload_n 1, 1) := by decide +kernel
theorem dX8_learn_71 : decode cX8_learn 71 = .ok (.invokevirtual 60, 3) := by decide +kernel
theorem dX8_learn_74 : decode cX8_learn 74 = .ok (.iinc 1 1, 3) := by decide +kernel
theorem dX8_learn_77 : decode cX8_learn 77 = .ok (.goto (-14), 3) := by decide +kernel
theorem dX8_learn_80 : decode cX8_learn 80 = .ok (.return_, 1) := by decide +kernel
theorem dX8_left_0 : decode cX8_left 0 = .ok (.aload_n 0, 1) := by decide +kernel
theorem dX8_left_1 : decode cX8_left 1 = .ok (.getfield 44, 3) := by decide +kernel
theorem dX8_left_4 : decode cX8_left 4 = .ok (.ireturn, 1) := by decide +kernel
theorem dX8_leftWith_0 : decode cX8_leftWith 0 = .ok (.aload_n 0, 1) := by decide +kernel
theorem dX8_leftWith_1 : decode cX8_leftWith 1 = .ok (.getfield 23, 3) := by decide +kernel
theorem dX8_leftWith_4 : decode cX8_leftWith 4 = .ok (.iload_n 1, 1) := by decide +kernel
theorem dX8_leftWith_5 : decode cX8_leftWith 5 = .ok (.bipush 10, 2) := by decide +kernel
theorem dX8_leftWith_7 : decode cX8_leftWith 7 = .ok (.imul, 1) := by decide +kernel
theorem dX8_leftWith_8 : decode cX8_leftWith 8 = .ok (.iload_n 2, 1) := by decide +kernel
theorem dX8_leftWith_9 : decode cX8_leftWith 9 = .ok (.iadd, 1) := by decide +kernel
theorem dX8_leftWith_10 : decode cX8_leftWith 10 = .ok (.invokevirtual 63, 3) := by decide +kernel
theorem dX8_leftWith_13 : decode cX8_leftWith 13 = .ok (.ireturn, 1) := by decide +kernel
theorem dX8_onlyWeightOf_0 : decode cX8_onlyWeightOf 0 = .ok (.iconst 0, 1) := by decide +kernel
theorem dX8_onlyWeightOf_1 : decode cX8_onlyWeightOf 1 = .ok (.istore_n 2, 1) := by decide +kernel
theorem dX8_onlyWeightOf_2 : decode cX8_onlyWeightOf 2 = .ok (.iload_n 2, 1) := by decide +kernel
theorem dX8_onlyWeightOf_3 : decode cX8_onlyWeightOf 3 = .ok (.bipush 9, 2) := by decide +kernel
theorem dX8_onlyWeightOf_5 : decode cX8_onlyWeightOf 5 = .ok (.if_icmp .gt 38, 3) := by decide +kernel
theorem dX8_onlyWeightOf_8 : decode cX8_onlyWeightOf 8 = .ok (.aload_n 0, 1) := by decide +kernel
theorem dX8_onlyWeightOf_9 : decode cX8_onlyWeightOf 9 = .ok (.getfield 44, 3) := by decide +kernel
theorem dX8_onlyWeightOf_12 : decode cX8_onlyWeightOf 12 = .ok (.ifCond .le 25, 3) := by decide +kernel
theorem dX8_onlyWeightOf_15 : decode cX8_onlyWeightOf 15 = .ok (.aload_n 0, 1) := by decide +kernel
theorem dX8_onlyWeightOf_16 : decode cX8_onlyWeightOf 16 = .ok (.getfield 23, 3) := by decide +kernel
theorem dX8_onlyWeightOf_19 : decode cX8_onlyWeightOf 19 = .ok (.iload_n 1, 1) := by decide +kernel
theorem dX8_onlyWeightOf_20 : decode cX8_onlyWeightOf 20 = .ok (.bipush 10, 2) := by decide +kernel
theorem dX8_onlyWeightOf_22 : decode cX8_onlyWeightOf 22 = .ok (.imul, 1) := by decide +kernel
theorem dX8_onlyWeightOf_23 : decode cX8_onlyWeightOf 23 = .ok (.iload_n 2, 1) := by decide +kernel
theorem dX8_onlyWeightOf_24 : decode cX8_onlyWeightOf 24 = .ok (.iadd, 1) := by decide +kernel
theorem dX8_onlyWeightOf_25 : decode cX8_onlyWeightOf 25 = .ok (.invokevirtual 63, 3) := by decide +kernel
theorem dX8_onlyWeightOf_28 : decode cX8_onlyWeightOf 28 = .ok (.aload_n 0, 1) := by decide +kernel
theorem dX8_onlyWeightOf_29 : decode cX8_onlyWeightOf 29 = .ok (.getfield 44, 3) := by decide +kernel
theorem dX8_onlyWeightOf_32 : decode cX8_onlyWeightOf 32 = .ok (.if_icmp .ne 5, 3) := by decide +kernel
theorem dX8_onlyWeightOf_35 : decode cX8_onlyWeightOf 35 = .ok (.iload_n 2, 1) := by decide +kernel
theorem dX8_onlyWeightOf_36 : decode cX8_onlyWeightOf 36 = .ok (.ireturn, 1) := by decide +kernel
theorem dX8_onlyWeightOf_37 : decode cX8_onlyWeightOf 37 = .ok (.iinc 2 1, 3) := by decide +kernel
theorem dX8_onlyWeightOf_40 : decode cX8_onlyWeightOf 40 = .ok (.goto (-38), 3) := by decide +kernel
theorem dX8_onlyWeightOf_43 : decode cX8_onlyWeightOf 43 = .ok (.bipush (-9), 2) := by decide +kernel
theorem dX8_onlyWeightOf_45 : decode cX8_onlyWeightOf 45 = .ok (.ireturn, 1) := by decide +kernel
theorem dX8_fewestFalse_0 : decode cX8_fewestFalse 0 = .ok (.aload_n 0, 1) := by decide +kernel
theorem dX8_fewestFalse_1 : decode cX8_fewestFalse 1 = .ok (.getfield 48, 3) := by decide +kernel
theorem dX8_fewestFalse_4 : decode cX8_fewestFalse 4 = .ok (.ireturn, 1) := by decide +kernel
theorem dX8_everFalse_0 : decode cX8_everFalse 0 = .ok (.aload_n 0, 1) := by decide +kernel
theorem dX8_everFalse_1 : decode cX8_everFalse 1 = .ok (.getfield 51, 3) := by decide +kernel
theorem dX8_everFalse_4 : decode cX8_everFalse 4 = .ok (.ireturn, 1) := by decide +kernel
theorem dX8_surelyLaughed_0 : decode cX8_surelyLaughed 0 = .ok (.aload_n 0, 1) := by decide +kernel
theorem dX8_surelyLaughed_1 : decode cX8_surelyLaughed 1 = .ok (.getfield 44, 3) := by decide +kernel
theorem dX8_surelyLaughed_4 : decode cX8_surelyLaughed 4 = .ok (.ifCond .ne 6, 3) := by decide +kernel
theorem dX8_surelyLaughed_7 : decode cX8_surelyLaughed 7 = .ok (.bipush (-9), 2) := by decide +kernel
theorem dX8_surelyLaughed_9 : decode cX8_surelyLaughed 9 = .ok (.ireturn, 1) := by decide +kernel
theorem dX8_surelyLaughed_10 : decode cX8_surelyLaughed 10 = .ok (.aload_n 0, 1) := by decide +kernel
theorem dX8_surelyLaughed_11 : decode cX8_surelyLaughed 11 = .ok (.getfield 36, 3) := by decide +kernel
theorem dX8_surelyLaughed_14 : decode cX8_surelyLaughed 14 = .ok (.iload_n 1, 1) := by decide +kernel
theorem dX8_surelyLaughed_15 : decode cX8_surelyLaughed 15 = .ok (.invokevirtual 67, 3) := by decide +kernel
theorem dX8_surelyLaughed_18 : decode cX8_surelyLaughed 18 = .ok (.iconst 2, 1) := by decide +kernel
theorem dX8_surelyLaughed_19 : decode cX8_surelyLaughed 19 = .ok (.if_icmp .eq 12, 3) := by decide +kernel
theorem dX8_surelyLaughed_22 : decode cX8_surelyLaughed 22 = .ok (.aload_n 0, 1) := by decide +kernel
theorem dX8_surelyLaughed_23 : decode cX8_surelyLaughed 23 = .ok (.getfield 36, 3) := by decide +kernel
theorem dX8_surelyLaughed_26 : decode cX8_surelyLaughed 26 = .ok (.iload_n 1, 1) := by decide +kernel
theorem dX8_surelyLaughed_27 : decode cX8_surelyLaughed 27 = .ok (.invokevirtual 67, 3) := by decide +kernel
theorem dX8_surelyLaughed_30 : decode cX8_surelyLaughed 30 = .ok (.ireturn, 1) := by decide +kernel
theorem dX8_surelyLaughed_31 : decode cX8_surelyLaughed 31 = .ok (.iconst 0, 1) := by decide +kernel
theorem dX8_surelyLaughed_32 : decode cX8_surelyLaughed 32 = .ok (.istore_n 2, 1) := by decide +kernel
theorem dX8_surelyLaughed_33 : decode cX8_surelyLaughed 33 = .ok (.iconst 0, 1) := by decide +kernel
theorem dX8_surelyLaughed_34 : decode cX8_surelyLaughed 34 = .ok (.istore_n 3, 1) := by decide +kernel
theorem dX8_surelyLaughed_35 : decode cX8_surelyLaughed 35 = .ok (.iload_n 3, 1) := by decide +kernel
theorem dX8_surelyLaughed_36 : decode cX8_surelyLaughed 36 = .ok (.bipush 13, 2) := by decide +kernel
theorem dX8_surelyLaughed_38 : decode cX8_surelyLaughed 38 = .ok (.if_icmp .ge 25, 3) := by decide +kernel
theorem dX8_surelyLaughed_41 : decode cX8_surelyLaughed 41 = .ok (.iload_n 2, 1) := by decide +kernel
theorem dX8_surelyLaughed_42 : decode cX8_surelyLaughed 42 = .ok (.aload_n 0, 1) := by decide +kernel
theorem dX8_surelyLaughed_43 : decode cX8_surelyLaughed 43 = .ok (.getfield 29, 3) := by decide +kernel
theorem dX8_surelyLaughed_46 : decode cX8_surelyLaughed 46 = .ok (.iload_n 1, 1) := by decide +kernel
theorem dX8_surelyLaughed_47 : decode cX8_surelyLaughed 47 = .ok (.bipush 13, 2) := by decide +kernel
theorem dX8_surelyLaughed_49 : decode cX8_surelyLaughed 49 = .ok (.imul, 1) := by decide +kernel
theorem dX8_surelyLaughed_50 : decode cX8_surelyLaughed 50 = .ok (.iload_n 3, 1) := by decide +kernel
theorem dX8_surelyLaughed_51 : decode cX8_surelyLaughed 51 = .ok (.iadd, 1) := by decide +kernel
theorem dX8_surelyLaughed_52 : decode cX8_surelyLaughed 52 = .ok (.invokevirtual 63, 3) := by decide +kernel
theorem dX8_surelyLaughed_55 : decode cX8_surelyLaughed 55 = .ok (.iadd, 1) := by decide +kernel
theorem dX8_surelyLaughed_56 : decode cX8_surelyLaughed 56 = .ok (.istore_n 2, 1) := by decide +kernel
theorem dX8_surelyLaughed_57 : decode cX8_surelyLaughed 57 = .ok (.iinc 3 1, 3) := by decide +kernel
theorem dX8_surelyLaughed_60 : decode cX8_surelyLaughed 60 = .ok (.goto (-25), 3) := by decide +kernel
theorem dX8_surelyLaughed_63 : decode cX8_surelyLaughed 63 = .ok (.iload_n 2, 1) := by decide +kernel
theorem dX8_surelyLaughed_64 : decode cX8_surelyLaughed 64 = .ok (.aload_n 0, 1) := by decide +kernel
theorem dX8_surelyLaughed_65 : decode cX8_surelyLaughed 65 = .ok (.getfield 44, 3) := by decide +kernel
theorem dX8_surelyLaughed_68 : decode cX8_surelyLaughed 68 = .ok (.if_icmp .ne 5, 3) := by decide +kernel
theorem dX8_surelyLaughed_71 : decode cX8_surelyLaughed 71 = .ok (.iconst 1, 1) := by decide +kernel
theorem dX8_surelyLaughed_72 : decode cX8_surelyLaughed 72 = .ok (.ireturn, 1) := by decide +kernel
theorem dX8_surelyLaughed_73 : decode cX8_surelyLaughed 73 = .ok (.iload_n 2, 1) := by decide +kernel
theorem dX8_surelyLaughed_74 : decode cX8_surelyLaughed 74 = .ok (.ifCond .ne 7, 3) := by decide +kernel
theorem dX8_surelyLaughed_77 : decode cX8_surelyLaughed 77 = .ok (.iconst 0, 1) := by decide +kernel
theorem dX8_surelyLaughed_78 : decode cX8_surelyLaughed 78 = .ok (.goto 5, 3) := by decide +kernel
theorem dX8_surelyLaughed_81 : decode cX8_surelyLaughed 81 = .ok (.bipush (-9), 2) := by decide +kernel
theorem dX8_surelyLaughed_83 : decode cX8_surelyLaughed 83 = .ok (.ireturn, 1) := by decide +kernel
theorem dX8_chances_0 : decode cX8_chances 0 = .ok (.aload_n 0, 1) := by decide +kernel
theorem dX8_chances_1 : decode cX8_chances 1 = .ok (.getfield 36, 3) := by decide +kernel
theorem dX8_chances_4 : decode cX8_chances 4 = .ok (.iload_n 1, 1) := by decide +kernel
theorem dX8_chances_5 : decode cX8_chances 5 = .ok (.invokevirtual 67, 3) := by decide +kernel
theorem dX8_chances_8 : decode cX8_chances 8 = .ok (.iconst 2, 1) := by decide +kernel
theorem dX8_chances_9 : decode cX8_chances 9 = .ok (.if_icmp .eq 26, 3) := by decide +kernel
theorem dX8_chances_12 : decode cX8_chances 12 = .ok (.aload_n 0, 1) := by decide +kernel
theorem dX8_chances_13 : decode cX8_chances 13 = .ok (.getfield 36, 3) := by decide +kernel
theorem dX8_chances_16 : decode cX8_chances 16 = .ok (.iload_n 1, 1) := by decide +kernel
theorem dX8_chances_17 : decode cX8_chances 17 = .ok (.invokevirtual 67, 3) := by decide +kernel
theorem dX8_chances_20 : decode cX8_chances 20 = .ok (.iconst 1, 1) := by decide +kernel
theorem dX8_chances_21 : decode cX8_chances 21 = .ok (.if_icmp .ne 12, 3) := by decide +kernel
theorem dX8_chances_24 : decode cX8_chances 24 = .ok (.aload_n 0, 1) := by decide +kernel
theorem dX8_chances_25 : decode cX8_chances 25 = .ok (.iload_n 2, 1) := by decide +kernel
theorem dX8_chances_26 : decode cX8_chances 26 = .ok (.iload_n 3, 1) := by decide +kernel
theorem dX8_chances_27 : decode cX8_chances 27 = .ok (.invokevirtual 72, 3) := by decide +kernel
theorem dX8_chances_30 : decode cX8_chances 30 = .ok (.goto 4, 3) := by decide +kernel
theorem dX8_chances_33 : decode cX8_chances 33 = .ok (.lconst 0, 1) := by decide +kernel
theorem dX8_chances_34 : decode cX8_chances 34 = .ok (.lreturn, 1) := by decide +kernel
theorem dX8_chances_35 : decode cX8_chances 35 = .ok (.lconst 0, 1) := by decide +kernel
theorem dX8_chances_36 : decode cX8_chances 36 = .ok (.lstore 4, 2) := by decide +kernel
theorem dX8_chances_38 : decode cX8_chances 38 = .ok (.iconst 0, 1) := by decide +kernel
theorem dX8_chances_39 : decode cX8_chances 39 = .ok (.istore 6, 2) := by decide +kernel
theorem dX8_chances_41 : decode cX8_chances 41 = .ok (.iload 6, 2) := by decide +kernel
theorem dX8_chances_43 : decode cX8_chances 43 = .ok (.bipush 13, 2) := by decide +kernel
theorem dX8_chances_45 : decode cX8_chances 45 = .ok (.if_icmp .ge 38, 3) := by decide +kernel
theorem dX8_chances_48 : decode cX8_chances 48 = .ok (.lload 4, 2) := by decide +kernel
theorem dX8_chances_50 : decode cX8_chances 50 = .ok (.aload_n 0, 1) := by decide +kernel
theorem dX8_chances_51 : decode cX8_chances 51 = .ok (.getfield 29, 3) := by decide +kernel
theorem dX8_chances_54 : decode cX8_chances 54 = .ok (.iload_n 1, 1) := by decide +kernel
theorem dX8_chances_55 : decode cX8_chances 55 = .ok (.bipush 13, 2) := by decide +kernel
theorem dX8_chances_57 : decode cX8_chances 57 = .ok (.imul, 1) := by decide +kernel
theorem dX8_chances_58 : decode cX8_chances 58 = .ok (.iload 6, 2) := by decide +kernel
theorem dX8_chances_60 : decode cX8_chances 60 = .ok (.iadd, 1) := by decide +kernel
theorem dX8_chances_61 : decode cX8_chances 61 = .ok (.invokevirtual 63, 3) := by decide +kernel
theorem dX8_chances_64 : decode cX8_chances 64 = .ok (.i2l, 1) := by decide +kernel
theorem dX8_chances_65 : decode cX8_chances 65 = .ok (.aload_n 0, 1) := by decide +kernel
theorem dX8_chances_66 : decode cX8_chances 66 = .ok (.iload 6, 2) := by decide +kernel
theorem dX8_chances_68 : decode cX8_chances 68 = .ok (.iload_n 2, 1) := by decide +kernel
theorem dX8_chances_69 : decode cX8_chances 69 = .ok (.iload_n 3, 1) := by decide +kernel
theorem dX8_chances_70 : decode cX8_chances 70 = .ok (.invokevirtual 76, 3) := by decide +kernel
theorem dX8_chances_73 : decode cX8_chances 73 = .ok (.lmul, 1) := by decide +kernel
theorem dX8_chances_74 : decode cX8_chances 74 = .ok (.ladd, 1) := by decide +kernel
theorem dX8_chances_75 : decode cX8_chances 75 = .ok (.lstore 4, 2) := by decide +kernel
theorem dX8_chances_77 : decode cX8_chances 77 = .ok (.iinc 6 1, 3) := by decide +kernel
theorem dX8_chances_80 : decode cX8_chances 80 = .ok (.goto (-39), 3) := by decide +kernel
theorem dX8_chances_83 : decode cX8_chances 83 = .ok (.lload 4, 2) := by decide +kernel
theorem dX8_chances_85 : decode cX8_chances 85 = .ok (.lreturn, 1) := by decide +kernel
theorem dX8_allChances_0 : decode cX8_allChances 0 = .ok (.lconst 0, 1) := by decide +kernel
theorem dX8_allChances_1 : decode cX8_allChances 1 = .ok (.lstore_n 3, 1) := by decide +kernel
theorem dX8_allChances_2 : decode cX8_allChances 2 = .ok (.iconst 0, 1) := by decide +kernel
theorem dX8_allChances_3 : decode cX8_allChances 3 = .ok (.istore 5, 2) := by decide +kernel
theorem dX8_allChances_5 : decode cX8_allChances 5 = .ok (.iload 5, 2) := by decide +kernel
theorem dX8_allChances_7 : decode cX8_allChances 7 = .ok (.bipush 13, 2) := by decide +kernel
theorem dX8_allChances_9 : decode cX8_allChances 9 = .ok (.if_icmp .ge 31, 3) := by decide +kernel
theorem dX8_allChances_12 : decode cX8_allChances 12 = .ok (.lload_n 3, 1) := by decide +kernel
theorem dX8_allChances_13 : decode cX8_allChances 13 = .ok (.aload_n 0, 1) := by decide +kernel
theorem dX8_allChances_14 : decode cX8_allChances 14 = .ok (.getfield 26, 3) := by decide +kernel
theorem dX8_allChances_17 : decode cX8_allChances 17 = .ok (.iload 5, 2) := by decide +kernel
theorem dX8_allChances_19 : decode cX8_allChances 19 = .ok (.invokevirtual 63, 3) := by decide +kernel
theorem dX8_allChances_22 : decode cX8_allChances 22 = .ok (.i2l, 1) := by decide +kernel
theorem dX8_allChances_23 : decode cX8_allChances 23 = .ok (.aload_n 0, 1) := by decide +kernel
theorem dX8_allChances_24 : decode cX8_allChances 24 = .ok (.iload 5, 2) := by decide +kernel
theorem dX8_allChances_26 : decode cX8_allChances 26 = .ok (.iload_n 1, 1) := by decide +kernel
theorem dX8_allChances_27 : decode cX8_allChances 27 = .ok (.iload_n 2, 1) := by decide +kernel
theorem dX8_allChances_28 : decode cX8_allChances 28 = .ok (.invokevirtual 76, 3) := by decide +kernel
theorem dX8_allChances_31 : decode cX8_allChances 31 = .ok (.lmul, 1) := by decide +kernel
theorem dX8_allChances_32 : decode cX8_allChances 32 = .ok (.ladd, 1) := by decide +kernel
theorem dX8_allChances_33 : decode cX8_allChances 33 = .ok (.lstore_n 3, 1) := by decide +kernel
theorem dX8_allChances_34 : decode cX8_allChances 34 = .ok (.iinc 5 1, 3) := by decide +kernel
theorem dX8_allChances_37 : decode cX8_allChances 37 = .ok (.goto (-32), 3) := by decide +kernel
theorem dX8_allChances_40 : decode cX8_allChances 40 = .ok (.lload_n 3, 1) := by decide +kernel
theorem dX8_allChances_41 : decode cX8_allChances 41 = .ok (.lreturn, 1) := by decide +kernel
theorem dX8_chance_0 : decode cX8_chance 0 = .ok (.lconst 1, 1) := by decide +kernel
theorem dX8_chance_1 : decode cX8_chance 1 = .ok (.lstore 4, 2) := by decide +kernel
theorem dX8_chance_3 : decode cX8_chance 3 = .ok (.aload_n 0, 1) := by decide +kernel
theorem dX8_chance_4 : decode cX8_chance 4 = .ok (.getfield 36, 3) := by decide +kernel
theorem dX8_chance_7 : decode cX8_chance 7 = .ok (.invokevirtual 80, 3) := by decide +kernel
theorem dX8_chance_10 : decode cX8_chance 10 = .ok (.istore 6, 2) := by decide +kernel
theorem dX8_chance_12 : decode cX8_chance 12 = .ok (.iconst 0, 1) := by decide +kernel
theorem dX8_chance_13 : decode cX8_chance 13 = .ok (.istore 7, 2) := by decide +kernel
theorem dX8_chance_15 : decode cX8_chance 15 = .ok (.iload 7, 2) := by decide +kernel
theorem dX8_chance_17 : decode cX8_chance 17 = .ok (.iload 6, 2) := by decide +kernel
theorem dX8_chance_19 : decode cX8_chance 19 = .ok (.if_icmp .ge 29, 3) := by decide +kernel
theorem dX8_chance_22 : decode cX8_chance 22 = .ok (.lload 4, 2) := by decide +kernel
theorem dX8_chance_24 : decode cX8_chance 24 = .ok (.iload 7, 2) := by decide +kernel
theorem dX8_chance_26 : decode cX8_chance 26 = .ok (.iload_n 1, 1) := by decide +kernel
theorem dX8_chance_27 : decode cX8_chance 27 = .ok (.if_icmp .ge 8, 3) := by decide +kernel
theorem dX8_chance_30 : decode cX8_chance 30 = .ok (.iload_n 2, 1) := by decide +kernel
theorem dX8_chance_31 : decode cX8_chance 31 = .ok (.i2l, 1) := by decide +kernel
theorem dX8_chance_32 : decode cX8_chance 32 = .ok (.goto 7, 3) := by decide +kernel
theorem dX8_chance_35 : decode cX8_chance 35 = .ok (.iload_n 3, 1) := by decide +kernel
theorem dX8_chance_36 : decode cX8_chance 36 = .ok (.iload_n 2, 1) := by decide +kernel
theorem dX8_chance_37 : decode cX8_chance 37 = .ok (.isub, 1) := by decide +kernel
theorem dX8_chance_38 : decode cX8_chance 38 = .ok (.i2l, 1) := by decide +kernel
theorem dX8_chance_39 : decode cX8_chance 39 = .ok (.lmul, 1) := by decide +kernel
theorem dX8_chance_40 : decode cX8_chance 40 = .ok (.lstore 4, 2) := by decide +kernel
theorem dX8_chance_42 : decode cX8_chance 42 = .ok (.iinc 7 1, 3) := by decide +kernel
theorem dX8_chance_45 : decode cX8_chance 45 = .ok (.goto (-30), 3) := by decide +kernel
theorem dX8_chance_48 : decode cX8_chance 48 = .ok (.lload 4, 2) := by decide +kernel
theorem dX8_chance_50 : decode cX8_chance 50 = .ok (.lreturn, 1) := by decide +kernel
theorem dX8_leftAfter_0 : decode cX8_leftAfter 0 = .ok (.iload_n 1, 1) := by decide +kernel
theorem dX8_leftAfter_1 : decode cX8_leftAfter 1 = .ok (.iconst 1, 1) := by decide +kernel
theorem dX8_leftAfter_2 : decode cX8_leftAfter 2 = .ok (.iadd, 1) := by decide +kernel
theorem dX8_leftAfter_3 : decode cX8_leftAfter 3 = .ok (.istore_n 2, 1) := by decide +kernel
theorem dX8_leftAfter_4 : decode cX8_leftAfter 4 = .ok (.iload_n 2, 1) := by decide +kernel
theorem dX8_leftAfter_5 : decode cX8_leftAfter 5 = .ok (.sipush 10000, 3) := by decide +kernel
theorem dX8_leftAfter_8 : decode cX8_leftAfter 8 = .ok (.if_icmp .ge 48, 3) := by decide +kernel
theorem dX8_leftAfter_11 : decode cX8_leftAfter 11 = .ok (.aload_n 0, 1) := by decide +kernel
theorem dX8_leftAfter_12 : decode cX8_leftAfter 12 = .ok (.getfield 20, 3) := by decide +kernel
theorem dX8_leftAfter_15 : decode cX8_leftAfter 15 = .ok (.iload_n 2, 1) := by decide +kernel
theorem dX8_leftAfter_16 : decode cX8_leftAfter 16 = .ok (.iconst 5, 1) := by decide +kernel
theorem dX8_leftAfter_17 : decode cX8_leftAfter 17 = .ok (.ishr, 1) := by decide +kernel
theorem dX8_leftAfter_18 : decode cX8_leftAfter 18 = .ok (.invokevirtual 63, 3) := by decide +kernel
theorem dX8_leftAfter_21 : decode cX8_leftAfter 21 = .ok (.iload_n 2, 1) := by decide +kernel
theorem dX8_leftAfter_22 : decode cX8_leftAfter 22 = .ok (.bipush 31, 2) := by decide +kernel
theorem dX8_leftAfter_24 : decode cX8_leftAfter 24 = .ok (.iand, 1) := by decide +kernel
theorem dX8_leftAfter_25 : decode cX8_leftAfter 25 = .ok (.iushr, 1) := by decide +kernel
theorem dX8_leftAfter_26 : decode cX8_leftAfter 26 = .ok (.istore_n 3, 1) := by decide +kernel
theorem dX8_leftAfter_27 : decode cX8_leftAfter 27 = .ok (.iload_n 3, 1) := by decide +kernel
theorem dX8_leftAfter_28 : decode cX8_leftAfter 28 = .ok (.iconst 1, 1) := by decide +kernel
theorem dX8_leftAfter_29 : decode cX8_leftAfter 29 = .ok (.iand, 1) := by decide +kernel
theorem dX8_leftAfter_30 : decode cX8_leftAfter 30 = .ok (.iconst 1, 1) := by decide +kernel
theorem dX8_leftAfter_31 : decode cX8_leftAfter 31 = .ok (.if_icmp .ne 5, 3) := by decide +kernel
theorem dX8_leftAfter_34 : decode cX8_leftAfter 34 = .ok (.iload_n 2, 1) := by decide +kernel
theorem dX8_leftAfter_35 : decode cX8_leftAfter 35 = .ok (.ireturn, 1) := by decide +kernel
theorem dX8_leftAfter_36 : decode cX8_leftAfter 36 = .ok (.iload_n 3, 1) := by decide +kernel
theorem dX8_leftAfter_37 : decode cX8_leftAfter 37 = .ok (.ifCond .ne 12, 3) := by decide +kernel
theorem dX8_leftAfter_40 : decode cX8_leftAfter 40 = .ok (.iload_n 2, 1) := by decide +kernel
theorem dX8_leftAfter_41 : decode cX8_leftAfter 41 = .ok (.bipush 31, 2) := by decide +kernel
theorem dX8_leftAfter_43 : decode cX8_leftAfter 43 = .ok (.ior, 1) := by decide +kernel
theorem dX8_leftAfter_44 : decode cX8_leftAfter 44 = .ok (.iconst 1, 1) := by decide +kernel
theorem dX8_leftAfter_45 : decode cX8_leftAfter 45 = .ok (.iadd, 1) := by decide +kernel
theorem dX8_leftAfter_46 : decode cX8_leftAfter 46 = .ok (.goto 6, 3) := by decide +kernel
theorem dX8_leftAfter_49 : decode cX8_leftAfter 49 = .ok (.iload_n 2, 1) := by decide +kernel
theorem dX8_leftAfter_50 : decode cX8_leftAfter 50 = .ok (.iconst 1, 1) := by decide +kernel
theorem dX8_leftAfter_51 : decode cX8_leftAfter 51 = .ok (.iadd, 1) := by decide +kernel
theorem dX8_leftAfter_52 : decode cX8_leftAfter 52 = .ok (.istore_n 2, 1) := by decide +kernel
theorem dX8_leftAfter_53 : decode cX8_leftAfter 53 = .ok (.goto (-49), 3) := by decide +kernel
theorem dX8_leftAfter_56 : decode cX8_leftAfter 56 = .ok (.sipush 10000, 3) := by decide +kernel
theorem dX8_leftAfter_59 : decode cX8_leftAfter 59 = .ok (.ireturn, 1) := by decide +kernel
theorem dX8_weightIn_0 : decode cX8_weightIn 0 = .ok (.iload_n 1, 1) := by decide +kernel
theorem dX8_weightIn_1 : decode cX8_weightIn 1 = .ok (.tableswitch 49 0 2 #[27, 33, 41], 27) := by decide +kernel
theorem dX8_weightIn_28 : decode cX8_weightIn 28 = .ok (.iload_n 0, 1) := by decide +kernel
theorem dX8_weightIn_29 : decode cX8_weightIn 29 = .ok (.sipush 1000, 3) := by decide +kernel
theorem dX8_weightIn_32 : decode cX8_weightIn 32 = .ok (.idiv, 1) := by decide +kernel
theorem dX8_weightIn_33 : decode cX8_weightIn 33 = .ok (.ireturn, 1) := by decide +kernel
theorem dX8_weightIn_34 : decode cX8_weightIn 34 = .ok (.iload_n 0, 1) := by decide +kernel
theorem dX8_weightIn_35 : decode cX8_weightIn 35 = .ok (.bipush 100, 2) := by decide +kernel
theorem dX8_weightIn_37 : decode cX8_weightIn 37 = .ok (.idiv, 1) := by decide +kernel
theorem dX8_weightIn_38 : decode cX8_weightIn 38 = .ok (.bipush 10, 2) := by decide +kernel
theorem dX8_weightIn_40 : decode cX8_weightIn 40 = .ok (.irem, 1) := by decide +kernel
theorem dX8_weightIn_41 : decode cX8_weightIn 41 = .ok (.ireturn, 1) := by decide +kernel
theorem dX8_weightIn_42 : decode cX8_weightIn 42 = .ok (.iload_n 0, 1) := by decide +kernel
theorem dX8_weightIn_43 : decode cX8_weightIn 43 = .ok (.bipush 10, 2) := by decide +kernel
theorem dX8_weightIn_45 : decode cX8_weightIn 45 = .ok (.idiv, 1) := by decide +kernel
theorem dX8_weightIn_46 : decode cX8_weightIn 46 = .ok (.bipush 10, 2) := by decide +kernel
theorem dX8_weightIn_48 : decode cX8_weightIn 48 = .ok (.irem, 1) := by decide +kernel
theorem dX8_weightIn_49 : decode cX8_weightIn 49 = .ok (.ireturn, 1) := by decide +kernel
theorem dX8_weightIn_50 : decode cX8_weightIn 50 = .ok (.iload_n 0, 1) := by decide +kernel
theorem dX8_weightIn_51 : decode cX8_weightIn 51 = .ok (.bipush 10, 2) := by decide +kernel
theorem dX8_weightIn_53 : decode cX8_weightIn 53 = .ok (.irem, 1) := by decide +kernel
theorem dX8_weightIn_54 : decode cX8_weightIn 54 = .ok (.ireturn, 1) := by decide +kernel
theorem dX8_loadIn_0 : decode cX8_loadIn 0 = .ok (.iload_n 0, 1) := by decide +kernel
theorem dX8_loadIn_1 : decode cX8_loadIn 1 = .ok (.bipush 10, 2) := by decide +kernel
theorem dX8_loadIn_3 : decode cX8_loadIn 3 = .ok (.irem, 1) := by decide +kernel
theorem dX8_loadIn_4 : decode cX8_loadIn 4 = .ok (.istore_n 2, 1) := by decide +kernel
theorem dX8_loadIn_5 : decode cX8_loadIn 5 = .ok (.iload_n 1, 1) := by decide +kernel
theorem dX8_loadIn_6 : decode cX8_loadIn 6 = .ok (.iconst 1, 1) := by decide +kernel
theorem dX8_loadIn_7 : decode cX8_loadIn 7 = .ok (.iand, 1) := by decide +kernel
theorem dX8_loadIn_8 : decode cX8_loadIn 8 = .ok (.ifCond .eq 11, 3) := by decide +kernel
theorem dX8_loadIn_11 : decode cX8_loadIn 11 = .ok (.iload_n 2, 1) := by decide +kernel
theorem dX8_loadIn_12 : decode cX8_loadIn 12 = .ok (.iload_n 0, 1) := by decide +kernel
theorem dX8_loadIn_13 : decode cX8_loadIn 13 = .ok (.sipush 1000, 3) := by decide +kernel
theorem dX8_loadIn_16 : decode cX8_loadIn 16 = .ok (.idiv, 1) := by decide +kernel
theorem dX8_loadIn_17 : decode cX8_loadIn 17 = .ok (.iadd, 1) := by decide +kernel
theorem dX8_loadIn_18 : decode cX8_loadIn 18 = .ok (.istore_n 2, 1) := by decide +kernel
theorem dX8_loadIn_19 : decode cX8_loadIn 19 = .ok (.iload_n 1, 1) := by decide +kernel
theorem dX8_loadIn_20 : decode cX8_loadIn 20 = .ok (.iconst 2, 1) := by decide +kernel
theorem dX8_loadIn_21 : decode cX8_loadIn 21 = .ok (.iand, 1) := by decide +kernel
theorem dX8_loadIn_22 : decode cX8_loadIn 22 = .ok (.ifCond .eq 13, 3) := by decide +kernel
theorem dX8_loadIn_25 : decode cX8_loadIn 25 = .ok (.iload_n 2, 1) := by decide +kernel
theorem dX8_loadIn_26 : decode cX8_loadIn 26 = .ok (.iload_n 0, 1) := by decide +kernel
theorem dX8_loadIn_27 : decode cX8_loadIn 27 = .ok (.bipush 100, 2) := by decide +kernel
theorem dX8_loadIn_29 : decode cX8_loadIn 29 = .ok (.idiv, 1) := by decide +kernel
theorem dX8_loadIn_30 : decode cX8_loadIn 30 = .ok (.bipush 10, 2) := by decide +kernel
theorem dX8_loadIn_32 : decode cX8_loadIn 32 = .ok (.irem, 1) := by decide +kernel
theorem dX8_loadIn_33 : decode cX8_loadIn 33 = .ok (.iadd, 1) := by decide +kernel
theorem dX8_loadIn_34 : decode cX8_loadIn 34 = .ok (.istore_n 2, 1) := by decide +kernel
theorem dX8_loadIn_35 : decode cX8_loadIn 35 = .ok (.iload_n 1, 1) := by decide +kernel
theorem dX8_loadIn_36 : decode cX8_loadIn 36 = .ok (.iconst 4, 1) := by decide +kernel
theorem dX8_loadIn_37 : decode cX8_loadIn 37 = .ok (.iand, 1) := by decide +kernel
theorem dX8_loadIn_38 : decode cX8_loadIn 38 = .ok (.ifCond .eq 13, 3) := by decide +kernel
theorem dX8_loadIn_41 : decode cX8_loadIn 41 = .ok (.iload_n 2, 1) := by decide +kernel
theorem dX8_loadIn_42 : decode cX8_loadIn 42 = .ok (.iload_n 0, 1) := by decide +kernel
theorem dX8_loadIn_43 : decode cX8_loadIn 43 = .ok (.bipush 10, 2) := by decide +kernel
theorem dX8_loadIn_45 : decode cX8_loadIn 45 = .ok (.idiv, 1) := by decide +kernel
theorem dX8_loadIn_46 : decode cX8_loadIn 46 = .ok (.bipush 10, 2) := by decide +kernel
theorem dX8_loadIn_48 : decode cX8_loadIn 48 = .ok (.irem, 1) := by decide +kernel
theorem dX8_loadIn_49 : decode cX8_loadIn 49 = .ok (.iadd, 1) := by decide +kernel
theorem dX8_loadIn_50 : decode cX8_loadIn 50 = .ok (.istore_n 2, 1) := by decide +kernel
theorem dX8_loadIn_51 : decode cX8_loadIn 51 = .ok (.iload_n 2, 1) := by decide +kernel
theorem dX8_loadIn_52 : decode cX8_loadIn 52 = .ok (.ireturn, 1) := by decide +kernel
theorem dX8_writeCodes_0 : decode cX8_writeCodes 0 = .ok (.aload_n 0, 1) := by decide +kernel
theorem dX8_writeCodes_1 : decode cX8_writeCodes 1 = .ok (.getfield 16, 3) := by decide +kernel
theorem dX8_writeCodes_4 : decode cX8_writeCodes 4 = .ok (.invokevirtual 54, 3) := by decide +kernel
theorem dX8_writeCodes_7 : decode cX8_writeCodes 7 = .ok (.iconst 0, 1) := by decide +kernel
theorem dX8_writeCodes_8 : decode cX8_writeCodes 8 = .ok (.istore_n 1, 1) := by decide +kernel
theorem dX8_writeCodes_9 : decode cX8_writeCodes 9 = .ok (.iload_n 1, 1) := by decide +kernel
theorem dX8_writeCodes_10 : decode cX8_writeCodes 10 = .ok (.aload_n 0, 1) := by decide +kernel
theorem dX8_writeCodes_11 : decode cX8_writeCodes 11 = .ok (.getfield 36, 3) := by decide +kernel
theorem dX8_writeCodes_14 : decode cX8_writeCodes 14 = .ok (.invokevirtual 84, 3) := by decide +kernel
theorem dX8_writeCodes_17 : decode cX8_writeCodes 17 = .ok (.if_icmp .ge 49, 3) := by decide +kernel
theorem dX8_writeCodes_20 : decode cX8_writeCodes 20 = .ok (.iconst 0, 1) := by decide +kernel
theorem dX8_writeCodes_21 : decode cX8_writeCodes 21 = .ok (.istore_n 2, 1) := by decide +kernel
theorem dX8_writeCodes_22 : decode cX8_writeCodes 22 = .ok (.iload_n 2, 1) := by decide +kernel
theorem dX8_writeCodes_23 : decode cX8_writeCodes 23 = .ok (.bipush 37, 2) := by decide +kernel
theorem dX8_writeCodes_25 : decode cX8_writeCodes 25 = .ok (.if_icmp .ge 35, 3) := by decide +kernel
theorem dX8_writeCodes_28 : decode cX8_writeCodes 28 = .ok (.aload_n 0, 1) := by decide +kernel
theorem dX8_writeCodes_29 : decode cX8_writeCodes 29 = .ok (.getfield 16, 3) := by decide +kernel
theorem dX8_writeCodes_32 : decode cX8_writeCodes 32 = .ok (.aload_n 0, 1) := by decide +kernel
theorem dX8_writeCodes_33 : decode cX8_writeCodes 33 = .ok (.getfield 36, 3) := by decide +kernel
theorem dX8_writeCodes_36 : decode cX8_writeCodes 36 = .ok (.iload_n 1, 1) := by decide +kernel
theorem dX8_writeCodes_37 : decode cX8_writeCodes 37 = .ok (.invokevirtual 87, 3) := by decide +kernel
theorem dX8_writeCodes_40 : decode cX8_writeCodes 40 = .ok (.bipush 37, 2) := by decide +kernel
theorem dX8_writeCodes_42 : decode cX8_writeCodes 42 = .ok (.imul, 1) := by decide +kernel
theorem dX8_writeCodes_43 : decode cX8_writeCodes 43 = .ok (.iload_n 2, 1) := by decide +kernel
theorem dX8_writeCodes_44 : decode cX8_writeCodes 44 = .ok (.iadd, 1) := by decide +kernel
theorem dX8_writeCodes_45 : decode cX8_writeCodes 45 = .ok (.aload_n 0, 1) := by decide +kernel
theorem dX8_writeCodes_46 : decode cX8_writeCodes 46 = .ok (.iload_n 1, 1) := by decide +kernel
theorem dX8_writeCodes_47 : decode cX8_writeCodes 47 = .ok (.iload_n 2, 1) := by decide +kernel
theorem dX8_writeCodes_48 : decode cX8_writeCodes 48 = .ok (.invokevirtual 90, 3) := by decide +kernel
theorem dX8_writeCodes_51 : decode cX8_writeCodes 51 = .ok (.invokevirtual 94, 3) := by decide +kernel
theorem dX8_writeCodes_54 : decode cX8_writeCodes 54 = .ok (.iinc 2 1, 3) := by decide +kernel
theorem dX8_writeCodes_57 : decode cX8_writeCodes 57 = .ok (.goto (-35), 3) := by decide +kernel
theorem dX8_writeCodes_60 : decode cX8_writeCodes 60 = .ok (.iinc 1 1, 3) := by decide +kernel
theorem dX8_writeCodes_63 : decode cX8_writeCodes 63 = .ok (.goto (-54), 3) := by decide +kernel
theorem dX8_writeCodes_66 : decode cX8_writeCodes 66 = .ok (.return_, 1) := by decide +kernel
theorem dX8_codeOf_0 : decode cX8_codeOf 0 = .ok (.aload_n 0, 1) := by decide +kernel
theorem dX8_codeOf_1 : decode cX8_codeOf 1 = .ok (.getfield 36, 3) := by decide +kernel
theorem dX8_codeOf_4 : decode cX8_codeOf 4 = .ok (.iload_n 1, 1) := by decide +kernel
theorem dX8_codeOf_5 : decode cX8_codeOf 5 = .ok (.invokevirtual 67, 3) := by decide +kernel
theorem dX8_codeOf_8 : decode cX8_codeOf 8 = .ok (.istore_n 3, 1) := by decide +kernel
theorem dX8_codeOf_9 : decode cX8_codeOf 9 = .ok (.aload_n 0, 1) := by decide +kernel
theorem dX8_codeOf_10 : decode cX8_codeOf 10 = .ok (.getfield 32, 3) := by decide +kernel
theorem dX8_codeOf_13 : decode cX8_codeOf 13 = .ok (.iload_n 2, 1) := by decide +kernel
theorem dX8_codeOf_14 : decode cX8_codeOf 14 = .ok (.invokevirtual 98, 3) := by decide +kernel
theorem dX8_codeOf_17 : decode cX8_codeOf 17 = .ok (.aload_n 0, 1) := by decide +kernel
theorem dX8_codeOf_18 : decode cX8_codeOf 18 = .ok (.getfield 36, 3) := by decide +kernel
theorem dX8_codeOf_21 : decode cX8_codeOf 21 = .ok (.iload_n 1, 1) := by decide +kernel
theorem dX8_codeOf_22 : decode cX8_codeOf 22 = .ok (.invokevirtual 103, 3) := by decide +kernel
theorem dX8_codeOf_25 : decode cX8_codeOf 25 = .ok (.if_icmp .ne 7, 3) := by decide +kernel
theorem dX8_codeOf_28 : decode cX8_codeOf 28 = .ok (.iconst 1, 1) := by decide +kernel
theorem dX8_codeOf_29 : decode cX8_codeOf 29 = .ok (.goto 4, 3) := by decide +kernel
theorem dX8_codeOf_32 : decode cX8_codeOf 32 = .ok (.iconst 0, 1) := by decide +kernel
theorem dX8_codeOf_33 : decode cX8_codeOf 33 = .ok (.istore 4, 2) := by decide +kernel
theorem dX8_codeOf_35 : decode cX8_codeOf 35 = .ok (.aload_n 0, 1) := by decide +kernel
theorem dX8_codeOf_36 : decode cX8_codeOf 36 = .ok (.getfield 32, 3) := by decide +kernel
theorem dX8_codeOf_39 : decode cX8_codeOf 39 = .ok (.iload_n 2, 1) := by decide +kernel
theorem dX8_codeOf_40 : decode cX8_codeOf 40 = .ok (.iconst 1, 1) := by decide +kernel
theorem dX8_codeOf_41 : decode cX8_codeOf 41 = .ok (.iadd, 1) := by decide +kernel
theorem dX8_codeOf_42 : decode cX8_codeOf 42 = .ok (.invokevirtual 98, 3) := by decide +kernel
theorem dX8_codeOf_45 : decode cX8_codeOf 45 = .ok (.aload_n 0, 1) := by decide +kernel
theorem dX8_codeOf_46 : decode cX8_codeOf 46 = .ok (.getfield 36, 3) := by decide +kernel
theorem dX8_codeOf_49 : decode cX8_codeOf 49 = .ok (.iload_n 1, 1) := by decide +kernel
theorem dX8_codeOf_50 : decode cX8_codeOf 50 = .ok (.invokevirtual 103, 3) := by decide +kernel
theorem dX8_codeOf_53 : decode cX8_codeOf 53 = .ok (.if_icmp .ne 7, 3) := by decide +kernel
theorem dX8_codeOf_56 : decode cX8_codeOf 56 = .ok (.iconst 1, 1) := by decide +kernel
theorem dX8_codeOf_57 : decode cX8_codeOf 57 = .ok (.goto 4, 3) := by decide +kernel
theorem dX8_codeOf_60 : decode cX8_codeOf 60 = .ok (.iconst 0, 1) := by decide +kernel
theorem dX8_codeOf_61 : decode cX8_codeOf 61 = .ok (.istore 5, 2) := by decide +kernel
theorem dX8_codeOf_63 : decode cX8_codeOf 63 = .ok (.iload_n 3, 1) := by decide +kernel
theorem dX8_codeOf_64 : decode cX8_codeOf 64 = .ok (.iconst 1, 1) := by decide +kernel
theorem dX8_codeOf_65 : decode cX8_codeOf 65 = .ok (.if_icmp .eq 8, 3) := by decide +kernel
theorem dX8_codeOf_68 : decode cX8_codeOf 68 = .ok (.iload 4, 2) := by decide +kernel
theorem dX8_codeOf_70 : decode cX8_codeOf 70 = .ok (.ifCond .ne 12, 3) := by decide +kernel
theorem dX8_codeOf_73 : decode cX8_codeOf 73 = .ok (.iload_n 3, 1) := by decide +kernel
theorem dX8_codeOf_74 : decode cX8_codeOf 74 = .ok (.ifCond .eq 12, 3) := by decide +kernel
theorem dX8_codeOf_77 : decode cX8_codeOf 77 = .ok (.iload 5, 2) := by decide +kernel
theorem dX8_codeOf_79 : decode cX8_codeOf 79 = .ok (.ifCond .eq 7, 3) := by decide +kernel
theorem dX8_codeOf_82 : decode cX8_codeOf 82 = .ok (.iconst 1, 1) := by decide +kernel
theorem dX8_codeOf_83 : decode cX8_codeOf 83 = .ok (.goto 4, 3) := by decide +kernel
theorem dX8_codeOf_86 : decode cX8_codeOf 86 = .ok (.iconst 0, 1) := by decide +kernel
theorem dX8_codeOf_87 : decode cX8_codeOf 87 = .ok (.istore 6, 2) := by decide +kernel
theorem dX8_codeOf_89 : decode cX8_codeOf 89 = .ok (.iload 6, 2) := by decide +kernel
theorem dX8_codeOf_91 : decode cX8_codeOf 91 = .ok (.ifCond .eq 7, 3) := by decide +kernel
theorem dX8_codeOf_94 : decode cX8_codeOf 94 = .ok (.iconst 0, 1) := by decide +kernel
theorem dX8_codeOf_95 : decode cX8_codeOf 95 = .ok (.goto 6, 3) := by decide +kernel
theorem dX8_codeOf_98 : decode cX8_codeOf 98 = .ok (.iconst 1, 1) := by decide +kernel
theorem dX8_codeOf_99 : decode cX8_codeOf 99 = .ok (.iload_n 1, 1) := by decide +kernel
theorem dX8_codeOf_100 : decode cX8_codeOf 100 = .ok (.ishl, 1) := by decide +kernel
theorem dX8_codeOf_101 : decode cX8_codeOf 101 = .ok (.istore 7, 2) := by decide +kernel
theorem dX8_codeOf_103 : decode cX8_codeOf 103 = .ok (.iload_n 3, 1) := by decide +kernel
theorem dX8_codeOf_104 : decode cX8_codeOf 104 = .ok (.iconst 2, 1) := by decide +kernel
theorem dX8_codeOf_105 : decode cX8_codeOf 105 = .ok (.if_icmp .ne 20, 3) := by decide +kernel
theorem dX8_codeOf_108 : decode cX8_codeOf 108 = .ok (.iload 5, 2) := by decide +kernel
theorem dX8_codeOf_110 : decode cX8_codeOf 110 = .ok (.ifCond .eq 15, 3) := by decide +kernel
theorem dX8_codeOf_113 : decode cX8_codeOf 113 = .ok (.iload 7, 2) := by decide +kernel
theorem dX8_codeOf_115 : decode cX8_codeOf 115 = .ok (.iconst 1, 1) := by decide +kernel
theorem dX8_codeOf_116 : decode cX8_codeOf 116 = .ok (.bipush 12, 2) := by decide +kernel
theorem dX8_codeOf_118 : decode cX8_codeOf 118 = .ok (.iload_n 1, 1) := by decide +kernel
theorem dX8_codeOf_119 : decode cX8_codeOf 119 = .ok (.iadd, 1) := by decide +kernel
theorem dX8_codeOf_120 : decode cX8_codeOf 120 = .ok (.ishl, 1) := by decide +kernel
theorem dX8_codeOf_121 : decode cX8_codeOf 121 = .ok (.ior, 1) := by decide +kernel
theorem dX8_codeOf_122 : decode cX8_codeOf 122 = .ok (.goto 5, 3) := by decide +kernel
theorem dX8_codeOf_125 : decode cX8_codeOf 125 = .ok (.iload 7, 2) := by decide +kernel
theorem dX8_codeOf_127 : decode cX8_codeOf 127 = .ok (.ireturn, 1) := by decide +kernel
theorem dX8_code_0 : decode cX8_code 0 = .ok (.aload_n 0, 1) := by decide +kernel
theorem dX8_code_1 : decode cX8_code 1 = .ok (.getfield 16, 3) := by decide +kernel
theorem dX8_code_4 : decode cX8_code 4 = .ok (.iload_n 1, 1) := by decide +kernel
theorem dX8_code_5 : decode cX8_code 5 = .ok (.bipush 37, 2) := by decide +kernel
theorem dX8_code_7 : decode cX8_code 7 = .ok (.imul, 1) := by decide +kernel
theorem dX8_code_8 : decode cX8_code 8 = .ok (.iload_n 2, 1) := by decide +kernel
theorem dX8_code_9 : decode cX8_code 9 = .ok (.iadd, 1) := by decide +kernel
theorem dX8_code_10 : decode cX8_code 10 = .ok (.invokevirtual 63, 3) := by decide +kernel
theorem dX8_code_13 : decode cX8_code 13 = .ok (.ireturn, 1) := by decide +kernel
theorem dX8_meetWorldsWith_0 : decode cX8_meetWorldsWith 0 = .ok (.aload_n 0, 1) := by decide +kernel
theorem dX8_meetWorldsWith_1 : decode cX8_meetWorldsWith 1 = .ok (.iconst 0, 1) := by decide +kernel
theorem dX8_meetWorldsWith_2 : decode cX8_meetWorldsWith 2 = .ok (.iload_n 1, 1) := by decide +kernel
theorem dX8_meetWorldsWith_3 : decode cX8_meetWorldsWith 3 = .ok (.invokevirtual 106, 3) := by decide +kernel
theorem dX8_meetWorldsWith_6 : decode cX8_meetWorldsWith 6 = .ok (.istore_n 2, 1) := by decide +kernel
theorem dX8_meetWorldsWith_7 : decode cX8_meetWorldsWith 7 = .ok (.aload_n 0, 1) := by decide +kernel
theorem dX8_meetWorldsWith_8 : decode cX8_meetWorldsWith 8 = .ok (.iconst 0, 1) := by decide +kernel
theorem dX8_meetWorldsWith_9 : decode cX8_meetWorldsWith 9 = .ok (.invokevirtual 109, 3) := by decide +kernel
theorem dX8_meetWorldsWith_12 : decode cX8_meetWorldsWith 12 = .ok (.istore_n 3, 1) := by decide +kernel
theorem dX8_meetWorldsWith_13 : decode cX8_meetWorldsWith 13 = .ok (.iload_n 3, 1) := by decide +kernel
theorem dX8_meetWorldsWith_14 : decode cX8_meetWorldsWith 14 = .ok (.aload_n 0, 1) := by decide +kernel
theorem dX8_meetWorldsWith_15 : decode cX8_meetWorldsWith 15 = .ok (.iconst 0, 1) := by decide +kernel
theorem dX8_meetWorldsWith_16 : decode cX8_meetWorldsWith 16 = .ok (.invokevirtual 112, 3) := by decide +kernel
theorem dX8_meetWorldsWith_19 : decode cX8_meetWorldsWith 19 = .ok (.if_icmp .gt 174, 3) := by decide +kernel
theorem dX8_meetWorldsWith_22 : decode cX8_meetWorldsWith 22 = .ok (.iload_n 2, 1) := by decide +kernel
theorem dX8_meetWorldsWith_23 : decode cX8_meetWorldsWith 23 = .ok (.aload_n 0, 1) := by decide +kernel
theorem dX8_meetWorldsWith_24 : decode cX8_meetWorldsWith 24 = .ok (.iconst 1, 1) := by decide +kernel
theorem dX8_meetWorldsWith_25 : decode cX8_meetWorldsWith 25 = .ok (.iload_n 1, 1) := by decide +kernel
theorem dX8_meetWorldsWith_26 : decode cX8_meetWorldsWith 26 = .ok (.iload_n 3, 1) := by decide +kernel
theorem dX8_meetWorldsWith_27 : decode cX8_meetWorldsWith 27 = .ok (.iadd, 1) := by decide +kernel
theorem dX8_meetWorldsWith_28 : decode cX8_meetWorldsWith 28 = .ok (.invokevirtual 106, 3) := by decide +kernel
theorem dX8_meetWorldsWith_31 : decode cX8_meetWorldsWith 31 = .ok (.ior, 1) := by decide +kernel
theorem dX8_meetWorldsWith_32 : decode cX8_meetWorldsWith 32 = .ok (.istore 4, 2) := by decide +kernel
theorem dX8_meetWorldsWith_34 : decode cX8_meetWorldsWith 34 = .ok (.aload_n 0, 1) := by decide +kernel
theorem dX8_meetWorldsWith_35 : decode cX8_meetWorldsWith 35 = .ok (.iconst 1, 1) := by decide +kernel
theorem dX8_meetWorldsWith_36 : decode cX8_meetWorldsWith 36 = .ok (.invokevirtual 109, 3) := by decide +kernel
theorem dX8_meetWorldsWith_39 : decode cX8_meetWorldsWith 39 = .ok (.istore 5, 2) := by decide +kernel
theorem dX8_meetWorldsWith_41 : decode cX8_meetWorldsWith 41 = .ok (.iload 5, 2) := by decide +kernel
theorem dX8_meetWorldsWith_43 : decode cX8_meetWorldsWith 43 = .ok (.aload_n 0, 1) := by decide +kernel
theorem dX8_meetWorldsWith_44 : decode cX8_meetWorldsWith 44 = .ok (.iconst 1, 1) := by decide +kernel
theorem dX8_meetWorldsWith_45 : decode cX8_meetWorldsWith 45 = .ok (.invokevirtual 112, 3) := by decide +kernel
theorem dX8_meetWorldsWith_48 : decode cX8_meetWorldsWith 48 = .ok (.if_icmp .gt 139, 3) := by decide +kernel
theorem dX8_meetWorldsWith_51 : decode cX8_meetWorldsWith 51 = .ok (.iload 4, 2) := by decide +kernel
theorem dX8_meetWorldsWith_53 : decode cX8_meetWorldsWith 53 = .ok (.aload_n 0, 1) := by decide +kernel
theorem dX8_meetWorldsWith_54 : decode cX8_meetWorldsWith 54 = .ok (.iconst 2, 1) := by decide +kernel
theorem dX8_meetWorldsWith_55 : decode cX8_meetWorldsWith 55 = .ok (.iload_n 1, 1) := by decide +kernel
theorem dX8_meetWorldsWith_56 : decode cX8_meetWorldsWith 56 = .ok (.iload 5, 2) := by decide +kernel
theorem dX8_meetWorldsWith_58 : decode cX8_meetWorldsWith 58 = .ok (.iadd, 1) := by decide +kernel
theorem dX8_meetWorldsWith_59 : decode cX8_meetWorldsWith 59 = .ok (.invokevirtual 106, 3) := by decide +kernel
theorem dX8_meetWorldsWith_62 : decode cX8_meetWorldsWith 62 = .ok (.ior, 1) := by decide +kernel
theorem dX8_meetWorldsWith_63 : decode cX8_meetWorldsWith 63 = .ok (.aload_n 0, 1) := by decide +kernel
theorem dX8_meetWorldsWith_64 : decode cX8_meetWorldsWith 64 = .ok (.iconst 3, 1) := by decide +kernel
theorem dX8_meetWorldsWith_65 : decode cX8_meetWorldsWith 65 = .ok (.iload_n 1, 1) := by decide +kernel
theorem dX8_meetWorldsWith_66 : decode cX8_meetWorldsWith 66 = .ok (.iload_n 3, 1) := by decide +kernel
theorem dX8_meetWorldsWith_67 : decode cX8_meetWorldsWith 67 = .ok (.iadd, 1) := by decide +kernel
theorem dX8_meetWorldsWith_68 : decode cX8_meetWorldsWith 68 = .ok (.iload 5, 2) := by decide +kernel
theorem dX8_meetWorldsWith_70 : decode cX8_meetWorldsWith 70 = .ok (.iadd, 1) := by decide +kernel
theorem dX8_meetWorldsWith_71 : decode cX8_meetWorldsWith 71 = .ok (.invokevirtual 106, 3) := by decide +kernel
theorem dX8_meetWorldsWith_74 : decode cX8_meetWorldsWith 74 = .ok (.ior, 1) := by decide +kernel
theorem dX8_meetWorldsWith_75 : decode cX8_meetWorldsWith 75 = .ok (.istore 6, 2) := by decide +kernel
theorem dX8_meetWorldsWith_77 : decode cX8_meetWorldsWith 77 = .ok (.aload_n 0, 1) := by decide +kernel
theorem dX8_meetWorldsWith_78 : decode cX8_meetWorldsWith 78 = .ok (.iconst 2, 1) := by decide +kernel
theorem dX8_meetWorldsWith_79 : decode cX8_meetWorldsWith 79 = .ok (.invokevirtual 109, 3) := by decide +kernel
theorem dX8_meetWorldsWith_82 : decode cX8_meetWorldsWith 82 = .ok (.istore 7, 2) := by decide +kernel
theorem dX8_meetWorldsWith_84 : decode cX8_meetWorldsWith 84 = .ok (.iload 7, 2) := by decide +kernel
theorem dX8_meetWorldsWith_86 : decode cX8_meetWorldsWith 86 = .ok (.aload_n 0, 1) := by decide +kernel
theorem dX8_meetWorldsWith_87 : decode cX8_meetWorldsWith 87 = .ok (.iconst 2, 1) := by decide +kernel
theorem dX8_meetWorldsWith_88 : decode cX8_meetWorldsWith 88 = .ok (.invokevirtual 112, 3) := by decide +kernel
theorem dX8_meetWorldsWith_91 : decode cX8_meetWorldsWith 91 = .ok (.if_icmp .gt 90, 3) := by decide +kernel
theorem dX8_meetWorldsWith_94 : decode cX8_meetWorldsWith 94 = .ok (.iload 6, 2) := by decide +kernel
theorem dX8_meetWorldsWith_96 : decode cX8_meetWorldsWith 96 = .ok (.aload_n 0, 1) := by decide +kernel
theorem dX8_meetWorldsWith_97 : decode cX8_meetWorldsWith 97 = .ok (.iconst 4, 1) := by decide +kernel
theorem dX8_meetWorldsWith_98 : decode cX8_meetWorldsWith 98 = .ok (.iload_n 1, 1) := by decide +kernel
theorem dX8_meetWorldsWith_99 : decode cX8_meetWorldsWith 99 = .ok (.iload 7, 2) := by decide +kernel
theorem dX8_meetWorldsWith_101 : decode cX8_meetWorldsWith 101 = .ok (.iadd, 1) := by decide +kernel
theorem dX8_meetWorldsWith_102 : decode cX8_meetWorldsWith 102 = .ok (.invokevirtual 106, 3) := by decide +kernel
theorem dX8_meetWorldsWith_105 : decode cX8_meetWorldsWith 105 = .ok (.ior, 1) := by decide +kernel
theorem dX8_meetWorldsWith_106 : decode cX8_meetWorldsWith 106 = .ok (.aload_n 0, 1) := by decide +kernel
theorem dX8_meetWorldsWith_107 : decode cX8_meetWorldsWith 107 = .ok (.iconst 5, 1) := by decide +kernel
theorem dX8_meetWorldsWith_108 : decode cX8_meetWorldsWith 108 = .ok (.iload_n 1, 1) := by decide +kernel
theorem dX8_meetWorldsWith_109 : decode cX8_meetWorldsWith 109 = .ok (.iload_n 3, 1) := by decide +kernel
theorem dX8_meetWorldsWith_110 : decode cX8_meetWorldsWith 110 = .ok (.iadd, 1) := by decide +kernel
theorem dX8_meetWorldsWith_111 : decode cX8_meetWorldsWith 111 = .ok (.iload 7, 2) := by decide +kernel
theorem dX8_meetWorldsWith_113 : decode cX8_meetWorldsWith 113 = .ok (.iadd, 1) := by decide +kernel
theorem dX8_meetWorldsWith_114 : decode cX8_meetWorldsWith 114 = .ok (.invokevirtual 106, 3) := by decide +kernel
theorem dX8_meetWorldsWith_117 : decode cX8_meetWorldsWith 117 = .ok (.ior, 1) := by decide +kernel
theorem dX8_meetWorldsWith_118 : decode cX8_meetWorldsWith 118 = .ok (.aload_n 0, 1) := by decide +kernel
theorem dX8_meetWorldsWith_119 : decode cX8_meetWorldsWith 119 = .ok (.bipush 6, 2) := by decide +kernel
theorem dX8_meetWorldsWith_121 : decode cX8_meetWorldsWith 121 = .ok (.iload_n 1, 1) := by decide +kernel
theorem dX8_meetWorldsWith_122 : decode cX8_meetWorldsWith 122 = .ok (.iload 5, 2) := by decide +kernel
theorem dX8_meetWorldsWith_124 : decode cX8_meetWorldsWith 124 = .ok (.iadd, 1) := by decide +kernel
theorem dX8_meetWorldsWith_125 : decode cX8_meetWorldsWith 125 = .ok (.iload 7, 2) := by decide +kernel
theorem dX8_meetWorldsWith_127 : decode cX8_meetWorldsWith 127 = .ok (.iadd, 1) := by decide +kernel
theorem dX8_meetWorldsWith_128 : decode cX8_meetWorldsWith 128 = .ok (.invokevirtual 106, 3) := by decide +kernel
theorem dX8_meetWorldsWith_131 : decode cX8_meetWorldsWith 131 = .ok (.ior, 1) := by decide +kernel
theorem dX8_meetWorldsWith_132 : decode cX8_meetWorldsWith 132 = .ok (.aload_n 0, 1) := by decide +kernel
theorem dX8_meetWorldsWith_133 : decode cX8_meetWorldsWith 133 = .ok (.bipush 7, 2) := by decide +kernel
theorem dX8_meetWorldsWith_135 : decode cX8_meetWorldsWith 135 = .ok (.iload_n 1, 1) := by decide +kernel
theorem dX8_meetWorldsWith_136 : decode cX8_meetWorldsWith 136 = .ok (.iload_n 3, 1) := by decide +kernel
theorem dX8_meetWorldsWith_137 : decode cX8_meetWorldsWith 137 = .ok (.iadd, 1) := by decide +kernel
theorem dX8_meetWorldsWith_138 : decode cX8_meetWorldsWith 138 = .ok (.iload 5, 2) := by decide +kernel
theorem dX8_meetWorldsWith_140 : decode cX8_meetWorldsWith 140 = .ok (.iadd, 1) := by decide +kernel
theorem dX8_meetWorldsWith_141 : decode cX8_meetWorldsWith 141 = .ok (.iload 7, 2) := by decide +kernel
theorem dX8_meetWorldsWith_143 : decode cX8_meetWorldsWith 143 = .ok (.iadd, 1) := by decide +kernel
theorem dX8_meetWorldsWith_144 : decode cX8_meetWorldsWith 144 = .ok (.invokevirtual 106, 3) := by decide +kernel
theorem dX8_meetWorldsWith_147 : decode cX8_meetWorldsWith 147 = .ok (.ior, 1) := by decide +kernel
theorem dX8_meetWorldsWith_148 : decode cX8_meetWorldsWith 148 = .ok (.istore 8, 2) := by decide +kernel
theorem dX8_meetWorldsWith_150 : decode cX8_meetWorldsWith 150 = .ok (.aload_n 0, 1) := by decide +kernel
theorem dX8_meetWorldsWith_151 : decode cX8_meetWorldsWith 151 = .ok (.iload_n 3, 1) := by decide +kernel
theorem dX8_meetWorldsWith_152 : decode cX8_meetWorldsWith 152 = .ok (.sipush 1000, 3) := by decide +kernel
theorem dX8_meetWorldsWith_155 : decode cX8_meetWorldsWith 155 = .ok (.imul, 1) := by decide +kernel
theorem dX8_meetWorldsWith_156 : decode cX8_meetWorldsWith 156 = .ok (.iload 5, 2) := by decide +kernel
theorem dX8_meetWorldsWith_158 : decode cX8_meetWorldsWith 158 = .ok (.bipush 100, 2) := by decide +kernel
theorem dX8_meetWorldsWith_160 : decode cX8_meetWorldsWith 160 = .ok (.imul, 1) := by decide +kernel
theorem dX8_meetWorldsWith_161 : decode cX8_meetWorldsWith 161 = .ok (.iadd, 1) := by decide +kernel
theorem dX8_meetWorldsWith_162 : decode cX8_meetWorldsWith 162 = .ok (.iload 7, 2) := by decide +kernel
theorem dX8_meetWorldsWith_164 : decode cX8_meetWorldsWith 164 = .ok (.bipush 10, 2) := by decide +kernel
theorem dX8_meetWorldsWith_166 : decode cX8_meetWorldsWith 166 = .ok (.imul, 1) := by decide +kernel
theorem dX8_meetWorldsWith_167 : decode cX8_meetWorldsWith 167 = .ok (.iadd, 1) := by decide +kernel
theorem dX8_meetWorldsWith_168 : decode cX8_meetWorldsWith 168 = .ok (.iload_n 1, 1) := by decide +kernel
theorem dX8_meetWorldsWith_169 : decode cX8_meetWorldsWith 169 = .ok (.iadd, 1) := by decide +kernel
theorem dX8_meetWorldsWith_170 : decode cX8_meetWorldsWith 170 = .ok (.iload 8, 2) := by decide +kernel
theorem dX8_meetWorldsWith_172 : decode cX8_meetWorldsWith 172 = .ok (.invokevirtual 115, 3) := by decide +kernel
theorem dX8_meetWorldsWith_175 : decode cX8_meetWorldsWith 175 = .ok (.iinc 7 1, 3) := by decide +kernel
theorem dX8_meetWorldsWith_178 : decode cX8_meetWorldsWith 178 = .ok (.goto (-94), 3) := by decide +kernel
theorem dX8_meetWorldsWith_181 : decode cX8_meetWorldsWith 181 = .ok (.iinc 5 1, 3) := by decide +kernel
theorem dX8_meetWorldsWith_184 : decode cX8_meetWorldsWith 184 = .ok (.goto (-143), 3) := by decide +kernel
theorem dX8_meetWorldsWith_187 : decode cX8_meetWorldsWith 187 = .ok (.iinc 3 1, 3) := by decide +kernel
theorem dX8_meetWorldsWith_190 : decode cX8_meetWorldsWith 190 = .ok (.goto (-177), 3) := by decide +kernel
theorem dX8_meetWorldsWith_193 : decode cX8_meetWorldsWith 193 = .ok (.return_, 1) := by decide +kernel
theorem dX8_leastOf_0 : decode cX8_leastOf 0 = .ok (.iload_n 1, 1) := by decide +kernel
theorem dX8_leastOf_1 : decode cX8_leastOf 1 = .ok (.aload_n 0, 1) := by decide +kernel
theorem dX8_leastOf_2 : decode cX8_leastOf 2 = .ok (.getfield 32, 3) := by decide +kernel
theorem dX8_leastOf_5 : decode cX8_leastOf 5 = .ok (.invokevirtual 118, 3) := by decide +kernel
theorem dX8_leastOf_8 : decode cX8_leastOf 8 = .ok (.if_icmp .ge 7, 3) := by decide +kernel
theorem dX8_leastOf_11 : decode cX8_leastOf 11 = .ok (.iconst 1, 1) := by decide +kernel
theorem dX8_leastOf_12 : decode cX8_leastOf 12 = .ok (.goto 4, 3) := by decide +kernel
theorem dX8_leastOf_15 : decode cX8_leastOf 15 = .ok (.iconst 0, 1) := by decide +kernel
theorem dX8_leastOf_16 : decode cX8_leastOf 16 = .ok (.ireturn, 1) := by decide +kernel
theorem dX8_mostOf_0 : decode cX8_mostOf 0 = .ok (.iload_n 1, 1) := by decide +kernel
theorem dX8_mostOf_1 : decode cX8_mostOf 1 = .ok (.aload_n 0, 1) := by decide +kernel
theorem dX8_mostOf_2 : decode cX8_mostOf 2 = .ok (.getfield 32, 3) := by decide +kernel
theorem dX8_mostOf_5 : decode cX8_mostOf 5 = .ok (.invokevirtual 118, 3) := by decide +kernel
theorem dX8_mostOf_8 : decode cX8_mostOf 8 = .ok (.if_icmp .ge 8, 3) := by decide +kernel
theorem dX8_mostOf_11 : decode cX8_mostOf 11 = .ok (.bipush 9, 2) := by decide +kernel
theorem dX8_mostOf_13 : decode cX8_mostOf 13 = .ok (.goto 4, 3) := by decide +kernel
theorem dX8_mostOf_16 : decode cX8_mostOf 16 = .ok (.iconst 0, 1) := by decide +kernel
theorem dX8_mostOf_17 : decode cX8_mostOf 17 = .ok (.ireturn, 1) := by decide +kernel
theorem dX8_meet_0 : decode cX8_meet 0 = .ok (.iload_n 2, 1) := by decide +kernel
theorem dX8_meet_1 : decode cX8_meet 1 = .ok (.sipush 4095, 3) := by decide +kernel
theorem dX8_meet_4 : decode cX8_meet 4 = .ok (.iand, 1) := by decide +kernel
theorem dX8_meet_5 : decode cX8_meet 5 = .ok (.istore_n 3, 1) := by decide +kernel
theorem dX8_meet_6 : decode cX8_meet 6 = .ok (.iload_n 3, 1) := by decide +kernel
theorem dX8_meet_7 : decode cX8_meet 7 = .ok (.invokestatic 121, 3) := by decide +kernel
theorem dX8_meet_10 : decode cX8_meet 10 = .ok (.istore 4, 2) := by decide +kernel
theorem dX8_meet_12 : decode cX8_meet 12 = .ok (.iload 4, 2) := by decide +kernel
theorem dX8_meet_14 : decode cX8_meet 14 = .ok (.aload_n 0, 1) := by decide +kernel
theorem dX8_meet_15 : decode cX8_meet 15 = .ok (.getfield 48, 3) := by decide +kernel
theorem dX8_meet_18 : decode cX8_meet 18 = .ok (.if_icmp .ge 17, 3) := by decide +kernel
theorem dX8_meet_21 : decode cX8_meet 21 = .ok (.aload_n 0, 1) := by decide +kernel
theorem dX8_meet_22 : decode cX8_meet 22 = .ok (.iload 4, 2) := by decide +kernel
theorem dX8_meet_24 : decode cX8_meet 24 = .ok (.putfield 48, 3) := by decide +kernel
theorem dX8_meet_27 : decode cX8_meet 27 = .ok (.aload_n 0, 1) := by decide +kernel
theorem dX8_meet_28 : decode cX8_meet 28 = .ok (.iload_n 3, 1) := by decide +kernel
theorem dX8_meet_29 : decode cX8_meet 29 = .ok (.putfield 51, 3) := by decide +kernel
theorem dX8_meet_32 : decode cX8_meet 32 = .ok (.goto 22, 3) := by decide +kernel
theorem dX8_meet_35 : decode cX8_meet 35 = .ok (.iload 4, 2) := by decide +kernel
theorem dX8_meet_37 : decode cX8_meet 37 = .ok (.aload_n 0, 1) := by decide +kernel
theorem dX8_meet_38 : decode cX8_meet 38 = .ok (.getfield 48, 3) := by decide +kernel
theorem dX8_meet_41 : decode cX8_meet 41 = .ok (.if_icmp .ne 13, 3) := by decide +kernel
theorem dX8_meet_44 : decode cX8_meet 44 = .ok (.aload_n 0, 1) := by decide +kernel
theorem dX8_meet_45 : decode cX8_meet 45 = .ok (.dup, 1) := by decide +kernel
theorem dX8_meet_46 : decode cX8_meet 46 = .ok (.getfield 51, 3) := by decide +kernel
theorem dX8_meet_49 : decode cX8_meet 49 = .ok (.iload_n 3, 1) := by decide +kernel
theorem dX8_meet_50 : decode cX8_meet 50 = .ok (.iand, 1) := by decide +kernel
theorem dX8_meet_51 : decode cX8_meet 51 = .ok (.putfield 51, 3) := by decide +kernel
theorem dX8_meet_54 : decode cX8_meet 54 = .ok (.iload_n 3, 1) := by decide +kernel
theorem dX8_meet_55 : decode cX8_meet 55 = .ok (.ifCond .ne 12, 3) := by decide +kernel
theorem dX8_meet_58 : decode cX8_meet 58 = .ok (.aload_n 0, 1) := by decide +kernel
theorem dX8_meet_59 : decode cX8_meet 59 = .ok (.iload_n 1, 1) := by decide +kernel
theorem dX8_meet_60 : decode cX8_meet 60 = .ok (.iload_n 2, 1) := by decide +kernel
theorem dX8_meet_61 : decode cX8_meet 61 = .ok (.bipush 12, 2) := by decide +kernel
theorem dX8_meet_63 : decode cX8_meet 63 = .ok (.iushr, 1) := by decide +kernel
theorem dX8_meet_64 : decode cX8_meet 64 = .ok (.invokevirtual 126, 3) := by decide +kernel
theorem dX8_meet_67 : decode cX8_meet 67 = .ok (.return_, 1) := by decide +kernel
theorem dX8_leave_0 : decode cX8_leave 0 = .ok (.aload_n 0, 1) := by decide +kernel
theorem dX8_leave_1 : decode cX8_leave 1 = .ok (.dup, 1) := by decide +kernel
theorem dX8_leave_2 : decode cX8_leave 2 = .ok (.getfield 44, 3) := by decide +kernel
theorem dX8_leave_5 : decode cX8_leave 5 = .ok (.iconst 1, 1) := by decide +kernel
theorem dX8_leave_6 : decode cX8_leave 6 = .ok (.iadd, 1) := by decide +kernel
theorem dX8_leave_7 : decode cX8_leave 7 = .ok (.putfield 44, 3) := by decide +kernel
theorem dX8_leave_10 : decode cX8_leave 10 = .ok (.aload_n 0, 1) := by decide +kernel
theorem dX8_leave_11 : decode cX8_leave 11 = .ok (.getfield 20, 3) := by decide +kernel
theorem dX8_leave_14 : decode cX8_leave 14 = .ok (.iload_n 1, 1) := by decide +kernel
theorem dX8_leave_15 : decode cX8_leave 15 = .ok (.iconst 5, 1) := by decide +kernel
theorem dX8_leave_16 : decode cX8_leave 16 = .ok (.ishr, 1) := by decide +kernel
theorem dX8_leave_17 : decode cX8_leave 17 = .ok (.iconst 1, 1) := by decide +kernel
theorem dX8_leave_18 : decode cX8_leave 18 = .ok (.iload_n 1, 1) := by decide +kernel
theorem dX8_leave_19 : decode cX8_leave 19 = .ok (.bipush 31, 2) := by decide +kernel
theorem dX8_leave_21 : decode cX8_leave 21 = .ok (.iand, 1) := by decide +kernel
theorem dX8_leave_22 : decode cX8_leave 22 = .ok (.ishl, 1) := by decide +kernel
theorem dX8_leave_23 : decode cX8_leave 23 = .ok (.invokevirtual 94, 3) := by decide +kernel
theorem dX8_leave_26 : decode cX8_leave 26 = .ok (.iconst 0, 1) := by decide +kernel
theorem dX8_leave_27 : decode cX8_leave 27 = .ok (.istore_n 3, 1) := by decide +kernel
theorem dX8_leave_28 : decode cX8_leave 28 = .ok (.iload_n 3, 1) := by decide +kernel
theorem dX8_leave_29 : decode cX8_leave 29 = .ok (.iconst 3, 1) := by decide +kernel
theorem dX8_leave_30 : decode cX8_leave 30 = .ok (.if_icmp .gt 27, 3) := by decide +kernel
theorem dX8_leave_33 : decode cX8_leave 33 = .ok (.aload_n 0, 1) := by decide +kernel
theorem dX8_leave_34 : decode cX8_leave 34 = .ok (.getfield 23, 3) := by decide +kernel
theorem dX8_leave_37 : decode cX8_leave 37 = .ok (.iload_n 3, 1) := by decide +kernel
theorem dX8_leave_38 : decode cX8_leave 38 = .ok (.bipush 10, 2) := by decide +kernel
theorem dX8_leave_40 : decode cX8_leave 40 = .ok (.imul, 1) := by decide +kernel
theorem dX8_leave_41 : decode cX8_leave 41 = .ok (.iload_n 1, 1) := by decide +kernel
theorem dX8_leave_42 : decode cX8_leave 42 = .ok (.iload_n 3, 1) := by decide +kernel
theorem dX8_leave_43 : decode cX8_leave 43 = .ok (.invokestatic 129, 3) := by decide +kernel
theorem dX8_leave_46 : decode cX8_leave 46 = .ok (.iadd, 1) := by decide +kernel
theorem dX8_leave_47 : decode cX8_leave 47 = .ok (.iconst 1, 1) := by decide +kernel
theorem dX8_leave_48 : decode cX8_leave 48 = .ok (.invokevirtual 132, 3) := by decide +kernel
theorem dX8_leave_51 : decode cX8_leave 51 = .ok (.iinc 3 1, 3) := by decide +kernel
theorem dX8_leave_54 : decode cX8_leave 54 = .ok (.goto (-26), 3) := by decide +kernel
theorem dX8_leave_57 : decode cX8_leave 57 = .ok (.iload_n 2, 1) := by decide +kernel
theorem dX8_leave_58 : decode cX8_leave 58 = .ok (.invokestatic 121, 3) := by decide +kernel
theorem dX8_leave_61 : decode cX8_leave 61 = .ok (.istore_n 3, 1) := by decide +kernel
theorem dX8_leave_62 : decode cX8_leave 62 = .ok (.aload_n 0, 1) := by decide +kernel
theorem dX8_leave_63 : decode cX8_leave 63 = .ok (.getfield 26, 3) := by decide +kernel
theorem dX8_leave_66 : decode cX8_leave 66 = .ok (.iload_n 3, 1) := by decide +kernel
theorem dX8_leave_67 : decode cX8_leave 67 = .ok (.iconst 1, 1) := by decide +kernel
theorem dX8_leave_68 : decode cX8_leave 68 = .ok (.invokevirtual 132, 3) := by decide +kernel
theorem dX8_leave_71 : decode cX8_leave 71 = .ok (.iconst 0, 1) := by decide +kernel
theorem dX8_leave_72 : decode cX8_leave 72 = .ok (.istore 4, 2) := by decide +kernel
theorem dX8_leave_74 : decode cX8_leave 74 = .ok (.iload_n 2, 1) := by decide +kernel
theorem dX8_leave_75 : decode cX8_leave 75 = .ok (.iload 4, 2) := by decide +kernel
theorem dX8_leave_77 : decode cX8_leave 77 = .ok (.ishr, 1) := by decide +kernel
theorem dX8_leave_78 : decode cX8_leave 78 = .ok (.ifCond .eq 36, 3) := by decide +kernel
theorem dX8_leave_81 : decode cX8_leave 81 = .ok (.iload 4, 2) := by decide +kernel
theorem dX8_leave_83 : decode cX8_leave 83 = .ok (.bipush 12, 2) := by decide +kernel
theorem dX8_leave_85 : decode cX8_leave 85 = .ok (.if_icmp .ge 29, 3) := by decide +kernel
theorem dX8_leave_88 : decode cX8_leave 88 = .ok (.aload_n 0, 1) := by decide +kernel
theorem dX8_leave_89 : decode cX8_leave 89 = .ok (.getfield 29, 3) := by decide +kernel
theorem dX8_leave_92 : decode cX8_leave 92 = .ok (.iload 4, 2) := by decide +kernel
theorem dX8_leave_94 : decode cX8_leave 94 = .ok (.bipush 13, 2) := by decide +kernel
theorem dX8_leave_96 : decode cX8_leave 96 = .ok (.imul, 1) := by decide +kernel
theorem dX8_leave_97 : decode cX8_leave 97 = .ok (.iload_n 3, 1) := by decide +kernel
theorem dX8_leave_98 : decode cX8_leave 98 = .ok (.iadd, 1) := by decide +kernel
theorem dX8_leave_99 : decode cX8_leave 99 = .ok (.iload_n 2, 1) := by decide +kernel
theorem dX8_leave_100 : decode cX8_leave 100 = .ok (.iload 4, 2) := by decide +kernel
theorem dX8_leave_102 : decode cX8_leave 102 = .ok (.ishr, 1) := by decide +kernel
theorem dX8_leave_103 : decode cX8_leave 103 = .ok (.iconst 1, 1) := by decide +kernel
theorem dX8_leave_104 : decode cX8_leave 104 = .ok (.iand, 1) := by decide +kernel
theorem dX8_leave_105 : decode cX8_leave 105 = .ok (.invokevirtual 132, 3) := by decide +kernel
theorem dX8_leave_108 : decode cX8_leave 108 = .ok (.iinc 4 1, 3) := by decide +kernel
theorem dX8_leave_111 : decode cX8_leave 111 = .ok (.goto (-37), 3) := by decide +kernel
theorem dX8_leave_114 : decode cX8_leave 114 = .ok (.return_, 1) := by decide +kernel
theorem dX9_init_0 : decode cX9_init 0 = .ok (.aload_n 0, 1) := by decide +kernel
theorem dX9_init_1 : decode cX9_init 1 = .ok (.invokespecial 1, 3) := by decide +kernel
theorem dX9_init_4 : decode cX9_init 4 = .ok (.aload_n 0, 1) := by decide +kernel
theorem dX9_init_5 : decode cX9_init 5 = .ok (.new 7, 3) := by decide +kernel
theorem dX9_init_8 : decode cX9_init 8 = .ok (.dup, 1) := by decide +kernel
theorem dX9_init_9 : decode cX9_init 9 = .ok (.invokespecial 9, 3) := by decide +kernel
theorem dX9_init_12 : decode cX9_init 12 = .ok (.putfield 10, 3) := by decide +kernel
theorem dX9_init_15 : decode cX9_init 15 = .ok (.aload_n 0, 1) := by decide +kernel
theorem dX9_init_16 : decode cX9_init 16 = .ok (.new 16, 3) := by decide +kernel
theorem dX9_init_19 : decode cX9_init 19 = .ok (.dup, 1) := by decide +kernel
theorem dX9_init_20 : decode cX9_init 20 = .ok (.aload_n 0, 1) := by decide +kernel
theorem dX9_init_21 : decode cX9_init 21 = .ok (.getfield 10, 3) := by decide +kernel
theorem dX9_init_24 : decode cX9_init 24 = .ok (.invokespecial 18, 3) := by decide +kernel
theorem dX9_init_27 : decode cX9_init 27 = .ok (.putfield 21, 3) := by decide +kernel
theorem dX9_init_30 : decode cX9_init 30 = .ok (.aload_n 0, 1) := by decide +kernel
theorem dX9_init_31 : decode cX9_init 31 = .ok (.new 25, 3) := by decide +kernel
theorem dX9_init_34 : decode cX9_init 34 = .ok (.dup, 1) := by decide +kernel
theorem dX9_init_35 : decode cX9_init 35 = .ok (.invokespecial 27, 3) := by decide +kernel
theorem dX9_init_38 : decode cX9_init 38 = .ok (.putfield 28, 3) := by decide +kernel
theorem dX9_init_41 : decode cX9_init 41 = .ok (.aload_n 0, 1) := by decide +kernel
theorem dX9_init_42 : decode cX9_init 42 = .ok (.new 32, 3) := by decide +kernel
theorem dX9_init_45 : decode cX9_init 45 = .ok (.dup, 1) := by decide +kernel
theorem dX9_init_46 : decode cX9_init 46 = .ok (.invokespecial 34, 3) := by decide +kernel
theorem dX9_init_49 : decode cX9_init 49 = .ok (.putfield 35, 3) := by decide +kernel
theorem dX9_init_52 : decode cX9_init 52 = .ok (.aload_n 0, 1) := by decide +kernel
theorem dX9_init_53 : decode cX9_init 53 = .ok (.new 39, 3) := by decide +kernel
theorem dX9_init_56 : decode cX9_init 56 = .ok (.dup, 1) := by decide +kernel
theorem dX9_init_57 : decode cX9_init 57 = .ok (.invokespecial 41, 3) := by decide +kernel
theorem dX9_init_60 : decode cX9_init 60 = .ok (.putfield 42, 3) := by decide +kernel
theorem dX9_init_63 : decode cX9_init 63 = .ok (.aload_n 0, 1) := by decide +kernel
theorem dX9_init_64 : decode cX9_init 64 = .ok (.new 39, 3) := by decide +kernel
theorem dX9_init_67 : decode cX9_init 67 = .ok (.dup, 1) := by decide +kernel
theorem dX9_init_68 : decode cX9_init 68 = .ok (.invokespecial 41, 3) := by decide +kernel
theorem dX9_init_71 : decode cX9_init 71 = .ok (.putfield 46, 3) := by decide +kernel
theorem dX9_init_74 : decode cX9_init 74 = .ok (.aload_n 0, 1) := by decide +kernel
theorem dX9_init_75 : decode cX9_init 75 = .ok (.new 49, 3) := by decide +kernel
theorem dX9_init_78 : decode cX9_init 78 = .ok (.dup, 1) := by decide +kernel
theorem dX9_init_79 : decode cX9_init 79 = .ok (.aload_n 0, 1) := by decide +kernel
theorem dX9_init_80 : decode cX9_init 80 = .ok (.getfield 28, 3) := by decide +kernel
theorem dX9_init_83 : decode cX9_init 83 = .ok (.aload_n 0, 1) := by decide +kernel
theorem dX9_init_84 : decode cX9_init 84 = .ok (.getfield 35, 3) := by decide +kernel
theorem dX9_init_87 : decode cX9_init 87 = .ok (.invokespecial 51, 3) := by decide +kernel
theorem dX9_init_90 : decode cX9_init 90 = .ok (.putfield 54, 3) := by decide +kernel
theorem dX9_init_93 : decode cX9_init 93 = .ok (.aload_n 0, 1) := by decide +kernel
theorem dX9_init_94 : decode cX9_init 94 = .ok (.new 58, 3) := by decide +kernel
theorem dX9_init_97 : decode cX9_init 97 = .ok (.dup, 1) := by decide +kernel
theorem dX9_init_98 : decode cX9_init 98 = .ok (.aload_n 0, 1) := by decide +kernel
theorem dX9_init_99 : decode cX9_init 99 = .ok (.getfield 28, 3) := by decide +kernel
theorem dX9_init_102 : decode cX9_init 102 = .ok (.aload_n 0, 1) := by decide +kernel
theorem dX9_init_103 : decode cX9_init 103 = .ok (.getfield 35, 3) := by decide +kernel
theorem dX9_init_106 : decode cX9_init 106 = .ok (.invokespecial 60, 3) := by decide +kernel
theorem dX9_init_109 : decode cX9_init 109 = .ok (.putfield 61, 3) := by decide +kernel
theorem dX9_init_112 : decode cX9_init 112 = .ok (.aload_n 0, 1) := by decide +kernel
theorem dX9_init_113 : decode cX9_init 113 = .ok (.new 65, 3) := by decide +kernel
theorem dX9_init_116 : decode cX9_init 116 = .ok (.dup, 1) := by decide +kernel
theorem dX9_init_117 : decode cX9_init 117 = .ok (.aload_n 0, 1) := by decide +kernel
theorem dX9_init_118 : decode cX9_init 118 = .ok (.getfield 28, 3) := by decide +kernel
theorem dX9_init_121 : decode cX9_init 121 = .ok (.aload_n 0, 1) := by decide +kernel
theorem dX9_init_122 : decode cX9_init 122 = .ok (.getfield 61, 3) := by decide +kernel
theorem dX9_init_125 : decode cX9_init 125 = .ok (.invokespecial 67, 3) := by decide +kernel
theorem dX9_init_128 : decode cX9_init 128 = .ok (.putfield 70, 3) := by decide +kernel
theorem dX9_init_131 : decode cX9_init 131 = .ok (.return_, 1) := by decide +kernel
theorem dX9_type_0 : decode cX9_type 0 = .ok (.iload_n 3, 1) := by decide +kernel
theorem dX9_type_1 : decode cX9_type 1 = .ok (.iconst 1, 1) := by decide +kernel
theorem dX9_type_2 : decode cX9_type 2 = .ok (.if_icmp .lt 9, 3) := by decide +kernel
theorem dX9_type_5 : decode cX9_type 5 = .ok (.iload_n 3, 1) := by decide +kernel
theorem dX9_type_6 : decode cX9_type 6 = .ok (.bipush 8, 2) := by decide +kernel
theorem dX9_type_8 : decode cX9_type 8 = .ok (.if_icmp .le 5, 3) := by decide +kernel
theorem dX9_type_11 : decode cX9_type 11 = .ok (.iconst (-1), 1) := by decide +kernel
theorem dX9_type_12 : decode cX9_type 12 = .ok (.ireturn, 1) := by decide +kernel
theorem dX9_type_13 : decode cX9_type 13 = .ok (.aload_n 0, 1) := by decide +kernel
theorem dX9_type_14 : decode cX9_type 14 = .ok (.getfield 10, 3) := by decide +kernel
theorem dX9_type_17 : decode cX9_type 17 = .ok (.invokevirtual 74, 3) := by decide +kernel
theorem dX9_type_20 : decode cX9_type 20 = .ok (.iload_n 3, 1) := by decide +kernel
theorem dX9_type_21 : decode cX9_type 21 = .ok (.iadd, 1) := by decide +kernel
theorem dX9_type_22 : decode cX9_type 22 = .ok (.sipush 200, 3) := by decide +kernel
theorem dX9_type_25 : decode cX9_type 25 = .ok (.if_icmp .le 6, 3) := by decide +kernel
theorem dX9_type_28 : decode cX9_type 28 = .ok (.bipush (-3), 2) := by decide +kernel
theorem dX9_type_30 : decode cX9_type 30 = .ok (.ireturn, 1) := by decide +kernel
theorem dX9_type_31 : decode cX9_type 31 = .ok (.iload_n 3, 1) := by decide +kernel
theorem dX9_type_32 : decode cX9_type 32 = .ok (.iconst 1, 1) := by decide +kernel
theorem dX9_type_33 : decode cX9_type 33 = .ok (.isub, 1) := by decide +kernel
theorem dX9_type_34 : decode cX9_type 34 = .ok (.istore 4, 2) := by decide +kernel
theorem dX9_type_36 : decode cX9_type 36 = .ok (.iload 4, 2) := by decide +kernel
theorem dX9_type_38 : decode cX9_type 38 = .ok (.ifCond .lt 28, 3) := by decide +kernel
theorem dX9_type_41 : decode cX9_type 41 = .ok (.aload_n 0, 1) := by decide +kernel
theorem dX9_type_42 : decode cX9_type 42 = .ok (.getfield 10, 3) := by decide +kernel
theorem dX9_type_45 : decode cX9_type 45 = .ok (.lload_n 1, 1) := by decide +kernel
theorem dX9_type_46 : decode cX9_type 46 = .ok (.bipush 8, 2) := by decide +kernel
theorem dX9_type_48 : decode cX9_type 48 = .ok (.iload 4, 2) := by decide +kernel
theorem dX9_type_50 : decode cX9_type 50 = .ok (.imul, 1) := by decide +kernel
theorem dX9_type_51 : decode cX9_type 51 = .ok (.lushr, 1) := by decide +kernel
theorem dX9_type_52 : decode cX9_type 52 = .ok (.l2i, 1) := by decide +kernel
theorem dX9_type_53 : decode cX9_type 53 = .ok (.sipush 255, 3) := by decide +kernel
theorem dX9_type_56 : decode cX9_type 56 = .ok (.iand, 1) := by decide +kernel
theorem dX9_type_57 : decode cX9_type 57 = .ok (.invokevirtual 78, 3) := by decide +kernel
theorem dX9_type_60 : decode cX9_type 60 = .ok (.iinc 4 (-1), 3) := by decide +kernel
theorem dX9_type_63 : decode cX9_type 63 = .ok (.goto (-27), 3) := by decide +kernel
theorem dX9_type_66 : decode cX9_type 66 = .ok (.aload_n 0, 1) := by decide +kernel
theorem dX9_type_67 : decode cX9_type 67 = .ok (.getfield 10, 3) := by decide +kernel
theorem dX9_type_70 : decode cX9_type 70 = .ok (.invokevirtual 74, 3) := by decide +kernel
theorem dX9_type_73 : decode cX9_type 73 = .ok (.ireturn, 1) := by decide +kernel
theorem dX9_clear_0 : decode cX9_clear 0 = .ok (.aload_n 0, 1) := by decide +kernel
theorem dX9_clear_1 : decode cX9_clear 1 = .ok (.getfield 10, 3) := by decide +kernel
theorem dX9_clear_4 : decode cX9_clear 4 = .ok (.invokevirtual 74, 3) := by decide +kernel
theorem dX9_clear_7 : decode cX9_clear 7 = .ok (.istore_n 1, 1) := by decide +kernel
theorem dX9_clear_8 : decode cX9_clear 8 = .ok (.aload_n 0, 1) := by decide +kernel
theorem dX9_clear_9 : decode cX9_clear 9 = .ok (.getfield 10, 3) := by decide +kernel
theorem dX9_clear_12 : decode cX9_clear 12 = .ok (.invokevirtual 82, 3) := by decide +kernel
theorem dX9_clear_15 : decode cX9_clear 15 = .ok (.iload_n 1, 1) := by decide +kernel
theorem dX9_clear_16 : decode cX9_clear 16 = .ok (.ireturn, 1) := by decide +kernel
theorem dX9_market_0 : decode cX9_market 0 = .ok (.aload_n 0, 1) := by decide +kernel
theorem dX9_market_1 : decode cX9_market 1 = .ok (.getfield 21, 3) := by decide +kernel
theorem dX9_market_4 : decode cX9_market 4 = .ok (.invokevirtual 85, 3) := by decide +kernel
theorem dX9_market_7 : decode cX9_market 7 = .ok (.istore_n 1, 1) := by decide +kernel
theorem dX9_market_8 : decode cX9_market 8 = .ok (.iload_n 1, 1) := by decide +kernel
theorem dX9_market_9 : decode cX9_market 9 = .ok (.ifCond .lt 8, 3) := by decide +kernel
theorem dX9_market_12 : decode cX9_market 12 = .ok (.bipush (-10), 2) := by decide +kernel
theorem dX9_market_14 : decode cX9_market 14 = .ok (.iload_n 1, 1) := by decide +kernel
theorem dX9_market_15 : decode cX9_market 15 = .ok (.isub, 1) := by decide +kernel
theorem dX9_market_16 : decode cX9_market 16 = .ok (.ireturn, 1) := by decide +kernel
theorem dX9_market_17 : decode cX9_market 17 = .ok (.aload_n 0, 1) := by decide +kernel
theorem dX9_market_18 : decode cX9_market 18 = .ok (.getfield 28, 3) := by decide +kernel
theorem dX9_market_21 : decode cX9_market 21 = .ok (.aload_n 0, 1) := by decide +kernel
theorem dX9_market_22 : decode cX9_market 22 = .ok (.getfield 21, 3) := by decide +kernel
theorem dX9_market_25 : decode cX9_market 25 = .ok (.invokevirtual 88, 3) := by decide +kernel
theorem dX9_market_28 : decode cX9_market 28 = .ok (.invokevirtual 92, 3) := by decide +kernel
theorem dX9_market_31 : decode cX9_market 31 = .ok (.aload_n 0, 1) := by decide +kernel
theorem dX9_market_32 : decode cX9_market 32 = .ok (.getfield 35, 3) := by decide +kernel
theorem dX9_market_35 : decode cX9_market 35 = .ok (.invokevirtual 96, 3) := by decide +kernel
theorem dX9_market_38 : decode cX9_market 38 = .ok (.aload_n 0, 1) := by decide +kernel
theorem dX9_market_39 : decode cX9_market 39 = .ok (.getfield 42, 3) := by decide +kernel
theorem dX9_market_42 : decode cX9_market 42 = .ok (.invokevirtual 97, 3) := by decide +kernel
theorem dX9_market_45 : decode cX9_market 45 = .ok (.aload_n 0, 1) := by decide +kernel
theorem dX9_market_46 : decode cX9_market 46 = .ok (.getfield 46, 3) := by decide +kernel
theorem dX9_market_49 : decode cX9_market 49 = .ok (.invokevirtual 97, 3) := by decide +kernel
theorem dX9_market_52 : decode cX9_market 52 = .ok (.aload_n 0, 1) := by decide +kernel
theorem dX9_market_53 : decode cX9_market 53 = .ok (.getfield 10, 3) := by decide +kernel
theorem dX9_market_56 : decode cX9_market 56 = .ok (.invokevirtual 82, 3) := by decide +kernel
theorem dX9_market_59 : decode cX9_market 59 = .ok (.aload_n 0, 1) := by decide +kernel
theorem dX9_market_60 : decode cX9_market 60 = .ok (.getfield 61, 3) := by decide +kernel
theorem dX9_market_63 : decode cX9_market 63 = .ok (.invokevirtual 100, 3) := by decide +kernel
theorem dX9_market_66 : decode cX9_market 66 = .ok (.aload_n 0, 1) := by decide +kernel
theorem dX9_market_67 : decode cX9_market 67 = .ok (.getfield 21, 3) := by decide +kernel
theorem dX9_market_70 : decode cX9_market 70 = .ok (.invokevirtual 103, 3) := by decide +kernel
theorem dX9_market_73 : decode cX9_market 73 = .ok (.ireturn, 1) := by decide +kernel
theorem dX9_thing_0 : decode cX9_thing 0 = .ok (.aload_n 0, 1) := by decide +kernel
theorem dX9_thing_1 : decode cX9_thing 1 = .ok (.iload_n 1, 1) := by decide +kernel
theorem dX9_thing_2 : decode cX9_thing 2 = .ok (.invokevirtual 106, 3) := by decide +kernel
theorem dX9_thing_5 : decode cX9_thing 5 = .ok (.ifCond .eq 14, 3) := by decide +kernel
theorem dX9_thing_8 : decode cX9_thing 8 = .ok (.aload_n 0, 1) := by decide +kernel
theorem dX9_thing_9 : decode cX9_thing 9 = .ok (.getfield 28, 3) := by decide +kernel
theorem dX9_thing_12 : decode cX9_thing 12 = .ok (.iload_n 1, 1) := by decide +kernel
theorem dX9_thing_13 : decode cX9_thing 13 = .ok (.invokevirtual 110, 3) := by decide +kernel
theorem dX9_thing_16 : decode cX9_thing 16 = .ok (.goto 4, 3) := by decide +kernel
theorem dX9_thing_19 : decode cX9_thing 19 = .ok (.iconst (-1), 1) := by decide +kernel
theorem dX9_thing_20 : decode cX9_thing 20 = .ok (.ireturn, 1) := by decide +kernel
theorem dX9_weigh_0 : decode cX9_weigh 0 = .ok (.aload_n 0, 1) := by decide +kernel
theorem dX9_weigh_1 : decode cX9_weigh 1 = .ok (.iload_n 1, 1) := by decide +kernel
theorem dX9_weigh_2 : decode cX9_weigh 2 = .ok (.invokevirtual 114, 3) := by decide +kernel
theorem dX9_weigh_5 : decode cX9_weigh 5 = .ok (.ifCond .eq 21, 3) := by decide +kernel
theorem dX9_weigh_8 : decode cX9_weigh 8 = .ok (.iload_n 2, 1) := by decide +kernel
theorem dX9_weigh_9 : decode cX9_weigh 9 = .ok (.iconst 0, 1) := by decide +kernel
theorem dX9_weigh_10 : decode cX9_weigh 10 = .ok (.iconst 1, 1) := by decide +kernel
theorem dX9_weigh_11 : decode cX9_weigh 11 = .ok (.invokestatic 117, 3) := by decide +kernel
theorem dX9_weigh_14 : decode cX9_weigh 14 = .ok (.ifCond .eq 12, 3) := by decide +kernel
theorem dX9_weigh_17 : decode cX9_weigh 17 = .ok (.iload_n 3, 1) := by decide +kernel
theorem dX9_weigh_18 : decode cX9_weigh 18 = .ok (.iconst 0, 1) := by decide +kernel
theorem dX9_weigh_19 : decode cX9_weigh 19 = .ok (.iconst 1, 1) := by decide +kernel
theorem dX9_weigh_20 : decode cX9_weigh 20 = .ok (.invokestatic 117, 3) := by decide +kernel
theorem dX9_weigh_23 : decode cX9_weigh 23 = .ok (.ifCond .ne 5, 3) := by decide +kernel
theorem dX9_weigh_26 : decode cX9_weigh 26 = .ok (.iconst (-1), 1) := by decide +kernel
theorem dX9_weigh_27 : decode cX9_weigh 27 = .ok (.ireturn, 1) := by decide +kernel
theorem dX9_weigh_28 : decode cX9_weigh 28 = .ok (.aload_n 0, 1) := by decide +kernel
theorem dX9_weigh_29 : decode cX9_weigh 29 = .ok (.getfield 35, 3) := by decide +kernel
theorem dX9_weigh_32 : decode cX9_weigh 32 = .ok (.invokevirtual 121, 3) := by decide +kernel
theorem dX9_weigh_35 : decode cX9_weigh 35 = .ok (.ifCond .eq 6, 3) := by decide +kernel
theorem dX9_weigh_38 : decode cX9_weigh 38 = .ok (.bipush (-3), 2) := by decide +kernel
theorem dX9_weigh_40 : decode cX9_weigh 40 = .ok (.ireturn, 1) := by decide +kernel
theorem dX9_weigh_41 : decode cX9_weigh 41 = .ok (.aload_n 0, 1) := by decide +kernel
theorem dX9_weigh_42 : decode cX9_weigh 42 = .ok (.getfield 28, 3) := by decide +kernel
theorem dX9_weigh_45 : decode cX9_weigh 45 = .ok (.aload_n 0, 1) := by decide +kernel
theorem dX9_weigh_46 : decode cX9_weigh 46 = .ok (.getfield 28, 3) := by decide +kernel
theorem dX9_weigh_49 : decode cX9_weigh 49 = .ok (.iload_n 1, 1) := by decide +kernel
theorem dX9_weigh_50 : decode cX9_weigh 50 = .ok (.invokevirtual 125, 3) := by decide +kernel
theorem dX9_weigh_53 : decode cX9_weigh 53 = .ok (.aload_n 0, 1) := by decide +kernel
theorem dX9_weigh_54 : decode cX9_weigh 54 = .ok (.getfield 28, 3) := by decide +kernel
theorem dX9_weigh_57 : decode cX9_weigh 57 = .ok (.invokevirtual 128, 3) := by decide +kernel
theorem dX9_weigh_60 : decode cX9_weigh 60 = .ok (.iadd, 1) := by decide +kernel
theorem dX9_weigh_61 : decode cX9_weigh 61 = .ok (.iload_n 2, 1) := by decide +kernel
theorem dX9_weigh_62 : decode cX9_weigh 62 = .ok (.iadd, 1) := by decide +kernel
theorem dX9_weigh_63 : decode cX9_weigh 63 = .ok (.invokevirtual 131, 3) := by decide +kernel
theorem dX9_weigh_66 : decode cX9_weigh 66 = .ok (.istore 4, 2) := by decide +kernel
theorem dX9_weigh_68 : decode cX9_weigh 68 = .ok (.aload_n 0, 1) := by decide +kernel
theorem dX9_weigh_69 : decode cX9_weigh 69 = .ok (.getfield 35, 3) := by decide +kernel
theorem dX9_weigh_72 : decode cX9_weigh 72 = .ok (.iload_n 1, 1) := by decide +kernel
theorem dX9_weigh_73 : decode cX9_weigh 73 = .ok (.iload 4, 2) := by decide +kernel
theorem dX9_weigh_75 : decode cX9_weigh 75 = .ok (.iload_n 3, 1) := by decide +kernel
theorem dX9_weigh_76 : decode cX9_weigh 76 = .ok (.iconst 1, 1) := by decide +kernel
theorem dX9_weigh_77 : decode cX9_weigh 77 = .ok (.if_icmp .ne 7, 3) := by decide +kernel
theorem dX9_weigh_80 : decode cX9_weigh 80 = .ok (.iload_n 2, 1) := by decide +kernel
theorem dX9_weigh_81 : decode cX9_weigh 81 = .ok (.goto 4, 3) := by decide +kernel
theorem dX9_weigh_84 : decode cX9_weigh 84 = .ok (.iconst 2, 1) := by decide +kernel
theorem dX9_weigh_85 : decode cX9_weigh 85 = .ok (.invokevirtual 134, 3) := by decide +kernel
theorem dX9_weigh_88 : decode cX9_weigh 88 = .ok (.aload_n 0, 1) := by decide +kernel
theorem dX9_weigh_89 : decode cX9_weigh 89 = .ok (.getfield 61, 3) := by decide +kernel
theorem dX9_weigh_92 : decode cX9_weigh 92 = .ok (.invokevirtual 100, 3) := by decide +kernel
theorem dX9_weigh_95 : decode cX9_weigh 95 = .ok (.iload 4, 2) := by decide +kernel
theorem dX9_weigh_97 : decode cX9_weigh 97 = .ok (.ireturn, 1) := by decide +kernel
theorem dX9_tell_0 : decode cX9_tell 0 = .ok (.aload_n 0, 1) := by decide +kernel
theorem dX9_tell_1 : decode cX9_tell 1 = .ok (.iload_n 1, 1) := by decide +kernel
theorem dX9_tell_2 : decode cX9_tell 2 = .ok (.invokevirtual 114, 3) := by decide +kernel
theorem dX9_tell_5 : decode cX9_tell 5 = .ok (.ifCond .eq 29, 3) := by decide +kernel
theorem dX9_tell_8 : decode cX9_tell 8 = .ok (.iload_n 2, 1) := by decide +kernel
theorem dX9_tell_9 : decode cX9_tell 9 = .ok (.iconst 0, 1) := by decide +kernel
theorem dX9_tell_10 : decode cX9_tell 10 = .ok (.aload_n 0, 1) := by decide +kernel
theorem dX9_tell_11 : decode cX9_tell 11 = .ok (.getfield 28, 3) := by decide +kernel
theorem dX9_tell_14 : decode cX9_tell 14 = .ok (.invokevirtual 138, 3) := by decide +kernel
theorem dX9_tell_17 : decode cX9_tell 17 = .ok (.iconst 1, 1) := by decide +kernel
theorem dX9_tell_18 : decode cX9_tell 18 = .ok (.isub, 1) := by decide +kernel
theorem dX9_tell_19 : decode cX9_tell 19 = .ok (.invokestatic 117, 3) := by decide +kernel
theorem dX9_tell_22 : decode cX9_tell 22 = .ok (.ifCond .eq 12, 3) := by decide +kernel
theorem dX9_tell_25 : decode cX9_tell 25 = .ok (.iload_n 3, 1) := by decide +kernel
theorem dX9_tell_26 : decode cX9_tell 26 = .ok (.iconst 0, 1) := by decide +kernel
theorem dX9_tell_27 : decode cX9_tell 27 = .ok (.iconst 2, 1) := by decide +kernel
theorem dX9_tell_28 : decode cX9_tell 28 = .ok (.invokestatic 117, 3) := by decide +kernel
theorem dX9_tell_31 : decode cX9_tell 31 = .ok (.ifCond .ne 5, 3) := by decide +kernel
theorem dX9_tell_34 : decode cX9_tell 34 = .ok (.iconst (-1), 1) := by decide +kernel
theorem dX9_tell_35 : decode cX9_tell 35 = .ok (.ireturn, 1) := by decide +kernel
theorem dX9_tell_36 : decode cX9_tell 36 = .ok (.aload_n 0, 1) := by decide +kernel
theorem dX9_tell_37 : decode cX9_tell 37 = .ok (.getfield 35, 3) := by decide +kernel
theorem dX9_tell_40 : decode cX9_tell 40 = .ok (.invokevirtual 121, 3) := by decide +kernel
theorem dX9_tell_43 : decode cX9_tell 43 = .ok (.ifCond .eq 6, 3) := by decide +kernel
theorem dX9_tell_46 : decode cX9_tell 46 = .ok (.bipush (-3), 2) := by decide +kernel
theorem dX9_tell_48 : decode cX9_tell 48 = .ok (.ireturn, 1) := by decide +kernel
theorem dX9_tell_49 : decode cX9_tell 49 = .ok (.aload_n 0, 1) := by decide +kernel
theorem dX9_tell_50 : decode cX9_tell 50 = .ok (.getfield 35, 3) := by decide +kernel
theorem dX9_tell_53 : decode cX9_tell 53 = .ok (.iload_n 1, 1) := by decide +kernel
theorem dX9_tell_54 : decode cX9_tell 54 = .ok (.iload_n 2, 1) := by decide +kernel
theorem dX9_tell_55 : decode cX9_tell 55 = .ok (.iload_n 3, 1) := by decide +kernel
theorem dX9_tell_56 : decode cX9_tell 56 = .ok (.invokevirtual 134, 3) := by decide +kernel
theorem dX9_tell_59 : decode cX9_tell 59 = .ok (.aload_n 0, 1) := by decide +kernel
theorem dX9_tell_60 : decode cX9_tell 60 = .ok (.getfield 61, 3) := by decide +kernel
theorem dX9_tell_63 : decode cX9_tell 63 = .ok (.invokevirtual 100, 3) := by decide +kernel
theorem dX9_tell_66 : decode cX9_tell 66 = .ok (.aload_n 0, 1) := by decide +kernel
theorem dX9_tell_67 : decode cX9_tell 67 = .ok (.getfield 35, 3) := by decide +kernel
theorem dX9_tell_70 : decode cX9_tell 70 = .ok (.invokevirtual 141, 3) := by decide +kernel
theorem dX9_tell_73 : decode cX9_tell 73 = .ok (.ireturn, 1) := by decide +kernel
theorem dX9_line_0 : decode cX9_line 0 = .ok (.aload_n 0, 1) := by decide +kernel
theorem dX9_line_1 : decode cX9_line 1 = .ok (.iload_n 1, 1) := by decide +kernel
theorem dX9_line_2 : decode cX9_line 2 = .ok (.invokevirtual 144, 3) := by decide +kernel
theorem dX9_line_5 : decode cX9_line 5 = .ok (.ifCond .ne 5, 3) := by decide +kernel
theorem dX9_line_8 : decode cX9_line 8 = .ok (.iconst (-1), 1) := by decide +kernel
theorem dX9_line_9 : decode cX9_line 9 = .ok (.ireturn, 1) := by decide +kernel
theorem dX9_line_10 : decode cX9_line 10 = .ok (.iload_n 2, 1) := by decide +kernel
theorem dX9_line_11 : decode cX9_line 11 = .ok (.tableswitch 52 0 2 #[25, 34, 43], 25) := by decide +kernel
theorem dX9_line_36 : decode cX9_line 36 = .ok (.aload_n 0, 1) := by decide +kernel
theorem dX9_line_37 : decode cX9_line 37 = .ok (.getfield 35, 3) := by decide +kernel
theorem dX9_line_40 : decode cX9_line 40 = .ok (.iload_n 1, 1) := by decide +kernel
theorem dX9_line_41 : decode cX9_line 41 = .ok (.invokevirtual 147, 3) := by decide +kernel
theorem dX9_line_44 : decode cX9_line 44 = .ok (.ireturn, 1) := by decide +kernel
theorem dX9_line_45 : decode cX9_line 45 = .ok (.aload_n 0, 1) := by decide +kernel
theorem dX9_line_46 : decode cX9_line 46 = .ok (.getfield 35, 3) := by decide +kernel
theorem dX9_line_49 : decode cX9_line 49 = .ok (.iload_n 1, 1) := by decide +kernel
theorem dX9_line_50 : decode cX9_line 50 = .ok (.invokevirtual 150, 3) := by decide +kernel
theorem dX9_line_53 : decode cX9_line 53 = .ok (.ireturn, 1) := by decide +kernel
theorem dX9_line_54 : decode cX9_line 54 = .ok (.aload_n 0, 1) := by decide +kernel
theorem dX9_line_55 : decode cX9_line 55 = .ok (.getfield 35, 3) := by decide +kernel
theorem dX9_line_58 : decode cX9_line 58 = .ok (.iload_n 1, 1) := by decide +kernel
theorem dX9_line_59 : decode cX9_line 59 = .ok (.invokevirtual 153, 3) := by decide +kernel
theorem dX9_line_62 : decode cX9_line 62 = .ok (.ireturn, 1) := by decide +kernel
theorem dX9_line_63 : decode cX9_line 63 = .ok (.iconst (-1), 1) := by decide +kernel
theorem dX9_line_64 : decode cX9_line 64 = .ok (.ireturn, 1) := by decide +kernel
theorem dX9_undo_0 : decode cX9_undo 0 = .ok (.aload_n 0, 1) := by decide +kernel
theorem dX9_undo_1 : decode cX9_undo 1 = .ok (.getfield 35, 3) := by decide +kernel
theorem dX9_undo_4 : decode cX9_undo 4 = .ok (.invokevirtual 141, 3) := by decide +kernel
theorem dX9_undo_7 : decode cX9_undo 7 = .ok (.ifCond .ne 6, 3) := by decide +kernel
theorem dX9_undo_10 : decode cX9_undo 10 = .ok (.bipush (-2), 2) := by decide +kernel
theorem dX9_undo_12 : decode cX9_undo 12 = .ok (.ireturn, 1) := by decide +kernel
theorem dX9_undo_13 : decode cX9_undo 13 = .ok (.aload_n 0, 1) := by decide +kernel
theorem dX9_undo_14 : decode cX9_undo 14 = .ok (.getfield 35, 3) := by decide +kernel
theorem dX9_undo_17 : decode cX9_undo 17 = .ok (.invokevirtual 156, 3) := by decide +kernel
theorem dX9_undo_20 : decode cX9_undo 20 = .ok (.aload_n 0, 1) := by decide +kernel
theorem dX9_undo_21 : decode cX9_undo 21 = .ok (.getfield 61, 3) := by decide +kernel
theorem dX9_undo_24 : decode cX9_undo 24 = .ok (.invokevirtual 100, 3) := by decide +kernel
theorem dX9_undo_27 : decode cX9_undo 27 = .ok (.aload_n 0, 1) := by decide +kernel
theorem dX9_undo_28 : decode cX9_undo 28 = .ok (.getfield 35, 3) := by decide +kernel
theorem dX9_undo_31 : decode cX9_undo 31 = .ok (.invokevirtual 141, 3) := by decide +kernel
theorem dX9_undo_34 : decode cX9_undo 34 = .ok (.ireturn, 1) := by decide +kernel
theorem dX9_could_0 : decode cX9_could 0 = .ok (.iload_n 1, 1) := by decide +kernel
theorem dX9_could_1 : decode cX9_could 1 = .ok (.iconst (-1), 1) := by decide +kernel
theorem dX9_could_2 : decode cX9_could 2 = .ok (.if_icmp .eq 11, 3) := by decide +kernel
theorem dX9_could_5 : decode cX9_could 5 = .ok (.aload_n 0, 1) := by decide +kernel
theorem dX9_could_6 : decode cX9_could 6 = .ok (.iload_n 1, 1) := by decide +kernel
theorem dX9_could_7 : decode cX9_could 7 = .ok (.invokevirtual 106, 3) := by decide +kernel
theorem dX9_could_10 : decode cX9_could 10 = .ok (.ifCond .eq 13, 3) := by decide +kernel
theorem dX9_could_13 : decode cX9_could 13 = .ok (.iload_n 2, 1) := by decide +kernel
theorem dX9_could_14 : decode cX9_could 14 = .ok (.iconst 0, 1) := by decide +kernel
theorem dX9_could_15 : decode cX9_could 15 = .ok (.bipush 9, 2) := by decide +kernel
theorem dX9_could_17 : decode cX9_could 17 = .ok (.invokestatic 117, 3) := by decide +kernel
theorem dX9_could_20 : decode cX9_could 20 = .ok (.ifCond .ne 5, 3) := by decide +kernel
theorem dX9_could_23 : decode cX9_could 23 = .ok (.iconst (-1), 1) := by decide +kernel
theorem dX9_could_24 : decode cX9_could 24 = .ok (.ireturn, 1) := by decide +kernel
theorem dX9_could_25 : decode cX9_could 25 = .ok (.iload_n 1, 1) := by decide +kernel
theorem dX9_could_26 : decode cX9_could 26 = .ok (.iconst (-1), 1) := by decide +kernel
theorem dX9_could_27 : decode cX9_could 27 = .ok (.if_icmp .ne 13, 3) := by decide +kernel
theorem dX9_could_30 : decode cX9_could 30 = .ok (.aload_n 0, 1) := by decide +kernel
theorem dX9_could_31 : decode cX9_could 31 = .ok (.invokevirtual 159, 3) := by decide +kernel
theorem dX9_could_34 : decode cX9_could 34 = .ok (.invokevirtual 163, 3) := by decide +kernel
theorem dX9_could_37 : decode cX9_could 37 = .ok (.goto 12, 3) := by decide +kernel
theorem dX9_could_40 : decode cX9_could 40 = .ok (.aload_n 0, 1) := by decide +kernel
theorem dX9_could_41 : decode cX9_could 41 = .ok (.invokevirtual 159, 3) := by decide +kernel
theorem dX9_could_44 : decode cX9_could 44 = .ok (.iload_n 1, 1) := by decide +kernel
theorem dX9_could_45 : decode cX9_could 45 = .ok (.iload_n 2, 1) := by decide +kernel
theorem dX9_could_46 : decode cX9_could 46 = .ok (.invokevirtual 166, 3) := by decide +kernel
theorem dX9_could_49 : decode cX9_could 49 = .ok (.ireturn, 1) := by decide +kernel
theorem dX9_sure_0 : decode cX9_sure 0 = .ok (.aload_n 0, 1) := by decide +kernel
theorem dX9_sure_1 : decode cX9_sure 1 = .ok (.iload_n 1, 1) := by decide +kernel
theorem dX9_sure_2 : decode cX9_sure 2 = .ok (.invokevirtual 106, 3) := by decide +kernel
theorem dX9_sure_5 : decode cX9_sure 5 = .ok (.ifCond .eq 14, 3) := by decide +kernel
theorem dX9_sure_8 : decode cX9_sure 8 = .ok (.aload_n 0, 1) := by decide +kernel
theorem dX9_sure_9 : decode cX9_sure 9 = .ok (.invokevirtual 159, 3) := by decide +kernel
theorem dX9_sure_12 : decode cX9_sure 12 = .ok (.iload_n 1, 1) := by decide +kernel
theorem dX9_sure_13 : decode cX9_sure 13 = .ok (.invokevirtual 170, 3) := by decide +kernel
theorem dX9_sure_16 : decode cX9_sure 16 = .ok (.goto 4, 3) := by decide +kernel
theorem dX9_sure_19 : decode cX9_sure 19 = .ok (.iconst (-1), 1) := by decide +kernel
theorem dX9_sure_20 : decode cX9_sure 20 = .ok (.ireturn, 1) := by decide +kernel
theorem dX9_wrong_0 : decode cX9_wrong 0 = .ok (.iload_n 1, 1) := by decide +kernel
theorem dX9_wrong_1 : decode cX9_wrong 1 = .ok (.iconst 0, 1) := by decide +kernel
theorem dX9_wrong_2 : decode cX9_wrong 2 = .ok (.iconst 1, 1) := by decide +kernel
theorem dX9_wrong_3 : decode cX9_wrong 3 = .ok (.invokestatic 117, 3) := by decide +kernel
theorem dX9_wrong_6 : decode cX9_wrong 6 = .ok (.ifCond .ne 5, 3) := by decide +kernel
theorem dX9_wrong_9 : decode cX9_wrong 9 = .ok (.iconst (-1), 1) := by decide +kernel
theorem dX9_wrong_10 : decode cX9_wrong 10 = .ok (.ireturn, 1) := by decide +kernel
theorem dX9_wrong_11 : decode cX9_wrong 11 = .ok (.iload_n 1, 1) := by decide +kernel
theorem dX9_wrong_12 : decode cX9_wrong 12 = .ok (.ifCond .ne 13, 3) := by decide +kernel
theorem dX9_wrong_15 : decode cX9_wrong 15 = .ok (.aload_n 0, 1) := by decide +kernel
theorem dX9_wrong_16 : decode cX9_wrong 16 = .ok (.invokevirtual 159, 3) := by decide +kernel
theorem dX9_wrong_19 : decode cX9_wrong 19 = .ok (.invokevirtual 173, 3) := by decide +kernel
theorem dX9_wrong_22 : decode cX9_wrong 22 = .ok (.goto 10, 3) := by decide +kernel
theorem dX9_wrong_25 : decode cX9_wrong 25 = .ok (.aload_n 0, 1) := by decide +kernel
theorem dX9_wrong_26 : decode cX9_wrong 26 = .ok (.invokevirtual 159, 3) := by decide +kernel
theorem dX9_wrong_29 : decode cX9_wrong 29 = .ok (.invokevirtual 176, 3) := by decide +kernel
theorem dX9_wrong_32 : decode cX9_wrong 32 = .ok (.ireturn, 1) := by decide +kernel
theorem dX9_next_0 : decode cX9_next 0 = .ok (.iload_n 1, 1) := by decide +kernel
theorem dX9_next_1 : decode cX9_next 1 = .ok (.iconst 0, 1) := by decide +kernel
theorem dX9_next_2 : decode cX9_next 2 = .ok (.iconst 1, 1) := by decide +kernel
theorem dX9_next_3 : decode cX9_next 3 = .ok (.invokestatic 117, 3) := by decide +kernel
theorem dX9_next_6 : decode cX9_next 6 = .ok (.ifCond .ne 5, 3) := by decide +kernel
theorem dX9_next_9 : decode cX9_next 9 = .ok (.iconst (-1), 1) := by decide +kernel
theorem dX9_next_10 : decode cX9_next 10 = .ok (.ireturn, 1) := by decide +kernel
theorem dX9_next_11 : decode cX9_next 11 = .ok (.aload_n 0, 1) := by decide +kernel
theorem dX9_next_12 : decode cX9_next 12 = .ok (.getfield 28, 3) := by decide +kernel
theorem dX9_next_15 : decode cX9_next 15 = .ok (.invokevirtual 179, 3) := by decide +kernel
theorem dX9_next_18 : decode cX9_next 18 = .ok (.ifCond .ne 6, 3) := by decide +kernel
theorem dX9_next_21 : decode cX9_next 21 = .ok (.bipush (-9), 2) := by decide +kernel
theorem dX9_next_23 : decode cX9_next 23 = .ok (.ireturn, 1) := by decide +kernel
theorem dX9_next_24 : decode cX9_next 24 = .ok (.aload_n 0, 1) := by decide +kernel
theorem dX9_next_25 : decode cX9_next 25 = .ok (.getfield 61, 3) := by decide +kernel
theorem dX9_next_28 : decode cX9_next 28 = .ok (.invokevirtual 182, 3) := by decide +kernel
theorem dX9_next_31 : decode cX9_next 31 = .ok (.aload_n 0, 1) := by decide +kernel
theorem dX9_next_32 : decode cX9_next 32 = .ok (.getfield 70, 3) := by decide +kernel
theorem dX9_next_35 : decode cX9_next 35 = .ok (.invokevirtual 185, 3) := by decide +kernel
theorem dX9_next_38 : decode cX9_next 38 = .ok (.istore_n 2, 1) := by decide +kernel
theorem dX9_next_39 : decode cX9_next 39 = .ok (.iload_n 1, 1) := by decide +kernel
theorem dX9_next_40 : decode cX9_next 40 = .ok (.ifCond .ne 7, 3) := by decide +kernel
theorem dX9_next_43 : decode cX9_next 43 = .ok (.iload_n 2, 1) := by decide +kernel
theorem dX9_next_44 : decode cX9_next 44 = .ok (.goto 11, 3) := by decide +kernel
theorem dX9_next_47 : decode cX9_next 47 = .ok (.aload_n 0, 1) := by decide +kernel
theorem dX9_next_48 : decode cX9_next 48 = .ok (.getfield 70, 3) := by decide +kernel
theorem dX9_next_51 : decode cX9_next 51 = .ok (.iload_n 2, 1) := by decide +kernel
theorem dX9_next_52 : decode cX9_next 52 = .ok (.invokevirtual 188, 3) := by decide +kernel
theorem dX9_next_55 : decode cX9_next 55 = .ok (.ireturn, 1) := by decide +kernel
theorem dX9_fewest_0 : decode cX9_fewest 0 = .ok (.aload_n 0, 1) := by decide +kernel
theorem dX9_fewest_1 : decode cX9_fewest 1 = .ok (.iload_n 1, 1) := by decide +kernel
theorem dX9_fewest_2 : decode cX9_fewest 2 = .ok (.invokevirtual 106, 3) := by decide +kernel
theorem dX9_fewest_5 : decode cX9_fewest 5 = .ok (.ifCond .ne 5, 3) := by decide +kernel
theorem dX9_fewest_8 : decode cX9_fewest 8 = .ok (.iconst (-1), 1) := by decide +kernel
theorem dX9_fewest_9 : decode cX9_fewest 9 = .ok (.ireturn, 1) := by decide +kernel
theorem dX9_fewest_10 : decode cX9_fewest 10 = .ok (.aload_n 0, 1) := by decide +kernel
theorem dX9_fewest_11 : decode cX9_fewest 11 = .ok (.getfield 61, 3) := by decide +kernel
theorem dX9_fewest_14 : decode cX9_fewest 14 = .ok (.invokevirtual 182, 3) := by decide +kernel
theorem dX9_fewest_17 : decode cX9_fewest 17 = .ok (.aload_n 0, 1) := by decide +kernel
theorem dX9_fewest_18 : decode cX9_fewest 18 = .ok (.getfield 70, 3) := by decide +kernel
theorem dX9_fewest_21 : decode cX9_fewest 21 = .ok (.iload_n 1, 1) := by decide +kernel
theorem dX9_fewest_22 : decode cX9_fewest 22 = .ok (.invokevirtual 191, 3) := by decide +kernel
theorem dX9_fewest_25 : decode cX9_fewest 25 = .ok (.ireturn, 1) := by decide +kernel
theorem dX9_laugh_0 : decode cX9_laugh 0 = .ok (.aload_n 0, 1) := by decide +kernel
theorem dX9_laugh_1 : decode cX9_laugh 1 = .ok (.iload_n 1, 1) := by decide +kernel
theorem dX9_laugh_2 : decode cX9_laugh 2 = .ok (.invokevirtual 144, 3) := by decide +kernel
theorem dX9_laugh_5 : decode cX9_laugh 5 = .ok (.ifCond .eq 14, 3) := by decide +kernel
theorem dX9_laugh_8 : decode cX9_laugh 8 = .ok (.aload_n 0, 1) := by decide +kernel
theorem dX9_laugh_9 : decode cX9_laugh 9 = .ok (.invokevirtual 159, 3) := by decide +kernel
theorem dX9_laugh_12 : decode cX9_laugh 12 = .ok (.iload_n 1, 1) := by decide +kernel
theorem dX9_laugh_13 : decode cX9_laugh 13 = .ok (.invokevirtual 194, 3) := by decide +kernel
theorem dX9_laugh_16 : decode cX9_laugh 16 = .ok (.goto 4, 3) := by decide +kernel
theorem dX9_laugh_19 : decode cX9_laugh 19 = .ok (.iconst (-1), 1) := by decide +kernel
theorem dX9_laugh_20 : decode cX9_laugh 20 = .ok (.ireturn, 1) := by decide +kernel
theorem dX9_odds_0 : decode cX9_odds 0 = .ok (.aload_n 0, 1) := by decide +kernel
theorem dX9_odds_1 : decode cX9_odds 1 = .ok (.iload_n 1, 1) := by decide +kernel
theorem dX9_odds_2 : decode cX9_odds 2 = .ok (.invokevirtual 144, 3) := by decide +kernel
theorem dX9_odds_5 : decode cX9_odds 5 = .ok (.ifCond .eq 34, 3) := by decide +kernel
theorem dX9_odds_8 : decode cX9_odds 8 = .ok (.iload_n 3, 1) := by decide +kernel
theorem dX9_odds_9 : decode cX9_odds 9 = .ok (.iconst 1, 1) := by decide +kernel
theorem dX9_odds_10 : decode cX9_odds 10 = .ok (.bipush 9, 2) := by decide +kernel
theorem dX9_odds_12 : decode cX9_odds 12 = .ok (.invokestatic 117, 3) := by decide +kernel
theorem dX9_odds_15 : decode cX9_odds 15 = .ok (.ifCond .eq 24, 3) := by decide +kernel
theorem dX9_odds_18 : decode cX9_odds 18 = .ok (.iload_n 2, 1) := by decide +kernel
theorem dX9_odds_19 : decode cX9_odds 19 = .ok (.iconst 1, 1) := by decide +kernel
theorem dX9_odds_20 : decode cX9_odds 20 = .ok (.iload_n 3, 1) := by decide +kernel
theorem dX9_odds_21 : decode cX9_odds 21 = .ok (.iconst 1, 1) := by decide +kernel
theorem dX9_odds_22 : decode cX9_odds 22 = .ok (.isub, 1) := by decide +kernel
theorem dX9_odds_23 : decode cX9_odds 23 = .ok (.invokestatic 117, 3) := by decide +kernel
theorem dX9_odds_26 : decode cX9_odds 26 = .ok (.ifCond .eq 13, 3) := by decide +kernel
theorem dX9_odds_29 : decode cX9_odds 29 = .ok (.iload 4, 2) := by decide +kernel
theorem dX9_odds_31 : decode cX9_odds 31 = .ok (.iconst 0, 1) := by decide +kernel
theorem dX9_odds_32 : decode cX9_odds 32 = .ok (.iconst 1, 1) := by decide +kernel
theorem dX9_odds_33 : decode cX9_odds 33 = .ok (.invokestatic 117, 3) := by decide +kernel
theorem dX9_odds_36 : decode cX9_odds 36 = .ok (.ifCond .ne 7, 3) := by decide +kernel
theorem dX9_odds_39 : decode cX9_odds 39 = .ok (.ldc2_w 197, 3) := by decide +kernel
theorem dX9_odds_42 : decode cX9_odds 42 = .ok (.lreturn, 1) := by decide +kernel
theorem dX9_odds_43 : decode cX9_odds 43 = .ok (.aload_n 0, 1) := by decide +kernel
theorem dX9_odds_44 : decode cX9_odds 44 = .ok (.invokevirtual 159, 3) := by decide +kernel
theorem dX9_odds_47 : decode cX9_odds 47 = .ok (.invokevirtual 163, 3) := by decide +kernel
theorem dX9_odds_50 : decode cX9_odds 50 = .ok (.ifCond .ne 7, 3) := by decide +kernel
theorem dX9_odds_53 : decode cX9_odds 53 = .ok (.ldc2_w 199, 3) := by decide +kernel
theorem dX9_odds_56 : decode cX9_odds 56 = .ok (.lreturn, 1) := by decide +kernel
theorem dX9_odds_57 : decode cX9_odds 57 = .ok (.aload_n 0, 1) := by decide +kernel
theorem dX9_odds_58 : decode cX9_odds 58 = .ok (.getfield 61, 3) := by decide +kernel
theorem dX9_odds_61 : decode cX9_odds 61 = .ok (.iload_n 1, 1) := by decide +kernel
theorem dX9_odds_62 : decode cX9_odds 62 = .ok (.iload_n 2, 1) := by decide +kernel
theorem dX9_odds_63 : decode cX9_odds 63 = .ok (.iload_n 3, 1) := by decide +kernel
theorem dX9_odds_64 : decode cX9_odds 64 = .ok (.invokevirtual 201, 3) := by decide +kernel
theorem dX9_odds_67 : decode cX9_odds 67 = .ok (.lstore 5, 2) := by decide +kernel
theorem dX9_odds_69 : decode cX9_odds 69 = .ok (.aload_n 0, 1) := by decide +kernel
theorem dX9_odds_70 : decode cX9_odds 70 = .ok (.getfield 61, 3) := by decide +kernel
theorem dX9_odds_73 : decode cX9_odds 73 = .ok (.iload_n 2, 1) := by decide +kernel
theorem dX9_odds_74 : decode cX9_odds 74 = .ok (.iload_n 3, 1) := by decide +kernel
theorem dX9_odds_75 : decode cX9_odds 75 = .ok (.invokevirtual 205, 3) := by decide +kernel
theorem dX9_odds_78 : decode cX9_odds 78 = .ok (.lstore 7, 2) := by decide +kernel
theorem dX9_odds_80 : decode cX9_odds 80 = .ok (.lload 5, 2) := by decide +kernel
theorem dX9_odds_82 : decode cX9_odds 82 = .ok (.lload 7, 2) := by decide +kernel
theorem dX9_odds_84 : decode cX9_odds 84 = .ok (.invokestatic 209, 3) := by decide +kernel
theorem dX9_odds_87 : decode cX9_odds 87 = .ok (.lstore 9, 2) := by decide +kernel
theorem dX9_odds_89 : decode cX9_odds 89 = .ok (.lload 9, 2) := by decide +kernel
theorem dX9_odds_91 : decode cX9_odds 91 = .ok (.lconst 1, 1) := by decide +kernel
theorem dX9_odds_92 : decode cX9_odds 92 = .ok (.lcmp, 1) := by decide +kernel
theorem dX9_odds_93 : decode cX9_odds 93 = .ok (.ifCond .ge 7, 3) := by decide +kernel
theorem dX9_odds_96 : decode cX9_odds 96 = .ok (.ldc2_w 199, 3) := by decide +kernel
theorem dX9_odds_99 : decode cX9_odds 99 = .ok (.lreturn, 1) := by decide +kernel
theorem dX9_odds_100 : decode cX9_odds 100 = .ok (.iload 4, 2) := by decide +kernel
theorem dX9_odds_102 : decode cX9_odds 102 = .ok (.ifCond .ne 8, 3) := by decide +kernel
theorem dX9_odds_105 : decode cX9_odds 105 = .ok (.lload 5, 2) := by decide +kernel
theorem dX9_odds_107 : decode cX9_odds 107 = .ok (.goto 5, 3) := by decide +kernel
theorem dX9_odds_110 : decode cX9_odds 110 = .ok (.lload 7, 2) := by decide +kernel
theorem dX9_odds_112 : decode cX9_odds 112 = .ok (.lload 9, 2) := by decide +kernel
theorem dX9_odds_114 : decode cX9_odds 114 = .ok (.ldiv, 1) := by decide +kernel
theorem dX9_odds_115 : decode cX9_odds 115 = .ok (.lreturn, 1) := by decide +kernel
theorem dX9_sack_0 : decode cX9_sack 0 = .ok (.iload_n 1, 1) := by decide +kernel
theorem dX9_sack_1 : decode cX9_sack 1 = .ok (.iconst 0, 1) := by decide +kernel
theorem dX9_sack_2 : decode cX9_sack 2 = .ok (.bipush 27, 2) := by decide +kernel
theorem dX9_sack_4 : decode cX9_sack 4 = .ok (.invokestatic 117, 3) := by decide +kernel
theorem dX9_sack_7 : decode cX9_sack 7 = .ok (.ifCond .eq 12, 3) := by decide +kernel
theorem dX9_sack_10 : decode cX9_sack 10 = .ok (.iload_n 2, 1) := by decide +kernel
theorem dX9_sack_11 : decode cX9_sack 11 = .ok (.iconst 0, 1) := by decide +kernel
theorem dX9_sack_12 : decode cX9_sack 12 = .ok (.iconst 2, 1) := by decide +kernel
theorem dX9_sack_13 : decode cX9_sack 13 = .ok (.invokestatic 117, 3) := by decide +kernel
theorem dX9_sack_16 : decode cX9_sack 16 = .ok (.ifCond .ne 5, 3) := by decide +kernel
theorem dX9_sack_19 : decode cX9_sack 19 = .ok (.iconst (-1), 1) := by decide +kernel
theorem dX9_sack_20 : decode cX9_sack 20 = .ok (.ireturn, 1) := by decide +kernel
theorem dX9_sack_21 : decode cX9_sack 21 = .ok (.aload_n 0, 1) := by decide +kernel
theorem dX9_sack_22 : decode cX9_sack 22 = .ok (.getfield 28, 3) := by decide +kernel
theorem dX9_sack_25 : decode cX9_sack 25 = .ok (.iload_n 1, 1) := by decide +kernel
theorem dX9_sack_26 : decode cX9_sack 26 = .ok (.invokevirtual 213, 3) := by decide +kernel
theorem dX9_sack_29 : decode cX9_sack 29 = .ok (.istore_n 3, 1) := by decide +kernel
theorem dX9_sack_30 : decode cX9_sack 30 = .ok (.iload_n 3, 1) := by decide +kernel
theorem dX9_sack_31 : decode cX9_sack 31 = .ok (.ifCond .ge 6, 3) := by decide +kernel
theorem dX9_sack_34 : decode cX9_sack 34 = .ok (.bipush (-9), 2) := by decide +kernel
theorem dX9_sack_36 : decode cX9_sack 36 = .ok (.ireturn, 1) := by decide +kernel
theorem dX9_sack_37 : decode cX9_sack 37 = .ok (.iload_n 3, 1) := by decide +kernel
theorem dX9_sack_38 : decode cX9_sack 38 = .ok (.bipush 8, 2) := by decide +kernel
theorem dX9_sack_40 : decode cX9_sack 40 = .ok (.idiv, 1) := by decide +kernel
theorem dX9_sack_41 : decode cX9_sack 41 = .ok (.istore 4, 2) := by decide +kernel
theorem dX9_sack_43 : decode cX9_sack 43 = .ok (.iload_n 3, 1) := by decide +kernel
theorem dX9_sack_44 : decode cX9_sack 44 = .ok (.bipush 8, 2) := by decide +kernel
theorem dX9_sack_46 : decode cX9_sack 46 = .ok (.irem, 1) := by decide +kernel
theorem dX9_sack_47 : decode cX9_sack 47 = .ok (.istore 5, 2) := by decide +kernel
theorem dX9_sack_49 : decode cX9_sack 49 = .ok (.iload_n 2, 1) := by decide +kernel
theorem dX9_sack_50 : decode cX9_sack 50 = .ok (.ifCond .ne 15, 3) := by decide +kernel
theorem dX9_sack_53 : decode cX9_sack 53 = .ok (.iload 4, 2) := by decide +kernel
theorem dX9_sack_55 : decode cX9_sack 55 = .ok (.invokestatic 216, 3) := by decide +kernel
theorem dX9_sack_58 : decode cX9_sack 58 = .ok (.iload 5, 2) := by decide +kernel
theorem dX9_sack_60 : decode cX9_sack 60 = .ok (.invokestatic 216, 3) := by decide +kernel
theorem dX9_sack_63 : decode cX9_sack 63 = .ok (.iadd, 1) := by decide +kernel
theorem dX9_sack_64 : decode cX9_sack 64 = .ok (.ireturn, 1) := by decide +kernel
theorem dX9_sack_65 : decode cX9_sack 65 = .ok (.iload_n 2, 1) := by decide +kernel
theorem dX9_sack_66 : decode cX9_sack 66 = .ok (.iconst 1, 1) := by decide +kernel
theorem dX9_sack_67 : decode cX9_sack 67 = .ok (.if_icmp .ne 8, 3) := by decide +kernel
theorem dX9_sack_70 : decode cX9_sack 70 = .ok (.iload 4, 2) := by decide +kernel
theorem dX9_sack_72 : decode cX9_sack 72 = .ok (.goto 5, 3) := by decide +kernel
theorem dX9_sack_75 : decode cX9_sack 75 = .ok (.iload 5, 2) := by decide +kernel
theorem dX9_sack_77 : decode cX9_sack 77 = .ok (.ireturn, 1) := by decide +kernel
theorem dX9_byTurns_0 : decode cX9_byTurns 0 = .ok (.aload_n 0, 1) := by decide +kernel
theorem dX9_byTurns_1 : decode cX9_byTurns 1 = .ok (.getfield 28, 3) := by decide +kernel
theorem dX9_byTurns_4 : decode cX9_byTurns 4 = .ok (.invokevirtual 221, 3) := by decide +kernel
theorem dX9_byTurns_7 : decode cX9_byTurns 7 = .ok (.ireturn, 1) := by decide +kernel
theorem dX9_mark_0 : decode cX9_mark 0 = .ok (.iload_n 1, 1) := by decide +kernel
theorem dX9_mark_1 : decode cX9_mark 1 = .ok (.iconst 0, 1) := by decide +kernel
theorem dX9_mark_2 : decode cX9_mark 2 = .ok (.iconst 5, 1) := by decide +kernel
theorem dX9_mark_3 : decode cX9_mark 3 = .ok (.invokestatic 117, 3) := by decide +kernel
theorem dX9_mark_6 : decode cX9_mark 6 = .ok (.ifCond .eq 20, 3) := by decide +kernel
theorem dX9_mark_9 : decode cX9_mark 9 = .ok (.iload_n 2, 1) := by decide +kernel
theorem dX9_mark_10 : decode cX9_mark 10 = .ok (.iconst 0, 1) := by decide +kernel
theorem dX9_mark_11 : decode cX9_mark 11 = .ok (.aload_n 0, 1) := by decide +kernel
theorem dX9_mark_12 : decode cX9_mark 12 = .ok (.getfield 28, 3) := by decide +kernel
theorem dX9_mark_15 : decode cX9_mark 15 = .ok (.invokevirtual 179, 3) := by decide +kernel
theorem dX9_mark_18 : decode cX9_mark 18 = .ok (.iconst 1, 1) := by decide +kernel
theorem dX9_mark_19 : decode cX9_mark 19 = .ok (.isub, 1) := by decide +kernel
theorem dX9_mark_20 : decode cX9_mark 20 = .ok (.invokestatic 117, 3) := by decide +kernel
theorem dX9_mark_23 : decode cX9_mark 23 = .ok (.ifCond .ne 6, 3) := by decide +kernel
theorem dX9_mark_26 : decode cX9_mark 26 = .ok (.ldc 224, 2) := by decide +kernel
theorem dX9_mark_28 : decode cX9_mark 28 = .ok (.ireturn, 1) := by decide +kernel
theorem dX9_mark_29 : decode cX9_mark 29 = .ok (.aload_n 0, 1) := by decide +kernel
theorem dX9_mark_30 : decode cX9_mark 30 = .ok (.getfield 54, 3) := by decide +kernel
theorem dX9_mark_33 : decode cX9_mark 33 = .ok (.iload_n 1, 1) := by decide +kernel
theorem dX9_mark_34 : decode cX9_mark 34 = .ok (.iload_n 2, 1) := by decide +kernel
theorem dX9_mark_35 : decode cX9_mark 35 = .ok (.invokevirtual 225, 3) := by decide +kernel
theorem dX9_mark_38 : decode cX9_mark 38 = .ok (.ireturn, 1) := by decide +kernel
theorem dX9_keep_0 : decode cX9_keep 0 = .ok (.iload_n 1, 1) := by decide +kernel
theorem dX9_keep_1 : decode cX9_keep 1 = .ok (.iconst 0, 1) := by decide +kernel
theorem dX9_keep_2 : decode cX9_keep 2 = .ok (.iconst 1, 1) := by decide +kernel
theorem dX9_keep_3 : decode cX9_keep 3 = .ok (.invokestatic 117, 3) := by decide +kernel
theorem dX9_keep_6 : decode cX9_keep 6 = .ok (.ifCond .ne 5, 3) := by decide +kernel
theorem dX9_keep_9 : decode cX9_keep 9 = .ok (.iconst (-1), 1) := by decide +kernel
theorem dX9_keep_10 : decode cX9_keep 10 = .ok (.ireturn, 1) := by decide +kernel
theorem dX9_keep_11 : decode cX9_keep 11 = .ok (.aload_n 0, 1) := by decide +kernel
theorem dX9_keep_12 : decode cX9_keep 12 = .ok (.iload_n 1, 1) := by decide +kernel
theorem dX9_keep_13 : decode cX9_keep 13 = .ok (.invokevirtual 228, 3) := by decide +kernel
theorem dX9_keep_16 : decode cX9_keep 16 = .ok (.aload_n 0, 1) := by decide +kernel
theorem dX9_keep_17 : decode cX9_keep 17 = .ok (.getfield 35, 3) := by decide +kernel
theorem dX9_keep_20 : decode cX9_keep 20 = .ok (.invokevirtual 232, 3) := by decide +kernel
theorem dX9_keep_23 : decode cX9_keep 23 = .ok (.aload_n 0, 1) := by decide +kernel
theorem dX9_keep_24 : decode cX9_keep 24 = .ok (.getfield 35, 3) := by decide +kernel
theorem dX9_keep_27 : decode cX9_keep 27 = .ok (.invokevirtual 141, 3) := by decide +kernel
theorem dX9_keep_30 : decode cX9_keep 30 = .ok (.ireturn, 1) := by decide +kernel
theorem dX9_back_0 : decode cX9_back 0 = .ok (.iload_n 1, 1) := by decide +kernel
theorem dX9_back_1 : decode cX9_back 1 = .ok (.iconst 0, 1) := by decide +kernel
theorem dX9_back_2 : decode cX9_back 2 = .ok (.iconst 1, 1) := by decide +kernel
theorem dX9_back_3 : decode cX9_back 3 = .ok (.invokestatic 117, 3) := by decide +kernel
theorem dX9_back_6 : decode cX9_back 6 = .ok (.ifCond .ne 5, 3) := by decide +kernel
theorem dX9_back_9 : decode cX9_back 9 = .ok (.iconst (-1), 1) := by decide +kernel
theorem dX9_back_10 : decode cX9_back 10 = .ok (.ireturn, 1) := by decide +kernel
theorem dX9_back_11 : decode cX9_back 11 = .ok (.aload_n 0, 1) := by decide +kernel
theorem dX9_back_12 : decode cX9_back 12 = .ok (.iload_n 1, 1) := by decide +kernel
theorem dX9_back_13 : decode cX9_back 13 = .ok (.invokevirtual 228, 3) := by decide +kernel
theorem dX9_back_16 : decode cX9_back 16 = .ok (.invokevirtual 236, 3) := by decide +kernel
theorem dX9_back_19 : decode cX9_back 19 = .ok (.ifCond .ne 6, 3) := by decide +kernel
theorem dX9_back_22 : decode cX9_back 22 = .ok (.bipush (-2), 2) := by decide +kernel
theorem dX9_back_24 : decode cX9_back 24 = .ok (.ireturn, 1) := by decide +kernel
theorem dX9_back_25 : decode cX9_back 25 = .ok (.aload_n 0, 1) := by decide +kernel
theorem dX9_back_26 : decode cX9_back 26 = .ok (.getfield 35, 3) := by decide +kernel
theorem dX9_back_29 : decode cX9_back 29 = .ok (.aload_n 0, 1) := by decide +kernel
theorem dX9_back_30 : decode cX9_back 30 = .ok (.iload_n 1, 1) := by decide +kernel
theorem dX9_back_31 : decode cX9_back 31 = .ok (.invokevirtual 228, 3) := by decide +kernel
theorem dX9_back_34 : decode cX9_back 34 = .ok (.invokevirtual 239, 3) := by decide +kernel
theorem dX9_back_37 : decode cX9_back 37 = .ok (.invokevirtual 243, 3) := by decide +kernel
theorem dX9_back_40 : decode cX9_back 40 = .ok (.aload_n 0, 1) := by decide +kernel
theorem dX9_back_41 : decode cX9_back 41 = .ok (.getfield 61, 3) := by decide +kernel
theorem dX9_back_44 : decode cX9_back 44 = .ok (.invokevirtual 100, 3) := by decide +kernel
theorem dX9_back_47 : decode cX9_back 47 = .ok (.aload_n 0, 1) := by decide +kernel
theorem dX9_back_48 : decode cX9_back 48 = .ok (.getfield 35, 3) := by decide +kernel
theorem dX9_back_51 : decode cX9_back 51 = .ok (.invokevirtual 141, 3) := by decide +kernel
theorem dX9_back_54 : decode cX9_back 54 = .ok (.ireturn, 1) := by decide +kernel
theorem dX9_count_0 : decode cX9_count 0 = .ok (.iload_n 1, 1) := by decide +kernel
theorem dX9_count_1 : decode cX9_count 1 = .ok (.tableswitch 63 0 3 #[31, 39, 47, 55], 31) := by decide +kernel
theorem dX9_count_32 : decode cX9_count 32 = .ok (.aload_n 0, 1) := by decide +kernel
theorem dX9_count_33 : decode cX9_count 33 = .ok (.getfield 28, 3) := by decide +kernel
theorem dX9_count_36 : decode cX9_count 36 = .ok (.invokevirtual 179, 3) := by decide +kernel
theorem dX9_count_39 : decode cX9_count 39 = .ok (.ireturn, 1) := by decide +kernel
theorem dX9_count_40 : decode cX9_count 40 = .ok (.aload_n 0, 1) := by decide +kernel
theorem dX9_count_41 : decode cX9_count 41 = .ok (.getfield 28, 3) := by decide +kernel
theorem dX9_count_44 : decode cX9_count 44 = .ok (.invokevirtual 138, 3) := by decide +kernel
theorem dX9_count_47 : decode cX9_count 47 = .ok (.ireturn, 1) := by decide +kernel
theorem dX9_count_48 : decode cX9_count 48 = .ok (.aload_n 0, 1) := by decide +kernel
theorem dX9_count_49 : decode cX9_count 49 = .ok (.getfield 35, 3) := by decide +kernel
theorem dX9_count_52 : decode cX9_count 52 = .ok (.invokevirtual 141, 3) := by decide +kernel
theorem dX9_count_55 : decode cX9_count 55 = .ok (.ireturn, 1) := by decide +kernel
theorem dX9_count_56 : decode cX9_count 56 = .ok (.aload_n 0, 1) := by decide +kernel
theorem dX9_count_57 : decode cX9_count 57 = .ok (.getfield 10, 3) := by decide +kernel
theorem dX9_count_60 : decode cX9_count 60 = .ok (.invokevirtual 74, 3) := by decide +kernel
theorem dX9_count_63 : decode cX9_count 63 = .ok (.ireturn, 1) := by decide +kernel
theorem dX9_count_64 : decode cX9_count 64 = .ok (.iconst (-1), 1) := by decide +kernel
theorem dX9_count_65 : decode cX9_count 65 = .ok (.ireturn, 1) := by decide +kernel
theorem dX9_trace_0 : decode cX9_trace 0 = .ok (.aload_n 0, 1) := by decide +kernel
theorem dX9_trace_1 : decode cX9_trace 1 = .ok (.getfield 54, 3) := by decide +kernel
theorem dX9_trace_4 : decode cX9_trace 4 = .ok (.invokevirtual 245, 3) := by decide +kernel
theorem dX9_trace_7 : decode cX9_trace 7 = .ok (.lreturn, 1) := by decide +kernel
theorem dX9_isBetween_0 : decode cX9_isBetween 0 = .ok (.iload_n 0, 1) := by decide +kernel
theorem dX9_isBetween_1 : decode cX9_isBetween 1 = .ok (.iload_n 1, 1) := by decide +kernel
theorem dX9_isBetween_2 : decode cX9_isBetween 2 = .ok (.if_icmp .lt 12, 3) := by decide +kernel
theorem dX9_isBetween_5 : decode cX9_isBetween 5 = .ok (.iload_n 0, 1) := by decide +kernel
theorem dX9_isBetween_6 : decode cX9_isBetween 6 = .ok (.iload_n 2, 1) := by decide +kernel
theorem dX9_isBetween_7 : decode cX9_isBetween 7 = .ok (.if_icmp .gt 7, 3) := by decide +kernel
theorem dX9_isBetween_10 : decode cX9_isBetween 10 = .ok (.iconst 1, 1) := by decide +kernel
theorem dX9_isBetween_11 : decode cX9_isBetween 11 = .ok (.goto 4, 3) := by decide +kernel
theorem dX9_isBetween_14 : decode cX9_isBetween 14 = .ok (.iconst 0, 1) := by decide +kernel
theorem dX9_isBetween_15 : decode cX9_isBetween 15 = .ok (.ireturn, 1) := by decide +kernel
theorem dX9_isItem_0 : decode cX9_isItem 0 = .ok (.iload_n 1, 1) := by decide +kernel
theorem dX9_isItem_1 : decode cX9_isItem 1 = .ok (.iconst 3, 1) := by decide +kernel
theorem dX9_isItem_2 : decode cX9_isItem 2 = .ok (.if_icmp .eq 20, 3) := by decide +kernel
theorem dX9_isItem_5 : decode cX9_isItem 5 = .ok (.iload_n 1, 1) := by decide +kernel
theorem dX9_isItem_6 : decode cX9_isItem 6 = .ok (.iconst 0, 1) := by decide +kernel
theorem dX9_isItem_7 : decode cX9_isItem 7 = .ok (.aload_n 0, 1) := by decide +kernel
theorem dX9_isItem_8 : decode cX9_isItem 8 = .ok (.getfield 28, 3) := by decide +kernel
theorem dX9_isItem_11 : decode cX9_isItem 11 = .ok (.invokevirtual 179, 3) := by decide +kernel
theorem dX9_isItem_14 : decode cX9_isItem 14 = .ok (.iconst 1, 1) := by decide +kernel
theorem dX9_isItem_15 : decode cX9_isItem 15 = .ok (.isub, 1) := by decide +kernel
theorem dX9_isItem_16 : decode cX9_isItem 16 = .ok (.invokestatic 117, 3) := by decide +kernel
theorem dX9_isItem_19 : decode cX9_isItem 19 = .ok (.ifCond .eq 7, 3) := by decide +kernel
theorem dX9_isItem_22 : decode cX9_isItem 22 = .ok (.iconst 1, 1) := by decide +kernel
theorem dX9_isItem_23 : decode cX9_isItem 23 = .ok (.goto 4, 3) := by decide +kernel
theorem dX9_isItem_26 : decode cX9_isItem 26 = .ok (.iconst 0, 1) := by decide +kernel
theorem dX9_isItem_27 : decode cX9_isItem 27 = .ok (.ireturn, 1) := by decide +kernel
theorem dX9_isSet_0 : decode cX9_isSet 0 = .ok (.iload_n 1, 1) := by decide +kernel
theorem dX9_isSet_1 : decode cX9_isSet 1 = .ok (.iconst 0, 1) := by decide +kernel
theorem dX9_isSet_2 : decode cX9_isSet 2 = .ok (.aload_n 0, 1) := by decide +kernel
theorem dX9_isSet_3 : decode cX9_isSet 3 = .ok (.getfield 28, 3) := by decide +kernel
theorem dX9_isSet_6 : decode cX9_isSet 6 = .ok (.invokevirtual 249, 3) := by decide +kernel
theorem dX9_isSet_9 : decode cX9_isSet 9 = .ok (.iconst 1, 1) := by decide +kernel
theorem dX9_isSet_10 : decode cX9_isSet 10 = .ok (.isub, 1) := by decide +kernel
theorem dX9_isSet_11 : decode cX9_isSet 11 = .ok (.invokestatic 117, 3) := by decide +kernel
theorem dX9_isSet_14 : decode cX9_isSet 14 = .ok (.ireturn, 1) := by decide +kernel
theorem dX9_isLine_0 : decode cX9_isLine 0 = .ok (.iload_n 1, 1) := by decide +kernel
theorem dX9_isLine_1 : decode cX9_isLine 1 = .ok (.iconst 0, 1) := by decide +kernel
theorem dX9_isLine_2 : decode cX9_isLine 2 = .ok (.aload_n 0, 1) := by decide +kernel
theorem dX9_isLine_3 : decode cX9_isLine 3 = .ok (.getfield 35, 3) := by decide +kernel
theorem dX9_isLine_6 : decode cX9_isLine 6 = .ok (.invokevirtual 141, 3) := by decide +kernel
theorem dX9_isLine_9 : decode cX9_isLine 9 = .ok (.iconst 1, 1) := by decide +kernel
theorem dX9_isLine_10 : decode cX9_isLine 10 = .ok (.isub, 1) := by decide +kernel
theorem dX9_isLine_11 : decode cX9_isLine 11 = .ok (.invokestatic 117, 3) := by decide +kernel
theorem dX9_isLine_14 : decode cX9_isLine 14 = .ok (.ireturn, 1) := by decide +kernel
theorem dX9_known_0 : decode cX9_known 0 = .ok (.aload_n 0, 1) := by decide +kernel
theorem dX9_known_1 : decode cX9_known 1 = .ok (.getfield 61, 3) := by decide +kernel
theorem dX9_known_4 : decode cX9_known 4 = .ok (.invokevirtual 182, 3) := by decide +kernel
theorem dX9_known_7 : decode cX9_known 7 = .ok (.aload_n 0, 1) := by decide +kernel
theorem dX9_known_8 : decode cX9_known 8 = .ok (.getfield 61, 3) := by decide +kernel
theorem dX9_known_11 : decode cX9_known 11 = .ok (.areturn, 1) := by decide +kernel
theorem dX9_imageOf_0 : decode cX9_imageOf 0 = .ok (.iload_n 1, 1) := by decide +kernel
theorem dX9_imageOf_1 : decode cX9_imageOf 1 = .ok (.ifCond .ne 10, 3) := by decide +kernel
theorem dX9_imageOf_4 : decode cX9_imageOf 4 = .ok (.aload_n 0, 1) := by decide +kernel
theorem dX9_imageOf_5 : decode cX9_imageOf 5 = .ok (.getfield 42, 3) := by decide +kernel
theorem dX9_imageOf_8 : decode cX9_imageOf 8 = .ok (.goto 7, 3) := by decide +kernel
theorem dX9_imageOf_11 : decode cX9_imageOf 11 = .ok (.aload_n 0, 1) := by decide +kernel
theorem dX9_imageOf_12 : decode cX9_imageOf 12 = .ok (.getfield 46, 3) := by decide +kernel
theorem dX9_imageOf_15 : decode cX9_imageOf 15 = .ok (.areturn, 1) := by decide +kernel
theorem dX9_greatestDivisor_0 : decode cX9_greatestDivisor 0 = .ok (.lload_n 0, 1) := by decide +kernel
theorem dX9_greatestDivisor_1 : decode cX9_greatestDivisor 1 = .ok (.lstore 4, 2) := by decide +kernel
theorem dX9_greatestDivisor_3 : decode cX9_greatestDivisor 3 = .ok (.lload_n 2, 1) := by decide +kernel
theorem dX9_greatestDivisor_4 : decode cX9_greatestDivisor 4 = .ok (.lstore 6, 2) := by decide +kernel
theorem dX9_greatestDivisor_6 : decode cX9_greatestDivisor 6 = .ok (.iconst 0, 1) := by decide +kernel
theorem dX9_greatestDivisor_7 : decode cX9_greatestDivisor 7 = .ok (.istore 8, 2) := by decide +kernel
theorem dX9_greatestDivisor_9 : decode cX9_greatestDivisor 9 = .ok (.iload 8, 2) := by decide +kernel
theorem dX9_greatestDivisor_11 : decode cX9_greatestDivisor 11 = .ok (.bipush 100, 2) := by decide +kernel
theorem dX9_greatestDivisor_13 : decode cX9_greatestDivisor 13 = .ok (.if_icmp .ge 31, 3) := by decide +kernel
theorem dX9_greatestDivisor_16 : decode cX9_greatestDivisor 16 = .ok (.lload 6, 2) := by decide +kernel
theorem dX9_greatestDivisor_18 : decode cX9_greatestDivisor 18 = .ok (.lconst 0, 1) := by decide +kernel
theorem dX9_greatestDivisor_19 : decode cX9_greatestDivisor 19 = .ok (.lcmp, 1) := by decide +kernel
theorem dX9_greatestDivisor_20 : decode cX9_greatestDivisor 20 = .ok (.ifCond .eq 24, 3) := by decide +kernel
theorem dX9_greatestDivisor_23 : decode cX9_greatestDivisor 23 = .ok (.lload 4, 2) := by decide +kernel
theorem dX9_greatestDivisor_25 : decode cX9_greatestDivisor 25 = .ok (.lload 6, 2) := by decide +kernel
theorem dX9_greatestDivisor_27 : decode cX9_greatestDivisor 27 = .ok (.lrem, 1) := by decide +kernel
theorem dX9_greatestDivisor_28 : decode cX9_greatestDivisor 28 = .ok (.lstore 9, 2) := by decide +kernel
theorem dX9_greatestDivisor_30 : decode cX9_greatestDivisor 30 = .ok (.lload 6, 2) := by decide +kernel
theorem dX9_greatestDivisor_32 : decode cX9_greatestDivisor 32 = .ok (.lstore 4, 2) := by decide +kernel
theorem dX9_greatestDivisor_34 : decode cX9_greatestDivisor 34 = .ok (.lload 9, 2) := by decide +kernel
theorem dX9_greatestDivisor_36 : decode cX9_greatestDivisor 36 = .ok (.lstore 6, 2) := by decide +kernel
theorem dX9_greatestDivisor_38 : decode cX9_greatestDivisor 38 = .ok (.iinc 8 1, 3) := by decide +kernel
theorem dX9_greatestDivisor_41 : decode cX9_greatestDivisor 41 = .ok (.goto (-32), 3) := by decide +kernel
theorem dX9_greatestDivisor_44 : decode cX9_greatestDivisor 44 = .ok (.lload 4, 2) := by decide +kernel
theorem dX9_greatestDivisor_46 : decode cX9_greatestDivisor 46 = .ok (.lreturn, 1) := by decide +kernel
end
section
theorem dX10_init_0 : decode cX10_init 0 = .ok (.aload_n 0, 1) := by decide +kernel
theorem dX10_init_1 : decode cX10_init 1 = .ok (.invokespecial 1, 3) := by decide +kernel
theorem dX10_init_4 : decode cX10_init 4 = .ok (.aload_n 0, 1) := by decide +kernel
theorem dX10_init_5 : decode cX10_init 5 = .ok (.sipush 200, 3) := by decide +kernel
theorem dX10_init_8 : decode cX10_init 8 = .ok (.newarray .byte, 2) := by decide +kernel
theorem dX10_init_10 : decode cX10_init 10 = .ok (.putfield 7, 3) := by decide +kernel
theorem dX10_init_13 : decode cX10_init 13 = .ok (.aload_n 0, 1) := by decide +kernel
theorem dX10_init_14 : decode cX10_init 14 = .ok (.iconst 2, 1) := by decide +kernel
theorem dX10_init_15 : decode cX10_init 15 = .ok (.newarray .int, 2) := by decide +kernel
theorem dX10_init_17 : decode cX10_init 17 = .ok (.putfield 13, 3) := by decide +kernel
theorem dX10_init_20 : decode cX10_init 20 = .ok (.aload_n 0, 1) := by decide +kernel
theorem dX10_init_21 : decode cX10_init 21 = .ok (.bipush 8, 2) := by decide +kernel
theorem dX10_init_23 : decode cX10_init 23 = .ok (.newarray .int, 2) := by decide +kernel
theorem dX10_init_25 : decode cX10_init 25 = .ok (.putfield 17, 3) := by decide +kernel
theorem dX10_init_28 : decode cX10_init 28 = .ok (.aload_n 0, 1) := by decide +kernel
theorem dX10_init_29 : decode cX10_init 29 = .ok (.iconst 2, 1) := by decide +kernel
theorem dX10_init_30 : decode cX10_init 30 = .ok (.newarray .int, 2) := by decide +kernel
theorem dX10_init_32 : decode cX10_init 32 = .ok (.putfield 20, 3) := by decide +kernel
theorem dX10_init_35 : decode cX10_init 35 = .ok (.aload_n 0, 1) := by decide +kernel
theorem dX10_init_36 : decode cX10_init 36 = .ok (.iconst 3, 1) := by decide +kernel
theorem dX10_init_37 : decode cX10_init 37 = .ok (.newarray .int, 2) := by decide +kernel
theorem dX10_init_39 : decode cX10_init 39 = .ok (.putfield 23, 3) := by decide +kernel
theorem dX10_init_42 : decode cX10_init 42 = .ok (.aload_n 0, 1) := by decide +kernel
theorem dX10_init_43 : decode cX10_init 43 = .ok (.bipush 108, 2) := by decide +kernel
theorem dX10_init_45 : decode cX10_init 45 = .ok (.newarray .int, 2) := by decide +kernel
theorem dX10_init_47 : decode cX10_init 47 = .ok (.putfield 26, 3) := by decide +kernel
theorem dX10_init_50 : decode cX10_init 50 = .ok (.aload_n 0, 1) := by decide +kernel
theorem dX10_init_51 : decode cX10_init 51 = .ok (.iconst 2, 1) := by decide +kernel
theorem dX10_init_52 : decode cX10_init 52 = .ok (.newarray .boolean, 2) := by decide +kernel
theorem dX10_init_54 : decode cX10_init 54 = .ok (.putfield 29, 3) := by decide +kernel
theorem dX10_init_57 : decode cX10_init 57 = .ok (.aload_n 0, 1) := by decide +kernel
theorem dX10_init_58 : decode cX10_init 58 = .ok (.iconst 4, 1) := by decide +kernel
theorem dX10_init_59 : decode cX10_init 59 = .ok (.newarray .int, 2) := by decide +kernel
theorem dX10_init_61 : decode cX10_init 61 = .ok (.putfield 33, 3) := by decide +kernel
theorem dX10_init_64 : decode cX10_init 64 = .ok (.aload_n 0, 1) := by decide +kernel
theorem dX10_init_65 : decode cX10_init 65 = .ok (.bipush 20, 2) := by decide +kernel
theorem dX10_init_67 : decode cX10_init 67 = .ok (.newarray .int, 2) := by decide +kernel
theorem dX10_init_69 : decode cX10_init 69 = .ok (.putfield 36, 3) := by decide +kernel
theorem dX10_init_72 : decode cX10_init 72 = .ok (.aload_n 0, 1) := by decide +kernel
theorem dX10_init_73 : decode cX10_init 73 = .ok (.sipush 400, 3) := by decide +kernel
theorem dX10_init_76 : decode cX10_init 76 = .ok (.newarray .int, 2) := by decide +kernel
theorem dX10_init_78 : decode cX10_init 78 = .ok (.putfield 39, 3) := by decide +kernel
theorem dX10_init_81 : decode cX10_init 81 = .ok (.aload_n 0, 1) := by decide +kernel
theorem dX10_init_82 : decode cX10_init 82 = .ok (.bipush 20, 2) := by decide +kernel
theorem dX10_init_84 : decode cX10_init 84 = .ok (.newarray .boolean, 2) := by decide +kernel
theorem dX10_init_86 : decode cX10_init 86 = .ok (.putfield 42, 3) := by decide +kernel
theorem dX10_init_89 : decode cX10_init 89 = .ok (.aload_n 0, 1) := by decide +kernel
theorem dX10_init_90 : decode cX10_init 90 = .ok (.bipush 8, 2) := by decide +kernel
theorem dX10_init_92 : decode cX10_init 92 = .ok (.newarray .int, 2) := by decide +kernel
theorem dX10_init_94 : decode cX10_init 94 = .ok (.putfield 45, 3) := by decide +kernel
theorem dX10_init_97 : decode cX10_init 97 = .ok (.aload_n 0, 1) := by decide +kernel
theorem dX10_init_98 : decode cX10_init 98 = .ok (.getfield 20, 3) := by decide +kernel
theorem dX10_init_101 : decode cX10_init 101 = .ok (.iconst 0, 1) := by decide +kernel
theorem dX10_init_102 : decode cX10_init 102 = .ok (.bipush 10, 2) := by decide +kernel
theorem dX10_init_104 : decode cX10_init 104 = .ok (.iastore, 1) := by decide +kernel
theorem dX10_init_105 : decode cX10_init 105 = .ok (.return_, 1) := by decide +kernel
theorem dX10_in_0 : decode cX10_in 0 = .ok (.iload_n 0, 1) := by decide +kernel
theorem dX10_in_1 : decode cX10_in 1 = .ok (.iload_n 1, 1) := by decide +kernel
theorem dX10_in_2 : decode cX10_in 2 = .ok (.if_icmp .lt 12, 3) := by decide +kernel
theorem dX10_in_5 : decode cX10_in 5 = .ok (.iload_n 0, 1) := by decide +kernel
theorem dX10_in_6 : decode cX10_in 6 = .ok (.iload_n 2, 1) := by decide +kernel
theorem dX10_in_7 : decode cX10_in 7 = .ok (.if_icmp .gt 7, 3) := by decide +kernel
theorem dX10_in_10 : decode cX10_in 10 = .ok (.iconst 1, 1) := by decide +kernel
theorem dX10_in_11 : decode cX10_in 11 = .ok (.goto 4, 3) := by decide +kernel
theorem dX10_in_14 : decode cX10_in 14 = .ok (.iconst 0, 1) := by decide +kernel
theorem dX10_in_15 : decode cX10_in 15 = .ok (.ireturn, 1) := by decide +kernel
theorem dX10_type_0 : decode cX10_type 0 = .ok (.iload_n 3, 1) := by decide +kernel
theorem dX10_type_1 : decode cX10_type 1 = .ok (.iconst 1, 1) := by decide +kernel
theorem dX10_type_2 : decode cX10_type 2 = .ok (.bipush 8, 2) := by decide +kernel
theorem dX10_type_4 : decode cX10_type 4 = .ok (.invokestatic 48, 3) := by decide +kernel
theorem dX10_type_7 : decode cX10_type 7 = .ok (.ifCond .ne 5, 3) := by decide +kernel
theorem dX10_type_10 : decode cX10_type 10 = .ok (.iconst (-1), 1) := by decide +kernel
theorem dX10_type_11 : decode cX10_type 11 = .ok (.ireturn, 1) := by decide +kernel
theorem dX10_type_12 : decode cX10_type 12 = .ok (.aload_n 0, 1) := by decide +kernel
theorem dX10_type_13 : decode cX10_type 13 = .ok (.getfield 52, 3) := by decide +kernel
theorem dX10_type_16 : decode cX10_type 16 = .ok (.iload_n 3, 1) := by decide +kernel
theorem dX10_type_17 : decode cX10_type 17 = .ok (.iadd, 1) := by decide +kernel
theorem dX10_type_18 : decode cX10_type 18 = .ok (.sipush 200, 3) := by decide +kernel
theorem dX10_type_21 : decode cX10_type 21 = .ok (.if_icmp .le 6, 3) := by decide +kernel
theorem dX10_type_24 : decode cX10_type 24 = .ok (.bipush (-3), 2) := by decide +kernel
theorem dX10_type_26 : decode cX10_type 26 = .ok (.ireturn, 1) := by decide +kernel
theorem dX10_type_27 : decode cX10_type 27 = .ok (.iload_n 3, 1) := by decide +kernel
theorem dX10_type_28 : decode cX10_type 28 = .ok (.iconst 1, 1) := by decide +kernel
theorem dX10_type_29 : decode cX10_type 29 = .ok (.isub, 1) := by decide +kernel
theorem dX10_type_30 : decode cX10_type 30 = .ok (.istore 4, 2) := by decide +kernel
theorem dX10_type_32 : decode cX10_type 32 = .ok (.iload 4, 2) := by decide +kernel
theorem dX10_type_34 : decode cX10_type 34 = .ok (.ifCond .lt 41, 3) := by decide +kernel
theorem dX10_type_37 : decode cX10_type 37 = .ok (.aload_n 0, 1) := by decide +kernel
theorem dX10_type_38 : decode cX10_type 38 = .ok (.getfield 7, 3) := by decide +kernel
theorem dX10_type_41 : decode cX10_type 41 = .ok (.aload_n 0, 1) := by decide +kernel
theorem dX10_type_42 : decode cX10_type 42 = .ok (.getfield 52, 3) := by decide +kernel
theorem dX10_type_45 : decode cX10_type 45 = .ok (.lload_n 1, 1) := by decide +kernel
theorem dX10_type_46 : decode cX10_type 46 = .ok (.bipush 8, 2) := by decide +kernel
theorem dX10_type_48 : decode cX10_type 48 = .ok (.iload 4, 2) := by decide +kernel
theorem dX10_type_50 : decode cX10_type 50 = .ok (.imul, 1) := by decide +kernel
theorem dX10_type_51 : decode cX10_type 51 = .ok (.lshr, 1) := by decide +kernel
theorem dX10_type_52 : decode cX10_type 52 = .ok (.ldc2_w 56, 3) := by decide +kernel
theorem dX10_type_55 : decode cX10_type 55 = .ok (.land, 1) := by decide +kernel
theorem dX10_type_56 : decode cX10_type 56 = .ok (.l2i, 1) := by decide +kernel
theorem dX10_type_57 : decode cX10_type 57 = .ok (.i2b, 1) := by decide +kernel
theorem dX10_type_58 : decode cX10_type 58 = .ok (.bastore, 1) := by decide +kernel
theorem dX10_type_59 : decode cX10_type 59 = .ok (.aload_n 0, 1) := by decide +kernel
theorem dX10_type_60 : decode cX10_type 60 = .ok (.dup, 1) := by decide +kernel
theorem dX10_type_61 : decode cX10_type 61 = .ok (.getfield 52, 3) := by decide +kernel
theorem dX10_type_64 : decode cX10_type 64 = .ok (.iconst 1, 1) := by decide +kernel
theorem dX10_type_65 : decode cX10_type 65 = .ok (.iadd, 1) := by decide +kernel
theorem dX10_type_66 : decode cX10_type 66 = .ok (.putfield 52, 3) := by decide +kernel
theorem dX10_type_69 : decode cX10_type 69 = .ok (.iinc 4 (-1), 3) := by decide +kernel
theorem dX10_type_72 : decode cX10_type 72 = .ok (.goto (-40), 3) := by decide +kernel
theorem dX10_type_75 : decode cX10_type 75 = .ok (.aload_n 0, 1) := by decide +kernel
theorem dX10_type_76 : decode cX10_type 76 = .ok (.getfield 52, 3) := by decide +kernel
theorem dX10_type_79 : decode cX10_type 79 = .ok (.ireturn, 1) := by decide +kernel
theorem dX10_clear_0 : decode cX10_clear 0 = .ok (.aload_n 0, 1) := by decide +kernel
theorem dX10_clear_1 : decode cX10_clear 1 = .ok (.getfield 52, 3) := by decide +kernel
theorem dX10_clear_4 : decode cX10_clear 4 = .ok (.istore_n 1, 1) := by decide +kernel
theorem dX10_clear_5 : decode cX10_clear 5 = .ok (.aload_n 0, 1) := by decide +kernel
theorem dX10_clear_6 : decode cX10_clear 6 = .ok (.iconst 0, 1) := by decide +kernel
theorem dX10_clear_7 : decode cX10_clear 7 = .ok (.putfield 52, 3) := by decide +kernel
theorem dX10_clear_10 : decode cX10_clear 10 = .ok (.iload_n 1, 1) := by decide +kernel
theorem dX10_clear_11 : decode cX10_clear 11 = .ok (.ireturn, 1) := by decide +kernel
theorem dX10_here_0 : decode cX10_here 0 = .ok (.aload_n 0, 1) := by decide +kernel
theorem dX10_here_1 : decode cX10_here 1 = .ok (.getfield 58, 3) := by decide +kernel
theorem dX10_here_4 : decode cX10_here 4 = .ok (.aload_n 0, 1) := by decide +kernel
theorem dX10_here_5 : decode cX10_here 5 = .ok (.getfield 52, 3) := by decide +kernel
theorem dX10_here_8 : decode cX10_here 8 = .ok (.if_icmp .ge 19, 3) := by decide +kernel
theorem dX10_here_11 : decode cX10_here 11 = .ok (.aload_n 0, 1) := by decide +kernel
theorem dX10_here_12 : decode cX10_here 12 = .ok (.getfield 7, 3) := by decide +kernel
theorem dX10_here_15 : decode cX10_here 15 = .ok (.aload_n 0, 1) := by decide +kernel
theorem dX10_here_16 : decode cX10_here 16 = .ok (.getfield 58, 3) := by decide +kernel
theorem dX10_here_19 : decode cX10_here 19 = .ok (.baload, 1) := by decide +kernel
theorem dX10_here_20 : decode cX10_here 20 = .ok (.sipush 255, 3) := by decide +kernel
theorem dX10_here_23 : decode cX10_here 23 = .ok (.iand, 1) := by decide +kernel
theorem dX10_here_24 : decode cX10_here 24 = .ok (.goto 4, 3) := by decide +kernel
theorem dX10_here_27 : decode cX10_here 27 = .ok (.iconst (-1), 1) := by decide +kernel
theorem dX10_here_28 : decode cX10_here 28 = .ok (.ireturn, 1) := by decide +kernel
theorem dX10_nextToken_0 : decode cX10_nextToken 0 = .ok (.aload_n 0, 1) := by decide +kernel
theorem dX10_nextToken_1 : decode cX10_nextToken 1 = .ok (.invokevirtual 61, 3) := by decide +kernel
theorem dX10_nextToken_4 : decode cX10_nextToken 4 = .ok (.bipush 32, 2) := by decide +kernel
theorem dX10_nextToken_6 : decode cX10_nextToken 6 = .ok (.if_icmp .ne 16, 3) := by decide +kernel
theorem dX10_nextToken_9 : decode cX10_nextToken 9 = .ok (.aload_n 0, 1) := by decide +kernel
theorem dX10_nextToken_10 : decode cX10_nextToken 10 = .ok (.dup, 1) := by decide +kernel
theorem dX10_nextToken_11 : decode cX10_nextToken 11 = .ok (.getfield 58, 3) := by decide +kernel
theorem dX10_nextToken_14 : decode cX10_nextToken 14 = .ok (.iconst 1, 1) := by decide +kernel
theorem dX10_nextToken_15 : decode cX10_nextToken 15 = .ok (.iadd, 1) := by decide +kernel
theorem dX10_nextToken_16 : decode cX10_nextToken 16 = .ok (.putfield 58, 3) := by decide +kernel
theorem dX10_nextToken_19 : decode cX10_nextToken 19 = .ok (.goto (-19), 3) := by decide +kernel
theorem dX10_nextToken_22 : decode cX10_nextToken 22 = .ok (.aload_n 0, 1) := by decide +kernel
theorem dX10_nextToken_23 : decode cX10_nextToken 23 = .ok (.aload_n 0, 1) := by decide +kernel
theorem dX10_nextToken_24 : decode cX10_nextToken 24 = .ok (.getfield 58, 3) := by decide +kernel
theorem dX10_nextToken_27 : decode cX10_nextToken 27 = .ok (.putfield 65, 3) := by decide +kernel
theorem dX10_nextToken_30 : decode cX10_nextToken 30 = .ok (.aload_n 0, 1) := by decide +kernel
theorem dX10_nextToken_31 : decode cX10_nextToken 31 = .ok (.iconst 0, 1) := by decide +kernel
theorem dX10_nextToken_32 : decode cX10_nextToken 32 = .ok (.putfield 68, 3) := by decide +kernel
theorem dX10_nextToken_35 : decode cX10_nextToken 35 = .ok (.aload_n 0, 1) := by decide +kernel
theorem dX10_nextToken_36 : decode cX10_nextToken 36 = .ok (.invokevirtual 61, 3) := by decide +kernel
theorem dX10_nextToken_39 : decode cX10_nextToken 39 = .ok (.istore_n 1, 1) := by decide +kernel
theorem dX10_nextToken_40 : decode cX10_nextToken 40 = .ok (.iload_n 1, 1) := by decide +kernel
theorem dX10_nextToken_41 : decode cX10_nextToken 41 = .ok (.ifCond .ge 11, 3) := by decide +kernel
theorem dX10_nextToken_44 : decode cX10_nextToken 44 = .ok (.aload_n 0, 1) := by decide +kernel
theorem dX10_nextToken_45 : decode cX10_nextToken 45 = .ok (.iconst 3, 1) := by decide +kernel
theorem dX10_nextToken_46 : decode cX10_nextToken 46 = .ok (.putfield 71, 3) := by decide +kernel
theorem dX10_nextToken_49 : decode cX10_nextToken 49 = .ok (.goto 305, 3) := by decide +kernel
theorem dX10_nextToken_52 : decode cX10_nextToken 52 = .ok (.iload_n 1, 1) := by decide +kernel
theorem dX10_nextToken_53 : decode cX10_nextToken 53 = .ok (.bipush 97, 2) := by decide +kernel
theorem dX10_nextToken_55 : decode cX10_nextToken 55 = .ok (.bipush 122, 2) := by decide +kernel
theorem dX10_nextToken_57 : decode cX10_nextToken 57 = .ok (.invokestatic 48, 3) := by decide +kernel
theorem dX10_nextToken_60 : decode cX10_nextToken 60 = .ok (.ifCond .eq 154, 3) := by decide +kernel
theorem dX10_nextToken_63 : decode cX10_nextToken 63 = .ok (.iconst 0, 1) := by decide +kernel
theorem dX10_nextToken_64 : decode cX10_nextToken 64 = .ok (.istore_n 2, 1) := by decide +kernel
theorem dX10_nextToken_65 : decode cX10_nextToken 65 = .ok (.iconst 0, 1) := by decide +kernel
theorem dX10_nextToken_66 : decode cX10_nextToken 66 = .ok (.istore_n 3, 1) := by decide +kernel
theorem dX10_nextToken_67 : decode cX10_nextToken 67 = .ok (.aload_n 0, 1) := by decide +kernel
theorem dX10_nextToken_68 : decode cX10_nextToken 68 = .ok (.invokevirtual 61, 3) := by decide +kernel
theorem dX10_nextToken_71 : decode cX10_nextToken 71 = .ok (.bipush 97, 2) := by decide +kernel
theorem dX10_nextToken_73 : decode cX10_nextToken 73 = .ok (.bipush 122, 2) := by decide +kernel
theorem dX10_nextToken_75 : decode cX10_nextToken 75 = .ok (.invokestatic 48, 3) := by decide +kernel
theorem dX10_nextToken_78 : decode cX10_nextToken 78 = .ok (.ifCond .eq 82, 3) := by decide +kernel
theorem dX10_nextToken_81 : decode cX10_nextToken 81 = .ok (.aload_n 0, 1) := by decide +kernel
theorem dX10_nextToken_82 : decode cX10_nextToken 82 = .ok (.getfield 58, 3) := by decide +kernel
theorem dX10_nextToken_85 : decode cX10_nextToken 85 = .ok (.aload_n 0, 1) := by decide +kernel
theorem dX10_nextToken_86 : decode cX10_nextToken 86 = .ok (.getfield 65, 3) := by decide +kernel
theorem dX10_nextToken_89 : decode cX10_nextToken 89 = .ok (.isub, 1) := by decide +kernel
theorem dX10_nextToken_90 : decode cX10_nextToken 90 = .ok (.istore 4, 2) := by decide +kernel
theorem dX10_nextToken_92 : decode cX10_nextToken 92 = .ok (.iload 4, 2) := by decide +kernel
theorem dX10_nextToken_94 : decode cX10_nextToken 94 = .ok (.bipush 6, 2) := by decide +kernel
theorem dX10_nextToken_96 : decode cX10_nextToken 96 = .ok (.if_icmp .ge 18, 3) := by decide +kernel
theorem dX10_nextToken_99 : decode cX10_nextToken 99 = .ok (.bipush 27, 2) := by decide +kernel
theorem dX10_nextToken_101 : decode cX10_nextToken 101 = .ok (.iload_n 2, 1) := by decide +kernel
theorem dX10_nextToken_102 : decode cX10_nextToken 102 = .ok (.imul, 1) := by decide +kernel
theorem dX10_nextToken_103 : decode cX10_nextToken 103 = .ok (.aload_n 0, 1) := by decide +kernel
theorem dX10_nextToken_104 : decode cX10_nextToken 104 = .ok (.invokevirtual 61, 3) := by decide +kernel
theorem dX10_nextToken_107 : decode cX10_nextToken 107 = .ok (.iadd, 1) := by decide +kernel
theorem dX10_nextToken_108 : decode cX10_nextToken 108 = .ok (.bipush 96, 2) := by decide +kernel
theorem dX10_nextToken_110 : decode cX10_nextToken 110 = .ok (.isub, 1) := by decide +kernel
theorem dX10_nextToken_111 : decode cX10_nextToken 111 = .ok (.goto 4, 3) := by decide +kernel
theorem dX10_nextToken_114 : decode cX10_nextToken 114 = .ok (.iload_n 2, 1) := by decide +kernel
theorem dX10_nextToken_115 : decode cX10_nextToken 115 = .ok (.istore_n 2, 1) := by decide +kernel
theorem dX10_nextToken_116 : decode cX10_nextToken 116 = .ok (.iload 4, 2) := by decide +kernel
theorem dX10_nextToken_118 : decode cX10_nextToken 118 = .ok (.bipush 6, 2) := by decide +kernel
theorem dX10_nextToken_120 : decode cX10_nextToken 120 = .ok (.if_icmp .ne 13, 3) := by decide +kernel
theorem dX10_nextToken_123 : decode cX10_nextToken 123 = .ok (.aload_n 0, 1) := by decide +kernel
theorem dX10_nextToken_124 : decode cX10_nextToken 124 = .ok (.invokevirtual 61, 3) := by decide +kernel
theorem dX10_nextToken_127 : decode cX10_nextToken 127 = .ok (.bipush 96, 2) := by decide +kernel
theorem dX10_nextToken_129 : decode cX10_nextToken 129 = .ok (.isub, 1) := by decide +kernel
theorem dX10_nextToken_130 : decode cX10_nextToken 130 = .ok (.goto 16, 3) := by decide +kernel
theorem dX10_nextToken_133 : decode cX10_nextToken 133 = .ok (.iload 4, 2) := by decide +kernel
theorem dX10_nextToken_135 : decode cX10_nextToken 135 = .ok (.bipush 6, 2) := by decide +kernel
theorem dX10_nextToken_137 : decode cX10_nextToken 137 = .ok (.if_icmp .le 8, 3) := by decide +kernel
theorem dX10_nextToken_140 : decode cX10_nextToken 140 = .ok (.bipush 99, 2) := by decide +kernel
theorem dX10_nextToken_142 : decode cX10_nextToken 142 = .ok (.goto 4, 3) := by decide +kernel
theorem dX10_nextToken_145 : decode cX10_nextToken 145 = .ok (.iload_n 3, 1) := by decide +kernel
theorem dX10_nextToken_146 : decode cX10_nextToken 146 = .ok (.istore_n 3, 1) := by decide +kernel
theorem dX10_nextToken_147 : decode cX10_nextToken 147 = .ok (.aload_n 0, 1) := by decide +kernel
theorem dX10_nextToken_148 : decode cX10_nextToken 148 = .ok (.dup, 1) := by decide +kernel
theorem dX10_nextToken_149 : decode cX10_nextToken 149 = .ok (.getfield 58, 3) := by decide +kernel
theorem dX10_nextToken_152 : decode cX10_nextToken 152 = .ok (.iconst 1, 1) := by decide +kernel
theorem dX10_nextToken_153 : decode cX10_nextToken 153 = .ok (.iadd, 1) := by decide +kernel
theorem dX10_nextToken_154 : decode cX10_nextToken 154 = .ok (.putfield 58, 3) := by decide +kernel
theorem dX10_nextToken_157 : decode cX10_nextToken 157 = .ok (.goto (-90), 3) := by decide +kernel
theorem dX10_nextToken_160 : decode cX10_nextToken 160 = .ok (.aload_n 0, 1) := by decide +kernel
theorem dX10_nextToken_161 : decode cX10_nextToken 161 = .ok (.iload_n 2, 1) := by decide +kernel
theorem dX10_nextToken_162 : decode cX10_nextToken 162 = .ok (.ldc 74, 2) := by decide +kernel
theorem dX10_nextToken_164 : decode cX10_nextToken 164 = .ok (.if_icmp .ne 11, 3) := by decide +kernel
theorem dX10_nextToken_167 : decode cX10_nextToken 167 = .ok (.iload_n 3, 1) := by decide +kernel
theorem dX10_nextToken_168 : decode cX10_nextToken 168 = .ok (.ifCond .ne 7, 3) := by decide +kernel
theorem dX10_nextToken_171 : decode cX10_nextToken 171 = .ok (.iconst 0, 1) := by decide +kernel
theorem dX10_nextToken_172 : decode cX10_nextToken 172 = .ok (.goto 36, 3) := by decide +kernel
theorem dX10_nextToken_175 : decode cX10_nextToken 175 = .ok (.iload_n 2, 1) := by decide +kernel
theorem dX10_nextToken_176 : decode cX10_nextToken 176 = .ok (.sipush 11570, 3) := by decide +kernel
theorem dX10_nextToken_179 : decode cX10_nextToken 179 = .ok (.if_icmp .ne 11, 3) := by decide +kernel
theorem dX10_nextToken_182 : decode cX10_nextToken 182 = .ok (.iload_n 3, 1) := by decide +kernel
theorem dX10_nextToken_183 : decode cX10_nextToken 183 = .ok (.ifCond .ne 7, 3) := by decide +kernel
theorem dX10_nextToken_186 : decode cX10_nextToken 186 = .ok (.iconst 1, 1) := by decide +kernel
theorem dX10_nextToken_187 : decode cX10_nextToken 187 = .ok (.goto 21, 3) := by decide +kernel
theorem dX10_nextToken_190 : decode cX10_nextToken 190 = .ok (.iload_n 2, 1) := by decide +kernel
theorem dX10_nextToken_191 : decode cX10_nextToken 191 = .ok (.ldc 75, 2) := by decide +kernel
theorem dX10_nextToken_193 : decode cX10_nextToken 193 = .ok (.if_icmp .ne 13, 3) := by decide +kernel
theorem dX10_nextToken_196 : decode cX10_nextToken 196 = .ok (.iload_n 3, 1) := by decide +kernel
theorem dX10_nextToken_197 : decode cX10_nextToken 197 = .ok (.bipush 19, 2) := by decide +kernel
theorem dX10_nextToken_199 : decode cX10_nextToken 199 = .ok (.if_icmp .ne 7, 3) := by decide +kernel
theorem dX10_nextToken_202 : decode cX10_nextToken 202 = .ok (.iconst 2, 1) := by decide +kernel
theorem dX10_nextToken_203 : decode cX10_nextToken 203 = .ok (.goto 5, 3) := by decide +kernel
theorem dX10_nextToken_206 : decode cX10_nextToken 206 = .ok (.bipush 6, 2) := by decide +kernel
theorem dX10_nextToken_208 : decode cX10_nextToken 208 = .ok (.putfield 71, 3) := by decide +kernel
theorem dX10_nextToken_211 : decode cX10_nextToken 211 = .ok (.goto 143, 3) := by decide +kernel
theorem dX10_nextToken_214 : decode cX10_nextToken 214 = .ok (.iload_n 1, 1) := by decide +kernel
theorem dX10_nextToken_215 : decode cX10_nextToken 215 = .ok (.bipush 48, 2) := by decide +kernel
theorem dX10_nextToken_217 : decode cX10_nextToken 217 = .ok (.bipush 57, 2) := by decide +kernel
theorem dX10_nextToken_219 : decode cX10_nextToken 219 = .ok (.invokestatic 48, 3) := by decide +kernel
theorem dX10_nextToken_222 : decode cX10_nextToken 222 = .ok (.ifCond .eq 106, 3) := by decide +kernel
theorem dX10_nextToken_225 : decode cX10_nextToken 225 = .ok (.aload_n 0, 1) := by decide +kernel
theorem dX10_nextToken_226 : decode cX10_nextToken 226 = .ok (.invokevirtual 61, 3) := by decide +kernel
theorem dX10_nextToken_229 : decode cX10_nextToken 229 = .ok (.bipush 48, 2) := by decide +kernel
theorem dX10_nextToken_231 : decode cX10_nextToken 231 = .ok (.bipush 57, 2) := by decide +kernel
theorem dX10_nextToken_233 : decode cX10_nextToken 233 = .ok (.invokestatic 48, 3) := by decide +kernel
theorem dX10_nextToken_236 : decode cX10_nextToken 236 = .ok (.ifCond .eq 51, 3) := by decide +kernel
theorem dX10_nextToken_239 : decode cX10_nextToken 239 = .ok (.aload_n 0, 1) := by decide +kernel
theorem dX10_nextToken_240 : decode cX10_nextToken 240 = .ok (.aload_n 0, 1) := by decide +kernel
theorem dX10_nextToken_241 : decode cX10_nextToken 241 = .ok (.getfield 68, 3) := by decide +kernel
theorem dX10_nextToken_244 : decode cX10_nextToken 244 = .ok (.bipush 99, 2) := by decide +kernel
theorem dX10_nextToken_246 : decode cX10_nextToken 246 = .ok (.if_icmp .le 10, 3) := by decide +kernel
theorem dX10_nextToken_249 : decode cX10_nextToken 249 = .ok (.aload_n 0, 1) := by decide +kernel
theorem dX10_nextToken_250 : decode cX10_nextToken 250 = .ok (.getfield 68, 3) := by decide +kernel
theorem dX10_nextToken_253 : decode cX10_nextToken 253 = .ok (.goto 18, 3) := by decide +kernel
theorem dX10_nextToken_256 : decode cX10_nextToken 256 = .ok (.bipush 10, 2) := by decide +kernel
theorem dX10_nextToken_258 : decode cX10_nextToken 258 = .ok (.aload_n 0, 1) := by decide +kernel
theorem dX10_nextToken_259 : decode cX10_nextToken 259 = .ok (.getfield 68, 3) := by decide +kernel
theorem dX10_nextToken_262 : decode cX10_nextToken 262 = .ok (.imul, 1) := by decide +kernel
theorem dX10_nextToken_263 : decode cX10_nextToken 263 = .ok (.aload_n 0, 1) := by decide +kernel
theorem dX10_nextToken_264 : decode cX10_nextToken 264 = .ok (.invokevirtual 61, 3) := by decide +kernel
theorem dX10_nextToken_267 : decode cX10_nextToken 267 = .ok (.iadd, 1) := by decide +kernel
theorem dX10_nextToken_268 : decode cX10_nextToken 268 = .ok (.bipush 48, 2) := by decide +kernel
theorem dX10_nextToken_270 : decode cX10_nextToken 270 = .ok (.isub, 1) := by decide +kernel
theorem dX10_nextToken_271 : decode cX10_nextToken 271 = .ok (.putfield 68, 3) := by decide +kernel
theorem dX10_nextToken_274 : decode cX10_nextToken 274 = .ok (.aload_n 0, 1) := by decide +kernel
theorem dX10_nextToken_275 : decode cX10_nextToken 275 = .ok (.dup, 1) := by decide +kernel
theorem dX10_nextToken_276 : decode cX10_nextToken 276 = .ok (.getfield 58, 3) := by decide +kernel
theorem dX10_nextToken_279 : decode cX10_nextToken 279 = .ok (.iconst 1, 1) := by decide +kernel
theorem dX10_nextToken_280 : decode cX10_nextToken 280 = .ok (.iadd, 1) := by decide +kernel
theorem dX10_nextToken_281 : decode cX10_nextToken 281 = .ok (.putfield 58, 3) := by decide +kernel
theorem dX10_nextToken_284 : decode cX10_nextToken 284 = .ok (.goto (-59), 3) := by decide +kernel
theorem dX10_nextToken_287 : decode cX10_nextToken 287 = .ok (.aload_n 0, 1) := by decide +kernel
theorem dX10_nextToken_288 : decode cX10_nextToken 288 = .ok (.aload_n 0, 1) := by decide +kernel
theorem dX10_nextToken_289 : decode cX10_nextToken 289 = .ok (.getfield 68, 3) := by decide +kernel
theorem dX10_nextToken_292 : decode cX10_nextToken 292 = .ok (.bipush 99, 2) := by decide +kernel
theorem dX10_nextToken_294 : decode cX10_nextToken 294 = .ok (.if_icmp .gt 22, 3) := by decide +kernel
theorem dX10_nextToken_297 : decode cX10_nextToken 297 = .ok (.iload_n 1, 1) := by decide +kernel
theorem dX10_nextToken_298 : decode cX10_nextToken 298 = .ok (.bipush 48, 2) := by decide +kernel
theorem dX10_nextToken_300 : decode cX10_nextToken 300 = .ok (.if_icmp .ne 21, 3) := by decide +kernel
theorem dX10_nextToken_303 : decode cX10_nextToken 303 = .ok (.aload_n 0, 1) := by decide +kernel
theorem dX10_nextToken_304 : decode cX10_nextToken 304 = .ok (.getfield 58, 3) := by decide +kernel
theorem dX10_nextToken_307 : decode cX10_nextToken 307 = .ok (.aload_n 0, 1) := by decide +kernel
theorem dX10_nextToken_308 : decode cX10_nextToken 308 = .ok (.getfield 65, 3) := by decide +kernel
theorem dX10_nextToken_311 : decode cX10_nextToken 311 = .ok (.isub, 1) := by decide +kernel
theorem dX10_nextToken_312 : decode cX10_nextToken 312 = .ok (.iconst 1, 1) := by decide +kernel
theorem dX10_nextToken_313 : decode cX10_nextToken 313 = .ok (.if_icmp .le 8, 3) := by decide +kernel
theorem dX10_nextToken_316 : decode cX10_nextToken 316 = .ok (.bipush 6, 2) := by decide +kernel
theorem dX10_nextToken_318 : decode cX10_nextToken 318 = .ok (.goto 4, 3) := by decide +kernel
theorem dX10_nextToken_321 : decode cX10_nextToken 321 = .ok (.iconst 4, 1) := by decide +kernel
theorem dX10_nextToken_322 : decode cX10_nextToken 322 = .ok (.putfield 71, 3) := by decide +kernel
theorem dX10_nextToken_325 : decode cX10_nextToken 325 = .ok (.goto 29, 3) := by decide +kernel
theorem dX10_nextToken_328 : decode cX10_nextToken 328 = .ok (.aload_n 0, 1) := by decide +kernel
theorem dX10_nextToken_329 : decode cX10_nextToken 329 = .ok (.dup, 1) := by decide +kernel
theorem dX10_nextToken_330 : decode cX10_nextToken 330 = .ok (.getfield 58, 3) := by decide +kernel
theorem dX10_nextToken_333 : decode cX10_nextToken 333 = .ok (.iconst 1, 1) := by decide +kernel
theorem dX10_nextToken_334 : decode cX10_nextToken 334 = .ok (.iadd, 1) := by decide +kernel
theorem dX10_nextToken_335 : decode cX10_nextToken 335 = .ok (.putfield 58, 3) := by decide +kernel
theorem dX10_nextToken_338 : decode cX10_nextToken 338 = .ok (.aload_n 0, 1) := by decide +kernel
theorem dX10_nextToken_339 : decode cX10_nextToken 339 = .ok (.iload_n 1, 1) := by decide +kernel
theorem dX10_nextToken_340 : decode cX10_nextToken 340 = .ok (.bipush 59, 2) := by decide +kernel
theorem dX10_nextToken_342 : decode cX10_nextToken 342 = .ok (.if_icmp .ne 7, 3) := by decide +kernel
theorem dX10_nextToken_345 : decode cX10_nextToken 345 = .ok (.iconst 5, 1) := by decide +kernel
theorem dX10_nextToken_346 : decode cX10_nextToken 346 = .ok (.goto 5, 3) := by decide +kernel
theorem dX10_nextToken_349 : decode cX10_nextToken 349 = .ok (.bipush 6, 2) := by decide +kernel
theorem dX10_nextToken_351 : decode cX10_nextToken 351 = .ok (.putfield 71, 3) := by decide +kernel
theorem dX10_nextToken_354 : decode cX10_nextToken 354 = .ok (.return_, 1) := by decide +kernel
theorem dX10_due_0 : decode cX10_due 0 = .ok (.aload_n 0, 1) := by decide +kernel
theorem dX10_due_1 : decode cX10_due 1 = .ok (.getfield 68, 3) := by decide +kernel
theorem dX10_due_4 : decode cX10_due 4 = .ok (.istore_n 2, 1) := by decide +kernel
theorem dX10_due_5 : decode cX10_due 5 = .ok (.aload_n 0, 1) := by decide +kernel
theorem dX10_due_6 : decode cX10_due 6 = .ok (.getfield 76, 3) := by decide +kernel
theorem dX10_due_9 : decode cX10_due 9 = .ok (.bipush (-9), 2) := by decide +kernel
theorem dX10_due_11 : decode cX10_due 11 = .ok (.if_icmp .ne 22, 3) := by decide +kernel
theorem dX10_due_14 : decode cX10_due 14 = .ok (.iload_n 1, 1) := by decide +kernel
theorem dX10_due_15 : decode cX10_due 15 = .ok (.ifCond .eq 10, 3) := by decide +kernel
theorem dX10_due_18 : decode cX10_due 18 = .ok (.aload_n 0, 1) := by decide +kernel
theorem dX10_due_19 : decode cX10_due 19 = .ok (.invokevirtual 79, 3) := by decide +kernel
theorem dX10_due_22 : decode cX10_due 22 = .ok (.goto 11, 3) := by decide +kernel
theorem dX10_due_25 : decode cX10_due 25 = .ok (.aload_n 0, 1) := by decide +kernel
theorem dX10_due_26 : decode cX10_due 26 = .ok (.aload_n 0, 1) := by decide +kernel
theorem dX10_due_27 : decode cX10_due 27 = .ok (.getfield 65, 3) := by decide +kernel
theorem dX10_due_30 : decode cX10_due 30 = .ok (.putfield 76, 3) := by decide +kernel
theorem dX10_due_33 : decode cX10_due 33 = .ok (.iload_n 2, 1) := by decide +kernel
theorem dX10_due_34 : decode cX10_due 34 = .ok (.ireturn, 1) := by decide +kernel
theorem dX10_number_0 : decode cX10_number 0 = .ok (.aload_n 0, 1) := by decide +kernel
theorem dX10_number_1 : decode cX10_number 1 = .ok (.aload_n 0, 1) := by decide +kernel
theorem dX10_number_2 : decode cX10_number 2 = .ok (.getfield 71, 3) := by decide +kernel
theorem dX10_number_5 : decode cX10_number 5 = .ok (.iconst 4, 1) := by decide +kernel
theorem dX10_number_6 : decode cX10_number 6 = .ok (.if_icmp .ne 19, 3) := by decide +kernel
theorem dX10_number_9 : decode cX10_number 9 = .ok (.aload_n 0, 1) := by decide +kernel
theorem dX10_number_10 : decode cX10_number 10 = .ok (.getfield 68, 3) := by decide +kernel
theorem dX10_number_13 : decode cX10_number 13 = .ok (.iload_n 1, 1) := by decide +kernel
theorem dX10_number_14 : decode cX10_number 14 = .ok (.iload_n 2, 1) := by decide +kernel
theorem dX10_number_15 : decode cX10_number 15 = .ok (.invokestatic 48, 3) := by decide +kernel
theorem dX10_number_18 : decode cX10_number 18 = .ok (.ifCond .eq 7, 3) := by decide +kernel
theorem dX10_number_21 : decode cX10_number 21 = .ok (.iconst 1, 1) := by decide +kernel
theorem dX10_number_22 : decode cX10_number 22 = .ok (.goto 4, 3) := by decide +kernel
theorem dX10_number_25 : decode cX10_number 25 = .ok (.iconst 0, 1) := by decide +kernel
theorem dX10_number_26 : decode cX10_number 26 = .ok (.invokevirtual 82, 3) := by decide +kernel
theorem dX10_number_29 : decode cX10_number 29 = .ok (.ireturn, 1) := by decide +kernel
theorem dX10_readItem_0 : decode cX10_readItem 0 = .ok (.aload_n 0, 1) := by decide +kernel
theorem dX10_readItem_1 : decode cX10_readItem 1 = .ok (.getfield 71, 3) := by decide +kernel
theorem dX10_readItem_4 : decode cX10_readItem 4 = .ok (.istore_n 1, 1) := by decide +kernel
theorem dX10_readItem_5 : decode cX10_readItem 5 = .ok (.aload_n 0, 1) := by decide +kernel
theorem dX10_readItem_6 : decode cX10_readItem 6 = .ok (.iload_n 1, 1) := by decide +kernel
theorem dX10_readItem_7 : decode cX10_readItem 7 = .ok (.ifCond .ne 13, 3) := by decide +kernel
theorem dX10_readItem_10 : decode cX10_readItem 10 = .ok (.aload_n 0, 1) := by decide +kernel
theorem dX10_readItem_11 : decode cX10_readItem 11 = .ok (.getfield 13, 3) := by decide +kernel
theorem dX10_readItem_14 : decode cX10_readItem 14 = .ok (.iconst 1, 1) := by decide +kernel
theorem dX10_readItem_15 : decode cX10_readItem 15 = .ok (.iaload, 1) := by decide +kernel
theorem dX10_readItem_16 : decode cX10_readItem 16 = .ok (.iconst 3, 1) := by decide +kernel
theorem dX10_readItem_17 : decode cX10_readItem 17 = .ok (.if_icmp .lt 23, 3) := by decide +kernel
theorem dX10_readItem_20 : decode cX10_readItem 20 = .ok (.iload_n 1, 1) := by decide +kernel
theorem dX10_readItem_21 : decode cX10_readItem 21 = .ok (.iconst 1, 1) := by decide +kernel
theorem dX10_readItem_22 : decode cX10_readItem 22 = .ok (.iconst 2, 1) := by decide +kernel
theorem dX10_readItem_23 : decode cX10_readItem 23 = .ok (.invokestatic 48, 3) := by decide +kernel
theorem dX10_readItem_26 : decode cX10_readItem 26 = .ok (.ifCond .eq 18, 3) := by decide +kernel
theorem dX10_readItem_29 : decode cX10_readItem 29 = .ok (.aload_n 0, 1) := by decide +kernel
theorem dX10_readItem_30 : decode cX10_readItem 30 = .ok (.getfield 86, 3) := by decide +kernel
theorem dX10_readItem_33 : decode cX10_readItem 33 = .ok (.iload_n 1, 1) := by decide +kernel
theorem dX10_readItem_34 : decode cX10_readItem 34 = .ok (.ishr, 1) := by decide +kernel
theorem dX10_readItem_35 : decode cX10_readItem 35 = .ok (.iconst 1, 1) := by decide +kernel
theorem dX10_readItem_36 : decode cX10_readItem 36 = .ok (.iand, 1) := by decide +kernel
theorem dX10_readItem_37 : decode cX10_readItem 37 = .ok (.ifCond .ne 7, 3) := by decide +kernel
theorem dX10_readItem_40 : decode cX10_readItem 40 = .ok (.iconst 1, 1) := by decide +kernel
theorem dX10_readItem_41 : decode cX10_readItem 41 = .ok (.goto 4, 3) := by decide +kernel
theorem dX10_readItem_44 : decode cX10_readItem 44 = .ok (.iconst 0, 1) := by decide +kernel
theorem dX10_readItem_45 : decode cX10_readItem 45 = .ok (.invokevirtual 82, 3) := by decide +kernel
theorem dX10_readItem_48 : decode cX10_readItem 48 = .ok (.pop, 1) := by decide +kernel
theorem dX10_readItem_49 : decode cX10_readItem 49 = .ok (.aload_n 0, 1) := by decide +kernel
theorem dX10_readItem_50 : decode cX10_readItem 50 = .ok (.getfield 76, 3) := by decide +kernel
theorem dX10_readItem_53 : decode cX10_readItem 53 = .ok (.bipush (-9), 2) := by decide +kernel
theorem dX10_readItem_55 : decode cX10_readItem 55 = .ok (.if_icmp .eq 4, 3) := by decide +kernel
theorem dX10_readItem_58 : decode cX10_readItem 58 = .ok (.return_, 1) := by decide +kernel
theorem dX10_readItem_59 : decode cX10_readItem 59 = .ok (.aload_n 0, 1) := by decide +kernel
theorem dX10_readItem_60 : decode cX10_readItem 60 = .ok (.dup, 1) := by decide +kernel
theorem dX10_readItem_61 : decode cX10_readItem 61 = .ok (.getfield 86, 3) := by decide +kernel
theorem dX10_readItem_64 : decode cX10_readItem 64 = .ok (.iconst 1, 1) := by decide +kernel
theorem dX10_readItem_65 : decode cX10_readItem 65 = .ok (.iload_n 1, 1) := by decide +kernel
theorem dX10_readItem_66 : decode cX10_readItem 66 = .ok (.ishl, 1) := by decide +kernel
theorem dX10_readItem_67 : decode cX10_readItem 67 = .ok (.ior, 1) := by decide +kernel
theorem dX10_readItem_68 : decode cX10_readItem 68 = .ok (.putfield 86, 3) := by decide +kernel
theorem dX10_readItem_71 : decode cX10_readItem 71 = .ok (.iload_n 1, 1) := by decide +kernel
theorem dX10_readItem_72 : decode cX10_readItem 72 = .ok (.ifCond .ne 36, 3) := by decide +kernel
theorem dX10_readItem_75 : decode cX10_readItem 75 = .ok (.aload_n 0, 1) := by decide +kernel
theorem dX10_readItem_76 : decode cX10_readItem 76 = .ok (.getfield 17, 3) := by decide +kernel
theorem dX10_readItem_79 : decode cX10_readItem 79 = .ok (.iconst 4, 1) := by decide +kernel
theorem dX10_readItem_80 : decode cX10_readItem 80 = .ok (.aload_n 0, 1) := by decide +kernel
theorem dX10_readItem_81 : decode cX10_readItem 81 = .ok (.getfield 13, 3) := by decide +kernel
theorem dX10_readItem_84 : decode cX10_readItem 84 = .ok (.iconst 1, 1) := by decide +kernel
theorem dX10_readItem_85 : decode cX10_readItem 85 = .ok (.iaload, 1) := by decide +kernel
theorem dX10_readItem_86 : decode cX10_readItem 86 = .ok (.iadd, 1) := by decide +kernel
theorem dX10_readItem_87 : decode cX10_readItem 87 = .ok (.aload_n 0, 1) := by decide +kernel
theorem dX10_readItem_88 : decode cX10_readItem 88 = .ok (.iconst 1, 1) := by decide +kernel
theorem dX10_readItem_89 : decode cX10_readItem 89 = .ok (.bipush 9, 2) := by decide +kernel
theorem dX10_readItem_91 : decode cX10_readItem 91 = .ok (.invokevirtual 89, 3) := by decide +kernel
theorem dX10_readItem_94 : decode cX10_readItem 94 = .ok (.iastore, 1) := by decide +kernel
theorem dX10_readItem_95 : decode cX10_readItem 95 = .ok (.aload_n 0, 1) := by decide +kernel
theorem dX10_readItem_96 : decode cX10_readItem 96 = .ok (.getfield 13, 3) := by decide +kernel
theorem dX10_readItem_99 : decode cX10_readItem 99 = .ok (.iconst 1, 1) := by decide +kernel
theorem dX10_readItem_100 : decode cX10_readItem 100 = .ok (.dup2, 1) := by decide +kernel
theorem dX10_readItem_101 : decode cX10_readItem 101 = .ok (.iaload, 1) := by decide +kernel
theorem dX10_readItem_102 : decode cX10_readItem 102 = .ok (.iconst 1, 1) := by decide +kernel
theorem dX10_readItem_103 : decode cX10_readItem 103 = .ok (.iadd, 1) := by decide +kernel
theorem dX10_readItem_104 : decode cX10_readItem 104 = .ok (.iastore, 1) := by decide +kernel
theorem dX10_readItem_105 : decode cX10_readItem 105 = .ok (.goto 38, 3) := by decide +kernel
theorem dX10_readItem_108 : decode cX10_readItem 108 = .ok (.iload_n 1, 1) := by decide +kernel
theorem dX10_readItem_109 : decode cX10_readItem 109 = .ok (.iconst 1, 1) := by decide +kernel
theorem dX10_readItem_110 : decode cX10_readItem 110 = .ok (.if_icmp .ne 20, 3) := by decide +kernel
theorem dX10_readItem_113 : decode cX10_readItem 113 = .ok (.aload_n 0, 1) := by decide +kernel
theorem dX10_readItem_114 : decode cX10_readItem 114 = .ok (.getfield 17, 3) := by decide +kernel
theorem dX10_readItem_117 : decode cX10_readItem 117 = .ok (.bipush 7, 2) := by decide +kernel
theorem dX10_readItem_119 : decode cX10_readItem 119 = .ok (.aload_n 0, 1) := by decide +kernel
theorem dX10_readItem_120 : decode cX10_readItem 120 = .ok (.iconst 0, 1) := by decide +kernel
theorem dX10_readItem_121 : decode cX10_readItem 121 = .ok (.bipush 9, 2) := by decide +kernel
theorem dX10_readItem_123 : decode cX10_readItem 123 = .ok (.invokevirtual 89, 3) := by decide +kernel
theorem dX10_readItem_126 : decode cX10_readItem 126 = .ok (.iastore, 1) := by decide +kernel
theorem dX10_readItem_127 : decode cX10_readItem 127 = .ok (.goto 16, 3) := by decide +kernel
theorem dX10_readItem_130 : decode cX10_readItem 130 = .ok (.aload_n 0, 1) := by decide +kernel
theorem dX10_readItem_131 : decode cX10_readItem 131 = .ok (.getfield 20, 3) := by decide +kernel
theorem dX10_readItem_134 : decode cX10_readItem 134 = .ok (.iconst 1, 1) := by decide +kernel
theorem dX10_readItem_135 : decode cX10_readItem 135 = .ok (.aload_n 0, 1) := by decide +kernel
theorem dX10_readItem_136 : decode cX10_readItem 136 = .ok (.iconst 2, 1) := by decide +kernel
theorem dX10_readItem_137 : decode cX10_readItem 137 = .ok (.bipush 20, 2) := by decide +kernel
theorem dX10_readItem_139 : decode cX10_readItem 139 = .ok (.invokevirtual 89, 3) := by decide +kernel
theorem dX10_readItem_142 : decode cX10_readItem 142 = .ok (.iastore, 1) := by decide +kernel
theorem dX10_readItem_143 : decode cX10_readItem 143 = .ok (.aload_n 0, 1) := by decide +kernel
theorem dX10_readItem_144 : decode cX10_readItem 144 = .ok (.aload_n 0, 1) := by decide +kernel
theorem dX10_readItem_145 : decode cX10_readItem 145 = .ok (.getfield 71, 3) := by decide +kernel
theorem dX10_readItem_148 : decode cX10_readItem 148 = .ok (.iconst 5, 1) := by decide +kernel
theorem dX10_readItem_149 : decode cX10_readItem 149 = .ok (.if_icmp .ne 7, 3) := by decide +kernel
theorem dX10_readItem_152 : decode cX10_readItem 152 = .ok (.iconst 1, 1) := by decide +kernel
theorem dX10_readItem_153 : decode cX10_readItem 153 = .ok (.goto 4, 3) := by decide +kernel
theorem dX10_readItem_156 : decode cX10_readItem 156 = .ok (.iconst 0, 1) := by decide +kernel
theorem dX10_readItem_157 : decode cX10_readItem 157 = .ok (.invokevirtual 82, 3) := by decide +kernel
theorem dX10_readItem_160 : decode cX10_readItem 160 = .ok (.pop, 1) := by decide +kernel
theorem dX10_readItem_161 : decode cX10_readItem 161 = .ok (.return_, 1) := by decide +kernel
theorem dX10_market_0 : decode cX10_market 0 = .ok (.aload_n 0, 1) := by decide +kernel
theorem dX10_market_1 : decode cX10_market 1 = .ok (.iconst 0, 1) := by decide +kernel
theorem dX10_market_2 : decode cX10_market 2 = .ok (.putfield 58, 3) := by decide +kernel
theorem dX10_market_5 : decode cX10_market 5 = .ok (.aload_n 0, 1) := by decide +kernel
theorem dX10_market_6 : decode cX10_market 6 = .ok (.bipush (-9), 2) := by decide +kernel
theorem dX10_market_8 : decode cX10_market 8 = .ok (.putfield 76, 3) := by decide +kernel
theorem dX10_market_11 : decode cX10_market 11 = .ok (.aload_n 0, 1) := by decide +kernel
theorem dX10_market_12 : decode cX10_market 12 = .ok (.iconst 0, 1) := by decide +kernel
theorem dX10_market_13 : decode cX10_market 13 = .ok (.putfield 86, 3) := by decide +kernel
theorem dX10_market_16 : decode cX10_market 16 = .ok (.aload_n 0, 1) := by decide +kernel
theorem dX10_market_17 : decode cX10_market 17 = .ok (.getfield 13, 3) := by decide +kernel
theorem dX10_market_20 : decode cX10_market 20 = .ok (.iconst 1, 1) := by decide +kernel
theorem dX10_market_21 : decode cX10_market 21 = .ok (.iconst 0, 1) := by decide +kernel
theorem dX10_market_22 : decode cX10_market 22 = .ok (.iastore, 1) := by decide +kernel
theorem dX10_market_23 : decode cX10_market 23 = .ok (.aload_n 0, 1) := by decide +kernel
theorem dX10_market_24 : decode cX10_market 24 = .ok (.getfield 17, 3) := by decide +kernel
theorem dX10_market_27 : decode cX10_market 27 = .ok (.bipush 7, 2) := by decide +kernel
theorem dX10_market_29 : decode cX10_market 29 = .ok (.iconst 0, 1) := by decide +kernel
theorem dX10_market_30 : decode cX10_market 30 = .ok (.iastore, 1) := by decide +kernel
theorem dX10_market_31 : decode cX10_market 31 = .ok (.aload_n 0, 1) := by decide +kernel
theorem dX10_market_32 : decode cX10_market 32 = .ok (.getfield 20, 3) := by decide +kernel
theorem dX10_market_35 : decode cX10_market 35 = .ok (.iconst 1, 1) := by decide +kernel
theorem dX10_market_36 : decode cX10_market 36 = .ok (.bipush 10, 2) := by decide +kernel
theorem dX10_market_38 : decode cX10_market 38 = .ok (.iastore, 1) := by decide +kernel
theorem dX10_market_39 : decode cX10_market 39 = .ok (.iconst 0, 1) := by decide +kernel
theorem dX10_market_40 : decode cX10_market 40 = .ok (.istore_n 1, 1) := by decide +kernel
theorem dX10_market_41 : decode cX10_market 41 = .ok (.aload_n 0, 1) := by decide +kernel
theorem dX10_market_42 : decode cX10_market 42 = .ok (.invokevirtual 79, 3) := by decide +kernel
theorem dX10_market_45 : decode cX10_market 45 = .ok (.aload_n 0, 1) := by decide +kernel
theorem dX10_market_46 : decode cX10_market 46 = .ok (.getfield 76, 3) := by decide +kernel
theorem dX10_market_49 : decode cX10_market 49 = .ok (.bipush (-9), 2) := by decide +kernel
theorem dX10_market_51 : decode cX10_market 51 = .ok (.if_icmp .ne 21, 3) := by decide +kernel
theorem dX10_market_54 : decode cX10_market 54 = .ok (.aload_n 0, 1) := by decide +kernel
theorem dX10_market_55 : decode cX10_market 55 = .ok (.getfield 71, 3) := by decide +kernel
theorem dX10_market_58 : decode cX10_market 58 = .ok (.iconst 3, 1) := by decide +kernel
theorem dX10_market_59 : decode cX10_market 59 = .ok (.if_icmp .eq 13, 3) := by decide +kernel
theorem dX10_market_62 : decode cX10_market 62 = .ok (.aload_n 0, 1) := by decide +kernel
theorem dX10_market_63 : decode cX10_market 63 = .ok (.invokevirtual 93, 3) := by decide +kernel
theorem dX10_market_66 : decode cX10_market 66 = .ok (.iinc 1 1, 3) := by decide +kernel
theorem dX10_market_69 : decode cX10_market 69 = .ok (.goto (-24), 3) := by decide +kernel
theorem dX10_market_72 : decode cX10_market 72 = .ok (.aload_n 0, 1) := by decide +kernel
theorem dX10_market_73 : decode cX10_market 73 = .ok (.getfield 76, 3) := by decide +kernel
theorem dX10_market_76 : decode cX10_market 76 = .ok (.bipush (-9), 2) := by decide +kernel
theorem dX10_market_78 : decode cX10_market 78 = .ok (.if_icmp .eq 11, 3) := by decide +kernel
theorem dX10_market_81 : decode cX10_market 81 = .ok (.bipush (-10), 2) := by decide +kernel
theorem dX10_market_83 : decode cX10_market 83 = .ok (.aload_n 0, 1) := by decide +kernel
theorem dX10_market_84 : decode cX10_market 84 = .ok (.getfield 76, 3) := by decide +kernel
theorem dX10_market_87 : decode cX10_market 87 = .ok (.isub, 1) := by decide +kernel
theorem dX10_market_88 : decode cX10_market 88 = .ok (.ireturn, 1) := by decide +kernel
theorem dX10_market_89 : decode cX10_market 89 = .ok (.aload_n 0, 1) := by decide +kernel
theorem dX10_market_90 : decode cX10_market 90 = .ok (.getfield 13, 3) := by decide +kernel
theorem dX10_market_93 : decode cX10_market 93 = .ok (.iconst 0, 1) := by decide +kernel
theorem dX10_market_94 : decode cX10_market 94 = .ok (.aload_n 0, 1) := by decide +kernel
theorem dX10_market_95 : decode cX10_market 95 = .ok (.getfield 13, 3) := by decide +kernel
theorem dX10_market_98 : decode cX10_market 98 = .ok (.iconst 1, 1) := by decide +kernel
theorem dX10_market_99 : decode cX10_market 99 = .ok (.iaload, 1) := by decide +kernel
theorem dX10_market_100 : decode cX10_market 100 = .ok (.iastore, 1) := by decide +kernel
theorem dX10_market_101 : decode cX10_market 101 = .ok (.aload_n 0, 1) := by decide +kernel
theorem dX10_market_102 : decode cX10_market 102 = .ok (.getfield 20, 3) := by decide +kernel
theorem dX10_market_105 : decode cX10_market 105 = .ok (.iconst 0, 1) := by decide +kernel
theorem dX10_market_106 : decode cX10_market 106 = .ok (.aload_n 0, 1) := by decide +kernel
theorem dX10_market_107 : decode cX10_market 107 = .ok (.getfield 20, 3) := by decide +kernel
theorem dX10_market_110 : decode cX10_market 110 = .ok (.iconst 1, 1) := by decide +kernel
theorem dX10_market_111 : decode cX10_market 111 = .ok (.iaload, 1) := by decide +kernel
theorem dX10_market_112 : decode cX10_market 112 = .ok (.iastore, 1) := by decide +kernel
theorem dX10_market_113 : decode cX10_market 113 = .ok (.iconst 0, 1) := by decide +kernel
theorem dX10_market_114 : decode cX10_market 114 = .ok (.istore_n 2, 1) := by decide +kernel
theorem dX10_market_115 : decode cX10_market 115 = .ok (.iload_n 2, 1) := by decide +kernel
theorem dX10_market_116 : decode cX10_market 116 = .ok (.iconst 4, 1) := by decide +kernel
theorem dX10_market_117 : decode cX10_market 117 = .ok (.if_icmp .ge 23, 3) := by decide +kernel
theorem dX10_market_120 : decode cX10_market 120 = .ok (.aload_n 0, 1) := by decide +kernel
theorem dX10_market_121 : decode cX10_market 121 = .ok (.getfield 17, 3) := by decide +kernel
theorem dX10_market_124 : decode cX10_market 124 = .ok (.iload_n 2, 1) := by decide +kernel
theorem dX10_market_125 : decode cX10_market 125 = .ok (.aload_n 0, 1) := by decide +kernel
theorem dX10_market_126 : decode cX10_market 126 = .ok (.getfield 17, 3) := by decide +kernel
theorem dX10_market_129 : decode cX10_market 129 = .ok (.iconst 4, 1) := by decide +kernel
theorem dX10_market_130 : decode cX10_market 130 = .ok (.iload_n 2, 1) := by decide +kernel
theorem dX10_market_131 : decode cX10_market 131 = .ok (.iadd, 1) := by decide +kernel
theorem dX10_market_132 : decode cX10_market 132 = .ok (.iaload, 1) := by decide +kernel
theorem dX10_market_133 : decode cX10_market 133 = .ok (.iastore, 1) := by decide +kernel
theorem dX10_market_134 : decode cX10_market 134 = .ok (.iinc 2 1, 3) := by decide +kernel
theorem dX10_market_137 : decode cX10_market 137 = .ok (.goto (-22), 3) := by decide +kernel
theorem dX10_market_140 : decode cX10_market 140 = .ok (.aload_n 0, 1) := by decide +kernel
theorem dX10_market_141 : decode cX10_market 141 = .ok (.getfield 23, 3) := by decide +kernel
theorem dX10_market_144 : decode cX10_market 144 = .ok (.iconst 0, 1) := by decide +kernel
theorem dX10_market_145 : decode cX10_market 145 = .ok (.iconst 0, 1) := by decide +kernel
theorem dX10_market_146 : decode cX10_market 146 = .ok (.iastore, 1) := by decide +kernel
theorem dX10_market_147 : decode cX10_market 147 = .ok (.aload_n 0, 1) := by decide +kernel
theorem dX10_market_148 : decode cX10_market 148 = .ok (.getfield 29, 3) := by decide +kernel
theorem dX10_market_151 : decode cX10_market 151 = .ok (.iconst 0, 1) := by decide +kernel
theorem dX10_market_152 : decode cX10_market 152 = .ok (.iconst 0, 1) := by decide +kernel
theorem dX10_market_153 : decode cX10_market 153 = .ok (.bastore, 1) := by decide +kernel
theorem dX10_market_154 : decode cX10_market 154 = .ok (.aload_n 0, 1) := by decide +kernel
theorem dX10_market_155 : decode cX10_market 155 = .ok (.getfield 29, 3) := by decide +kernel
theorem dX10_market_158 : decode cX10_market 158 = .ok (.iconst 1, 1) := by decide +kernel
theorem dX10_market_159 : decode cX10_market 159 = .ok (.iconst 0, 1) := by decide +kernel
theorem dX10_market_160 : decode cX10_market 160 = .ok (.bastore, 1) := by decide +kernel
theorem dX10_market_161 : decode cX10_market 161 = .ok (.aload_n 0, 1) := by decide +kernel
theorem dX10_market_162 : decode cX10_market 162 = .ok (.iconst 0, 1) := by decide +kernel
theorem dX10_market_163 : decode cX10_market 163 = .ok (.putfield 52, 3) := by decide +kernel
theorem dX10_market_166 : decode cX10_market 166 = .ok (.iload_n 1, 1) := by decide +kernel
theorem dX10_market_167 : decode cX10_market 167 = .ok (.ireturn, 1) := by decide +kernel
theorem dX10_isThing_0 : decode cX10_isThing 0 = .ok (.iload_n 1, 1) := by decide +kernel
theorem dX10_isThing_1 : decode cX10_isThing 1 = .ok (.iconst 0, 1) := by decide +kernel
theorem dX10_isThing_2 : decode cX10_isThing 2 = .ok (.aload_n 0, 1) := by decide +kernel
theorem dX10_isThing_3 : decode cX10_isThing 3 = .ok (.getfield 13, 3) := by decide +kernel
theorem dX10_isThing_6 : decode cX10_isThing 6 = .ok (.iconst 0, 1) := by decide +kernel
theorem dX10_isThing_7 : decode cX10_isThing 7 = .ok (.iaload, 1) := by decide +kernel
theorem dX10_isThing_8 : decode cX10_isThing 8 = .ok (.iconst 1, 1) := by decide +kernel
theorem dX10_isThing_9 : decode cX10_isThing 9 = .ok (.isub, 1) := by decide +kernel
theorem dX10_isThing_10 : decode cX10_isThing 10 = .ok (.invokestatic 48, 3) := by decide +kernel
theorem dX10_isThing_13 : decode cX10_isThing 13 = .ok (.ireturn, 1) := by decide +kernel
theorem dX10_thing_0 : decode cX10_thing 0 = .ok (.aload_n 0, 1) := by decide +kernel
theorem dX10_thing_1 : decode cX10_thing 1 = .ok (.iload_n 1, 1) := by decide +kernel
theorem dX10_thing_2 : decode cX10_thing 2 = .ok (.invokevirtual 96, 3) := by decide +kernel
theorem dX10_thing_5 : decode cX10_thing 5 = .ok (.ifCond .ne 8, 3) := by decide +kernel
theorem dX10_thing_8 : decode cX10_thing 8 = .ok (.iload_n 1, 1) := by decide +kernel
theorem dX10_thing_9 : decode cX10_thing 9 = .ok (.iconst 3, 1) := by decide +kernel
theorem dX10_thing_10 : decode cX10_thing 10 = .ok (.if_icmp .ne 12, 3) := by decide +kernel
theorem dX10_thing_13 : decode cX10_thing 13 = .ok (.aload_n 0, 1) := by decide +kernel
theorem dX10_thing_14 : decode cX10_thing 14 = .ok (.getfield 17, 3) := by decide +kernel
theorem dX10_thing_17 : decode cX10_thing 17 = .ok (.iload_n 1, 1) := by decide +kernel
theorem dX10_thing_18 : decode cX10_thing 18 = .ok (.iaload, 1) := by decide +kernel
theorem dX10_thing_19 : decode cX10_thing 19 = .ok (.goto 4, 3) := by decide +kernel
theorem dX10_thing_22 : decode cX10_thing 22 = .ok (.iconst (-1), 1) := by decide +kernel
theorem dX10_thing_23 : decode cX10_thing 23 = .ok (.ireturn, 1) := by decide +kernel
theorem dX10_isSet_0 : decode cX10_isSet 0 = .ok (.iload_n 1, 1) := by decide +kernel
theorem dX10_isSet_1 : decode cX10_isSet 1 = .ok (.iconst 0, 1) := by decide +kernel
theorem dX10_isSet_2 : decode cX10_isSet 2 = .ok (.iconst 1, 1) := by decide +kernel
theorem dX10_isSet_3 : decode cX10_isSet 3 = .ok (.aload_n 0, 1) := by decide +kernel
theorem dX10_isSet_4 : decode cX10_isSet 4 = .ok (.getfield 13, 3) := by decide +kernel
theorem dX10_isSet_7 : decode cX10_isSet 7 = .ok (.iconst 0, 1) := by decide +kernel
theorem dX10_isSet_8 : decode cX10_isSet 8 = .ok (.iaload, 1) := by decide +kernel
theorem dX10_isSet_9 : decode cX10_isSet 9 = .ok (.ishl, 1) := by decide +kernel
theorem dX10_isSet_10 : decode cX10_isSet 10 = .ok (.iconst 1, 1) := by decide +kernel
theorem dX10_isSet_11 : decode cX10_isSet 11 = .ok (.isub, 1) := by decide +kernel
theorem dX10_isSet_12 : decode cX10_isSet 12 = .ok (.invokestatic 48, 3) := by decide +kernel
theorem dX10_isSet_15 : decode cX10_isSet 15 = .ok (.ireturn, 1) := by decide +kernel
theorem dX10_trueSum_0 : decode cX10_trueSum 0 = .ok (.aload_n 0, 1) := by decide +kernel
theorem dX10_trueSum_1 : decode cX10_trueSum 1 = .ok (.getfield 17, 3) := by decide +kernel
theorem dX10_trueSum_4 : decode cX10_trueSum 4 = .ok (.iconst 3, 1) := by decide +kernel
theorem dX10_trueSum_5 : decode cX10_trueSum 5 = .ok (.iaload, 1) := by decide +kernel
theorem dX10_trueSum_6 : decode cX10_trueSum 6 = .ok (.istore_n 2, 1) := by decide +kernel
theorem dX10_trueSum_7 : decode cX10_trueSum 7 = .ok (.iconst 0, 1) := by decide +kernel
theorem dX10_trueSum_8 : decode cX10_trueSum 8 = .ok (.istore_n 3, 1) := by decide +kernel
theorem dX10_trueSum_9 : decode cX10_trueSum 9 = .ok (.iload_n 3, 1) := by decide +kernel
theorem dX10_trueSum_10 : decode cX10_trueSum 10 = .ok (.aload_n 0, 1) := by decide +kernel
theorem dX10_trueSum_11 : decode cX10_trueSum 11 = .ok (.getfield 13, 3) := by decide +kernel
theorem dX10_trueSum_14 : decode cX10_trueSum 14 = .ok (.iconst 0, 1) := by decide +kernel
theorem dX10_trueSum_15 : decode cX10_trueSum 15 = .ok (.iaload, 1) := by decide +kernel
theorem dX10_trueSum_16 : decode cX10_trueSum 16 = .ok (.if_icmp .ge 31, 3) := by decide +kernel
theorem dX10_trueSum_19 : decode cX10_trueSum 19 = .ok (.iload_n 2, 1) := by decide +kernel
theorem dX10_trueSum_20 : decode cX10_trueSum 20 = .ok (.iload_n 1, 1) := by decide +kernel
theorem dX10_trueSum_21 : decode cX10_trueSum 21 = .ok (.iload_n 3, 1) := by decide +kernel
theorem dX10_trueSum_22 : decode cX10_trueSum 22 = .ok (.ishr, 1) := by decide +kernel
theorem dX10_trueSum_23 : decode cX10_trueSum 23 = .ok (.iconst 1, 1) := by decide +kernel
theorem dX10_trueSum_24 : decode cX10_trueSum 24 = .ok (.iand, 1) := by decide +kernel
theorem dX10_trueSum_25 : decode cX10_trueSum 25 = .ok (.iconst 1, 1) := by decide +kernel
theorem dX10_trueSum_26 : decode cX10_trueSum 26 = .ok (.if_icmp .ne 12, 3) := by decide +kernel
theorem dX10_trueSum_29 : decode cX10_trueSum 29 = .ok (.aload_n 0, 1) := by decide +kernel
theorem dX10_trueSum_30 : decode cX10_trueSum 30 = .ok (.getfield 17, 3) := by decide +kernel
theorem dX10_trueSum_33 : decode cX10_trueSum 33 = .ok (.iload_n 3, 1) := by decide +kernel
theorem dX10_trueSum_34 : decode cX10_trueSum 34 = .ok (.iaload, 1) := by decide +kernel
theorem dX10_trueSum_35 : decode cX10_trueSum 35 = .ok (.goto 4, 3) := by decide +kernel
theorem dX10_trueSum_38 : decode cX10_trueSum 38 = .ok (.iconst 0, 1) := by decide +kernel
theorem dX10_trueSum_39 : decode cX10_trueSum 39 = .ok (.iadd, 1) := by decide +kernel
theorem dX10_trueSum_40 : decode cX10_trueSum 40 = .ok (.istore_n 2, 1) := by decide +kernel
theorem dX10_trueSum_41 : decode cX10_trueSum 41 = .ok (.iinc 3 1, 3) := by decide +kernel
theorem dX10_trueSum_44 : decode cX10_trueSum 44 = .ok (.goto (-35), 3) := by decide +kernel
theorem dX10_trueSum_47 : decode cX10_trueSum 47 = .ok (.iload_n 2, 1) := by decide +kernel
theorem dX10_trueSum_48 : decode cX10_trueSum 48 = .ok (.ireturn, 1) := by decide +kernel
theorem dX10_put_0 : decode cX10_put 0 = .ok (.aload_n 0, 1) := by decide +kernel
theorem dX10_put_1 : decode cX10_put 1 = .ok (.getfield 26, 3) := by decide +kernel
theorem dX10_put_4 : decode cX10_put 4 = .ok (.iconst 3, 1) := by decide +kernel
theorem dX10_put_5 : decode cX10_put 5 = .ok (.aload_n 0, 1) := by decide +kernel
theorem dX10_put_6 : decode cX10_put 6 = .ok (.getfield 23, 3) := by decide +kernel
theorem dX10_put_9 : decode cX10_put 9 = .ok (.iconst 0, 1) := by decide +kernel
theorem dX10_put_10 : decode cX10_put 10 = .ok (.iaload, 1) := by decide +kernel
theorem dX10_put_11 : decode cX10_put 11 = .ok (.imul, 1) := by decide +kernel
theorem dX10_put_12 : decode cX10_put 12 = .ok (.iload_n 1, 1) := by decide +kernel
theorem dX10_put_13 : decode cX10_put 13 = .ok (.iastore, 1) := by decide +kernel
theorem dX10_put_14 : decode cX10_put 14 = .ok (.aload_n 0, 1) := by decide +kernel
theorem dX10_put_15 : decode cX10_put 15 = .ok (.getfield 26, 3) := by decide +kernel
theorem dX10_put_18 : decode cX10_put 18 = .ok (.iconst 3, 1) := by decide +kernel
theorem dX10_put_19 : decode cX10_put 19 = .ok (.aload_n 0, 1) := by decide +kernel
theorem dX10_put_20 : decode cX10_put 20 = .ok (.getfield 23, 3) := by decide +kernel
theorem dX10_put_23 : decode cX10_put 23 = .ok (.iconst 0, 1) := by decide +kernel
theorem dX10_put_24 : decode cX10_put 24 = .ok (.iaload, 1) := by decide +kernel
theorem dX10_put_25 : decode cX10_put 25 = .ok (.imul, 1) := by decide +kernel
theorem dX10_put_26 : decode cX10_put 26 = .ok (.iconst 1, 1) := by decide +kernel
theorem dX10_put_27 : decode cX10_put 27 = .ok (.iadd, 1) := by decide +kernel
theorem dX10_put_28 : decode cX10_put 28 = .ok (.iload_n 2, 1) := by decide +kernel
theorem dX10_put_29 : decode cX10_put 29 = .ok (.iastore, 1) := by decide +kernel
theorem dX10_put_30 : decode cX10_put 30 = .ok (.aload_n 0, 1) := by decide +kernel
theorem dX10_put_31 : decode cX10_put 31 = .ok (.getfield 26, 3) := by decide +kernel
theorem dX10_put_34 : decode cX10_put 34 = .ok (.iconst 3, 1) := by decide +kernel
theorem dX10_put_35 : decode cX10_put 35 = .ok (.aload_n 0, 1) := by decide +kernel
theorem dX10_put_36 : decode cX10_put 36 = .ok (.getfield 23, 3) := by decide +kernel
theorem dX10_put_39 : decode cX10_put 39 = .ok (.iconst 0, 1) := by decide +kernel
theorem dX10_put_40 : decode cX10_put 40 = .ok (.iaload, 1) := by decide +kernel
theorem dX10_put_41 : decode cX10_put 41 = .ok (.imul, 1) := by decide +kernel
theorem dX10_put_42 : decode cX10_put 42 = .ok (.iconst 2, 1) := by decide +kernel
theorem dX10_put_43 : decode cX10_put 43 = .ok (.iadd, 1) := by decide +kernel
theorem dX10_put_44 : decode cX10_put 44 = .ok (.iload_n 3, 1) := by decide +kernel
theorem dX10_put_45 : decode cX10_put 45 = .ok (.iastore, 1) := by decide +kernel
theorem dX10_put_46 : decode cX10_put 46 = .ok (.aload_n 0, 1) := by decide +kernel
theorem dX10_put_47 : decode cX10_put 47 = .ok (.getfield 23, 3) := by decide +kernel
theorem dX10_put_50 : decode cX10_put 50 = .ok (.iconst 0, 1) := by decide +kernel
theorem dX10_put_51 : decode cX10_put 51 = .ok (.dup2, 1) := by decide +kernel
theorem dX10_put_52 : decode cX10_put 52 = .ok (.iaload, 1) := by decide +kernel
theorem dX10_put_53 : decode cX10_put 53 = .ok (.iconst 1, 1) := by decide +kernel
theorem dX10_put_54 : decode cX10_put 54 = .ok (.iadd, 1) := by decide +kernel
theorem dX10_put_55 : decode cX10_put 55 = .ok (.iastore, 1) := by decide +kernel
theorem dX10_put_56 : decode cX10_put 56 = .ok (.return_, 1) := by decide +kernel
theorem dX10_weigh_0 : decode cX10_weigh 0 = .ok (.aload_n 0, 1) := by decide +kernel
theorem dX10_weigh_1 : decode cX10_weigh 1 = .ok (.iload_n 1, 1) := by decide +kernel
theorem dX10_weigh_2 : decode cX10_weigh 2 = .ok (.invokevirtual 100, 3) := by decide +kernel
theorem dX10_weigh_5 : decode cX10_weigh 5 = .ok (.ifCond .eq 21, 3) := by decide +kernel
theorem dX10_weigh_8 : decode cX10_weigh 8 = .ok (.iload_n 2, 1) := by decide +kernel
theorem dX10_weigh_9 : decode cX10_weigh 9 = .ok (.iconst 0, 1) := by decide +kernel
theorem dX10_weigh_10 : decode cX10_weigh 10 = .ok (.iconst 1, 1) := by decide +kernel
theorem dX10_weigh_11 : decode cX10_weigh 11 = .ok (.invokestatic 48, 3) := by decide +kernel
theorem dX10_weigh_14 : decode cX10_weigh 14 = .ok (.ifCond .eq 12, 3) := by decide +kernel
theorem dX10_weigh_17 : decode cX10_weigh 17 = .ok (.iload_n 3, 1) := by decide +kernel
theorem dX10_weigh_18 : decode cX10_weigh 18 = .ok (.iconst 0, 1) := by decide +kernel
theorem dX10_weigh_19 : decode cX10_weigh 19 = .ok (.iconst 1, 1) := by decide +kernel
theorem dX10_weigh_20 : decode cX10_weigh 20 = .ok (.invokestatic 48, 3) := by decide +kernel
theorem dX10_weigh_23 : decode cX10_weigh 23 = .ok (.ifCond .ne 5, 3) := by decide +kernel
theorem dX10_weigh_26 : decode cX10_weigh 26 = .ok (.iconst (-1), 1) := by decide +kernel
theorem dX10_weigh_27 : decode cX10_weigh 27 = .ok (.ireturn, 1) := by decide +kernel
theorem dX10_weigh_28 : decode cX10_weigh 28 = .ok (.aload_n 0, 1) := by decide +kernel
theorem dX10_weigh_29 : decode cX10_weigh 29 = .ok (.getfield 23, 3) := by decide +kernel
theorem dX10_weigh_32 : decode cX10_weigh 32 = .ok (.iconst 0, 1) := by decide +kernel
theorem dX10_weigh_33 : decode cX10_weigh 33 = .ok (.iaload, 1) := by decide +kernel
theorem dX10_weigh_34 : decode cX10_weigh 34 = .ok (.bipush 12, 2) := by decide +kernel
theorem dX10_weigh_36 : decode cX10_weigh 36 = .ok (.if_icmp .ne 6, 3) := by decide +kernel
theorem dX10_weigh_39 : decode cX10_weigh 39 = .ok (.bipush (-3), 2) := by decide +kernel
theorem dX10_weigh_41 : decode cX10_weigh 41 = .ok (.ireturn, 1) := by decide +kernel
theorem dX10_weigh_42 : decode cX10_weigh 42 = .ok (.aload_n 0, 1) := by decide +kernel
theorem dX10_weigh_43 : decode cX10_weigh 43 = .ok (.iload_n 1, 1) := by decide +kernel
theorem dX10_weigh_44 : decode cX10_weigh 44 = .ok (.invokevirtual 103, 3) := by decide +kernel
theorem dX10_weigh_47 : decode cX10_weigh 47 = .ok (.iload_n 2, 1) := by decide +kernel
theorem dX10_weigh_48 : decode cX10_weigh 48 = .ok (.iadd, 1) := by decide +kernel
theorem dX10_weigh_49 : decode cX10_weigh 49 = .ok (.aload_n 0, 1) := by decide +kernel
theorem dX10_weigh_50 : decode cX10_weigh 50 = .ok (.getfield 20, 3) := by decide +kernel
theorem dX10_weigh_53 : decode cX10_weigh 53 = .ok (.iconst 0, 1) := by decide +kernel
theorem dX10_weigh_54 : decode cX10_weigh 54 = .ok (.iaload, 1) := by decide +kernel
theorem dX10_weigh_55 : decode cX10_weigh 55 = .ok (.irem, 1) := by decide +kernel
theorem dX10_weigh_56 : decode cX10_weigh 56 = .ok (.istore 4, 2) := by decide +kernel
theorem dX10_weigh_58 : decode cX10_weigh 58 = .ok (.aload_n 0, 1) := by decide +kernel
theorem dX10_weigh_59 : decode cX10_weigh 59 = .ok (.iload_n 1, 1) := by decide +kernel
theorem dX10_weigh_60 : decode cX10_weigh 60 = .ok (.iload 4, 2) := by decide +kernel
theorem dX10_weigh_62 : decode cX10_weigh 62 = .ok (.iload_n 3, 1) := by decide +kernel
theorem dX10_weigh_63 : decode cX10_weigh 63 = .ok (.iconst 1, 1) := by decide +kernel
theorem dX10_weigh_64 : decode cX10_weigh 64 = .ok (.if_icmp .ne 7, 3) := by decide +kernel
theorem dX10_weigh_67 : decode cX10_weigh 67 = .ok (.iload_n 2, 1) := by decide +kernel
theorem dX10_weigh_68 : decode cX10_weigh 68 = .ok (.goto 4, 3) := by decide +kernel
theorem dX10_weigh_71 : decode cX10_weigh 71 = .ok (.iconst 2, 1) := by decide +kernel
theorem dX10_weigh_72 : decode cX10_weigh 72 = .ok (.invokevirtual 107, 3) := by decide +kernel
theorem dX10_weigh_75 : decode cX10_weigh 75 = .ok (.iload 4, 2) := by decide +kernel
theorem dX10_weigh_77 : decode cX10_weigh 77 = .ok (.ireturn, 1) := by decide +kernel
theorem dX10_tell_0 : decode cX10_tell 0 = .ok (.aload_n 0, 1) := by decide +kernel
theorem dX10_tell_1 : decode cX10_tell 1 = .ok (.iload_n 1, 1) := by decide +kernel
theorem dX10_tell_2 : decode cX10_tell 2 = .ok (.invokevirtual 100, 3) := by decide +kernel
theorem dX10_tell_5 : decode cX10_tell 5 = .ok (.ifCond .eq 28, 3) := by decide +kernel
theorem dX10_tell_8 : decode cX10_tell 8 = .ok (.iload_n 2, 1) := by decide +kernel
theorem dX10_tell_9 : decode cX10_tell 9 = .ok (.iconst 0, 1) := by decide +kernel
theorem dX10_tell_10 : decode cX10_tell 10 = .ok (.aload_n 0, 1) := by decide +kernel
theorem dX10_tell_11 : decode cX10_tell 11 = .ok (.getfield 20, 3) := by decide +kernel
theorem dX10_tell_14 : decode cX10_tell 14 = .ok (.iconst 0, 1) := by decide +kernel
theorem dX10_tell_15 : decode cX10_tell 15 = .ok (.iaload, 1) := by decide +kernel
theorem dX10_tell_16 : decode cX10_tell 16 = .ok (.iconst 1, 1) := by decide +kernel
theorem dX10_tell_17 : decode cX10_tell 17 = .ok (.isub, 1) := by decide +kernel
theorem dX10_tell_18 : decode cX10_tell 18 = .ok (.invokestatic 48, 3) := by decide +kernel
theorem dX10_tell_21 : decode cX10_tell 21 = .ok (.ifCond .eq 12, 3) := by decide +kernel
theorem dX10_tell_24 : decode cX10_tell 24 = .ok (.iload_n 3, 1) := by decide +kernel
theorem dX10_tell_25 : decode cX10_tell 25 = .ok (.iconst 0, 1) := by decide +kernel
theorem dX10_tell_26 : decode cX10_tell 26 = .ok (.iconst 2, 1) := by decide +kernel
theorem dX10_tell_27 : decode cX10_tell 27 = .ok (.invokestatic 48, 3) := by decide +kernel
theorem dX10_tell_30 : decode cX10_tell 30 = .ok (.ifCond .ne 5, 3) := by decide +kernel
theorem dX10_tell_33 : decode cX10_tell 33 = .ok (.iconst (-1), 1) := by decide +kernel
theorem dX10_tell_34 : decode cX10_tell 34 = .ok (.ireturn, 1) := by decide +kernel
theorem dX10_tell_35 : decode cX10_tell 35 = .ok (.aload_n 0, 1) := by decide +kernel
theorem dX10_tell_36 : decode cX10_tell 36 = .ok (.getfield 23, 3) := by decide +kernel
theorem dX10_tell_39 : decode cX10_tell 39 = .ok (.iconst 0, 1) := by decide +kernel
theorem dX10_tell_40 : decode cX10_tell 40 = .ok (.iaload, 1) := by decide +kernel
theorem dX10_tell_41 : decode cX10_tell 41 = .ok (.bipush 12, 2) := by decide +kernel
theorem dX10_tell_43 : decode cX10_tell 43 = .ok (.if_icmp .ne 6, 3) := by decide +kernel
theorem dX10_tell_46 : decode cX10_tell 46 = .ok (.bipush (-3), 2) := by decide +kernel
theorem dX10_tell_48 : decode cX10_tell 48 = .ok (.ireturn, 1) := by decide +kernel
theorem dX10_tell_49 : decode cX10_tell 49 = .ok (.aload_n 0, 1) := by decide +kernel
theorem dX10_tell_50 : decode cX10_tell 50 = .ok (.iload_n 1, 1) := by decide +kernel
theorem dX10_tell_51 : decode cX10_tell 51 = .ok (.iload_n 2, 1) := by decide +kernel
theorem dX10_tell_52 : decode cX10_tell 52 = .ok (.iload_n 3, 1) := by decide +kernel
theorem dX10_tell_53 : decode cX10_tell 53 = .ok (.invokevirtual 107, 3) := by decide +kernel
theorem dX10_tell_56 : decode cX10_tell 56 = .ok (.aload_n 0, 1) := by decide +kernel
theorem dX10_tell_57 : decode cX10_tell 57 = .ok (.getfield 23, 3) := by decide +kernel
theorem dX10_tell_60 : decode cX10_tell 60 = .ok (.iconst 0, 1) := by decide +kernel
theorem dX10_tell_61 : decode cX10_tell 61 = .ok (.iaload, 1) := by decide +kernel
theorem dX10_tell_62 : decode cX10_tell 62 = .ok (.ireturn, 1) := by decide +kernel
theorem dX10_isLine_0 : decode cX10_isLine 0 = .ok (.iload_n 1, 1) := by decide +kernel
theorem dX10_isLine_1 : decode cX10_isLine 1 = .ok (.iconst 0, 1) := by decide +kernel
theorem dX10_isLine_2 : decode cX10_isLine 2 = .ok (.aload_n 0, 1) := by decide +kernel
theorem dX10_isLine_3 : decode cX10_isLine 3 = .ok (.getfield 23, 3) := by decide +kernel
theorem dX10_isLine_6 : decode cX10_isLine 6 = .ok (.iconst 0, 1) := by decide +kernel
theorem dX10_isLine_7 : decode cX10_isLine 7 = .ok (.iaload, 1) := by decide +kernel
theorem dX10_isLine_8 : decode cX10_isLine 8 = .ok (.iconst 1, 1) := by decide +kernel
theorem dX10_isLine_9 : decode cX10_isLine 9 = .ok (.isub, 1) := by decide +kernel
theorem dX10_isLine_10 : decode cX10_isLine 10 = .ok (.invokestatic 48, 3) := by decide +kernel
theorem dX10_isLine_13 : decode cX10_isLine 13 = .ok (.ireturn, 1) := by decide +kernel
theorem dX10_line_0 : decode cX10_line 0 = .ok (.aload_n 0, 1) := by decide +kernel
theorem dX10_line_1 : decode cX10_line 1 = .ok (.iload_n 1, 1) := by decide +kernel
theorem dX10_line_2 : decode cX10_line 2 = .ok (.invokevirtual 111, 3) := by decide +kernel
theorem dX10_line_5 : decode cX10_line 5 = .ok (.ifCond .eq 25, 3) := by decide +kernel
theorem dX10_line_8 : decode cX10_line 8 = .ok (.iload_n 2, 1) := by decide +kernel
theorem dX10_line_9 : decode cX10_line 9 = .ok (.iconst 0, 1) := by decide +kernel
theorem dX10_line_10 : decode cX10_line 10 = .ok (.iconst 2, 1) := by decide +kernel
theorem dX10_line_11 : decode cX10_line 11 = .ok (.invokestatic 48, 3) := by decide +kernel
theorem dX10_line_14 : decode cX10_line 14 = .ok (.ifCond .eq 16, 3) := by decide +kernel
theorem dX10_line_17 : decode cX10_line 17 = .ok (.aload_n 0, 1) := by decide +kernel
theorem dX10_line_18 : decode cX10_line 18 = .ok (.getfield 26, 3) := by decide +kernel
theorem dX10_line_21 : decode cX10_line 21 = .ok (.iconst 3, 1) := by decide +kernel
theorem dX10_line_22 : decode cX10_line 22 = .ok (.iload_n 1, 1) := by decide +kernel
theorem dX10_line_23 : decode cX10_line 23 = .ok (.imul, 1) := by decide +kernel
theorem dX10_line_24 : decode cX10_line 24 = .ok (.iload_n 2, 1) := by decide +kernel
theorem dX10_line_25 : decode cX10_line 25 = .ok (.iadd, 1) := by decide +kernel
theorem dX10_line_26 : decode cX10_line 26 = .ok (.iaload, 1) := by decide +kernel
theorem dX10_line_27 : decode cX10_line 27 = .ok (.goto 4, 3) := by decide +kernel
theorem dX10_line_30 : decode cX10_line 30 = .ok (.iconst (-1), 1) := by decide +kernel
theorem dX10_line_31 : decode cX10_line 31 = .ok (.ireturn, 1) := by decide +kernel
theorem dX10_undo_0 : decode cX10_undo 0 = .ok (.aload_n 0, 1) := by decide +kernel
theorem dX10_undo_1 : decode cX10_undo 1 = .ok (.getfield 23, 3) := by decide +kernel
theorem dX10_undo_4 : decode cX10_undo 4 = .ok (.iconst 0, 1) := by decide +kernel
theorem dX10_undo_5 : decode cX10_undo 5 = .ok (.iaload, 1) := by decide +kernel
theorem dX10_undo_6 : decode cX10_undo 6 = .ok (.ifCond .ne 6, 3) := by decide +kernel
theorem dX10_undo_9 : decode cX10_undo 9 = .ok (.bipush (-2), 2) := by decide +kernel
theorem dX10_undo_11 : decode cX10_undo 11 = .ok (.ireturn, 1) := by decide +kernel
theorem dX10_undo_12 : decode cX10_undo 12 = .ok (.aload_n 0, 1) := by decide +kernel
theorem dX10_undo_13 : decode cX10_undo 13 = .ok (.getfield 23, 3) := by decide +kernel
theorem dX10_undo_16 : decode cX10_undo 16 = .ok (.iconst 0, 1) := by decide +kernel
theorem dX10_undo_17 : decode cX10_undo 17 = .ok (.dup2, 1) := by decide +kernel
theorem dX10_undo_18 : decode cX10_undo 18 = .ok (.iaload, 1) := by decide +kernel
theorem dX10_undo_19 : decode cX10_undo 19 = .ok (.iconst 1, 1) := by decide +kernel
theorem dX10_undo_20 : decode cX10_undo 20 = .ok (.isub, 1) := by decide +kernel
theorem dX10_undo_21 : decode cX10_undo 21 = .ok (.iastore, 1) := by decide +kernel
theorem dX10_undo_22 : decode cX10_undo 22 = .ok (.aload_n 0, 1) := by decide +kernel
theorem dX10_undo_23 : decode cX10_undo 23 = .ok (.getfield 23, 3) := by decide +kernel
theorem dX10_undo_26 : decode cX10_undo 26 = .ok (.iconst 0, 1) := by decide +kernel
theorem dX10_undo_27 : decode cX10_undo 27 = .ok (.iaload, 1) := by decide +kernel
theorem dX10_undo_28 : decode cX10_undo 28 = .ok (.ireturn, 1) := by decide +kernel
theorem dX10_worlds_0 : decode cX10_worlds 0 = .ok (.bipush 10, 2) := by decide +kernel
theorem dX10_worlds_2 : decode cX10_worlds 2 = .ok (.istore_n 1, 1) := by decide +kernel
theorem dX10_worlds_3 : decode cX10_worlds 3 = .ok (.iconst 0, 1) := by decide +kernel
theorem dX10_worlds_4 : decode cX10_worlds 4 = .ok (.istore_n 2, 1) := by decide +kernel
theorem dX10_worlds_5 : decode cX10_worlds 5 = .ok (.iload_n 2, 1) := by decide +kernel
theorem dX10_worlds_6 : decode cX10_worlds 6 = .ok (.aload_n 0, 1) := by decide +kernel
theorem dX10_worlds_7 : decode cX10_worlds 7 = .ok (.getfield 13, 3) := by decide +kernel
theorem dX10_worlds_10 : decode cX10_worlds 10 = .ok (.iconst 0, 1) := by decide +kernel
theorem dX10_worlds_11 : decode cX10_worlds 11 = .ok (.iaload, 1) := by decide +kernel
theorem dX10_worlds_12 : decode cX10_worlds 12 = .ok (.if_icmp .ge 14, 3) := by decide +kernel
theorem dX10_worlds_15 : decode cX10_worlds 15 = .ok (.iload_n 1, 1) := by decide +kernel
theorem dX10_worlds_16 : decode cX10_worlds 16 = .ok (.bipush 9, 2) := by decide +kernel
theorem dX10_worlds_18 : decode cX10_worlds 18 = .ok (.imul, 1) := by decide +kernel
theorem dX10_worlds_19 : decode cX10_worlds 19 = .ok (.istore_n 1, 1) := by decide +kernel
theorem dX10_worlds_20 : decode cX10_worlds 20 = .ok (.iinc 2 1, 3) := by decide +kernel
theorem dX10_worlds_23 : decode cX10_worlds 23 = .ok (.goto (-18), 3) := by decide +kernel
theorem dX10_worlds_26 : decode cX10_worlds 26 = .ok (.iload_n 1, 1) := by decide +kernel
theorem dX10_worlds_27 : decode cX10_worlds 27 = .ok (.ireturn, 1) := by decide +kernel
theorem dX10_go_0 : decode cX10_go 0 = .ok (.aload_n 0, 1) := by decide +kernel
theorem dX10_go_1 : decode cX10_go 1 = .ok (.getfield 33, 3) := by decide +kernel
theorem dX10_go_4 : decode cX10_go 4 = .ok (.iconst 3, 1) := by decide +kernel
theorem dX10_go_5 : decode cX10_go 5 = .ok (.iload_n 1, 1) := by decide +kernel
theorem dX10_go_6 : decode cX10_go 6 = .ok (.bipush 10, 2) := by decide +kernel
theorem dX10_go_8 : decode cX10_go 8 = .ok (.irem, 1) := by decide +kernel
theorem dX10_go_9 : decode cX10_go 9 = .ok (.iastore, 1) := by decide +kernel
theorem dX10_go_10 : decode cX10_go 10 = .ok (.iload_n 1, 1) := by decide +kernel
theorem dX10_go_11 : decode cX10_go 11 = .ok (.bipush 10, 2) := by decide +kernel
theorem dX10_go_13 : decode cX10_go 13 = .ok (.idiv, 1) := by decide +kernel
theorem dX10_go_14 : decode cX10_go 14 = .ok (.istore_n 2, 1) := by decide +kernel
theorem dX10_go_15 : decode cX10_go 15 = .ok (.iconst 0, 1) := by decide +kernel
theorem dX10_go_16 : decode cX10_go 16 = .ok (.istore_n 3, 1) := by decide +kernel
theorem dX10_go_17 : decode cX10_go 17 = .ok (.iload_n 3, 1) := by decide +kernel
theorem dX10_go_18 : decode cX10_go 18 = .ok (.aload_n 0, 1) := by decide +kernel
theorem dX10_go_19 : decode cX10_go 19 = .ok (.getfield 13, 3) := by decide +kernel
theorem dX10_go_22 : decode cX10_go 22 = .ok (.iconst 0, 1) := by decide +kernel
theorem dX10_go_23 : decode cX10_go 23 = .ok (.iaload, 1) := by decide +kernel
theorem dX10_go_24 : decode cX10_go 24 = .ok (.if_icmp .ge 26, 3) := by decide +kernel
theorem dX10_go_27 : decode cX10_go 27 = .ok (.aload_n 0, 1) := by decide +kernel
theorem dX10_go_28 : decode cX10_go 28 = .ok (.getfield 33, 3) := by decide +kernel
theorem dX10_go_31 : decode cX10_go 31 = .ok (.iload_n 3, 1) := by decide +kernel
theorem dX10_go_32 : decode cX10_go 32 = .ok (.iconst 1, 1) := by decide +kernel
theorem dX10_go_33 : decode cX10_go 33 = .ok (.iload_n 2, 1) := by decide +kernel
theorem dX10_go_34 : decode cX10_go 34 = .ok (.bipush 9, 2) := by decide +kernel
theorem dX10_go_36 : decode cX10_go 36 = .ok (.irem, 1) := by decide +kernel
theorem dX10_go_37 : decode cX10_go 37 = .ok (.iadd, 1) := by decide +kernel
theorem dX10_go_38 : decode cX10_go 38 = .ok (.iastore, 1) := by decide +kernel
theorem dX10_go_39 : decode cX10_go 39 = .ok (.iload_n 2, 1) := by decide +kernel
theorem dX10_go_40 : decode cX10_go 40 = .ok (.bipush 9, 2) := by decide +kernel
theorem dX10_go_42 : decode cX10_go 42 = .ok (.idiv, 1) := by decide +kernel
theorem dX10_go_43 : decode cX10_go 43 = .ok (.istore_n 2, 1) := by decide +kernel
theorem dX10_go_44 : decode cX10_go 44 = .ok (.iinc 3 1, 3) := by decide +kernel
theorem dX10_go_47 : decode cX10_go 47 = .ok (.goto (-30), 3) := by decide +kernel
theorem dX10_go_50 : decode cX10_go 50 = .ok (.return_, 1) := by decide +kernel
theorem dX10_shownOf_0 : decode cX10_shownOf 0 = .ok (.aload_n 0, 1) := by decide +kernel
theorem dX10_shownOf_1 : decode cX10_shownOf 1 = .ok (.getfield 33, 3) := by decide +kernel
theorem dX10_shownOf_4 : decode cX10_shownOf 4 = .ok (.iconst 3, 1) := by decide +kernel
theorem dX10_shownOf_5 : decode cX10_shownOf 5 = .ok (.iaload, 1) := by decide +kernel
theorem dX10_shownOf_6 : decode cX10_shownOf 6 = .ok (.istore_n 2, 1) := by decide +kernel
theorem dX10_shownOf_7 : decode cX10_shownOf 7 = .ok (.iconst 0, 1) := by decide +kernel
theorem dX10_shownOf_8 : decode cX10_shownOf 8 = .ok (.istore_n 3, 1) := by decide +kernel
theorem dX10_shownOf_9 : decode cX10_shownOf 9 = .ok (.iload_n 3, 1) := by decide +kernel
theorem dX10_shownOf_10 : decode cX10_shownOf 10 = .ok (.aload_n 0, 1) := by decide +kernel
theorem dX10_shownOf_11 : decode cX10_shownOf 11 = .ok (.getfield 13, 3) := by decide +kernel
theorem dX10_shownOf_14 : decode cX10_shownOf 14 = .ok (.iconst 0, 1) := by decide +kernel
theorem dX10_shownOf_15 : decode cX10_shownOf 15 = .ok (.iaload, 1) := by decide +kernel
theorem dX10_shownOf_16 : decode cX10_shownOf 16 = .ok (.if_icmp .ge 31, 3) := by decide +kernel
theorem dX10_shownOf_19 : decode cX10_shownOf 19 = .ok (.iload_n 2, 1) := by decide +kernel
theorem dX10_shownOf_20 : decode cX10_shownOf 20 = .ok (.iload_n 1, 1) := by decide +kernel
theorem dX10_shownOf_21 : decode cX10_shownOf 21 = .ok (.iload_n 3, 1) := by decide +kernel
theorem dX10_shownOf_22 : decode cX10_shownOf 22 = .ok (.ishr, 1) := by decide +kernel
theorem dX10_shownOf_23 : decode cX10_shownOf 23 = .ok (.iconst 1, 1) := by decide +kernel
theorem dX10_shownOf_24 : decode cX10_shownOf 24 = .ok (.iand, 1) := by decide +kernel
theorem dX10_shownOf_25 : decode cX10_shownOf 25 = .ok (.iconst 1, 1) := by decide +kernel
theorem dX10_shownOf_26 : decode cX10_shownOf 26 = .ok (.if_icmp .ne 12, 3) := by decide +kernel
theorem dX10_shownOf_29 : decode cX10_shownOf 29 = .ok (.aload_n 0, 1) := by decide +kernel
theorem dX10_shownOf_30 : decode cX10_shownOf 30 = .ok (.getfield 33, 3) := by decide +kernel
theorem dX10_shownOf_33 : decode cX10_shownOf 33 = .ok (.iload_n 3, 1) := by decide +kernel
theorem dX10_shownOf_34 : decode cX10_shownOf 34 = .ok (.iaload, 1) := by decide +kernel
theorem dX10_shownOf_35 : decode cX10_shownOf 35 = .ok (.goto 4, 3) := by decide +kernel
theorem dX10_shownOf_38 : decode cX10_shownOf 38 = .ok (.iconst 0, 1) := by decide +kernel
theorem dX10_shownOf_39 : decode cX10_shownOf 39 = .ok (.iadd, 1) := by decide +kernel
theorem dX10_shownOf_40 : decode cX10_shownOf 40 = .ok (.istore_n 2, 1) := by decide +kernel
theorem dX10_shownOf_41 : decode cX10_shownOf 41 = .ok (.iinc 3 1, 3) := by decide +kernel
theorem dX10_shownOf_44 : decode cX10_shownOf 44 = .ok (.goto (-35), 3) := by decide +kernel
theorem dX10_shownOf_47 : decode cX10_shownOf 47 = .ok (.iload_n 2, 1) := by decide +kernel
theorem dX10_shownOf_48 : decode cX10_shownOf 48 = .ok (.aload_n 0, 1) := by decide +kernel
theorem dX10_shownOf_49 : decode cX10_shownOf 49 = .ok (.getfield 20, 3) := by decide +kernel
theorem dX10_shownOf_52 : decode cX10_shownOf 52 = .ok (.iconst 0, 1) := by decide +kernel
theorem dX10_shownOf_53 : decode cX10_shownOf 53 = .ok (.iaload, 1) := by decide +kernel
theorem dX10_shownOf_54 : decode cX10_shownOf 54 = .ok (.irem, 1) := by decide +kernel
theorem dX10_shownOf_55 : decode cX10_shownOf 55 = .ok (.ireturn, 1) := by decide +kernel
theorem dX10_laughIn_0 : decode cX10_laughIn 0 = .ok (.aload_n 0, 1) := by decide +kernel
theorem dX10_laughIn_1 : decode cX10_laughIn 1 = .ok (.aload_n 0, 1) := by decide +kernel
theorem dX10_laughIn_2 : decode cX10_laughIn 2 = .ok (.getfield 26, 3) := by decide +kernel
theorem dX10_laughIn_5 : decode cX10_laughIn 5 = .ok (.iconst 3, 1) := by decide +kernel
theorem dX10_laughIn_6 : decode cX10_laughIn 6 = .ok (.iload_n 1, 1) := by decide +kernel
theorem dX10_laughIn_7 : decode cX10_laughIn 7 = .ok (.imul, 1) := by decide +kernel
theorem dX10_laughIn_8 : decode cX10_laughIn 8 = .ok (.iaload, 1) := by decide +kernel
theorem dX10_laughIn_9 : decode cX10_laughIn 9 = .ok (.invokevirtual 114, 3) := by decide +kernel
theorem dX10_laughIn_12 : decode cX10_laughIn 12 = .ok (.istore_n 2, 1) := by decide +kernel
theorem dX10_laughIn_13 : decode cX10_laughIn 13 = .ok (.iload_n 2, 1) := by decide +kernel
theorem dX10_laughIn_14 : decode cX10_laughIn 14 = .ok (.aload_n 0, 1) := by decide +kernel
theorem dX10_laughIn_15 : decode cX10_laughIn 15 = .ok (.getfield 26, 3) := by decide +kernel
theorem dX10_laughIn_18 : decode cX10_laughIn 18 = .ok (.iconst 3, 1) := by decide +kernel
theorem dX10_laughIn_19 : decode cX10_laughIn 19 = .ok (.iload_n 1, 1) := by decide +kernel
theorem dX10_laughIn_20 : decode cX10_laughIn 20 = .ok (.imul, 1) := by decide +kernel
theorem dX10_laughIn_21 : decode cX10_laughIn 21 = .ok (.iconst 1, 1) := by decide +kernel
theorem dX10_laughIn_22 : decode cX10_laughIn 22 = .ok (.iadd, 1) := by decide +kernel
theorem dX10_laughIn_23 : decode cX10_laughIn 23 = .ok (.iaload, 1) := by decide +kernel
theorem dX10_laughIn_24 : decode cX10_laughIn 24 = .ok (.if_icmp .ne 7, 3) := by decide +kernel
theorem dX10_laughIn_27 : decode cX10_laughIn 27 = .ok (.iconst 0, 1) := by decide +kernel
theorem dX10_laughIn_28 : decode cX10_laughIn 28 = .ok (.goto 32, 3) := by decide +kernel
theorem dX10_laughIn_31 : decode cX10_laughIn 31 = .ok (.iload_n 2, 1) := by decide +kernel
theorem dX10_laughIn_32 : decode cX10_laughIn 32 = .ok (.iconst 1, 1) := by decide +kernel
theorem dX10_laughIn_33 : decode cX10_laughIn 33 = .ok (.iadd, 1) := by decide +kernel
theorem dX10_laughIn_34 : decode cX10_laughIn 34 = .ok (.aload_n 0, 1) := by decide +kernel
theorem dX10_laughIn_35 : decode cX10_laughIn 35 = .ok (.getfield 20, 3) := by decide +kernel
theorem dX10_laughIn_38 : decode cX10_laughIn 38 = .ok (.iconst 0, 1) := by decide +kernel
theorem dX10_laughIn_39 : decode cX10_laughIn 39 = .ok (.iaload, 1) := by decide +kernel
theorem dX10_laughIn_40 : decode cX10_laughIn 40 = .ok (.irem, 1) := by decide +kernel
theorem dX10_laughIn_41 : decode cX10_laughIn 41 = .ok (.aload_n 0, 1) := by decide +kernel
theorem dX10_laughIn_42 : decode cX10_laughIn 42 = .ok (.getfield 26, 3) := by decide +kernel
theorem dX10_laughIn_45 : decode cX10_laughIn 45 = .ok (.iconst 3, 1) := by decide +kernel
theorem dX10_laughIn_46 : decode cX10_laughIn 46 = .ok (.iload_n 1, 1) := by decide +kernel
theorem dX10_laughIn_47 : decode cX10_laughIn 47 = .ok (.imul, 1) := by decide +kernel
theorem dX10_laughIn_48 : decode cX10_laughIn 48 = .ok (.iconst 1, 1) := by decide +kernel
theorem dX10_laughIn_49 : decode cX10_laughIn 49 = .ok (.iadd, 1) := by decide +kernel
theorem dX10_laughIn_50 : decode cX10_laughIn 50 = .ok (.iaload, 1) := by decide +kernel
theorem dX10_laughIn_51 : decode cX10_laughIn 51 = .ok (.if_icmp .ne 7, 3) := by decide +kernel
theorem dX10_laughIn_54 : decode cX10_laughIn 54 = .ok (.iconst 1, 1) := by decide +kernel
theorem dX10_laughIn_55 : decode cX10_laughIn 55 = .ok (.goto 5, 3) := by decide +kernel
theorem dX10_laughIn_58 : decode cX10_laughIn 58 = .ok (.bipush (-9), 2) := by decide +kernel
theorem dX10_laughIn_60 : decode cX10_laughIn 60 = .ok (.istore_n 3, 1) := by decide +kernel
theorem dX10_laughIn_61 : decode cX10_laughIn 61 = .ok (.aload_n 0, 1) := by decide +kernel
theorem dX10_laughIn_62 : decode cX10_laughIn 62 = .ok (.getfield 26, 3) := by decide +kernel
theorem dX10_laughIn_65 : decode cX10_laughIn 65 = .ok (.iconst 3, 1) := by decide +kernel
theorem dX10_laughIn_66 : decode cX10_laughIn 66 = .ok (.iload_n 1, 1) := by decide +kernel
theorem dX10_laughIn_67 : decode cX10_laughIn 67 = .ok (.imul, 1) := by decide +kernel
theorem dX10_laughIn_68 : decode cX10_laughIn 68 = .ok (.iconst 2, 1) := by decide +kernel
theorem dX10_laughIn_69 : decode cX10_laughIn 69 = .ok (.iadd, 1) := by decide +kernel
theorem dX10_laughIn_70 : decode cX10_laughIn 70 = .ok (.iaload, 1) := by decide +kernel
theorem dX10_laughIn_71 : decode cX10_laughIn 71 = .ok (.iconst 2, 1) := by decide +kernel
theorem dX10_laughIn_72 : decode cX10_laughIn 72 = .ok (.if_icmp .eq 17, 3) := by decide +kernel
theorem dX10_laughIn_75 : decode cX10_laughIn 75 = .ok (.aload_n 0, 1) := by decide +kernel
theorem dX10_laughIn_76 : decode cX10_laughIn 76 = .ok (.getfield 26, 3) := by decide +kernel
theorem dX10_laughIn_79 : decode cX10_laughIn 79 = .ok (.iconst 3, 1) := by decide +kernel
theorem dX10_laughIn_80 : decode cX10_laughIn 80 = .ok (.iload_n 1, 1) := by decide +kernel
theorem dX10_laughIn_81 : decode cX10_laughIn 81 = .ok (.imul, 1) := by decide +kernel
theorem dX10_laughIn_82 : decode cX10_laughIn 82 = .ok (.iconst 2, 1) := by decide +kernel
theorem dX10_laughIn_83 : decode cX10_laughIn 83 = .ok (.iadd, 1) := by decide +kernel
theorem dX10_laughIn_84 : decode cX10_laughIn 84 = .ok (.iaload, 1) := by decide +kernel
theorem dX10_laughIn_85 : decode cX10_laughIn 85 = .ok (.iload_n 3, 1) := by decide +kernel
theorem dX10_laughIn_86 : decode cX10_laughIn 86 = .ok (.if_icmp .ne 7, 3) := by decide +kernel
theorem dX10_laughIn_89 : decode cX10_laughIn 89 = .ok (.iload_n 3, 1) := by decide +kernel
theorem dX10_laughIn_90 : decode cX10_laughIn 90 = .ok (.goto 5, 3) := by decide +kernel
theorem dX10_laughIn_93 : decode cX10_laughIn 93 = .ok (.bipush (-9), 2) := by decide +kernel
theorem dX10_laughIn_95 : decode cX10_laughIn 95 = .ok (.ireturn, 1) := by decide +kernel
theorem dX10_falseLines_0 : decode cX10_falseLines 0 = .ok (.iconst 0, 1) := by decide +kernel
theorem dX10_falseLines_1 : decode cX10_falseLines 1 = .ok (.istore_n 1, 1) := by decide +kernel
theorem dX10_falseLines_2 : decode cX10_falseLines 2 = .ok (.iconst 0, 1) := by decide +kernel
theorem dX10_falseLines_3 : decode cX10_falseLines 3 = .ok (.istore_n 2, 1) := by decide +kernel
theorem dX10_falseLines_4 : decode cX10_falseLines 4 = .ok (.iload_n 2, 1) := by decide +kernel
theorem dX10_falseLines_5 : decode cX10_falseLines 5 = .ok (.aload_n 0, 1) := by decide +kernel
theorem dX10_falseLines_6 : decode cX10_falseLines 6 = .ok (.getfield 23, 3) := by decide +kernel
theorem dX10_falseLines_9 : decode cX10_falseLines 9 = .ok (.iconst 0, 1) := by decide +kernel
theorem dX10_falseLines_10 : decode cX10_falseLines 10 = .ok (.iaload, 1) := by decide +kernel
theorem dX10_falseLines_11 : decode cX10_falseLines 11 = .ok (.if_icmp .ge 29, 3) := by decide +kernel
theorem dX10_falseLines_14 : decode cX10_falseLines 14 = .ok (.iload_n 1, 1) := by decide +kernel
theorem dX10_falseLines_15 : decode cX10_falseLines 15 = .ok (.aload_n 0, 1) := by decide +kernel
theorem dX10_falseLines_16 : decode cX10_falseLines 16 = .ok (.iload_n 2, 1) := by decide +kernel
theorem dX10_falseLines_17 : decode cX10_falseLines 17 = .ok (.invokevirtual 117, 3) := by decide +kernel
theorem dX10_falseLines_20 : decode cX10_falseLines 20 = .ok (.bipush (-9), 2) := by decide +kernel
theorem dX10_falseLines_22 : decode cX10_falseLines 22 = .ok (.if_icmp .ne 9, 3) := by decide +kernel
theorem dX10_falseLines_25 : decode cX10_falseLines 25 = .ok (.iconst 1, 1) := by decide +kernel
theorem dX10_falseLines_26 : decode cX10_falseLines 26 = .ok (.iload_n 2, 1) := by decide +kernel
theorem dX10_falseLines_27 : decode cX10_falseLines 27 = .ok (.ishl, 1) := by decide +kernel
theorem dX10_falseLines_28 : decode cX10_falseLines 28 = .ok (.goto 4, 3) := by decide +kernel
theorem dX10_falseLines_31 : decode cX10_falseLines 31 = .ok (.iconst 0, 1) := by decide +kernel
theorem dX10_falseLines_32 : decode cX10_falseLines 32 = .ok (.ior, 1) := by decide +kernel
theorem dX10_falseLines_33 : decode cX10_falseLines 33 = .ok (.istore_n 1, 1) := by decide +kernel
theorem dX10_falseLines_34 : decode cX10_falseLines 34 = .ok (.iinc 2 1, 3) := by decide +kernel
theorem dX10_falseLines_37 : decode cX10_falseLines 37 = .ok (.goto (-33), 3) := by decide +kernel
theorem dX10_falseLines_40 : decode cX10_falseLines 40 = .ok (.iload_n 1, 1) := by decide +kernel
theorem dX10_falseLines_41 : decode cX10_falseLines 41 = .ok (.ireturn, 1) := by decide +kernel
theorem dX10_canBe_0 : decode cX10_canBe 0 = .ok (.aload_n 0, 1) := by decide +kernel
theorem dX10_canBe_1 : decode cX10_canBe 1 = .ok (.iload_n 1, 1) := by decide +kernel
theorem dX10_canBe_2 : decode cX10_canBe 2 = .ok (.invokevirtual 120, 3) := by decide +kernel
theorem dX10_canBe_5 : decode cX10_canBe 5 = .ok (.aload_n 0, 1) := by decide +kernel
theorem dX10_canBe_6 : decode cX10_canBe 6 = .ok (.invokevirtual 124, 3) := by decide +kernel
theorem dX10_canBe_9 : decode cX10_canBe 9 = .ok (.ifCond .ne 7, 3) := by decide +kernel
theorem dX10_canBe_12 : decode cX10_canBe 12 = .ok (.iconst 1, 1) := by decide +kernel
theorem dX10_canBe_13 : decode cX10_canBe 13 = .ok (.goto 4, 3) := by decide +kernel
theorem dX10_canBe_16 : decode cX10_canBe 16 = .ok (.iconst 0, 1) := by decide +kernel
theorem dX10_canBe_17 : decode cX10_canBe 17 = .ok (.ireturn, 1) := by decide +kernel
theorem dX10_many_0 : decode cX10_many 0 = .ok (.iconst 0, 1) := by decide +kernel
theorem dX10_many_1 : decode cX10_many 1 = .ok (.istore_n 3, 1) := by decide +kernel
theorem dX10_many_2 : decode cX10_many 2 = .ok (.iconst 0, 1) := by decide +kernel
theorem dX10_many_3 : decode cX10_many 3 = .ok (.istore 4, 2) := by decide +kernel
theorem dX10_many_5 : decode cX10_many 5 = .ok (.iload 4, 2) := by decide +kernel
theorem dX10_many_7 : decode cX10_many 7 = .ok (.aload_n 0, 1) := by decide +kernel
theorem dX10_many_8 : decode cX10_many 8 = .ok (.invokevirtual 127, 3) := by decide +kernel
theorem dX10_many_11 : decode cX10_many 11 = .ok (.if_icmp .ge 40, 3) := by decide +kernel
theorem dX10_many_14 : decode cX10_many 14 = .ok (.iload_n 3, 1) := by decide +kernel
theorem dX10_many_15 : decode cX10_many 15 = .ok (.aload_n 0, 1) := by decide +kernel
theorem dX10_many_16 : decode cX10_many 16 = .ok (.iload 4, 2) := by decide +kernel
theorem dX10_many_18 : decode cX10_many 18 = .ok (.invokevirtual 130, 3) := by decide +kernel
theorem dX10_many_21 : decode cX10_many 21 = .ok (.ifCond .eq 21, 3) := by decide +kernel
theorem dX10_many_24 : decode cX10_many 24 = .ok (.iload_n 1, 1) := by decide +kernel
theorem dX10_many_25 : decode cX10_many 25 = .ok (.ifCond .lt 13, 3) := by decide +kernel
theorem dX10_many_28 : decode cX10_many 28 = .ok (.aload_n 0, 1) := by decide +kernel
theorem dX10_many_29 : decode cX10_many 29 = .ok (.getfield 33, 3) := by decide +kernel
theorem dX10_many_32 : decode cX10_many 32 = .ok (.iload_n 1, 1) := by decide +kernel
theorem dX10_many_33 : decode cX10_many 33 = .ok (.iaload, 1) := by decide +kernel
theorem dX10_many_34 : decode cX10_many 34 = .ok (.iload_n 2, 1) := by decide +kernel
theorem dX10_many_35 : decode cX10_many 35 = .ok (.if_icmp .ne 7, 3) := by decide +kernel
theorem dX10_many_38 : decode cX10_many 38 = .ok (.iconst 1, 1) := by decide +kernel
theorem dX10_many_39 : decode cX10_many 39 = .ok (.goto 4, 3) := by decide +kernel
theorem dX10_many_42 : decode cX10_many 42 = .ok (.iconst 0, 1) := by decide +kernel
theorem dX10_many_43 : decode cX10_many 43 = .ok (.iadd, 1) := by decide +kernel
theorem dX10_many_44 : decode cX10_many 44 = .ok (.istore_n 3, 1) := by decide +kernel
theorem dX10_many_45 : decode cX10_many 45 = .ok (.iinc 4 1, 3) := by decide +kernel
theorem dX10_many_48 : decode cX10_many 48 = .ok (.goto (-43), 3) := by decide +kernel
theorem dX10_many_51 : decode cX10_many 51 = .ok (.iload_n 3, 1) := by decide +kernel
theorem dX10_many_52 : decode cX10_many 52 = .ok (.ireturn, 1) := by decide +kernel
theorem dX10_isOne_0 : decode cX10_isOne 0 = .ok (.aload_n 0, 1) := by decide +kernel
theorem dX10_isOne_1 : decode cX10_isOne 1 = .ok (.iload_n 1, 1) := by decide +kernel
theorem dX10_isOne_2 : decode cX10_isOne 2 = .ok (.invokevirtual 96, 3) := by decide +kernel
theorem dX10_isOne_5 : decode cX10_isOne 5 = .ok (.ifCond .ne 8, 3) := by decide +kernel
theorem dX10_isOne_8 : decode cX10_isOne 8 = .ok (.iload_n 1, 1) := by decide +kernel
theorem dX10_isOne_9 : decode cX10_isOne 9 = .ok (.iconst 3, 1) := by decide +kernel
theorem dX10_isOne_10 : decode cX10_isOne 10 = .ok (.if_icmp .ne 7, 3) := by decide +kernel
theorem dX10_isOne_13 : decode cX10_isOne 13 = .ok (.iconst 1, 1) := by decide +kernel
theorem dX10_isOne_14 : decode cX10_isOne 14 = .ok (.goto 4, 3) := by decide +kernel
theorem dX10_isOne_17 : decode cX10_isOne 17 = .ok (.iconst 0, 1) := by decide +kernel
theorem dX10_isOne_18 : decode cX10_isOne 18 = .ok (.ireturn, 1) := by decide +kernel
theorem dX10_could_0 : decode cX10_could 0 = .ok (.iload_n 1, 1) := by decide +kernel
theorem dX10_could_1 : decode cX10_could 1 = .ok (.iconst (-1), 1) := by decide +kernel
theorem dX10_could_2 : decode cX10_could 2 = .ok (.if_icmp .eq 11, 3) := by decide +kernel
theorem dX10_could_5 : decode cX10_could 5 = .ok (.aload_n 0, 1) := by decide +kernel
theorem dX10_could_6 : decode cX10_could 6 = .ok (.iload_n 1, 1) := by decide +kernel
theorem dX10_could_7 : decode cX10_could 7 = .ok (.invokevirtual 133, 3) := by decide +kernel
theorem dX10_could_10 : decode cX10_could 10 = .ok (.ifCond .eq 22, 3) := by decide +kernel
theorem dX10_could_13 : decode cX10_could 13 = .ok (.iload_n 2, 1) := by decide +kernel
theorem dX10_could_14 : decode cX10_could 14 = .ok (.iconst 0, 1) := by decide +kernel
theorem dX10_could_15 : decode cX10_could 15 = .ok (.bipush 9, 2) := by decide +kernel
theorem dX10_could_17 : decode cX10_could 17 = .ok (.invokestatic 48, 3) := by decide +kernel
theorem dX10_could_20 : decode cX10_could 20 = .ok (.ifCond .eq 12, 3) := by decide +kernel
theorem dX10_could_23 : decode cX10_could 23 = .ok (.aload_n 0, 1) := by decide +kernel
theorem dX10_could_24 : decode cX10_could 24 = .ok (.iload_n 1, 1) := by decide +kernel
theorem dX10_could_25 : decode cX10_could 25 = .ok (.iload_n 2, 1) := by decide +kernel
theorem dX10_could_26 : decode cX10_could 26 = .ok (.invokevirtual 136, 3) := by decide +kernel
theorem dX10_could_29 : decode cX10_could 29 = .ok (.goto 4, 3) := by decide +kernel
theorem dX10_could_32 : decode cX10_could 32 = .ok (.iconst (-1), 1) := by decide +kernel
theorem dX10_could_33 : decode cX10_could 33 = .ok (.ireturn, 1) := by decide +kernel
theorem dX10_sure_0 : decode cX10_sure 0 = .ok (.aload_n 0, 1) := by decide +kernel
theorem dX10_sure_1 : decode cX10_sure 1 = .ok (.iload_n 1, 1) := by decide +kernel
theorem dX10_sure_2 : decode cX10_sure 2 = .ok (.invokevirtual 133, 3) := by decide +kernel
theorem dX10_sure_5 : decode cX10_sure 5 = .ok (.ifCond .ne 5, 3) := by decide +kernel
theorem dX10_sure_8 : decode cX10_sure 8 = .ok (.iconst (-1), 1) := by decide +kernel
theorem dX10_sure_9 : decode cX10_sure 9 = .ok (.ireturn, 1) := by decide +kernel
theorem dX10_sure_10 : decode cX10_sure 10 = .ok (.iconst 0, 1) := by decide +kernel
theorem dX10_sure_11 : decode cX10_sure 11 = .ok (.istore_n 2, 1) := by decide +kernel
theorem dX10_sure_12 : decode cX10_sure 12 = .ok (.iconst 0, 1) := by decide +kernel
theorem dX10_sure_13 : decode cX10_sure 13 = .ok (.istore_n 3, 1) := by decide +kernel
theorem dX10_sure_14 : decode cX10_sure 14 = .ok (.iload_n 3, 1) := by decide +kernel
theorem dX10_sure_15 : decode cX10_sure 15 = .ok (.aload_n 0, 1) := by decide +kernel
theorem dX10_sure_16 : decode cX10_sure 16 = .ok (.invokevirtual 127, 3) := by decide +kernel
theorem dX10_sure_19 : decode cX10_sure 19 = .ok (.if_icmp .ge 32, 3) := by decide +kernel
theorem dX10_sure_22 : decode cX10_sure 22 = .ok (.iload_n 2, 1) := by decide +kernel
theorem dX10_sure_23 : decode cX10_sure 23 = .ok (.aload_n 0, 1) := by decide +kernel
theorem dX10_sure_24 : decode cX10_sure 24 = .ok (.iload_n 3, 1) := by decide +kernel
theorem dX10_sure_25 : decode cX10_sure 25 = .ok (.invokevirtual 130, 3) := by decide +kernel
theorem dX10_sure_28 : decode cX10_sure 28 = .ok (.ifCond .eq 14, 3) := by decide +kernel
theorem dX10_sure_31 : decode cX10_sure 31 = .ok (.iconst 1, 1) := by decide +kernel
theorem dX10_sure_32 : decode cX10_sure 32 = .ok (.aload_n 0, 1) := by decide +kernel
theorem dX10_sure_33 : decode cX10_sure 33 = .ok (.getfield 33, 3) := by decide +kernel
theorem dX10_sure_36 : decode cX10_sure 36 = .ok (.iload_n 1, 1) := by decide +kernel
theorem dX10_sure_37 : decode cX10_sure 37 = .ok (.iaload, 1) := by decide +kernel
theorem dX10_sure_38 : decode cX10_sure 38 = .ok (.ishl, 1) := by decide +kernel
theorem dX10_sure_39 : decode cX10_sure 39 = .ok (.goto 4, 3) := by decide +kernel
theorem dX10_sure_42 : decode cX10_sure 42 = .ok (.iconst 0, 1) := by decide +kernel
theorem dX10_sure_43 : decode cX10_sure 43 = .ok (.ior, 1) := by decide +kernel
theorem dX10_sure_44 : decode cX10_sure 44 = .ok (.istore_n 2, 1) := by decide +kernel
theorem dX10_sure_45 : decode cX10_sure 45 = .ok (.iinc 3 1, 3) := by decide +kernel
theorem dX10_sure_48 : decode cX10_sure 48 = .ok (.goto (-34), 3) := by decide +kernel
theorem dX10_sure_51 : decode cX10_sure 51 = .ok (.bipush (-9), 2) := by decide +kernel
theorem dX10_sure_53 : decode cX10_sure 53 = .ok (.istore_n 3, 1) := by decide +kernel
theorem dX10_sure_54 : decode cX10_sure 54 = .ok (.iconst 0, 1) := by decide +kernel
theorem dX10_sure_55 : decode cX10_sure 55 = .ok (.istore 4, 2) := by decide +kernel
theorem dX10_sure_57 : decode cX10_sure 57 = .ok (.iload 4, 2) := by decide +kernel
theorem dX10_sure_59 : decode cX10_sure 59 = .ok (.bipush 10, 2) := by decide +kernel
theorem dX10_sure_61 : decode cX10_sure 61 = .ok (.if_icmp .ge 24, 3) := by decide +kernel
theorem dX10_sure_64 : decode cX10_sure 64 = .ok (.iload_n 2, 1) := by decide +kernel
theorem dX10_sure_65 : decode cX10_sure 65 = .ok (.iconst 1, 1) := by decide +kernel
theorem dX10_sure_66 : decode cX10_sure 66 = .ok (.iload 4, 2) := by decide +kernel
theorem dX10_sure_68 : decode cX10_sure 68 = .ok (.ishl, 1) := by decide +kernel
theorem dX10_sure_69 : decode cX10_sure 69 = .ok (.if_icmp .ne 8, 3) := by decide +kernel
theorem dX10_sure_72 : decode cX10_sure 72 = .ok (.iload 4, 2) := by decide +kernel
theorem dX10_sure_74 : decode cX10_sure 74 = .ok (.goto 4, 3) := by decide +kernel
theorem dX10_sure_77 : decode cX10_sure 77 = .ok (.iload_n 3, 1) := by decide +kernel
theorem dX10_sure_78 : decode cX10_sure 78 = .ok (.istore_n 3, 1) := by decide +kernel
theorem dX10_sure_79 : decode cX10_sure 79 = .ok (.iinc 4 1, 3) := by decide +kernel
theorem dX10_sure_82 : decode cX10_sure 82 = .ok (.goto (-25), 3) := by decide +kernel
theorem dX10_sure_85 : decode cX10_sure 85 = .ok (.iload_n 3, 1) := by decide +kernel
theorem dX10_sure_86 : decode cX10_sure 86 = .ok (.ireturn, 1) := by decide +kernel
theorem dX10_bitsIn_0 : decode cX10_bitsIn 0 = .ok (.iconst 0, 1) := by decide +kernel
theorem dX10_bitsIn_1 : decode cX10_bitsIn 1 = .ok (.istore_n 1, 1) := by decide +kernel
theorem dX10_bitsIn_2 : decode cX10_bitsIn 2 = .ok (.iconst 0, 1) := by decide +kernel
theorem dX10_bitsIn_3 : decode cX10_bitsIn 3 = .ok (.istore_n 2, 1) := by decide +kernel
theorem dX10_bitsIn_4 : decode cX10_bitsIn 4 = .ok (.iload_n 2, 1) := by decide +kernel
theorem dX10_bitsIn_5 : decode cX10_bitsIn 5 = .ok (.bipush 12, 2) := by decide +kernel
theorem dX10_bitsIn_7 : decode cX10_bitsIn 7 = .ok (.if_icmp .ge 17, 3) := by decide +kernel
theorem dX10_bitsIn_10 : decode cX10_bitsIn 10 = .ok (.iload_n 1, 1) := by decide +kernel
theorem dX10_bitsIn_11 : decode cX10_bitsIn 11 = .ok (.iload_n 0, 1) := by decide +kernel
theorem dX10_bitsIn_12 : decode cX10_bitsIn 12 = .ok (.iload_n 2, 1) := by decide +kernel
theorem dX10_bitsIn_13 : decode cX10_bitsIn 13 = .ok (.ishr, 1) := by decide +kernel
theorem dX10_bitsIn_14 : decode cX10_bitsIn 14 = .ok (.iconst 1, 1) := by decide +kernel
theorem dX10_bitsIn_15 : decode cX10_bitsIn 15 = .ok (.iand, 1) := by decide +kernel
theorem dX10_bitsIn_16 : decode cX10_bitsIn 16 = .ok (.iadd, 1) := by decide +kernel
theorem dX10_bitsIn_17 : decode cX10_bitsIn 17 = .ok (.istore_n 1, 1) := by decide +kernel
theorem dX10_bitsIn_18 : decode cX10_bitsIn 18 = .ok (.iinc 2 1, 3) := by decide +kernel
theorem dX10_bitsIn_21 : decode cX10_bitsIn 21 = .ok (.goto (-17), 3) := by decide +kernel
theorem dX10_bitsIn_24 : decode cX10_bitsIn 24 = .ok (.iload_n 1, 1) := by decide +kernel
theorem dX10_bitsIn_25 : decode cX10_bitsIn 25 = .ok (.ireturn, 1) := by decide +kernel
theorem dX10_wrong_0 : decode cX10_wrong 0 = .ok (.iload_n 1, 1) := by decide +kernel
theorem dX10_wrong_1 : decode cX10_wrong 1 = .ok (.iconst 0, 1) := by decide +kernel
theorem dX10_wrong_2 : decode cX10_wrong 2 = .ok (.iconst 1, 1) := by decide +kernel
theorem dX10_wrong_3 : decode cX10_wrong 3 = .ok (.invokestatic 48, 3) := by decide +kernel
theorem dX10_wrong_6 : decode cX10_wrong 6 = .ok (.ifCond .ne 5, 3) := by decide +kernel
theorem dX10_wrong_9 : decode cX10_wrong 9 = .ok (.iconst (-1), 1) := by decide +kernel
theorem dX10_wrong_10 : decode cX10_wrong 10 = .ok (.ireturn, 1) := by decide +kernel
theorem dX10_wrong_11 : decode cX10_wrong 11 = .ok (.bipush 13, 2) := by decide +kernel
theorem dX10_wrong_13 : decode cX10_wrong 13 = .ok (.istore_n 2, 1) := by decide +kernel
theorem dX10_wrong_14 : decode cX10_wrong 14 = .ok (.iconst 0, 1) := by decide +kernel
theorem dX10_wrong_15 : decode cX10_wrong 15 = .ok (.istore_n 3, 1) := by decide +kernel
theorem dX10_wrong_16 : decode cX10_wrong 16 = .ok (.iconst 0, 1) := by decide +kernel
theorem dX10_wrong_17 : decode cX10_wrong 17 = .ok (.istore 4, 2) := by decide +kernel
theorem dX10_wrong_19 : decode cX10_wrong 19 = .ok (.iload 4, 2) := by decide +kernel
theorem dX10_wrong_21 : decode cX10_wrong 21 = .ok (.aload_n 0, 1) := by decide +kernel
theorem dX10_wrong_22 : decode cX10_wrong 22 = .ok (.invokevirtual 127, 3) := by decide +kernel
theorem dX10_wrong_25 : decode cX10_wrong 25 = .ok (.if_icmp .ge 67, 3) := by decide +kernel
theorem dX10_wrong_28 : decode cX10_wrong 28 = .ok (.aload_n 0, 1) := by decide +kernel
theorem dX10_wrong_29 : decode cX10_wrong 29 = .ok (.iload 4, 2) := by decide +kernel
theorem dX10_wrong_31 : decode cX10_wrong 31 = .ok (.invokevirtual 120, 3) := by decide +kernel
theorem dX10_wrong_34 : decode cX10_wrong 34 = .ok (.aload_n 0, 1) := by decide +kernel
theorem dX10_wrong_35 : decode cX10_wrong 35 = .ok (.invokevirtual 124, 3) := by decide +kernel
theorem dX10_wrong_38 : decode cX10_wrong 38 = .ok (.istore 5, 2) := by decide +kernel
theorem dX10_wrong_40 : decode cX10_wrong 40 = .ok (.iload 5, 2) := by decide +kernel
theorem dX10_wrong_42 : decode cX10_wrong 42 = .ok (.invokestatic 139, 3) := by decide +kernel
theorem dX10_wrong_45 : decode cX10_wrong 45 = .ok (.istore 6, 2) := by decide +kernel
theorem dX10_wrong_47 : decode cX10_wrong 47 = .ok (.iload 6, 2) := by decide +kernel
theorem dX10_wrong_49 : decode cX10_wrong 49 = .ok (.iload_n 2, 1) := by decide +kernel
theorem dX10_wrong_50 : decode cX10_wrong 50 = .ok (.if_icmp .ge 8, 3) := by decide +kernel
theorem dX10_wrong_53 : decode cX10_wrong 53 = .ok (.iload 5, 2) := by decide +kernel
theorem dX10_wrong_55 : decode cX10_wrong 55 = .ok (.goto 17, 3) := by decide +kernel
theorem dX10_wrong_58 : decode cX10_wrong 58 = .ok (.iload 6, 2) := by decide +kernel
theorem dX10_wrong_60 : decode cX10_wrong 60 = .ok (.iload_n 2, 1) := by decide +kernel
theorem dX10_wrong_61 : decode cX10_wrong 61 = .ok (.if_icmp .ne 10, 3) := by decide +kernel
theorem dX10_wrong_64 : decode cX10_wrong 64 = .ok (.iload_n 3, 1) := by decide +kernel
theorem dX10_wrong_65 : decode cX10_wrong 65 = .ok (.iload 5, 2) := by decide +kernel
theorem dX10_wrong_67 : decode cX10_wrong 67 = .ok (.iand, 1) := by decide +kernel
theorem dX10_wrong_68 : decode cX10_wrong 68 = .ok (.goto 4, 3) := by decide +kernel
theorem dX10_wrong_71 : decode cX10_wrong 71 = .ok (.iload_n 3, 1) := by decide +kernel
theorem dX10_wrong_72 : decode cX10_wrong 72 = .ok (.istore_n 3, 1) := by decide +kernel
theorem dX10_wrong_73 : decode cX10_wrong 73 = .ok (.iload 6, 2) := by decide +kernel
theorem dX10_wrong_75 : decode cX10_wrong 75 = .ok (.iload_n 2, 1) := by decide +kernel
theorem dX10_wrong_76 : decode cX10_wrong 76 = .ok (.if_icmp .ge 8, 3) := by decide +kernel
theorem dX10_wrong_79 : decode cX10_wrong 79 = .ok (.iload 6, 2) := by decide +kernel
theorem dX10_wrong_81 : decode cX10_wrong 81 = .ok (.goto 4, 3) := by decide +kernel
theorem dX10_wrong_84 : decode cX10_wrong 84 = .ok (.iload_n 2, 1) := by decide +kernel
theorem dX10_wrong_85 : decode cX10_wrong 85 = .ok (.istore_n 2, 1) := by decide +kernel
theorem dX10_wrong_86 : decode cX10_wrong 86 = .ok (.iinc 4 1, 3) := by decide +kernel
theorem dX10_wrong_89 : decode cX10_wrong 89 = .ok (.goto (-70), 3) := by decide +kernel
theorem dX10_wrong_92 : decode cX10_wrong 92 = .ok (.iload_n 1, 1) := by decide +kernel
theorem dX10_wrong_93 : decode cX10_wrong 93 = .ok (.ifCond .ne 7, 3) := by decide +kernel
theorem dX10_wrong_96 : decode cX10_wrong 96 = .ok (.iload_n 2, 1) := by decide +kernel
theorem dX10_wrong_97 : decode cX10_wrong 97 = .ok (.goto 4, 3) := by decide +kernel
theorem dX10_wrong_100 : decode cX10_wrong 100 = .ok (.iload_n 3, 1) := by decide +kernel
theorem dX10_wrong_101 : decode cX10_wrong 101 = .ok (.ireturn, 1) := by decide +kernel
theorem dX10_worstOf_0 : decode cX10_worstOf 0 = .ok (.iconst 0, 1) := by decide +kernel
theorem dX10_worstOf_1 : decode cX10_worstOf 1 = .ok (.istore_n 2, 1) := by decide +kernel
theorem dX10_worstOf_2 : decode cX10_worstOf 2 = .ok (.iload_n 2, 1) := by decide +kernel
theorem dX10_worstOf_3 : decode cX10_worstOf 3 = .ok (.bipush 20, 2) := by decide +kernel
theorem dX10_worstOf_5 : decode cX10_worstOf 5 = .ok (.if_icmp .ge 16, 3) := by decide +kernel
theorem dX10_worstOf_8 : decode cX10_worstOf 8 = .ok (.aload_n 0, 1) := by decide +kernel
theorem dX10_worstOf_9 : decode cX10_worstOf 9 = .ok (.getfield 36, 3) := by decide +kernel
theorem dX10_worstOf_12 : decode cX10_worstOf 12 = .ok (.iload_n 2, 1) := by decide +kernel
theorem dX10_worstOf_13 : decode cX10_worstOf 13 = .ok (.iconst 0, 1) := by decide +kernel
theorem dX10_worstOf_14 : decode cX10_worstOf 14 = .ok (.iastore, 1) := by decide +kernel
theorem dX10_worstOf_15 : decode cX10_worstOf 15 = .ok (.iinc 2 1, 3) := by decide +kernel
theorem dX10_worstOf_18 : decode cX10_worstOf 18 = .ok (.goto (-16), 3) := by decide +kernel
theorem dX10_worstOf_21 : decode cX10_worstOf 21 = .ok (.iconst 0, 1) := by decide +kernel
theorem dX10_worstOf_22 : decode cX10_worstOf 22 = .ok (.istore_n 2, 1) := by decide +kernel
theorem dX10_worstOf_23 : decode cX10_worstOf 23 = .ok (.iload_n 2, 1) := by decide +kernel
theorem dX10_worstOf_24 : decode cX10_worstOf 24 = .ok (.aload_n 0, 1) := by decide +kernel
theorem dX10_worstOf_25 : decode cX10_worstOf 25 = .ok (.invokevirtual 127, 3) := by decide +kernel
theorem dX10_worstOf_28 : decode cX10_worstOf 28 = .ok (.if_icmp .ge 31, 3) := by decide +kernel
theorem dX10_worstOf_31 : decode cX10_worstOf 31 = .ok (.aload_n 0, 1) := by decide +kernel
theorem dX10_worstOf_32 : decode cX10_worstOf 32 = .ok (.iload_n 2, 1) := by decide +kernel
theorem dX10_worstOf_33 : decode cX10_worstOf 33 = .ok (.invokevirtual 130, 3) := by decide +kernel
theorem dX10_worstOf_36 : decode cX10_worstOf 36 = .ok (.ifCond .eq 17, 3) := by decide +kernel
theorem dX10_worstOf_39 : decode cX10_worstOf 39 = .ok (.aload_n 0, 1) := by decide +kernel
theorem dX10_worstOf_40 : decode cX10_worstOf 40 = .ok (.getfield 36, 3) := by decide +kernel
theorem dX10_worstOf_43 : decode cX10_worstOf 43 = .ok (.aload_n 0, 1) := by decide +kernel
theorem dX10_worstOf_44 : decode cX10_worstOf 44 = .ok (.iload_n 1, 1) := by decide +kernel
theorem dX10_worstOf_45 : decode cX10_worstOf 45 = .ok (.invokevirtual 114, 3) := by decide +kernel
theorem dX10_worstOf_48 : decode cX10_worstOf 48 = .ok (.dup2, 1) := by decide +kernel
theorem dX10_worstOf_49 : decode cX10_worstOf 49 = .ok (.iaload, 1) := by decide +kernel
theorem dX10_worstOf_50 : decode cX10_worstOf 50 = .ok (.iconst 1, 1) := by decide +kernel
theorem dX10_worstOf_51 : decode cX10_worstOf 51 = .ok (.iadd, 1) := by decide +kernel
theorem dX10_worstOf_52 : decode cX10_worstOf 52 = .ok (.iastore, 1) := by decide +kernel
theorem dX10_worstOf_53 : decode cX10_worstOf 53 = .ok (.iinc 2 1, 3) := by decide +kernel
theorem dX10_worstOf_56 : decode cX10_worstOf 56 = .ok (.goto (-33), 3) := by decide +kernel
theorem dX10_worstOf_59 : decode cX10_worstOf 59 = .ok (.iconst 0, 1) := by decide +kernel
theorem dX10_worstOf_60 : decode cX10_worstOf 60 = .ok (.istore_n 2, 1) := by decide +kernel
theorem dX10_worstOf_61 : decode cX10_worstOf 61 = .ok (.iconst 0, 1) := by decide +kernel
theorem dX10_worstOf_62 : decode cX10_worstOf 62 = .ok (.istore_n 3, 1) := by decide +kernel
theorem dX10_worstOf_63 : decode cX10_worstOf 63 = .ok (.iload_n 3, 1) := by decide +kernel
theorem dX10_worstOf_64 : decode cX10_worstOf 64 = .ok (.bipush 20, 2) := by decide +kernel
theorem dX10_worstOf_66 : decode cX10_worstOf 66 = .ok (.if_icmp .ge 30, 3) := by decide +kernel
theorem dX10_worstOf_69 : decode cX10_worstOf 69 = .ok (.aload_n 0, 1) := by decide +kernel
theorem dX10_worstOf_70 : decode cX10_worstOf 70 = .ok (.getfield 36, 3) := by decide +kernel
theorem dX10_worstOf_73 : decode cX10_worstOf 73 = .ok (.iload_n 3, 1) := by decide +kernel
theorem dX10_worstOf_74 : decode cX10_worstOf 74 = .ok (.iaload, 1) := by decide +kernel
theorem dX10_worstOf_75 : decode cX10_worstOf 75 = .ok (.iload_n 2, 1) := by decide +kernel
theorem dX10_worstOf_76 : decode cX10_worstOf 76 = .ok (.if_icmp .le 12, 3) := by decide +kernel
theorem dX10_worstOf_79 : decode cX10_worstOf 79 = .ok (.aload_n 0, 1) := by decide +kernel
theorem dX10_worstOf_80 : decode cX10_worstOf 80 = .ok (.getfield 36, 3) := by decide +kernel
theorem dX10_worstOf_83 : decode cX10_worstOf 83 = .ok (.iload_n 3, 1) := by decide +kernel
theorem dX10_worstOf_84 : decode cX10_worstOf 84 = .ok (.iaload, 1) := by decide +kernel
theorem dX10_worstOf_85 : decode cX10_worstOf 85 = .ok (.goto 4, 3) := by decide +kernel
theorem dX10_worstOf_88 : decode cX10_worstOf 88 = .ok (.iload_n 2, 1) := by decide +kernel
theorem dX10_worstOf_89 : decode cX10_worstOf 89 = .ok (.istore_n 2, 1) := by decide +kernel
theorem dX10_worstOf_90 : decode cX10_worstOf 90 = .ok (.iinc 3 1, 3) := by decide +kernel
theorem dX10_worstOf_93 : decode cX10_worstOf 93 = .ok (.goto (-30), 3) := by decide +kernel
theorem dX10_worstOf_96 : decode cX10_worstOf 96 = .ok (.iload_n 2, 1) := by decide +kernel
theorem dX10_worstOf_97 : decode cX10_worstOf 97 = .ok (.ireturn, 1) := by decide +kernel
theorem dX10_next_0 : decode cX10_next 0 = .ok (.iload_n 1, 1) := by decide +kernel
theorem dX10_next_1 : decode cX10_next 1 = .ok (.iconst 0, 1) := by decide +kernel
theorem dX10_next_2 : decode cX10_next 2 = .ok (.iconst 1, 1) := by decide +kernel
theorem dX10_next_3 : decode cX10_next 3 = .ok (.invokestatic 48, 3) := by decide +kernel
theorem dX10_next_6 : decode cX10_next 6 = .ok (.ifCond .ne 5, 3) := by decide +kernel
theorem dX10_next_9 : decode cX10_next 9 = .ok (.iconst (-1), 1) := by decide +kernel
theorem dX10_next_10 : decode cX10_next 10 = .ok (.ireturn, 1) := by decide +kernel
theorem dX10_next_11 : decode cX10_next 11 = .ok (.bipush (-9), 2) := by decide +kernel
theorem dX10_next_13 : decode cX10_next 13 = .ok (.istore_n 2, 1) := by decide +kernel
theorem dX10_next_14 : decode cX10_next 14 = .ok (.bipush (-9), 2) := by decide +kernel
theorem dX10_next_16 : decode cX10_next 16 = .ok (.istore_n 3, 1) := by decide +kernel
theorem dX10_next_17 : decode cX10_next 17 = .ok (.iconst 1, 1) := by decide +kernel
theorem dX10_next_18 : decode cX10_next 18 = .ok (.istore 4, 2) := by decide +kernel
theorem dX10_next_20 : decode cX10_next 20 = .ok (.iload 4, 2) := by decide +kernel
theorem dX10_next_22 : decode cX10_next 22 = .ok (.iconst 1, 1) := by decide +kernel
theorem dX10_next_23 : decode cX10_next 23 = .ok (.aload_n 0, 1) := by decide +kernel
theorem dX10_next_24 : decode cX10_next 24 = .ok (.getfield 13, 3) := by decide +kernel
theorem dX10_next_27 : decode cX10_next 27 = .ok (.iconst 0, 1) := by decide +kernel
theorem dX10_next_28 : decode cX10_next 28 = .ok (.iaload, 1) := by decide +kernel
theorem dX10_next_29 : decode cX10_next 29 = .ok (.ishl, 1) := by decide +kernel
theorem dX10_next_30 : decode cX10_next 30 = .ok (.if_icmp .ge 35, 3) := by decide +kernel
theorem dX10_next_33 : decode cX10_next 33 = .ok (.aload_n 0, 1) := by decide +kernel
theorem dX10_next_34 : decode cX10_next 34 = .ok (.iload 4, 2) := by decide +kernel
theorem dX10_next_36 : decode cX10_next 36 = .ok (.invokevirtual 142, 3) := by decide +kernel
theorem dX10_next_39 : decode cX10_next 39 = .ok (.istore 5, 2) := by decide +kernel
theorem dX10_next_41 : decode cX10_next 41 = .ok (.iload_n 2, 1) := by decide +kernel
theorem dX10_next_42 : decode cX10_next 42 = .ok (.bipush (-9), 2) := by decide +kernel
theorem dX10_next_44 : decode cX10_next 44 = .ok (.if_icmp .eq 9, 3) := by decide +kernel
theorem dX10_next_47 : decode cX10_next 47 = .ok (.iload 5, 2) := by decide +kernel
theorem dX10_next_49 : decode cX10_next 49 = .ok (.iload_n 3, 1) := by decide +kernel
theorem dX10_next_50 : decode cX10_next 50 = .ok (.if_icmp .ge 9, 3) := by decide +kernel
theorem dX10_next_53 : decode cX10_next 53 = .ok (.iload 4, 2) := by decide +kernel
theorem dX10_next_55 : decode cX10_next 55 = .ok (.istore_n 2, 1) := by decide +kernel
theorem dX10_next_56 : decode cX10_next 56 = .ok (.iload 5, 2) := by decide +kernel
theorem dX10_next_58 : decode cX10_next 58 = .ok (.istore_n 3, 1) := by decide +kernel
theorem dX10_next_59 : decode cX10_next 59 = .ok (.iinc 4 1, 3) := by decide +kernel
theorem dX10_next_62 : decode cX10_next 62 = .ok (.goto (-42), 3) := by decide +kernel
theorem dX10_next_65 : decode cX10_next 65 = .ok (.iload_n 1, 1) := by decide +kernel
theorem dX10_next_66 : decode cX10_next 66 = .ok (.ifCond .ne 7, 3) := by decide +kernel
theorem dX10_next_69 : decode cX10_next 69 = .ok (.iload_n 2, 1) := by decide +kernel
theorem dX10_next_70 : decode cX10_next 70 = .ok (.goto 4, 3) := by decide +kernel
theorem dX10_next_73 : decode cX10_next 73 = .ok (.iload_n 3, 1) := by decide +kernel
theorem dX10_next_74 : decode cX10_next 74 = .ok (.ireturn, 1) := by decide +kernel
theorem dX10_part_0 : decode cX10_part 0 = .ok (.iconst 0, 1) := by decide +kernel
theorem dX10_part_1 : decode cX10_part 1 = .ok (.istore 4, 2) := by decide +kernel
theorem dX10_part_3 : decode cX10_part 3 = .ok (.iload 4, 2) := by decide +kernel
theorem dX10_part_5 : decode cX10_part 5 = .ok (.sipush 400, 3) := by decide +kernel
theorem dX10_part_8 : decode cX10_part 8 = .ok (.if_icmp .ge 17, 3) := by decide +kernel
theorem dX10_part_11 : decode cX10_part 11 = .ok (.aload_n 0, 1) := by decide +kernel
theorem dX10_part_12 : decode cX10_part 12 = .ok (.getfield 39, 3) := by decide +kernel
theorem dX10_part_15 : decode cX10_part 15 = .ok (.iload 4, 2) := by decide +kernel
theorem dX10_part_17 : decode cX10_part 17 = .ok (.iconst 0, 1) := by decide +kernel
theorem dX10_part_18 : decode cX10_part 18 = .ok (.iastore, 1) := by decide +kernel
theorem dX10_part_19 : decode cX10_part 19 = .ok (.iinc 4 1, 3) := by decide +kernel
theorem dX10_part_22 : decode cX10_part 22 = .ok (.goto (-19), 3) := by decide +kernel
theorem dX10_part_25 : decode cX10_part 25 = .ok (.iconst 0, 1) := by decide +kernel
theorem dX10_part_26 : decode cX10_part 26 = .ok (.istore 4, 2) := by decide +kernel
theorem dX10_part_28 : decode cX10_part 28 = .ok (.iload 4, 2) := by decide +kernel
theorem dX10_part_30 : decode cX10_part 30 = .ok (.bipush 20, 2) := by decide +kernel
theorem dX10_part_32 : decode cX10_part 32 = .ok (.if_icmp .ge 17, 3) := by decide +kernel
theorem dX10_part_35 : decode cX10_part 35 = .ok (.aload_n 0, 1) := by decide +kernel
theorem dX10_part_36 : decode cX10_part 36 = .ok (.getfield 42, 3) := by decide +kernel
theorem dX10_part_39 : decode cX10_part 39 = .ok (.iload 4, 2) := by decide +kernel
theorem dX10_part_41 : decode cX10_part 41 = .ok (.iconst 0, 1) := by decide +kernel
theorem dX10_part_42 : decode cX10_part 42 = .ok (.bastore, 1) := by decide +kernel
theorem dX10_part_43 : decode cX10_part 43 = .ok (.iinc 4 1, 3) := by decide +kernel
theorem dX10_part_46 : decode cX10_part 46 = .ok (.goto (-18), 3) := by decide +kernel
theorem dX10_part_49 : decode cX10_part 49 = .ok (.iconst 0, 1) := by decide +kernel
theorem dX10_part_50 : decode cX10_part 50 = .ok (.istore 4, 2) := by decide +kernel
theorem dX10_part_52 : decode cX10_part 52 = .ok (.iload 4, 2) := by decide +kernel
theorem dX10_part_54 : decode cX10_part 54 = .ok (.aload_n 0, 1) := by decide +kernel
theorem dX10_part_55 : decode cX10_part 55 = .ok (.invokevirtual 127, 3) := by decide +kernel
theorem dX10_part_58 : decode cX10_part 58 = .ok (.if_icmp .ge 101, 3) := by decide +kernel
theorem dX10_part_61 : decode cX10_part 61 = .ok (.aload_n 0, 1) := by decide +kernel
theorem dX10_part_62 : decode cX10_part 62 = .ok (.iload 4, 2) := by decide +kernel
theorem dX10_part_64 : decode cX10_part 64 = .ok (.invokevirtual 130, 3) := by decide +kernel
theorem dX10_part_67 : decode cX10_part 67 = .ok (.ifCond .eq 86, 3) := by decide +kernel
theorem dX10_part_70 : decode cX10_part 70 = .ok (.aload_n 0, 1) := by decide +kernel
theorem dX10_part_71 : decode cX10_part 71 = .ok (.iload_n 2, 1) := by decide +kernel
theorem dX10_part_72 : decode cX10_part 72 = .ok (.invokevirtual 114, 3) := by decide +kernel
theorem dX10_part_75 : decode cX10_part 75 = .ok (.istore 5, 2) := by decide +kernel
theorem dX10_part_77 : decode cX10_part 77 = .ok (.bipush 20, 2) := by decide +kernel
theorem dX10_part_79 : decode cX10_part 79 = .ok (.iload 5, 2) := by decide +kernel
theorem dX10_part_81 : decode cX10_part 81 = .ok (.imul, 1) := by decide +kernel
theorem dX10_part_82 : decode cX10_part 82 = .ok (.aload_n 0, 1) := by decide +kernel
theorem dX10_part_83 : decode cX10_part 83 = .ok (.iload_n 3, 1) := by decide +kernel
theorem dX10_part_84 : decode cX10_part 84 = .ok (.invokevirtual 114, 3) := by decide +kernel
theorem dX10_part_87 : decode cX10_part 87 = .ok (.iadd, 1) := by decide +kernel
theorem dX10_part_88 : decode cX10_part 88 = .ok (.istore 6, 2) := by decide +kernel
theorem dX10_part_90 : decode cX10_part 90 = .ok (.iconst 1, 1) := by decide +kernel
theorem dX10_part_91 : decode cX10_part 91 = .ok (.aload_n 0, 1) := by decide +kernel
theorem dX10_part_92 : decode cX10_part 92 = .ok (.getfield 33, 3) := by decide +kernel
theorem dX10_part_95 : decode cX10_part 95 = .ok (.iload_n 1, 1) := by decide +kernel
theorem dX10_part_96 : decode cX10_part 96 = .ok (.iaload, 1) := by decide +kernel
theorem dX10_part_97 : decode cX10_part 97 = .ok (.iadd, 1) := by decide +kernel
theorem dX10_part_98 : decode cX10_part 98 = .ok (.istore 7, 2) := by decide +kernel
theorem dX10_part_100 : decode cX10_part 100 = .ok (.aload_n 0, 1) := by decide +kernel
theorem dX10_part_101 : decode cX10_part 101 = .ok (.getfield 42, 3) := by decide +kernel
theorem dX10_part_104 : decode cX10_part 104 = .ok (.iload 5, 2) := by decide +kernel
theorem dX10_part_106 : decode cX10_part 106 = .ok (.aload_n 0, 1) := by decide +kernel
theorem dX10_part_107 : decode cX10_part 107 = .ok (.getfield 42, 3) := by decide +kernel
theorem dX10_part_110 : decode cX10_part 110 = .ok (.iload 5, 2) := by decide +kernel
theorem dX10_part_112 : decode cX10_part 112 = .ok (.baload, 1) := by decide +kernel
theorem dX10_part_113 : decode cX10_part 113 = .ok (.ifCond .ne 25, 3) := by decide +kernel
theorem dX10_part_116 : decode cX10_part 116 = .ok (.aload_n 0, 1) := by decide +kernel
theorem dX10_part_117 : decode cX10_part 117 = .ok (.getfield 39, 3) := by decide +kernel
theorem dX10_part_120 : decode cX10_part 120 = .ok (.iload 6, 2) := by decide +kernel
theorem dX10_part_122 : decode cX10_part 122 = .ok (.iaload, 1) := by decide +kernel
theorem dX10_part_123 : decode cX10_part 123 = .ok (.ifCond .eq 19, 3) := by decide +kernel
theorem dX10_part_126 : decode cX10_part 126 = .ok (.aload_n 0, 1) := by decide +kernel
theorem dX10_part_127 : decode cX10_part 127 = .ok (.getfield 39, 3) := by decide +kernel
theorem dX10_part_130 : decode cX10_part 130 = .ok (.iload 6, 2) := by decide +kernel
theorem dX10_part_132 : decode cX10_part 132 = .ok (.iaload, 1) := by decide +kernel
theorem dX10_part_133 : decode cX10_part 133 = .ok (.iload 7, 2) := by decide +kernel
theorem dX10_part_135 : decode cX10_part 135 = .ok (.if_icmp .eq 7, 3) := by decide +kernel
theorem dX10_part_138 : decode cX10_part 138 = .ok (.iconst 1, 1) := by decide +kernel
theorem dX10_part_139 : decode cX10_part 139 = .ok (.goto 4, 3) := by decide +kernel
theorem dX10_part_142 : decode cX10_part 142 = .ok (.iconst 0, 1) := by decide +kernel
theorem dX10_part_143 : decode cX10_part 143 = .ok (.bastore, 1) := by decide +kernel
theorem dX10_part_144 : decode cX10_part 144 = .ok (.aload_n 0, 1) := by decide +kernel
theorem dX10_part_145 : decode cX10_part 145 = .ok (.getfield 39, 3) := by decide +kernel
theorem dX10_part_148 : decode cX10_part 148 = .ok (.iload 6, 2) := by decide +kernel
theorem dX10_part_150 : decode cX10_part 150 = .ok (.iload 7, 2) := by decide +kernel
theorem dX10_part_152 : decode cX10_part 152 = .ok (.iastore, 1) := by decide +kernel
theorem dX10_part_153 : decode cX10_part 153 = .ok (.iinc 4 1, 3) := by decide +kernel
theorem dX10_part_156 : decode cX10_part 156 = .ok (.goto (-104), 3) := by decide +kernel
theorem dX10_part_159 : decode cX10_part 159 = .ok (.return_, 1) := by decide +kernel
theorem dX10_anyBad_0 : decode cX10_anyBad 0 = .ok (.iconst 0, 1) := by decide +kernel
theorem dX10_anyBad_1 : decode cX10_anyBad 1 = .ok (.istore_n 1, 1) := by decide +kernel
theorem dX10_anyBad_2 : decode cX10_anyBad 2 = .ok (.iconst 0, 1) := by decide +kernel
theorem dX10_anyBad_3 : decode cX10_anyBad 3 = .ok (.istore_n 2, 1) := by decide +kernel
theorem dX10_anyBad_4 : decode cX10_anyBad 4 = .ok (.iload_n 2, 1) := by decide +kernel
theorem dX10_anyBad_5 : decode cX10_anyBad 5 = .ok (.bipush 20, 2) := by decide +kernel
theorem dX10_anyBad_7 : decode cX10_anyBad 7 = .ok (.if_icmp .ge 28, 3) := by decide +kernel
theorem dX10_anyBad_10 : decode cX10_anyBad 10 = .ok (.iload_n 1, 1) := by decide +kernel
theorem dX10_anyBad_11 : decode cX10_anyBad 11 = .ok (.ifCond .ne 12, 3) := by decide +kernel
theorem dX10_anyBad_14 : decode cX10_anyBad 14 = .ok (.aload_n 0, 1) := by decide +kernel
theorem dX10_anyBad_15 : decode cX10_anyBad 15 = .ok (.getfield 42, 3) := by decide +kernel
theorem dX10_anyBad_18 : decode cX10_anyBad 18 = .ok (.iload_n 2, 1) := by decide +kernel
theorem dX10_anyBad_19 : decode cX10_anyBad 19 = .ok (.baload, 1) := by decide +kernel
theorem dX10_anyBad_20 : decode cX10_anyBad 20 = .ok (.ifCond .eq 7, 3) := by decide +kernel
theorem dX10_anyBad_23 : decode cX10_anyBad 23 = .ok (.iconst 1, 1) := by decide +kernel
theorem dX10_anyBad_24 : decode cX10_anyBad 24 = .ok (.goto 4, 3) := by decide +kernel
theorem dX10_anyBad_27 : decode cX10_anyBad 27 = .ok (.iconst 0, 1) := by decide +kernel
theorem dX10_anyBad_28 : decode cX10_anyBad 28 = .ok (.istore_n 1, 1) := by decide +kernel
theorem dX10_anyBad_29 : decode cX10_anyBad 29 = .ok (.iinc 2 1, 3) := by decide +kernel
theorem dX10_anyBad_32 : decode cX10_anyBad 32 = .ok (.goto (-28), 3) := by decide +kernel
theorem dX10_anyBad_35 : decode cX10_anyBad 35 = .ok (.iload_n 1, 1) := by decide +kernel
theorem dX10_anyBad_36 : decode cX10_anyBad 36 = .ok (.ireturn, 1) := by decide +kernel
theorem dX10_isEnough_0 : decode cX10_isEnough 0 = .ok (.ldc 145, 2) := by decide +kernel
theorem dX10_isEnough_2 : decode cX10_isEnough 2 = .ok (.istore_n 3, 1) := by decide +kernel
theorem dX10_isEnough_3 : decode cX10_isEnough 3 = .ok (.iconst 0, 1) := by decide +kernel
theorem dX10_isEnough_4 : decode cX10_isEnough 4 = .ok (.istore 4, 2) := by decide +kernel
theorem dX10_isEnough_6 : decode cX10_isEnough 6 = .ok (.iload 4, 2) := by decide +kernel
theorem dX10_isEnough_8 : decode cX10_isEnough 8 = .ok (.iconst 1, 1) := by decide +kernel
theorem dX10_isEnough_9 : decode cX10_isEnough 9 = .ok (.aload_n 0, 1) := by decide +kernel
theorem dX10_isEnough_10 : decode cX10_isEnough 10 = .ok (.getfield 13, 3) := by decide +kernel
theorem dX10_isEnough_13 : decode cX10_isEnough 13 = .ok (.iconst 0, 1) := by decide +kernel
theorem dX10_isEnough_14 : decode cX10_isEnough 14 = .ok (.iaload, 1) := by decide +kernel
theorem dX10_isEnough_15 : decode cX10_isEnough 15 = .ok (.ishl, 1) := by decide +kernel
theorem dX10_isEnough_16 : decode cX10_isEnough 16 = .ok (.if_icmp .ge 56, 3) := by decide +kernel
theorem dX10_isEnough_19 : decode cX10_isEnough 19 = .ok (.aload_n 0, 1) := by decide +kernel
theorem dX10_isEnough_20 : decode cX10_isEnough 20 = .ok (.iload_n 1, 1) := by decide +kernel
theorem dX10_isEnough_21 : decode cX10_isEnough 21 = .ok (.iload_n 2, 1) := by decide +kernel
theorem dX10_isEnough_22 : decode cX10_isEnough 22 = .ok (.iload 4, 2) := by decide +kernel
theorem dX10_isEnough_24 : decode cX10_isEnough 24 = .ok (.invokevirtual 146, 3) := by decide +kernel
theorem dX10_isEnough_27 : decode cX10_isEnough 27 = .ok (.iconst 0, 1) := by decide +kernel
theorem dX10_isEnough_28 : decode cX10_isEnough 28 = .ok (.istore 5, 2) := by decide +kernel
theorem dX10_isEnough_30 : decode cX10_isEnough 30 = .ok (.iload 5, 2) := by decide +kernel
theorem dX10_isEnough_32 : decode cX10_isEnough 32 = .ok (.bipush 20, 2) := by decide +kernel
theorem dX10_isEnough_34 : decode cX10_isEnough 34 = .ok (.if_icmp .ge 32, 3) := by decide +kernel
theorem dX10_isEnough_37 : decode cX10_isEnough 37 = .ok (.iload_n 3, 1) := by decide +kernel
theorem dX10_isEnough_38 : decode cX10_isEnough 38 = .ok (.aload_n 0, 1) := by decide +kernel
theorem dX10_isEnough_39 : decode cX10_isEnough 39 = .ok (.getfield 42, 3) := by decide +kernel
theorem dX10_isEnough_42 : decode cX10_isEnough 42 = .ok (.iload 5, 2) := by decide +kernel
theorem dX10_isEnough_44 : decode cX10_isEnough 44 = .ok (.baload, 1) := by decide +kernel
theorem dX10_isEnough_45 : decode cX10_isEnough 45 = .ok (.ifCond .eq 7, 3) := by decide +kernel
theorem dX10_isEnough_48 : decode cX10_isEnough 48 = .ok (.iconst (-1), 1) := by decide +kernel
theorem dX10_isEnough_49 : decode cX10_isEnough 49 = .ok (.goto 9, 3) := by decide +kernel
theorem dX10_isEnough_52 : decode cX10_isEnough 52 = .ok (.iconst 1, 1) := by decide +kernel
theorem dX10_isEnough_53 : decode cX10_isEnough 53 = .ok (.iload 5, 2) := by decide +kernel
theorem dX10_isEnough_55 : decode cX10_isEnough 55 = .ok (.ishl, 1) := by decide +kernel
theorem dX10_isEnough_56 : decode cX10_isEnough 56 = .ok (.iconst (-1), 1) := by decide +kernel
theorem dX10_isEnough_57 : decode cX10_isEnough 57 = .ok (.ixor, 1) := by decide +kernel
theorem dX10_isEnough_58 : decode cX10_isEnough 58 = .ok (.iand, 1) := by decide +kernel
theorem dX10_isEnough_59 : decode cX10_isEnough 59 = .ok (.istore_n 3, 1) := by decide +kernel
theorem dX10_isEnough_60 : decode cX10_isEnough 60 = .ok (.iinc 5 1, 3) := by decide +kernel
theorem dX10_isEnough_63 : decode cX10_isEnough 63 = .ok (.goto (-33), 3) := by decide +kernel
theorem dX10_isEnough_66 : decode cX10_isEnough 66 = .ok (.iinc 4 1, 3) := by decide +kernel
theorem dX10_isEnough_69 : decode cX10_isEnough 69 = .ok (.goto (-63), 3) := by decide +kernel
theorem dX10_isEnough_72 : decode cX10_isEnough 72 = .ok (.iload_n 3, 1) := by decide +kernel
theorem dX10_isEnough_73 : decode cX10_isEnough 73 = .ok (.ifCond .ne 7, 3) := by decide +kernel
theorem dX10_isEnough_76 : decode cX10_isEnough 76 = .ok (.iconst 1, 1) := by decide +kernel
theorem dX10_isEnough_77 : decode cX10_isEnough 77 = .ok (.goto 4, 3) := by decide +kernel
theorem dX10_isEnough_80 : decode cX10_isEnough 80 = .ok (.iconst 0, 1) := by decide +kernel
theorem dX10_isEnough_81 : decode cX10_isEnough 81 = .ok (.ireturn, 1) := by decide +kernel
theorem dX10_isKnown_0 : decode cX10_isKnown 0 = .ok (.iconst 0, 1) := by decide +kernel
theorem dX10_isKnown_1 : decode cX10_isKnown 1 = .ok (.istore_n 2, 1) := by decide +kernel
theorem dX10_isKnown_2 : decode cX10_isKnown 2 = .ok (.iconst 0, 1) := by decide +kernel
theorem dX10_isKnown_3 : decode cX10_isKnown 3 = .ok (.istore_n 3, 1) := by decide +kernel
theorem dX10_isKnown_4 : decode cX10_isKnown 4 = .ok (.iload_n 3, 1) := by decide +kernel
theorem dX10_isKnown_5 : decode cX10_isKnown 5 = .ok (.aload_n 0, 1) := by decide +kernel
theorem dX10_isKnown_6 : decode cX10_isKnown 6 = .ok (.invokevirtual 127, 3) := by decide +kernel
theorem dX10_isKnown_9 : decode cX10_isKnown 9 = .ok (.if_icmp .ge 32, 3) := by decide +kernel
theorem dX10_isKnown_12 : decode cX10_isKnown 12 = .ok (.iload_n 2, 1) := by decide +kernel
theorem dX10_isKnown_13 : decode cX10_isKnown 13 = .ok (.aload_n 0, 1) := by decide +kernel
theorem dX10_isKnown_14 : decode cX10_isKnown 14 = .ok (.iload_n 3, 1) := by decide +kernel
theorem dX10_isKnown_15 : decode cX10_isKnown 15 = .ok (.invokevirtual 130, 3) := by decide +kernel
theorem dX10_isKnown_18 : decode cX10_isKnown 18 = .ok (.ifCond .eq 14, 3) := by decide +kernel
theorem dX10_isKnown_21 : decode cX10_isKnown 21 = .ok (.iconst 1, 1) := by decide +kernel
theorem dX10_isKnown_22 : decode cX10_isKnown 22 = .ok (.aload_n 0, 1) := by decide +kernel
theorem dX10_isKnown_23 : decode cX10_isKnown 23 = .ok (.getfield 33, 3) := by decide +kernel
theorem dX10_isKnown_26 : decode cX10_isKnown 26 = .ok (.iload_n 1, 1) := by decide +kernel
theorem dX10_isKnown_27 : decode cX10_isKnown 27 = .ok (.iaload, 1) := by decide +kernel
theorem dX10_isKnown_28 : decode cX10_isKnown 28 = .ok (.ishl, 1) := by decide +kernel
theorem dX10_isKnown_29 : decode cX10_isKnown 29 = .ok (.goto 4, 3) := by decide +kernel
theorem dX10_isKnown_32 : decode cX10_isKnown 32 = .ok (.iconst 0, 1) := by decide +kernel
theorem dX10_isKnown_33 : decode cX10_isKnown 33 = .ok (.ior, 1) := by decide +kernel
theorem dX10_isKnown_34 : decode cX10_isKnown 34 = .ok (.istore_n 2, 1) := by decide +kernel
theorem dX10_isKnown_35 : decode cX10_isKnown 35 = .ok (.iinc 3 1, 3) := by decide +kernel
theorem dX10_isKnown_38 : decode cX10_isKnown 38 = .ok (.goto (-34), 3) := by decide +kernel
theorem dX10_isKnown_41 : decode cX10_isKnown 41 = .ok (.iload_n 2, 1) := by decide +kernel
theorem dX10_isKnown_42 : decode cX10_isKnown 42 = .ok (.iload_n 2, 1) := by decide +kernel
theorem dX10_isKnown_43 : decode cX10_isKnown 43 = .ok (.iconst 1, 1) := by decide +kernel
theorem dX10_isKnown_44 : decode cX10_isKnown 44 = .ok (.isub, 1) := by decide +kernel
theorem dX10_isKnown_45 : decode cX10_isKnown 45 = .ok (.iand, 1) := by decide +kernel
theorem dX10_isKnown_46 : decode cX10_isKnown 46 = .ok (.ifCond .ne 7, 3) := by decide +kernel
theorem dX10_isKnown_49 : decode cX10_isKnown 49 = .ok (.iconst 1, 1) := by decide +kernel
theorem dX10_isKnown_50 : decode cX10_isKnown 50 = .ok (.goto 4, 3) := by decide +kernel
theorem dX10_isKnown_53 : decode cX10_isKnown 53 = .ok (.iconst 0, 1) := by decide +kernel
theorem dX10_isKnown_54 : decode cX10_isKnown 54 = .ok (.ireturn, 1) := by decide +kernel
theorem dX10_fewest_0 : decode cX10_fewest 0 = .ok (.aload_n 0, 1) := by decide +kernel
theorem dX10_fewest_1 : decode cX10_fewest 1 = .ok (.iload_n 1, 1) := by decide +kernel
theorem dX10_fewest_2 : decode cX10_fewest 2 = .ok (.invokevirtual 133, 3) := by decide +kernel
theorem dX10_fewest_5 : decode cX10_fewest 5 = .ok (.ifCond .ne 5, 3) := by decide +kernel
theorem dX10_fewest_8 : decode cX10_fewest 8 = .ok (.iconst (-1), 1) := by decide +kernel
theorem dX10_fewest_9 : decode cX10_fewest 9 = .ok (.ireturn, 1) := by decide +kernel
theorem dX10_fewest_10 : decode cX10_fewest 10 = .ok (.aload_n 0, 1) := by decide +kernel
theorem dX10_fewest_11 : decode cX10_fewest 11 = .ok (.iload_n 1, 1) := by decide +kernel
theorem dX10_fewest_12 : decode cX10_fewest 12 = .ok (.invokevirtual 149, 3) := by decide +kernel
theorem dX10_fewest_15 : decode cX10_fewest 15 = .ok (.ifCond .eq 5, 3) := by decide +kernel
theorem dX10_fewest_18 : decode cX10_fewest 18 = .ok (.iconst 0, 1) := by decide +kernel
theorem dX10_fewest_19 : decode cX10_fewest 19 = .ok (.ireturn, 1) := by decide +kernel
theorem dX10_fewest_20 : decode cX10_fewest 20 = .ok (.iconst 0, 1) := by decide +kernel
theorem dX10_fewest_21 : decode cX10_fewest 21 = .ok (.istore_n 2, 1) := by decide +kernel
theorem dX10_fewest_22 : decode cX10_fewest 22 = .ok (.iload_n 2, 1) := by decide +kernel
theorem dX10_fewest_23 : decode cX10_fewest 23 = .ok (.iconst 1, 1) := by decide +kernel
theorem dX10_fewest_24 : decode cX10_fewest 24 = .ok (.aload_n 0, 1) := by decide +kernel
theorem dX10_fewest_25 : decode cX10_fewest 25 = .ok (.getfield 13, 3) := by decide +kernel
theorem dX10_fewest_28 : decode cX10_fewest 28 = .ok (.iconst 0, 1) := by decide +kernel
theorem dX10_fewest_29 : decode cX10_fewest 29 = .ok (.iaload, 1) := by decide +kernel
theorem dX10_fewest_30 : decode cX10_fewest 30 = .ok (.ishl, 1) := by decide +kernel
theorem dX10_fewest_31 : decode cX10_fewest 31 = .ok (.if_icmp .ge 25, 3) := by decide +kernel
theorem dX10_fewest_34 : decode cX10_fewest 34 = .ok (.aload_n 0, 1) := by decide +kernel
theorem dX10_fewest_35 : decode cX10_fewest 35 = .ok (.iload_n 1, 1) := by decide +kernel
theorem dX10_fewest_36 : decode cX10_fewest 36 = .ok (.iload_n 2, 1) := by decide +kernel
theorem dX10_fewest_37 : decode cX10_fewest 37 = .ok (.iload_n 2, 1) := by decide +kernel
theorem dX10_fewest_38 : decode cX10_fewest 38 = .ok (.invokevirtual 146, 3) := by decide +kernel
theorem dX10_fewest_41 : decode cX10_fewest 41 = .ok (.aload_n 0, 1) := by decide +kernel
theorem dX10_fewest_42 : decode cX10_fewest 42 = .ok (.invokevirtual 152, 3) := by decide +kernel
theorem dX10_fewest_45 : decode cX10_fewest 45 = .ok (.ifCond .ne 5, 3) := by decide +kernel
theorem dX10_fewest_48 : decode cX10_fewest 48 = .ok (.iconst 1, 1) := by decide +kernel
theorem dX10_fewest_49 : decode cX10_fewest 49 = .ok (.ireturn, 1) := by decide +kernel
theorem dX10_fewest_50 : decode cX10_fewest 50 = .ok (.iinc 2 1, 3) := by decide +kernel
theorem dX10_fewest_53 : decode cX10_fewest 53 = .ok (.goto (-31), 3) := by decide +kernel
theorem dX10_fewest_56 : decode cX10_fewest 56 = .ok (.iconst 0, 1) := by decide +kernel
theorem dX10_fewest_57 : decode cX10_fewest 57 = .ok (.istore_n 2, 1) := by decide +kernel
theorem dX10_fewest_58 : decode cX10_fewest 58 = .ok (.iload_n 2, 1) := by decide +kernel
theorem dX10_fewest_59 : decode cX10_fewest 59 = .ok (.iconst 1, 1) := by decide +kernel
theorem dX10_fewest_60 : decode cX10_fewest 60 = .ok (.aload_n 0, 1) := by decide +kernel
theorem dX10_fewest_61 : decode cX10_fewest 61 = .ok (.getfield 13, 3) := by decide +kernel
theorem dX10_fewest_64 : decode cX10_fewest 64 = .ok (.iconst 0, 1) := by decide +kernel
theorem dX10_fewest_65 : decode cX10_fewest 65 = .ok (.iaload, 1) := by decide +kernel
theorem dX10_fewest_66 : decode cX10_fewest 66 = .ok (.ishl, 1) := by decide +kernel
theorem dX10_fewest_67 : decode cX10_fewest 67 = .ok (.if_icmp .ge 20, 3) := by decide +kernel
theorem dX10_fewest_70 : decode cX10_fewest 70 = .ok (.aload_n 0, 1) := by decide +kernel
theorem dX10_fewest_71 : decode cX10_fewest 71 = .ok (.iload_n 1, 1) := by decide +kernel
theorem dX10_fewest_72 : decode cX10_fewest 72 = .ok (.iload_n 2, 1) := by decide +kernel
theorem dX10_fewest_73 : decode cX10_fewest 73 = .ok (.invokevirtual 156, 3) := by decide +kernel
theorem dX10_fewest_76 : decode cX10_fewest 76 = .ok (.ifCond .eq 5, 3) := by decide +kernel
theorem dX10_fewest_79 : decode cX10_fewest 79 = .ok (.iconst 2, 1) := by decide +kernel
theorem dX10_fewest_80 : decode cX10_fewest 80 = .ok (.ireturn, 1) := by decide +kernel
theorem dX10_fewest_81 : decode cX10_fewest 81 = .ok (.iinc 2 1, 3) := by decide +kernel
theorem dX10_fewest_84 : decode cX10_fewest 84 = .ok (.goto (-26), 3) := by decide +kernel
theorem dX10_fewest_87 : decode cX10_fewest 87 = .ok (.bipush (-9), 2) := by decide +kernel
theorem dX10_fewest_89 : decode cX10_fewest 89 = .ok (.ireturn, 1) := by decide +kernel
theorem dX10_laugh_0 : decode cX10_laugh 0 = .ok (.aload_n 0, 1) := by decide +kernel
theorem dX10_laugh_1 : decode cX10_laugh 1 = .ok (.iload_n 1, 1) := by decide +kernel
theorem dX10_laugh_2 : decode cX10_laugh 2 = .ok (.invokevirtual 111, 3) := by decide +kernel
theorem dX10_laugh_5 : decode cX10_laugh 5 = .ok (.ifCond .ne 5, 3) := by decide +kernel
theorem dX10_laugh_8 : decode cX10_laugh 8 = .ok (.iconst (-1), 1) := by decide +kernel
theorem dX10_laugh_9 : decode cX10_laugh 9 = .ok (.ireturn, 1) := by decide +kernel
theorem dX10_laugh_10 : decode cX10_laugh 10 = .ok (.iconst 0, 1) := by decide +kernel
theorem dX10_laugh_11 : decode cX10_laugh 11 = .ok (.istore_n 2, 1) := by decide +kernel
theorem dX10_laugh_12 : decode cX10_laugh 12 = .ok (.iconst 0, 1) := by decide +kernel
theorem dX10_laugh_13 : decode cX10_laugh 13 = .ok (.istore_n 3, 1) := by decide +kernel
theorem dX10_laugh_14 : decode cX10_laugh 14 = .ok (.iload_n 3, 1) := by decide +kernel
theorem dX10_laugh_15 : decode cX10_laugh 15 = .ok (.aload_n 0, 1) := by decide +kernel
theorem dX10_laugh_16 : decode cX10_laugh 16 = .ok (.invokevirtual 127, 3) := by decide +kernel
theorem dX10_laugh_19 : decode cX10_laugh 19 = .ok (.if_icmp .ge 27, 3) := by decide +kernel
theorem dX10_laugh_22 : decode cX10_laugh 22 = .ok (.aload_n 0, 1) := by decide +kernel
theorem dX10_laugh_23 : decode cX10_laugh 23 = .ok (.iload_n 3, 1) := by decide +kernel
theorem dX10_laugh_24 : decode cX10_laugh 24 = .ok (.invokevirtual 130, 3) := by decide +kernel
theorem dX10_laugh_27 : decode cX10_laugh 27 = .ok (.ifCond .eq 13, 3) := by decide +kernel
theorem dX10_laugh_30 : decode cX10_laugh 30 = .ok (.iload_n 2, 1) := by decide +kernel
theorem dX10_laugh_31 : decode cX10_laugh 31 = .ok (.iconst 1, 1) := by decide +kernel
theorem dX10_laugh_32 : decode cX10_laugh 32 = .ok (.aload_n 0, 1) := by decide +kernel
theorem dX10_laugh_33 : decode cX10_laugh 33 = .ok (.iload_n 1, 1) := by decide +kernel
theorem dX10_laugh_34 : decode cX10_laugh 34 = .ok (.invokevirtual 117, 3) := by decide +kernel
theorem dX10_laugh_37 : decode cX10_laugh 37 = .ok (.ishl, 1) := by decide +kernel
theorem dX10_laugh_38 : decode cX10_laugh 38 = .ok (.ior, 1) := by decide +kernel
theorem dX10_laugh_39 : decode cX10_laugh 39 = .ok (.istore_n 2, 1) := by decide +kernel
theorem dX10_laugh_40 : decode cX10_laugh 40 = .ok (.iinc 3 1, 3) := by decide +kernel
theorem dX10_laugh_43 : decode cX10_laugh 43 = .ok (.goto (-29), 3) := by decide +kernel
theorem dX10_laugh_46 : decode cX10_laugh 46 = .ok (.iload_n 2, 1) := by decide +kernel
theorem dX10_laugh_47 : decode cX10_laugh 47 = .ok (.iconst 1, 1) := by decide +kernel
theorem dX10_laugh_48 : decode cX10_laugh 48 = .ok (.if_icmp .ne 7, 3) := by decide +kernel
theorem dX10_laugh_51 : decode cX10_laugh 51 = .ok (.iconst 0, 1) := by decide +kernel
theorem dX10_laugh_52 : decode cX10_laugh 52 = .ok (.goto 14, 3) := by decide +kernel
theorem dX10_laugh_55 : decode cX10_laugh 55 = .ok (.iload_n 2, 1) := by decide +kernel
theorem dX10_laugh_56 : decode cX10_laugh 56 = .ok (.iconst 2, 1) := by decide +kernel
theorem dX10_laugh_57 : decode cX10_laugh 57 = .ok (.if_icmp .ne 7, 3) := by decide +kernel
theorem dX10_laugh_60 : decode cX10_laugh 60 = .ok (.iconst 1, 1) := by decide +kernel
theorem dX10_laugh_61 : decode cX10_laugh 61 = .ok (.goto 5, 3) := by decide +kernel
theorem dX10_laugh_64 : decode cX10_laugh 64 = .ok (.bipush (-9), 2) := by decide +kernel
theorem dX10_laugh_66 : decode cX10_laugh 66 = .ok (.ireturn, 1) := by decide +kernel
theorem dX10_common_0 : decode cX10_common 0 = .ok (.lload_n 0, 1) := by decide +kernel
theorem dX10_common_1 : decode cX10_common 1 = .ok (.lstore 4, 2) := by decide +kernel
theorem dX10_common_3 : decode cX10_common 3 = .ok (.lload_n 2, 1) := by decide +kernel
theorem dX10_common_4 : decode cX10_common 4 = .ok (.lstore 6, 2) := by decide +kernel
theorem dX10_common_6 : decode cX10_common 6 = .ok (.lload 6, 2) := by decide +kernel
theorem dX10_common_8 : decode cX10_common 8 = .ok (.lconst 0, 1) := by decide +kernel
theorem dX10_common_9 : decode cX10_common 9 = .ok (.lcmp, 1) := by decide +kernel
theorem dX10_common_10 : decode cX10_common 10 = .ok (.ifCond .eq 21, 3) := by decide +kernel
theorem dX10_common_13 : decode cX10_common 13 = .ok (.lload 4, 2) := by decide +kernel
theorem dX10_common_15 : decode cX10_common 15 = .ok (.lload 6, 2) := by decide +kernel
theorem dX10_common_17 : decode cX10_common 17 = .ok (.lrem, 1) := by decide +kernel
theorem dX10_common_18 : decode cX10_common 18 = .ok (.lstore 8, 2) := by decide +kernel
theorem dX10_common_20 : decode cX10_common 20 = .ok (.lload 6, 2) := by decide +kernel
theorem dX10_common_22 : decode cX10_common 22 = .ok (.lstore 4, 2) := by decide +kernel
theorem dX10_common_24 : decode cX10_common 24 = .ok (.lload 8, 2) := by decide +kernel
theorem dX10_common_26 : decode cX10_common 26 = .ok (.lstore 6, 2) := by decide +kernel
theorem dX10_common_28 : decode cX10_common 28 = .ok (.goto (-22), 3) := by decide +kernel
theorem dX10_common_31 : decode cX10_common 31 = .ok (.lload 4, 2) := by decide +kernel
theorem dX10_common_33 : decode cX10_common 33 = .ok (.lreturn, 1) := by decide +kernel
theorem dX10_odds_0 : decode cX10_odds 0 = .ok (.aload_n 0, 1) := by decide +kernel
theorem dX10_odds_1 : decode cX10_odds 1 = .ok (.iload_n 1, 1) := by decide +kernel
theorem dX10_odds_2 : decode cX10_odds 2 = .ok (.invokevirtual 111, 3) := by decide +kernel
theorem dX10_odds_5 : decode cX10_odds 5 = .ok (.ifCond .eq 34, 3) := by decide +kernel
theorem dX10_odds_8 : decode cX10_odds 8 = .ok (.iload_n 3, 1) := by decide +kernel
theorem dX10_odds_9 : decode cX10_odds 9 = .ok (.iconst 1, 1) := by decide +kernel
theorem dX10_odds_10 : decode cX10_odds 10 = .ok (.bipush 9, 2) := by decide +kernel
theorem dX10_odds_12 : decode cX10_odds 12 = .ok (.invokestatic 48, 3) := by decide +kernel
theorem dX10_odds_15 : decode cX10_odds 15 = .ok (.ifCond .eq 24, 3) := by decide +kernel
theorem dX10_odds_18 : decode cX10_odds 18 = .ok (.iload_n 2, 1) := by decide +kernel
theorem dX10_odds_19 : decode cX10_odds 19 = .ok (.iconst 1, 1) := by decide +kernel
theorem dX10_odds_20 : decode cX10_odds 20 = .ok (.iload_n 3, 1) := by decide +kernel
theorem dX10_odds_21 : decode cX10_odds 21 = .ok (.iconst 1, 1) := by decide +kernel
theorem dX10_odds_22 : decode cX10_odds 22 = .ok (.isub, 1) := by decide +kernel
theorem dX10_odds_23 : decode cX10_odds 23 = .ok (.invokestatic 48, 3) := by decide +kernel
theorem dX10_odds_26 : decode cX10_odds 26 = .ok (.ifCond .eq 13, 3) := by decide +kernel
theorem dX10_odds_29 : decode cX10_odds 29 = .ok (.iload 4, 2) := by decide +kernel
theorem dX10_odds_31 : decode cX10_odds 31 = .ok (.iconst 0, 1) := by decide +kernel
theorem dX10_odds_32 : decode cX10_odds 32 = .ok (.iconst 1, 1) := by decide +kernel
theorem dX10_odds_33 : decode cX10_odds 33 = .ok (.invokestatic 48, 3) := by decide +kernel
theorem dX10_odds_36 : decode cX10_odds 36 = .ok (.ifCond .ne 7, 3) := by decide +kernel
theorem dX10_odds_39 : decode cX10_odds 39 = .ok (.ldc2_w 160, 3) := by decide +kernel
theorem dX10_odds_42 : decode cX10_odds 42 = .ok (.lreturn, 1) := by decide +kernel
theorem dX10_odds_43 : decode cX10_odds 43 = .ok (.lconst 0, 1) := by decide +kernel
theorem dX10_odds_44 : decode cX10_odds 44 = .ok (.lstore 5, 2) := by decide +kernel
theorem dX10_odds_46 : decode cX10_odds 46 = .ok (.lconst 0, 1) := by decide +kernel
theorem dX10_odds_47 : decode cX10_odds 47 = .ok (.lstore 7, 2) := by decide +kernel
theorem dX10_odds_49 : decode cX10_odds 49 = .ok (.iconst 0, 1) := by decide +kernel
theorem dX10_odds_50 : decode cX10_odds 50 = .ok (.istore 9, 2) := by decide +kernel
theorem dX10_odds_52 : decode cX10_odds 52 = .ok (.iload 9, 2) := by decide +kernel
theorem dX10_odds_54 : decode cX10_odds 54 = .ok (.aload_n 0, 1) := by decide +kernel
theorem dX10_odds_55 : decode cX10_odds 55 = .ok (.invokevirtual 127, 3) := by decide +kernel
theorem dX10_odds_58 : decode cX10_odds 58 = .ok (.if_icmp .ge 111, 3) := by decide +kernel
theorem dX10_odds_61 : decode cX10_odds 61 = .ok (.aload_n 0, 1) := by decide +kernel
theorem dX10_odds_62 : decode cX10_odds 62 = .ok (.iload 9, 2) := by decide +kernel
theorem dX10_odds_64 : decode cX10_odds 64 = .ok (.invokevirtual 130, 3) := by decide +kernel
theorem dX10_odds_67 : decode cX10_odds 67 = .ok (.ifCond .eq 96, 3) := by decide +kernel
theorem dX10_odds_70 : decode cX10_odds 70 = .ok (.lconst 1, 1) := by decide +kernel
theorem dX10_odds_71 : decode cX10_odds 71 = .ok (.lstore 10, 2) := by decide +kernel
theorem dX10_odds_73 : decode cX10_odds 73 = .ok (.iconst 0, 1) := by decide +kernel
theorem dX10_odds_74 : decode cX10_odds 74 = .ok (.istore 12, 2) := by decide +kernel
theorem dX10_odds_76 : decode cX10_odds 76 = .ok (.iload 12, 2) := by decide +kernel
theorem dX10_odds_78 : decode cX10_odds 78 = .ok (.aload_n 0, 1) := by decide +kernel
theorem dX10_odds_79 : decode cX10_odds 79 = .ok (.getfield 23, 3) := by decide +kernel
theorem dX10_odds_82 : decode cX10_odds 82 = .ok (.iconst 0, 1) := by decide +kernel
theorem dX10_odds_83 : decode cX10_odds 83 = .ok (.iaload, 1) := by decide +kernel
theorem dX10_odds_84 : decode cX10_odds 84 = .ok (.if_icmp .ge 52, 3) := by decide +kernel
theorem dX10_odds_87 : decode cX10_odds 87 = .ok (.lload 10, 2) := by decide +kernel
theorem dX10_odds_89 : decode cX10_odds 89 = .ok (.aload_n 0, 1) := by decide +kernel
theorem dX10_odds_90 : decode cX10_odds 90 = .ok (.getfield 26, 3) := by decide +kernel
theorem dX10_odds_93 : decode cX10_odds 93 = .ok (.iconst 3, 1) := by decide +kernel
theorem dX10_odds_94 : decode cX10_odds 94 = .ok (.iload 12, 2) := by decide +kernel
theorem dX10_odds_96 : decode cX10_odds 96 = .ok (.imul, 1) := by decide +kernel
theorem dX10_odds_97 : decode cX10_odds 97 = .ok (.iconst 2, 1) := by decide +kernel
theorem dX10_odds_98 : decode cX10_odds 98 = .ok (.iadd, 1) := by decide +kernel
theorem dX10_odds_99 : decode cX10_odds 99 = .ok (.iaload, 1) := by decide +kernel
theorem dX10_odds_100 : decode cX10_odds 100 = .ok (.iconst 2, 1) := by decide +kernel
theorem dX10_odds_101 : decode cX10_odds 101 = .ok (.if_icmp .ge 7, 3) := by decide +kernel
theorem dX10_odds_104 : decode cX10_odds 104 = .ok (.lconst 1, 1) := by decide +kernel
theorem dX10_odds_105 : decode cX10_odds 105 = .ok (.goto 22, 3) := by decide +kernel
theorem dX10_odds_108 : decode cX10_odds 108 = .ok (.aload_n 0, 1) := by decide +kernel
theorem dX10_odds_109 : decode cX10_odds 109 = .ok (.iload 12, 2) := by decide +kernel
theorem dX10_odds_111 : decode cX10_odds 111 = .ok (.invokevirtual 117, 3) := by decide +kernel
theorem dX10_odds_114 : decode cX10_odds 114 = .ok (.iconst 1, 1) := by decide +kernel
theorem dX10_odds_115 : decode cX10_odds 115 = .ok (.if_icmp .ne 8, 3) := by decide +kernel
theorem dX10_odds_118 : decode cX10_odds 118 = .ok (.iload_n 2, 1) := by decide +kernel
theorem dX10_odds_119 : decode cX10_odds 119 = .ok (.i2l, 1) := by decide +kernel
theorem dX10_odds_120 : decode cX10_odds 120 = .ok (.goto 7, 3) := by decide +kernel
theorem dX10_odds_123 : decode cX10_odds 123 = .ok (.iload_n 3, 1) := by decide +kernel
theorem dX10_odds_124 : decode cX10_odds 124 = .ok (.iload_n 2, 1) := by decide +kernel
theorem dX10_odds_125 : decode cX10_odds 125 = .ok (.isub, 1) := by decide +kernel
theorem dX10_odds_126 : decode cX10_odds 126 = .ok (.i2l, 1) := by decide +kernel
theorem dX10_odds_127 : decode cX10_odds 127 = .ok (.lmul, 1) := by decide +kernel
theorem dX10_odds_128 : decode cX10_odds 128 = .ok (.lstore 10, 2) := by decide +kernel
theorem dX10_odds_130 : decode cX10_odds 130 = .ok (.iinc 12 1, 3) := by decide +kernel
theorem dX10_odds_133 : decode cX10_odds 133 = .ok (.goto (-57), 3) := by decide +kernel
theorem dX10_odds_136 : decode cX10_odds 136 = .ok (.lload 5, 2) := by decide +kernel
theorem dX10_odds_138 : decode cX10_odds 138 = .ok (.aload_n 0, 1) := by decide +kernel
theorem dX10_odds_139 : decode cX10_odds 139 = .ok (.iload_n 1, 1) := by decide +kernel
theorem dX10_odds_140 : decode cX10_odds 140 = .ok (.invokevirtual 117, 3) := by decide +kernel
theorem dX10_odds_143 : decode cX10_odds 143 = .ok (.iconst 1, 1) := by decide +kernel
theorem dX10_odds_144 : decode cX10_odds 144 = .ok (.if_icmp .ne 8, 3) := by decide +kernel
theorem dX10_odds_147 : decode cX10_odds 147 = .ok (.lload 10, 2) := by decide +kernel
theorem dX10_odds_149 : decode cX10_odds 149 = .ok (.goto 4, 3) := by decide +kernel
theorem dX10_odds_152 : decode cX10_odds 152 = .ok (.lconst 0, 1) := by decide +kernel
theorem dX10_odds_153 : decode cX10_odds 153 = .ok (.ladd, 1) := by decide +kernel
theorem dX10_odds_154 : decode cX10_odds 154 = .ok (.lstore 5, 2) := by decide +kernel
theorem dX10_odds_156 : decode cX10_odds 156 = .ok (.lload 7, 2) := by decide +kernel
theorem dX10_odds_158 : decode cX10_odds 158 = .ok (.lload 10, 2) := by decide +kernel
theorem dX10_odds_160 : decode cX10_odds 160 = .ok (.ladd, 1) := by decide +kernel
theorem dX10_odds_161 : decode cX10_odds 161 = .ok (.lstore 7, 2) := by decide +kernel
theorem dX10_odds_163 : decode cX10_odds 163 = .ok (.iinc 9 1, 3) := by decide +kernel
theorem dX10_odds_166 : decode cX10_odds 166 = .ok (.goto (-114), 3) := by decide +kernel
theorem dX10_odds_169 : decode cX10_odds 169 = .ok (.lload 7, 2) := by decide +kernel
theorem dX10_odds_171 : decode cX10_odds 171 = .ok (.lconst 0, 1) := by decide +kernel
theorem dX10_odds_172 : decode cX10_odds 172 = .ok (.lcmp, 1) := by decide +kernel
theorem dX10_odds_173 : decode cX10_odds 173 = .ok (.ifCond .ne 7, 3) := by decide +kernel
theorem dX10_odds_176 : decode cX10_odds 176 = .ok (.ldc2_w 162, 3) := by decide +kernel
theorem dX10_odds_179 : decode cX10_odds 179 = .ok (.lreturn, 1) := by decide +kernel
theorem dX10_odds_180 : decode cX10_odds 180 = .ok (.lload 5, 2) := by decide +kernel
theorem dX10_odds_182 : decode cX10_odds 182 = .ok (.lload 7, 2) := by decide +kernel
theorem dX10_odds_184 : decode cX10_odds 184 = .ok (.invokestatic 164, 3) := by decide +kernel
theorem dX10_odds_187 : decode cX10_odds 187 = .ok (.lstore 9, 2) := by decide +kernel
theorem dX10_odds_189 : decode cX10_odds 189 = .ok (.iload 4, 2) := by decide +kernel
theorem dX10_odds_191 : decode cX10_odds 191 = .ok (.ifCond .ne 11, 3) := by decide +kernel
theorem dX10_odds_194 : decode cX10_odds 194 = .ok (.lload 5, 2) := by decide +kernel
theorem dX10_odds_196 : decode cX10_odds 196 = .ok (.lload 9, 2) := by decide +kernel
theorem dX10_odds_198 : decode cX10_odds 198 = .ok (.ldiv, 1) := by decide +kernel
theorem dX10_odds_199 : decode cX10_odds 199 = .ok (.goto 8, 3) := by decide +kernel
theorem dX10_odds_202 : decode cX10_odds 202 = .ok (.lload 7, 2) := by decide +kernel
theorem dX10_odds_204 : decode cX10_odds 204 = .ok (.lload 9, 2) := by decide +kernel
theorem dX10_odds_206 : decode cX10_odds 206 = .ok (.ldiv, 1) := by decide +kernel
theorem dX10_odds_207 : decode cX10_odds 207 = .ok (.lreturn, 1) := by decide +kernel
theorem dX10_sack_0 : decode cX10_sack 0 = .ok (.iload_n 1, 1) := by decide +kernel
theorem dX10_sack_1 : decode cX10_sack 1 = .ok (.iconst 0, 1) := by decide +kernel
theorem dX10_sack_2 : decode cX10_sack 2 = .ok (.bipush 27, 2) := by decide +kernel
theorem dX10_sack_4 : decode cX10_sack 4 = .ok (.invokestatic 48, 3) := by decide +kernel
theorem dX10_sack_7 : decode cX10_sack 7 = .ok (.ifCond .eq 12, 3) := by decide +kernel
theorem dX10_sack_10 : decode cX10_sack 10 = .ok (.iload_n 2, 1) := by decide +kernel
theorem dX10_sack_11 : decode cX10_sack 11 = .ok (.iconst 0, 1) := by decide +kernel
theorem dX10_sack_12 : decode cX10_sack 12 = .ok (.iconst 2, 1) := by decide +kernel
theorem dX10_sack_13 : decode cX10_sack 13 = .ok (.invokestatic 48, 3) := by decide +kernel
theorem dX10_sack_16 : decode cX10_sack 16 = .ok (.ifCond .ne 5, 3) := by decide +kernel
theorem dX10_sack_19 : decode cX10_sack 19 = .ok (.iconst (-1), 1) := by decide +kernel
theorem dX10_sack_20 : decode cX10_sack 20 = .ok (.ireturn, 1) := by decide +kernel
theorem dX10_sack_21 : decode cX10_sack 21 = .ok (.bipush (-9), 2) := by decide +kernel
theorem dX10_sack_23 : decode cX10_sack 23 = .ok (.istore_n 3, 1) := by decide +kernel
theorem dX10_sack_24 : decode cX10_sack 24 = .ok (.bipush (-9), 2) := by decide +kernel
theorem dX10_sack_26 : decode cX10_sack 26 = .ok (.istore 4, 2) := by decide +kernel
theorem dX10_sack_28 : decode cX10_sack 28 = .ok (.iconst 0, 1) := by decide +kernel
theorem dX10_sack_29 : decode cX10_sack 29 = .ok (.istore 5, 2) := by decide +kernel
theorem dX10_sack_31 : decode cX10_sack 31 = .ok (.iload 5, 2) := by decide +kernel
theorem dX10_sack_33 : decode cX10_sack 33 = .ok (.iconst 1, 1) := by decide +kernel
theorem dX10_sack_34 : decode cX10_sack 34 = .ok (.aload_n 0, 1) := by decide +kernel
theorem dX10_sack_35 : decode cX10_sack 35 = .ok (.getfield 13, 3) := by decide +kernel
theorem dX10_sack_38 : decode cX10_sack 38 = .ok (.iconst 0, 1) := by decide +kernel
theorem dX10_sack_39 : decode cX10_sack 39 = .ok (.iaload, 1) := by decide +kernel
theorem dX10_sack_40 : decode cX10_sack 40 = .ok (.ishl, 1) := by decide +kernel
theorem dX10_sack_41 : decode cX10_sack 41 = .ok (.if_icmp .ge 99, 3) := by decide +kernel
theorem dX10_sack_44 : decode cX10_sack 44 = .ok (.iconst 0, 1) := by decide +kernel
theorem dX10_sack_45 : decode cX10_sack 45 = .ok (.istore 6, 2) := by decide +kernel
theorem dX10_sack_47 : decode cX10_sack 47 = .ok (.iload 6, 2) := by decide +kernel
theorem dX10_sack_49 : decode cX10_sack 49 = .ok (.iconst 1, 1) := by decide +kernel
theorem dX10_sack_50 : decode cX10_sack 50 = .ok (.aload_n 0, 1) := by decide +kernel
theorem dX10_sack_51 : decode cX10_sack 51 = .ok (.getfield 13, 3) := by decide +kernel
theorem dX10_sack_54 : decode cX10_sack 54 = .ok (.iconst 0, 1) := by decide +kernel
theorem dX10_sack_55 : decode cX10_sack 55 = .ok (.iaload, 1) := by decide +kernel
theorem dX10_sack_56 : decode cX10_sack 56 = .ok (.ishl, 1) := by decide +kernel
theorem dX10_sack_57 : decode cX10_sack 57 = .ok (.if_icmp .ge 77, 3) := by decide +kernel
theorem dX10_sack_60 : decode cX10_sack 60 = .ok (.iload 5, 2) := by decide +kernel
theorem dX10_sack_62 : decode cX10_sack 62 = .ok (.iload 6, 2) := by decide +kernel
theorem dX10_sack_64 : decode cX10_sack 64 = .ok (.iand, 1) := by decide +kernel
theorem dX10_sack_65 : decode cX10_sack 65 = .ok (.ifCond .ne 24, 3) := by decide +kernel
theorem dX10_sack_68 : decode cX10_sack 68 = .ok (.aload_n 0, 1) := by decide +kernel
theorem dX10_sack_69 : decode cX10_sack 69 = .ok (.iload 5, 2) := by decide +kernel
theorem dX10_sack_71 : decode cX10_sack 71 = .ok (.invokevirtual 103, 3) := by decide +kernel
theorem dX10_sack_74 : decode cX10_sack 74 = .ok (.aload_n 0, 1) := by decide +kernel
theorem dX10_sack_75 : decode cX10_sack 75 = .ok (.iload 6, 2) := by decide +kernel
theorem dX10_sack_77 : decode cX10_sack 77 = .ok (.invokevirtual 103, 3) := by decide +kernel
theorem dX10_sack_80 : decode cX10_sack 80 = .ok (.isub, 1) := by decide +kernel
theorem dX10_sack_81 : decode cX10_sack 81 = .ok (.iload_n 1, 1) := by decide +kernel
theorem dX10_sack_82 : decode cX10_sack 82 = .ok (.if_icmp .ne 7, 3) := by decide +kernel
theorem dX10_sack_85 : decode cX10_sack 85 = .ok (.iconst 1, 1) := by decide +kernel
theorem dX10_sack_86 : decode cX10_sack 86 = .ok (.goto 4, 3) := by decide +kernel
theorem dX10_sack_89 : decode cX10_sack 89 = .ok (.iconst 0, 1) := by decide +kernel
theorem dX10_sack_90 : decode cX10_sack 90 = .ok (.istore 7, 2) := by decide +kernel
theorem dX10_sack_92 : decode cX10_sack 92 = .ok (.iload 7, 2) := by decide +kernel
theorem dX10_sack_94 : decode cX10_sack 94 = .ok (.ifCond .eq 34, 3) := by decide +kernel
theorem dX10_sack_97 : decode cX10_sack 97 = .ok (.iload_n 3, 1) := by decide +kernel
theorem dX10_sack_98 : decode cX10_sack 98 = .ok (.bipush (-9), 2) := by decide +kernel
theorem dX10_sack_100 : decode cX10_sack 100 = .ok (.if_icmp .eq 21, 3) := by decide +kernel
theorem dX10_sack_103 : decode cX10_sack 103 = .ok (.iload 5, 2) := by decide +kernel
theorem dX10_sack_105 : decode cX10_sack 105 = .ok (.iload 6, 2) := by decide +kernel
theorem dX10_sack_107 : decode cX10_sack 107 = .ok (.ior, 1) := by decide +kernel
theorem dX10_sack_108 : decode cX10_sack 108 = .ok (.invokestatic 139, 3) := by decide +kernel
theorem dX10_sack_111 : decode cX10_sack 111 = .ok (.iload_n 3, 1) := by decide +kernel
theorem dX10_sack_112 : decode cX10_sack 112 = .ok (.iload 4, 2) := by decide +kernel
theorem dX10_sack_114 : decode cX10_sack 114 = .ok (.ior, 1) := by decide +kernel
theorem dX10_sack_115 : decode cX10_sack 115 = .ok (.invokestatic 139, 3) := by decide +kernel
theorem dX10_sack_118 : decode cX10_sack 118 = .ok (.if_icmp .ge 10, 3) := by decide +kernel
theorem dX10_sack_121 : decode cX10_sack 121 = .ok (.iload 5, 2) := by decide +kernel
theorem dX10_sack_123 : decode cX10_sack 123 = .ok (.istore_n 3, 1) := by decide +kernel
theorem dX10_sack_124 : decode cX10_sack 124 = .ok (.iload 6, 2) := by decide +kernel
theorem dX10_sack_126 : decode cX10_sack 126 = .ok (.istore 4, 2) := by decide +kernel
theorem dX10_sack_128 : decode cX10_sack 128 = .ok (.iinc 6 1, 3) := by decide +kernel
theorem dX10_sack_131 : decode cX10_sack 131 = .ok (.goto (-84), 3) := by decide +kernel
theorem dX10_sack_134 : decode cX10_sack 134 = .ok (.iinc 5 1, 3) := by decide +kernel
theorem dX10_sack_137 : decode cX10_sack 137 = .ok (.goto (-106), 3) := by decide +kernel
theorem dX10_sack_140 : decode cX10_sack 140 = .ok (.iload_n 2, 1) := by decide +kernel
theorem dX10_sack_141 : decode cX10_sack 141 = .ok (.ifCond .ne 19, 3) := by decide +kernel
theorem dX10_sack_144 : decode cX10_sack 144 = .ok (.iload_n 3, 1) := by decide +kernel
theorem dX10_sack_145 : decode cX10_sack 145 = .ok (.bipush (-9), 2) := by decide +kernel
theorem dX10_sack_147 : decode cX10_sack 147 = .ok (.if_icmp .eq 13, 3) := by decide +kernel
theorem dX10_sack_150 : decode cX10_sack 150 = .ok (.iload_n 3, 1) := by decide +kernel
theorem dX10_sack_151 : decode cX10_sack 151 = .ok (.iload 4, 2) := by decide +kernel
theorem dX10_sack_153 : decode cX10_sack 153 = .ok (.ior, 1) := by decide +kernel
theorem dX10_sack_154 : decode cX10_sack 154 = .ok (.invokestatic 139, 3) := by decide +kernel
theorem dX10_sack_157 : decode cX10_sack 157 = .ok (.goto 14, 3) := by decide +kernel
theorem dX10_sack_160 : decode cX10_sack 160 = .ok (.iload_n 2, 1) := by decide +kernel
theorem dX10_sack_161 : decode cX10_sack 161 = .ok (.iconst 2, 1) := by decide +kernel
theorem dX10_sack_162 : decode cX10_sack 162 = .ok (.if_icmp .ne 8, 3) := by decide +kernel
theorem dX10_sack_165 : decode cX10_sack 165 = .ok (.iload 4, 2) := by decide +kernel
theorem dX10_sack_167 : decode cX10_sack 167 = .ok (.goto 4, 3) := by decide +kernel
theorem dX10_sack_170 : decode cX10_sack 170 = .ok (.iload_n 3, 1) := by decide +kernel
theorem dX10_sack_171 : decode cX10_sack 171 = .ok (.ireturn, 1) := by decide +kernel
theorem dX10_byTurns_0 : decode cX10_byTurns 0 = .ok (.iconst 1, 1) := by decide +kernel
theorem dX10_byTurns_1 : decode cX10_byTurns 1 = .ok (.aload_n 0, 1) := by decide +kernel
theorem dX10_byTurns_2 : decode cX10_byTurns 2 = .ok (.getfield 13, 3) := by decide +kernel
theorem dX10_byTurns_5 : decode cX10_byTurns 5 = .ok (.iconst 0, 1) := by decide +kernel
theorem dX10_byTurns_6 : decode cX10_byTurns 6 = .ok (.iaload, 1) := by decide +kernel
theorem dX10_byTurns_7 : decode cX10_byTurns 7 = .ok (.ishl, 1) := by decide +kernel
theorem dX10_byTurns_8 : decode cX10_byTurns 8 = .ok (.iconst 1, 1) := by decide +kernel
theorem dX10_byTurns_9 : decode cX10_byTurns 9 = .ok (.isub, 1) := by decide +kernel
theorem dX10_byTurns_10 : decode cX10_byTurns 10 = .ok (.istore_n 1, 1) := by decide +kernel
theorem dX10_byTurns_11 : decode cX10_byTurns 11 = .ok (.iload_n 1, 1) := by decide +kernel
theorem dX10_byTurns_12 : decode cX10_byTurns 12 = .ok (.istore_n 2, 1) := by decide +kernel
theorem dX10_byTurns_13 : decode cX10_byTurns 13 = .ok (.iload_n 2, 1) := by decide +kernel
theorem dX10_byTurns_14 : decode cX10_byTurns 14 = .ok (.ifCond .lt 125, 3) := by decide +kernel
theorem dX10_byTurns_17 : decode cX10_byTurns 17 = .ok (.iload_n 2, 1) := by decide +kernel
theorem dX10_byTurns_18 : decode cX10_byTurns 18 = .ok (.invokestatic 139, 3) := by decide +kernel
theorem dX10_byTurns_21 : decode cX10_byTurns 21 = .ok (.iconst 2, 1) := by decide +kernel
theorem dX10_byTurns_22 : decode cX10_byTurns 22 = .ok (.irem, 1) := by decide +kernel
theorem dX10_byTurns_23 : decode cX10_byTurns 23 = .ok (.ifCond .ne 7, 3) := by decide +kernel
theorem dX10_byTurns_26 : decode cX10_byTurns 26 = .ok (.iconst 1, 1) := by decide +kernel
theorem dX10_byTurns_27 : decode cX10_byTurns 27 = .ok (.goto 4, 3) := by decide +kernel
theorem dX10_byTurns_30 : decode cX10_byTurns 30 = .ok (.iconst 0, 1) := by decide +kernel
theorem dX10_byTurns_31 : decode cX10_byTurns 31 = .ok (.istore_n 3, 1) := by decide +kernel
theorem dX10_byTurns_32 : decode cX10_byTurns 32 = .ok (.aload_n 0, 1) := by decide +kernel
theorem dX10_byTurns_33 : decode cX10_byTurns 33 = .ok (.iload_n 2, 1) := by decide +kernel
theorem dX10_byTurns_34 : decode cX10_byTurns 34 = .ok (.invokevirtual 103, 3) := by decide +kernel
theorem dX10_byTurns_37 : decode cX10_byTurns 37 = .ok (.aload_n 0, 1) := by decide +kernel
theorem dX10_byTurns_38 : decode cX10_byTurns 38 = .ok (.getfield 20, 3) := by decide +kernel
theorem dX10_byTurns_41 : decode cX10_byTurns 41 = .ok (.iconst 0, 1) := by decide +kernel
theorem dX10_byTurns_42 : decode cX10_byTurns 42 = .ok (.iaload, 1) := by decide +kernel
theorem dX10_byTurns_43 : decode cX10_byTurns 43 = .ok (.irem, 1) := by decide +kernel
theorem dX10_byTurns_44 : decode cX10_byTurns 44 = .ok (.istore 4, 2) := by decide +kernel
theorem dX10_byTurns_46 : decode cX10_byTurns 46 = .ok (.iconst 0, 1) := by decide +kernel
theorem dX10_byTurns_47 : decode cX10_byTurns 47 = .ok (.istore 5, 2) := by decide +kernel
theorem dX10_byTurns_49 : decode cX10_byTurns 49 = .ok (.iload 5, 2) := by decide +kernel
theorem dX10_byTurns_51 : decode cX10_byTurns 51 = .ok (.aload_n 0, 1) := by decide +kernel
theorem dX10_byTurns_52 : decode cX10_byTurns 52 = .ok (.getfield 13, 3) := by decide +kernel
theorem dX10_byTurns_55 : decode cX10_byTurns 55 = .ok (.iconst 0, 1) := by decide +kernel
theorem dX10_byTurns_56 : decode cX10_byTurns 56 = .ok (.iaload, 1) := by decide +kernel
theorem dX10_byTurns_57 : decode cX10_byTurns 57 = .ok (.if_icmp .ge 68, 3) := by decide +kernel
theorem dX10_byTurns_60 : decode cX10_byTurns 60 = .ok (.iload_n 2, 1) := by decide +kernel
theorem dX10_byTurns_61 : decode cX10_byTurns 61 = .ok (.iload 5, 2) := by decide +kernel
theorem dX10_byTurns_63 : decode cX10_byTurns 63 = .ok (.ishr, 1) := by decide +kernel
theorem dX10_byTurns_64 : decode cX10_byTurns 64 = .ok (.iconst 1, 1) := by decide +kernel
theorem dX10_byTurns_65 : decode cX10_byTurns 65 = .ok (.iand, 1) := by decide +kernel
theorem dX10_byTurns_66 : decode cX10_byTurns 66 = .ok (.ifCond .ne 53, 3) := by decide +kernel
theorem dX10_byTurns_69 : decode cX10_byTurns 69 = .ok (.aload_n 0, 1) := by decide +kernel
theorem dX10_byTurns_70 : decode cX10_byTurns 70 = .ok (.getfield 45, 3) := by decide +kernel
theorem dX10_byTurns_73 : decode cX10_byTurns 73 = .ok (.iload_n 2, 1) := by decide +kernel
theorem dX10_byTurns_74 : decode cX10_byTurns 74 = .ok (.iconst 1, 1) := by decide +kernel
theorem dX10_byTurns_75 : decode cX10_byTurns 75 = .ok (.iload 5, 2) := by decide +kernel
theorem dX10_byTurns_77 : decode cX10_byTurns 77 = .ok (.ishl, 1) := by decide +kernel
theorem dX10_byTurns_78 : decode cX10_byTurns 78 = .ok (.ior, 1) := by decide +kernel
theorem dX10_byTurns_79 : decode cX10_byTurns 79 = .ok (.iaload, 1) := by decide +kernel
theorem dX10_byTurns_80 : decode cX10_byTurns 80 = .ok (.istore 6, 2) := by decide +kernel
theorem dX10_byTurns_82 : decode cX10_byTurns 82 = .ok (.iload_n 3, 1) := by decide +kernel
theorem dX10_byTurns_83 : decode cX10_byTurns 83 = .ok (.ifCond .eq 20, 3) := by decide +kernel
theorem dX10_byTurns_86 : decode cX10_byTurns 86 = .ok (.iload 6, 2) := by decide +kernel
theorem dX10_byTurns_88 : decode cX10_byTurns 88 = .ok (.iload 4, 2) := by decide +kernel
theorem dX10_byTurns_90 : decode cX10_byTurns 90 = .ok (.if_icmp .le 8, 3) := by decide +kernel
theorem dX10_byTurns_93 : decode cX10_byTurns 93 = .ok (.iload 6, 2) := by decide +kernel
theorem dX10_byTurns_95 : decode cX10_byTurns 95 = .ok (.goto 22, 3) := by decide +kernel
theorem dX10_byTurns_98 : decode cX10_byTurns 98 = .ok (.iload 4, 2) := by decide +kernel
theorem dX10_byTurns_100 : decode cX10_byTurns 100 = .ok (.goto 17, 3) := by decide +kernel
theorem dX10_byTurns_103 : decode cX10_byTurns 103 = .ok (.iload 6, 2) := by decide +kernel
theorem dX10_byTurns_105 : decode cX10_byTurns 105 = .ok (.iload 4, 2) := by decide +kernel
theorem dX10_byTurns_107 : decode cX10_byTurns 107 = .ok (.if_icmp .ge 8, 3) := by decide +kernel
theorem dX10_byTurns_110 : decode cX10_byTurns 110 = .ok (.iload 6, 2) := by decide +kernel
theorem dX10_byTurns_112 : decode cX10_byTurns 112 = .ok (.goto 5, 3) := by decide +kernel
theorem dX10_byTurns_115 : decode cX10_byTurns 115 = .ok (.iload 4, 2) := by decide +kernel
theorem dX10_byTurns_117 : decode cX10_byTurns 117 = .ok (.istore 4, 2) := by decide +kernel
theorem dX10_byTurns_119 : decode cX10_byTurns 119 = .ok (.iinc 5 1, 3) := by decide +kernel
theorem dX10_byTurns_122 : decode cX10_byTurns 122 = .ok (.goto (-73), 3) := by decide +kernel
theorem dX10_byTurns_125 : decode cX10_byTurns 125 = .ok (.aload_n 0, 1) := by decide +kernel
theorem dX10_byTurns_126 : decode cX10_byTurns 126 = .ok (.getfield 45, 3) := by decide +kernel
theorem dX10_byTurns_129 : decode cX10_byTurns 129 = .ok (.iload_n 2, 1) := by decide +kernel
theorem dX10_byTurns_130 : decode cX10_byTurns 130 = .ok (.iload 4, 2) := by decide +kernel
theorem dX10_byTurns_132 : decode cX10_byTurns 132 = .ok (.iastore, 1) := by decide +kernel
theorem dX10_byTurns_133 : decode cX10_byTurns 133 = .ok (.iinc 2 (-1), 3) := by decide +kernel
theorem dX10_byTurns_136 : decode cX10_byTurns 136 = .ok (.goto (-123), 3) := by decide +kernel
theorem dX10_byTurns_139 : decode cX10_byTurns 139 = .ok (.aload_n 0, 1) := by decide +kernel
theorem dX10_byTurns_140 : decode cX10_byTurns 140 = .ok (.getfield 45, 3) := by decide +kernel
theorem dX10_byTurns_143 : decode cX10_byTurns 143 = .ok (.iconst 0, 1) := by decide +kernel
theorem dX10_byTurns_144 : decode cX10_byTurns 144 = .ok (.iaload, 1) := by decide +kernel
theorem dX10_byTurns_145 : decode cX10_byTurns 145 = .ok (.ireturn, 1) := by decide +kernel
theorem dX10_mark_0 : decode cX10_mark 0 = .ok (.iload_n 1, 1) := by decide +kernel
theorem dX10_mark_1 : decode cX10_mark 1 = .ok (.iconst 0, 1) := by decide +kernel
theorem dX10_mark_2 : decode cX10_mark 2 = .ok (.iconst 5, 1) := by decide +kernel
theorem dX10_mark_3 : decode cX10_mark 3 = .ok (.invokestatic 48, 3) := by decide +kernel
theorem dX10_mark_6 : decode cX10_mark 6 = .ok (.ifCond .eq 11, 3) := by decide +kernel
theorem dX10_mark_9 : decode cX10_mark 9 = .ok (.aload_n 0, 1) := by decide +kernel
theorem dX10_mark_10 : decode cX10_mark 10 = .ok (.iload_n 2, 1) := by decide +kernel
theorem dX10_mark_11 : decode cX10_mark 11 = .ok (.invokevirtual 96, 3) := by decide +kernel
theorem dX10_mark_14 : decode cX10_mark 14 = .ok (.ifCond .ne 6, 3) := by decide +kernel
theorem dX10_mark_17 : decode cX10_mark 17 = .ok (.ldc 168, 2) := by decide +kernel
theorem dX10_mark_19 : decode cX10_mark 19 = .ok (.ireturn, 1) := by decide +kernel
theorem dX10_mark_20 : decode cX10_mark 20 = .ok (.aload_n 0, 1) := by decide +kernel
theorem dX10_mark_21 : decode cX10_mark 21 = .ok (.getfield 17, 3) := by decide +kernel
theorem dX10_mark_24 : decode cX10_mark 24 = .ok (.iload_n 2, 1) := by decide +kernel
theorem dX10_mark_25 : decode cX10_mark 25 = .ok (.iaload, 1) := by decide +kernel
theorem dX10_mark_26 : decode cX10_mark 26 = .ok (.istore_n 3, 1) := by decide +kernel
theorem dX10_mark_27 : decode cX10_mark 27 = .ok (.iconst 0, 1) := by decide +kernel
theorem dX10_mark_28 : decode cX10_mark 28 = .ok (.istore 4, 2) := by decide +kernel
theorem dX10_mark_30 : decode cX10_mark 30 = .ok (.iconst 0, 1) := by decide +kernel
theorem dX10_mark_31 : decode cX10_mark 31 = .ok (.istore 5, 2) := by decide +kernel
theorem dX10_mark_33 : decode cX10_mark 33 = .ok (.iload 5, 2) := by decide +kernel
theorem dX10_mark_35 : decode cX10_mark 35 = .ok (.aload_n 0, 1) := by decide +kernel
theorem dX10_mark_36 : decode cX10_mark 36 = .ok (.getfield 23, 3) := by decide +kernel
theorem dX10_mark_39 : decode cX10_mark 39 = .ok (.iconst 0, 1) := by decide +kernel
theorem dX10_mark_40 : decode cX10_mark 40 = .ok (.iaload, 1) := by decide +kernel
theorem dX10_mark_41 : decode cX10_mark 41 = .ok (.if_icmp .ge 27, 3) := by decide +kernel
theorem dX10_mark_44 : decode cX10_mark 44 = .ok (.iload 4, 2) := by decide +kernel
theorem dX10_mark_46 : decode cX10_mark 46 = .ok (.aload_n 0, 1) := by decide +kernel
theorem dX10_mark_47 : decode cX10_mark 47 = .ok (.getfield 26, 3) := by decide +kernel
theorem dX10_mark_50 : decode cX10_mark 50 = .ok (.iconst 3, 1) := by decide +kernel
theorem dX10_mark_51 : decode cX10_mark 51 = .ok (.iload 5, 2) := by decide +kernel
theorem dX10_mark_53 : decode cX10_mark 53 = .ok (.imul, 1) := by decide +kernel
theorem dX10_mark_54 : decode cX10_mark 54 = .ok (.iaload, 1) := by decide +kernel
theorem dX10_mark_55 : decode cX10_mark 55 = .ok (.iload_n 2, 1) := by decide +kernel
theorem dX10_mark_56 : decode cX10_mark 56 = .ok (.ishr, 1) := by decide +kernel
theorem dX10_mark_57 : decode cX10_mark 57 = .ok (.iconst 1, 1) := by decide +kernel
theorem dX10_mark_58 : decode cX10_mark 58 = .ok (.iand, 1) := by decide +kernel
theorem dX10_mark_59 : decode cX10_mark 59 = .ok (.iadd, 1) := by decide +kernel
theorem dX10_mark_60 : decode cX10_mark 60 = .ok (.istore 4, 2) := by decide +kernel
theorem dX10_mark_62 : decode cX10_mark 62 = .ok (.iinc 5 1, 3) := by decide +kernel
theorem dX10_mark_65 : decode cX10_mark 65 = .ok (.goto (-32), 3) := by decide +kernel
theorem dX10_mark_68 : decode cX10_mark 68 = .ok (.iload_n 1, 1) := by decide +kernel
theorem dX10_mark_69 : decode cX10_mark 69 = .ok (.tableswitch 130 0 4 #[35, 47, 68, 84, 112], 35) := by decide +kernel
theorem dX10_mark_104 : decode cX10_mark 104 = .ok (.aload_n 0, 1) := by decide +kernel
theorem dX10_mark_105 : decode cX10_mark 105 = .ok (.dup, 1) := by decide +kernel
theorem dX10_mark_106 : decode cX10_mark 106 = .ok (.getfield 169, 3) := by decide +kernel
theorem dX10_mark_109 : decode cX10_mark 109 = .ok (.lconst 1, 1) := by decide +kernel
theorem dX10_mark_110 : decode cX10_mark 110 = .ok (.ladd, 1) := by decide +kernel
theorem dX10_mark_111 : decode cX10_mark 111 = .ok (.putfield 169, 3) := by decide +kernel
theorem dX10_mark_114 : decode cX10_mark 114 = .ok (.iload_n 3, 1) := by decide +kernel
theorem dX10_mark_115 : decode cX10_mark 115 = .ok (.ireturn, 1) := by decide +kernel
theorem dX10_mark_116 : decode cX10_mark 116 = .ok (.aload_n 0, 1) := by decide +kernel
theorem dX10_mark_117 : decode cX10_mark 117 = .ok (.dup, 1) := by decide +kernel
theorem dX10_mark_118 : decode cX10_mark 118 = .ok (.getfield 169, 3) := by decide +kernel
theorem dX10_mark_121 : decode cX10_mark 121 = .ok (.ldc2_w 173, 3) := by decide +kernel
theorem dX10_mark_124 : decode cX10_mark 124 = .ok (.ladd, 1) := by decide +kernel
theorem dX10_mark_125 : decode cX10_mark 125 = .ok (.putfield 169, 3) := by decide +kernel
theorem dX10_mark_128 : decode cX10_mark 128 = .ok (.iload_n 3, 1) := by decide +kernel
theorem dX10_mark_129 : decode cX10_mark 129 = .ok (.aload_n 0, 1) := by decide +kernel
theorem dX10_mark_130 : decode cX10_mark 130 = .ok (.getfield 17, 3) := by decide +kernel
theorem dX10_mark_133 : decode cX10_mark 133 = .ok (.iconst 3, 1) := by decide +kernel
theorem dX10_mark_134 : decode cX10_mark 134 = .ok (.iaload, 1) := by decide +kernel
theorem dX10_mark_135 : decode cX10_mark 135 = .ok (.iadd, 1) := by decide +kernel
theorem dX10_mark_136 : decode cX10_mark 136 = .ok (.ireturn, 1) := by decide +kernel
theorem dX10_mark_137 : decode cX10_mark 137 = .ok (.aload_n 0, 1) := by decide +kernel
theorem dX10_mark_138 : decode cX10_mark 138 = .ok (.dup, 1) := by decide +kernel
theorem dX10_mark_139 : decode cX10_mark 139 = .ok (.getfield 169, 3) := by decide +kernel
theorem dX10_mark_142 : decode cX10_mark 142 = .ok (.ldc2_w 175, 3) := by decide +kernel
theorem dX10_mark_145 : decode cX10_mark 145 = .ok (.ladd, 1) := by decide +kernel
theorem dX10_mark_146 : decode cX10_mark 146 = .ok (.putfield 169, 3) := by decide +kernel
theorem dX10_mark_149 : decode cX10_mark 149 = .ok (.iconst 2, 1) := by decide +kernel
theorem dX10_mark_150 : decode cX10_mark 150 = .ok (.iload_n 3, 1) := by decide +kernel
theorem dX10_mark_151 : decode cX10_mark 151 = .ok (.imul, 1) := by decide +kernel
theorem dX10_mark_152 : decode cX10_mark 152 = .ok (.ireturn, 1) := by decide +kernel
theorem dX10_mark_153 : decode cX10_mark 153 = .ok (.aload_n 0, 1) := by decide +kernel
theorem dX10_mark_154 : decode cX10_mark 154 = .ok (.dup, 1) := by decide +kernel
theorem dX10_mark_155 : decode cX10_mark 155 = .ok (.getfield 169, 3) := by decide +kernel
theorem dX10_mark_158 : decode cX10_mark 158 = .ok (.ldc2_w 177, 3) := by decide +kernel
theorem dX10_mark_161 : decode cX10_mark 161 = .ok (.ladd, 1) := by decide +kernel
theorem dX10_mark_162 : decode cX10_mark 162 = .ok (.putfield 169, 3) := by decide +kernel
theorem dX10_mark_165 : decode cX10_mark 165 = .ok (.iload_n 3, 1) := by decide +kernel
theorem dX10_mark_166 : decode cX10_mark 166 = .ok (.aload_n 0, 1) := by decide +kernel
theorem dX10_mark_167 : decode cX10_mark 167 = .ok (.getfield 17, 3) := by decide +kernel
theorem dX10_mark_170 : decode cX10_mark 170 = .ok (.iconst 3, 1) := by decide +kernel
theorem dX10_mark_171 : decode cX10_mark 171 = .ok (.iaload, 1) := by decide +kernel
theorem dX10_mark_172 : decode cX10_mark 172 = .ok (.iadd, 1) := by decide +kernel
theorem dX10_mark_173 : decode cX10_mark 173 = .ok (.aload_n 0, 1) := by decide +kernel
theorem dX10_mark_174 : decode cX10_mark 174 = .ok (.getfield 23, 3) := by decide +kernel
theorem dX10_mark_177 : decode cX10_mark 177 = .ok (.iconst 0, 1) := by decide +kernel
theorem dX10_mark_178 : decode cX10_mark 178 = .ok (.iaload, 1) := by decide +kernel
theorem dX10_mark_179 : decode cX10_mark 179 = .ok (.isub, 1) := by decide +kernel
theorem dX10_mark_180 : decode cX10_mark 180 = .ok (.ireturn, 1) := by decide +kernel
theorem dX10_mark_181 : decode cX10_mark 181 = .ok (.aload_n 0, 1) := by decide +kernel
theorem dX10_mark_182 : decode cX10_mark 182 = .ok (.dup, 1) := by decide +kernel
theorem dX10_mark_183 : decode cX10_mark 183 = .ok (.getfield 169, 3) := by decide +kernel
theorem dX10_mark_186 : decode cX10_mark 186 = .ok (.ldc2_w 179, 3) := by decide +kernel
theorem dX10_mark_189 : decode cX10_mark 189 = .ok (.ladd, 1) := by decide +kernel
theorem dX10_mark_190 : decode cX10_mark 190 = .ok (.putfield 169, 3) := by decide +kernel
theorem dX10_mark_193 : decode cX10_mark 193 = .ok (.iconst 2, 1) := by decide +kernel
theorem dX10_mark_194 : decode cX10_mark 194 = .ok (.iload_n 3, 1) := by decide +kernel
theorem dX10_mark_195 : decode cX10_mark 195 = .ok (.imul, 1) := by decide +kernel
theorem dX10_mark_196 : decode cX10_mark 196 = .ok (.iload_n 2, 1) := by decide +kernel
theorem dX10_mark_197 : decode cX10_mark 197 = .ok (.iadd, 1) := by decide +kernel
theorem dX10_mark_198 : decode cX10_mark 198 = .ok (.ireturn, 1) := by decide +kernel
theorem dX10_mark_199 : decode cX10_mark 199 = .ok (.aload_n 0, 1) := by decide +kernel
theorem dX10_mark_200 : decode cX10_mark 200 = .ok (.dup, 1) := by decide +kernel
theorem dX10_mark_201 : decode cX10_mark 201 = .ok (.getfield 169, 3) := by decide +kernel
theorem dX10_mark_204 : decode cX10_mark 204 = .ok (.ldc2_w 181, 3) := by decide +kernel
theorem dX10_mark_207 : decode cX10_mark 207 = .ok (.ladd, 1) := by decide +kernel
theorem dX10_mark_208 : decode cX10_mark 208 = .ok (.putfield 169, 3) := by decide +kernel
theorem dX10_mark_211 : decode cX10_mark 211 = .ok (.iload_n 3, 1) := by decide +kernel
theorem dX10_mark_212 : decode cX10_mark 212 = .ok (.iload 4, 2) := by decide +kernel
theorem dX10_mark_214 : decode cX10_mark 214 = .ok (.iadd, 1) := by decide +kernel
theorem dX10_mark_215 : decode cX10_mark 215 = .ok (.ireturn, 1) := by decide +kernel
theorem dX10_copy_0 : decode cX10_copy 0 = .ok (.aload_n 0, 1) := by decide +kernel
theorem dX10_copy_1 : decode cX10_copy 1 = .ok (.getfield 23, 3) := by decide +kernel
theorem dX10_copy_4 : decode cX10_copy 4 = .ok (.iload_n 2, 1) := by decide +kernel
theorem dX10_copy_5 : decode cX10_copy 5 = .ok (.aload_n 0, 1) := by decide +kernel
theorem dX10_copy_6 : decode cX10_copy 6 = .ok (.getfield 23, 3) := by decide +kernel
theorem dX10_copy_9 : decode cX10_copy 9 = .ok (.iload_n 1, 1) := by decide +kernel
theorem dX10_copy_10 : decode cX10_copy 10 = .ok (.iaload, 1) := by decide +kernel
theorem dX10_copy_11 : decode cX10_copy 11 = .ok (.iastore, 1) := by decide +kernel
theorem dX10_copy_12 : decode cX10_copy 12 = .ok (.iconst 0, 1) := by decide +kernel
theorem dX10_copy_13 : decode cX10_copy 13 = .ok (.istore_n 3, 1) := by decide +kernel
theorem dX10_copy_14 : decode cX10_copy 14 = .ok (.iload_n 3, 1) := by decide +kernel
theorem dX10_copy_15 : decode cX10_copy 15 = .ok (.bipush 36, 2) := by decide +kernel
theorem dX10_copy_17 : decode cX10_copy 17 = .ok (.if_icmp .ge 31, 3) := by decide +kernel
theorem dX10_copy_20 : decode cX10_copy 20 = .ok (.aload_n 0, 1) := by decide +kernel
theorem dX10_copy_21 : decode cX10_copy 21 = .ok (.getfield 26, 3) := by decide +kernel
theorem dX10_copy_24 : decode cX10_copy 24 = .ok (.bipush 36, 2) := by decide +kernel
theorem dX10_copy_26 : decode cX10_copy 26 = .ok (.iload_n 2, 1) := by decide +kernel
theorem dX10_copy_27 : decode cX10_copy 27 = .ok (.imul, 1) := by decide +kernel
theorem dX10_copy_28 : decode cX10_copy 28 = .ok (.iload_n 3, 1) := by decide +kernel
theorem dX10_copy_29 : decode cX10_copy 29 = .ok (.iadd, 1) := by decide +kernel
theorem dX10_copy_30 : decode cX10_copy 30 = .ok (.aload_n 0, 1) := by decide +kernel
theorem dX10_copy_31 : decode cX10_copy 31 = .ok (.getfield 26, 3) := by decide +kernel
theorem dX10_copy_34 : decode cX10_copy 34 = .ok (.bipush 36, 2) := by decide +kernel
theorem dX10_copy_36 : decode cX10_copy 36 = .ok (.iload_n 1, 1) := by decide +kernel
theorem dX10_copy_37 : decode cX10_copy 37 = .ok (.imul, 1) := by decide +kernel
theorem dX10_copy_38 : decode cX10_copy 38 = .ok (.iload_n 3, 1) := by decide +kernel
theorem dX10_copy_39 : decode cX10_copy 39 = .ok (.iadd, 1) := by decide +kernel
theorem dX10_copy_40 : decode cX10_copy 40 = .ok (.iaload, 1) := by decide +kernel
theorem dX10_copy_41 : decode cX10_copy 41 = .ok (.iastore, 1) := by decide +kernel
theorem dX10_copy_42 : decode cX10_copy 42 = .ok (.iinc 3 1, 3) := by decide +kernel
theorem dX10_copy_45 : decode cX10_copy 45 = .ok (.goto (-31), 3) := by decide +kernel
theorem dX10_copy_48 : decode cX10_copy 48 = .ok (.return_, 1) := by decide +kernel
theorem dX10_keep_0 : decode cX10_keep 0 = .ok (.iload_n 1, 1) := by decide +kernel
theorem dX10_keep_1 : decode cX10_keep 1 = .ok (.iconst 0, 1) := by decide +kernel
theorem dX10_keep_2 : decode cX10_keep 2 = .ok (.iconst 1, 1) := by decide +kernel
theorem dX10_keep_3 : decode cX10_keep 3 = .ok (.invokestatic 48, 3) := by decide +kernel
theorem dX10_keep_6 : decode cX10_keep 6 = .ok (.ifCond .ne 5, 3) := by decide +kernel
theorem dX10_keep_9 : decode cX10_keep 9 = .ok (.iconst (-1), 1) := by decide +kernel
theorem dX10_keep_10 : decode cX10_keep 10 = .ok (.ireturn, 1) := by decide +kernel
theorem dX10_keep_11 : decode cX10_keep 11 = .ok (.aload_n 0, 1) := by decide +kernel
theorem dX10_keep_12 : decode cX10_keep 12 = .ok (.iconst 0, 1) := by decide +kernel
theorem dX10_keep_13 : decode cX10_keep 13 = .ok (.iconst 1, 1) := by decide +kernel
theorem dX10_keep_14 : decode cX10_keep 14 = .ok (.iload_n 1, 1) := by decide +kernel
theorem dX10_keep_15 : decode cX10_keep 15 = .ok (.iadd, 1) := by decide +kernel
theorem dX10_keep_16 : decode cX10_keep 16 = .ok (.invokevirtual 183, 3) := by decide +kernel
theorem dX10_keep_19 : decode cX10_keep 19 = .ok (.aload_n 0, 1) := by decide +kernel
theorem dX10_keep_20 : decode cX10_keep 20 = .ok (.getfield 29, 3) := by decide +kernel
theorem dX10_keep_23 : decode cX10_keep 23 = .ok (.iload_n 1, 1) := by decide +kernel
theorem dX10_keep_24 : decode cX10_keep 24 = .ok (.iconst 1, 1) := by decide +kernel
theorem dX10_keep_25 : decode cX10_keep 25 = .ok (.bastore, 1) := by decide +kernel
theorem dX10_keep_26 : decode cX10_keep 26 = .ok (.aload_n 0, 1) := by decide +kernel
theorem dX10_keep_27 : decode cX10_keep 27 = .ok (.getfield 23, 3) := by decide +kernel
theorem dX10_keep_30 : decode cX10_keep 30 = .ok (.iconst 0, 1) := by decide +kernel
theorem dX10_keep_31 : decode cX10_keep 31 = .ok (.iaload, 1) := by decide +kernel
theorem dX10_keep_32 : decode cX10_keep 32 = .ok (.ireturn, 1) := by decide +kernel
theorem dX10_back_0 : decode cX10_back 0 = .ok (.iload_n 1, 1) := by decide +kernel
theorem dX10_back_1 : decode cX10_back 1 = .ok (.iconst 0, 1) := by decide +kernel
theorem dX10_back_2 : decode cX10_back 2 = .ok (.iconst 1, 1) := by decide +kernel
theorem dX10_back_3 : decode cX10_back 3 = .ok (.invokestatic 48, 3) := by decide +kernel
theorem dX10_back_6 : decode cX10_back 6 = .ok (.ifCond .ne 5, 3) := by decide +kernel
theorem dX10_back_9 : decode cX10_back 9 = .ok (.iconst (-1), 1) := by decide +kernel
theorem dX10_back_10 : decode cX10_back 10 = .ok (.ireturn, 1) := by decide +kernel
theorem dX10_back_11 : decode cX10_back 11 = .ok (.aload_n 0, 1) := by decide +kernel
theorem dX10_back_12 : decode cX10_back 12 = .ok (.getfield 29, 3) := by decide +kernel
theorem dX10_back_15 : decode cX10_back 15 = .ok (.iload_n 1, 1) := by decide +kernel
theorem dX10_back_16 : decode cX10_back 16 = .ok (.baload, 1) := by decide +kernel
theorem dX10_back_17 : decode cX10_back 17 = .ok (.ifCond .ne 6, 3) := by decide +kernel
theorem dX10_back_20 : decode cX10_back 20 = .ok (.bipush (-2), 2) := by decide +kernel
theorem dX10_back_22 : decode cX10_back 22 = .ok (.ireturn, 1) := by decide +kernel
theorem dX10_back_23 : decode cX10_back 23 = .ok (.aload_n 0, 1) := by decide +kernel
theorem dX10_back_24 : decode cX10_back 24 = .ok (.iconst 1, 1) := by decide +kernel
theorem dX10_back_25 : decode cX10_back 25 = .ok (.iload_n 1, 1) := by decide +kernel
theorem dX10_back_26 : decode cX10_back 26 = .ok (.iadd, 1) := by decide +kernel
theorem dX10_back_27 : decode cX10_back 27 = .ok (.iconst 0, 1) := by decide +kernel
theorem dX10_back_28 : decode cX10_back 28 = .ok (.invokevirtual 183, 3) := by decide +kernel
theorem dX10_back_31 : decode cX10_back 31 = .ok (.aload_n 0, 1) := by decide +kernel
theorem dX10_back_32 : decode cX10_back 32 = .ok (.getfield 23, 3) := by decide +kernel
theorem dX10_back_35 : decode cX10_back 35 = .ok (.iconst 0, 1) := by decide +kernel
theorem dX10_back_36 : decode cX10_back 36 = .ok (.iaload, 1) := by decide +kernel
theorem dX10_back_37 : decode cX10_back 37 = .ok (.ireturn, 1) := by decide +kernel
theorem dX10_count_0 : decode cX10_count 0 = .ok (.iload_n 1, 1) := by decide +kernel
theorem dX10_count_1 : decode cX10_count 1 = .ok (.ifCond .ne 12, 3) := by decide +kernel
theorem dX10_count_4 : decode cX10_count 4 = .ok (.aload_n 0, 1) := by decide +kernel
theorem dX10_count_5 : decode cX10_count 5 = .ok (.getfield 13, 3) := by decide +kernel
theorem dX10_count_8 : decode cX10_count 8 = .ok (.iconst 0, 1) := by decide +kernel
theorem dX10_count_9 : decode cX10_count 9 = .ok (.iaload, 1) := by decide +kernel
theorem dX10_count_10 : decode cX10_count 10 = .ok (.goto 44, 3) := by decide +kernel
theorem dX10_count_13 : decode cX10_count 13 = .ok (.iload_n 1, 1) := by decide +kernel
theorem dX10_count_14 : decode cX10_count 14 = .ok (.iconst 1, 1) := by decide +kernel
theorem dX10_count_15 : decode cX10_count 15 = .ok (.if_icmp .ne 12, 3) := by decide +kernel
theorem dX10_count_18 : decode cX10_count 18 = .ok (.aload_n 0, 1) := by decide +kernel
theorem dX10_count_19 : decode cX10_count 19 = .ok (.getfield 20, 3) := by decide +kernel
theorem dX10_count_22 : decode cX10_count 22 = .ok (.iconst 0, 1) := by decide +kernel
theorem dX10_count_23 : decode cX10_count 23 = .ok (.iaload, 1) := by decide +kernel
theorem dX10_count_24 : decode cX10_count 24 = .ok (.goto 30, 3) := by decide +kernel
theorem dX10_count_27 : decode cX10_count 27 = .ok (.iload_n 1, 1) := by decide +kernel
theorem dX10_count_28 : decode cX10_count 28 = .ok (.iconst 2, 1) := by decide +kernel
theorem dX10_count_29 : decode cX10_count 29 = .ok (.if_icmp .ne 12, 3) := by decide +kernel
theorem dX10_count_32 : decode cX10_count 32 = .ok (.aload_n 0, 1) := by decide +kernel
theorem dX10_count_33 : decode cX10_count 33 = .ok (.getfield 23, 3) := by decide +kernel
theorem dX10_count_36 : decode cX10_count 36 = .ok (.iconst 0, 1) := by decide +kernel
theorem dX10_count_37 : decode cX10_count 37 = .ok (.iaload, 1) := by decide +kernel
theorem dX10_count_38 : decode cX10_count 38 = .ok (.goto 16, 3) := by decide +kernel
theorem dX10_count_41 : decode cX10_count 41 = .ok (.iload_n 1, 1) := by decide +kernel
theorem dX10_count_42 : decode cX10_count 42 = .ok (.iconst 3, 1) := by decide +kernel
theorem dX10_count_43 : decode cX10_count 43 = .ok (.if_icmp .ne 10, 3) := by decide +kernel
theorem dX10_count_46 : decode cX10_count 46 = .ok (.aload_n 0, 1) := by decide +kernel
theorem dX10_count_47 : decode cX10_count 47 = .ok (.getfield 52, 3) := by decide +kernel
theorem dX10_count_50 : decode cX10_count 50 = .ok (.goto 4, 3) := by decide +kernel
theorem dX10_count_53 : decode cX10_count 53 = .ok (.iconst (-1), 1) := by decide +kernel
theorem dX10_count_54 : decode cX10_count 54 = .ok (.ireturn, 1) := by decide +kernel
theorem dX10_trace_0 : decode cX10_trace 0 = .ok (.aload_n 0, 1) := by decide +kernel
theorem dX10_trace_1 : decode cX10_trace 1 = .ok (.getfield 169, 3) := by decide +kernel
theorem dX10_trace_4 : decode cX10_trace 4 = .ok (.lreturn, 1) := by decide +kernel
theorem dJ6_bitCount_0f7a4_0 : decode cJ6_bitCount_0f7a4 0 = .ok (.iload_n 0, 1) := by decide +kernel
theorem dJ6_bitCount_0f7a4_1 : decode cJ6_bitCount_0f7a4 1 = .ok (.iload_n 0, 1) := by decide +kernel
theorem dJ6_bitCount_0f7a4_2 : decode cJ6_bitCount_0f7a4 2 = .ok (.iconst 1, 1) := by decide +kernel
theorem dJ6_bitCount_0f7a4_3 : decode cJ6_bitCount_0f7a4 3 = .ok (.iushr, 1) := by decide +kernel
theorem dJ6_bitCount_0f7a4_4 : decode cJ6_bitCount_0f7a4 4 = .ok (.ldc_w 265, 3) := by decide +kernel
theorem dJ6_bitCount_0f7a4_7 : decode cJ6_bitCount_0f7a4 7 = .ok (.iand, 1) := by decide +kernel
theorem dJ6_bitCount_0f7a4_8 : decode cJ6_bitCount_0f7a4 8 = .ok (.isub, 1) := by decide +kernel
theorem dJ6_bitCount_0f7a4_9 : decode cJ6_bitCount_0f7a4 9 = .ok (.istore_n 0, 1) := by decide +kernel
theorem dJ6_bitCount_0f7a4_10 : decode cJ6_bitCount_0f7a4 10 = .ok (.iload_n 0, 1) := by decide +kernel
theorem dJ6_bitCount_0f7a4_11 : decode cJ6_bitCount_0f7a4 11 = .ok (.ldc_w 266, 3) := by decide +kernel
theorem dJ6_bitCount_0f7a4_14 : decode cJ6_bitCount_0f7a4 14 = .ok (.iand, 1) := by decide +kernel
theorem dJ6_bitCount_0f7a4_15 : decode cJ6_bitCount_0f7a4 15 = .ok (.iload_n 0, 1) := by decide +kernel
theorem dJ6_bitCount_0f7a4_16 : decode cJ6_bitCount_0f7a4 16 = .ok (.iconst 2, 1) := by decide +kernel
theorem dJ6_bitCount_0f7a4_17 : decode cJ6_bitCount_0f7a4 17 = .ok (.iushr, 1) := by decide +kernel
theorem dJ6_bitCount_0f7a4_18 : decode cJ6_bitCount_0f7a4 18 = .ok (.ldc_w 266, 3) := by decide +kernel
theorem dJ6_bitCount_0f7a4_21 : decode cJ6_bitCount_0f7a4 21 = .ok (.iand, 1) := by decide +kernel
theorem dJ6_bitCount_0f7a4_22 : decode cJ6_bitCount_0f7a4 22 = .ok (.iadd, 1) := by decide +kernel
theorem dJ6_bitCount_0f7a4_23 : decode cJ6_bitCount_0f7a4 23 = .ok (.istore_n 0, 1) := by decide +kernel
theorem dJ6_bitCount_0f7a4_24 : decode cJ6_bitCount_0f7a4 24 = .ok (.iload_n 0, 1) := by decide +kernel
theorem dJ6_bitCount_0f7a4_25 : decode cJ6_bitCount_0f7a4 25 = .ok (.iload_n 0, 1) := by decide +kernel
theorem dJ6_bitCount_0f7a4_26 : decode cJ6_bitCount_0f7a4 26 = .ok (.iconst 4, 1) := by decide +kernel
theorem dJ6_bitCount_0f7a4_27 : decode cJ6_bitCount_0f7a4 27 = .ok (.iushr, 1) := by decide +kernel
theorem dJ6_bitCount_0f7a4_28 : decode cJ6_bitCount_0f7a4 28 = .ok (.iadd, 1) := by decide +kernel
theorem dJ6_bitCount_0f7a4_29 : decode cJ6_bitCount_0f7a4 29 = .ok (.ldc_w 267, 3) := by decide +kernel
theorem dJ6_bitCount_0f7a4_32 : decode cJ6_bitCount_0f7a4 32 = .ok (.iand, 1) := by decide +kernel
theorem dJ6_bitCount_0f7a4_33 : decode cJ6_bitCount_0f7a4 33 = .ok (.istore_n 0, 1) := by decide +kernel
theorem dJ6_bitCount_0f7a4_34 : decode cJ6_bitCount_0f7a4 34 = .ok (.iload_n 0, 1) := by decide +kernel
theorem dJ6_bitCount_0f7a4_35 : decode cJ6_bitCount_0f7a4 35 = .ok (.iload_n 0, 1) := by decide +kernel
theorem dJ6_bitCount_0f7a4_36 : decode cJ6_bitCount_0f7a4 36 = .ok (.bipush 8, 2) := by decide +kernel
theorem dJ6_bitCount_0f7a4_38 : decode cJ6_bitCount_0f7a4 38 = .ok (.iushr, 1) := by decide +kernel
theorem dJ6_bitCount_0f7a4_39 : decode cJ6_bitCount_0f7a4 39 = .ok (.iadd, 1) := by decide +kernel
theorem dJ6_bitCount_0f7a4_40 : decode cJ6_bitCount_0f7a4 40 = .ok (.istore_n 0, 1) := by decide +kernel
theorem dJ6_bitCount_0f7a4_41 : decode cJ6_bitCount_0f7a4 41 = .ok (.iload_n 0, 1) := by decide +kernel
theorem dJ6_bitCount_0f7a4_42 : decode cJ6_bitCount_0f7a4 42 = .ok (.iload_n 0, 1) := by decide +kernel
theorem dJ6_bitCount_0f7a4_43 : decode cJ6_bitCount_0f7a4 43 = .ok (.bipush 16, 2) := by decide +kernel
theorem dJ6_bitCount_0f7a4_45 : decode cJ6_bitCount_0f7a4 45 = .ok (.iushr, 1) := by decide +kernel
theorem dJ6_bitCount_0f7a4_46 : decode cJ6_bitCount_0f7a4 46 = .ok (.iadd, 1) := by decide +kernel
theorem dJ6_bitCount_0f7a4_47 : decode cJ6_bitCount_0f7a4 47 = .ok (.istore_n 0, 1) := by decide +kernel
theorem dJ6_bitCount_0f7a4_48 : decode cJ6_bitCount_0f7a4 48 = .ok (.iload_n 0, 1) := by decide +kernel
theorem dJ6_bitCount_0f7a4_49 : decode cJ6_bitCount_0f7a4 49 = .ok (.bipush 63, 2) := by decide +kernel
theorem dJ6_bitCount_0f7a4_51 : decode cJ6_bitCount_0f7a4 51 = .ok (.iand, 1) := by decide +kernel
theorem dJ6_bitCount_0f7a4_52 : decode cJ6_bitCount_0f7a4 52 = .ok (.ireturn, 1) := by decide +kernel
theorem dJ9_max_7cf53_0 : decode cJ9_max_7cf53 0 = .ok (.iload_n 0, 1) := by decide +kernel
theorem dJ9_max_7cf53_1 : decode cJ9_max_7cf53 1 = .ok (.iload_n 1, 1) := by decide +kernel
theorem dJ9_max_7cf53_2 : decode cJ9_max_7cf53 2 = .ok (.if_icmp .lt 7, 3) := by decide +kernel
theorem dJ9_max_7cf53_5 : decode cJ9_max_7cf53 5 = .ok (.iload_n 0, 1) := by decide +kernel
theorem dJ9_max_7cf53_6 : decode cJ9_max_7cf53 6 = .ok (.goto 4, 3) := by decide +kernel
theorem dJ9_max_7cf53_9 : decode cJ9_max_7cf53 9 = .ok (.iload_n 1, 1) := by decide +kernel
theorem dJ9_max_7cf53_10 : decode cJ9_max_7cf53 10 = .ok (.ireturn, 1) := by decide +kernel
theorem dJ9_min_7cf53_0 : decode cJ9_min_7cf53 0 = .ok (.iload_n 0, 1) := by decide +kernel
theorem dJ9_min_7cf53_1 : decode cJ9_min_7cf53 1 = .ok (.iload_n 1, 1) := by decide +kernel
theorem dJ9_min_7cf53_2 : decode cJ9_min_7cf53 2 = .ok (.if_icmp .gt 7, 3) := by decide +kernel
theorem dJ9_min_7cf53_5 : decode cJ9_min_7cf53 5 = .ok (.iload_n 0, 1) := by decide +kernel
theorem dJ9_min_7cf53_6 : decode cJ9_min_7cf53 6 = .ok (.goto 4, 3) := by decide +kernel
theorem dJ9_min_7cf53_9 : decode cJ9_min_7cf53 9 = .ok (.iload_n 1, 1) := by decide +kernel
theorem dJ9_min_7cf53_10 : decode cJ9_min_7cf53 10 = .ok (.ireturn, 1) := by decide +kernel
theorem dJ0_length_8abf5_0 : decode cJ0_length_8abf5 0 = .ok (.aload_n 0, 1) := by decide +kernel
theorem dJ0_length_8abf5_1 : decode cJ0_length_8abf5 1 = .ok (.getfield 9, 3) := by decide +kernel
theorem dJ0_length_8abf5_4 : decode cJ0_length_8abf5 4 = .ok (.arraylength, 1) := by decide +kernel
theorem dJ0_length_8abf5_5 : decode cJ0_length_8abf5 5 = .ok (.aload_n 0, 1) := by decide +kernel
theorem dJ0_length_8abf5_6 : decode cJ0_length_8abf5 6 = .ok (.invokevirtual 335, 3) := by decide +kernel
theorem dJ0_length_8abf5_9 : decode cJ0_length_8abf5 9 = .ok (.ishr, 1) := by decide +kernel
theorem dJ0_length_8abf5_10 : decode cJ0_length_8abf5 10 = .ok (.ireturn, 1) := by decide +kernel
theorem dJ0_charAt_5068e_0 : decode cJ0_charAt_5068e 0 = .ok (.aload_n 0, 1) := by decide +kernel
theorem dJ0_charAt_5068e_1 : decode cJ0_charAt_5068e 1 = .ok (.invokevirtual 492, 3) := by decide +kernel
theorem dJ0_charAt_5068e_4 : decode cJ0_charAt_5068e 4 = .ok (.ifCond .eq 12, 3) := by decide +kernel
theorem dJ0_charAt_5068e_7 : decode cJ0_charAt_5068e 7 = .ok (.aload_n 0, 1) := by decide +kernel
theorem dJ0_charAt_5068e_8 : decode cJ0_charAt_5068e 8 = .ok (.getfield 9, 3) := by decide +kernel
theorem dJ0_charAt_5068e_11 : decode cJ0_charAt_5068e 11 = .ok (.iload_n 1, 1) := by decide +kernel
theorem dJ0_charAt_5068e_12 : decode cJ0_charAt_5068e 12 = .ok (.invokestatic 495, 3) := by decide +kernel
theorem dJ0_charAt_5068e_15 : decode cJ0_charAt_5068e 15 = .ok (.ireturn, 1) := by decide +kernel
theorem dJ0_charAt_5068e_16 : decode cJ0_charAt_5068e 16 = .ok (.aload_n 0, 1) := by decide +kernel
theorem dJ0_charAt_5068e_17 : decode cJ0_charAt_5068e 17 = .ok (.getfield 9, 3) := by decide +kernel
theorem dJ0_charAt_5068e_20 : decode cJ0_charAt_5068e 20 = .ok (.iload_n 1, 1) := by decide +kernel
theorem dJ0_charAt_5068e_21 : decode cJ0_charAt_5068e 21 = .ok (.invokestatic 498, 3) := by decide +kernel
theorem dJ0_charAt_5068e_24 : decode cJ0_charAt_5068e 24 = .ok (.ireturn, 1) := by decide +kernel
theorem dJ0_coder_7d493_0 : decode cJ0_coder_7d493 0 = .ok (.getstatic 38, 3) := by decide +kernel
theorem dJ0_coder_7d493_3 : decode cJ0_coder_7d493 3 = .ok (.ifCond .eq 10, 3) := by decide +kernel
theorem dJ0_coder_7d493_6 : decode cJ0_coder_7d493 6 = .ok (.aload_n 0, 1) := by decide +kernel
theorem dJ0_coder_7d493_7 : decode cJ0_coder_7d493 7 = .ok (.getfield 15, 3) := by decide +kernel
theorem dJ0_coder_7d493_10 : decode cJ0_coder_7d493 10 = .ok (.goto 4, 3) := by decide +kernel
theorem dJ0_coder_7d493_13 : decode cJ0_coder_7d493 13 = .ok (.iconst 1, 1) := by decide +kernel
theorem dJ0_coder_7d493_14 : decode cJ0_coder_7d493 14 = .ok (.ireturn, 1) := by decide +kernel
theorem dJ0_isLatin1_aae02_0 : decode cJ0_isLatin1_aae02 0 = .ok (.getstatic 38, 3) := by decide +kernel
theorem dJ0_isLatin1_aae02_3 : decode cJ0_isLatin1_aae02 3 = .ok (.ifCond .eq 14, 3) := by decide +kernel
theorem dJ0_isLatin1_aae02_6 : decode cJ0_isLatin1_aae02 6 = .ok (.aload_n 0, 1) := by decide +kernel
theorem dJ0_isLatin1_aae02_7 : decode cJ0_isLatin1_aae02 7 = .ok (.getfield 15, 3) := by decide +kernel
theorem dJ0_isLatin1_aae02_10 : decode cJ0_isLatin1_aae02 10 = .ok (.ifCond .ne 7, 3) := by decide +kernel
theorem dJ0_isLatin1_aae02_13 : decode cJ0_isLatin1_aae02 13 = .ok (.iconst 1, 1) := by decide +kernel
theorem dJ0_isLatin1_aae02_14 : decode cJ0_isLatin1_aae02 14 = .ok (.goto 4, 3) := by decide +kernel
theorem dJ0_isLatin1_aae02_17 : decode cJ0_isLatin1_aae02 17 = .ok (.iconst 0, 1) := by decide +kernel
theorem dJ0_isLatin1_aae02_18 : decode cJ0_isLatin1_aae02 18 = .ok (.ireturn, 1) := by decide +kernel
theorem dJ0_checkIndex_df160_0 : decode cJ0_checkIndex_df160 0 = .ok (.iload_n 0, 1) := by decide +kernel
theorem dJ0_checkIndex_df160_1 : decode cJ0_checkIndex_df160 1 = .ok (.iload_n 1, 1) := by decide +kernel
theorem dJ0_checkIndex_df160_2 : decode cJ0_checkIndex_df160 2 = .ok (.getstatic 1053, 3) := by decide +kernel
theorem dJ0_checkIndex_df160_5 : decode cJ0_checkIndex_df160 5 = .ok (.invokestatic 1059, 3) := by decide +kernel
theorem dJ0_checkIndex_df160_8 : decode cJ0_checkIndex_df160 8 = .ok (.pop, 1) := by decide +kernel
theorem dJ0_checkIndex_df160_9 : decode cJ0_checkIndex_df160 9 = .ok (.return_, 1) := by decide +kernel
theorem dJ1_charAt_3b067_0 : decode cJ1_charAt_3b067 0 = .ok (.iload_n 1, 1) := by decide +kernel
theorem dJ1_charAt_3b067_1 : decode cJ1_charAt_3b067 1 = .ok (.aload_n 0, 1) := by decide +kernel
theorem dJ1_charAt_3b067_2 : decode cJ1_charAt_3b067 2 = .ok (.arraylength, 1) := by decide +kernel
theorem dJ1_charAt_3b067_3 : decode cJ1_charAt_3b067 3 = .ok (.invokestatic 9, 3) := by decide +kernel
theorem dJ1_charAt_3b067_6 : decode cJ1_charAt_3b067 6 = .ok (.aload_n 0, 1) := by decide +kernel
theorem dJ1_charAt_3b067_7 : decode cJ1_charAt_3b067 7 = .ok (.iload_n 1, 1) := by decide +kernel
theorem dJ1_charAt_3b067_8 : decode cJ1_charAt_3b067 8 = .ok (.baload, 1) := by decide +kernel
theorem dJ1_charAt_3b067_9 : decode cJ1_charAt_3b067 9 = .ok (.sipush 255, 3) := by decide +kernel
theorem dJ1_charAt_3b067_12 : decode cJ1_charAt_3b067 12 = .ok (.iand, 1) := by decide +kernel
theorem dJ1_charAt_3b067_13 : decode cJ1_charAt_3b067 13 = .ok (.i2c, 1) := by decide +kernel
theorem dJ1_charAt_3b067_14 : decode cJ1_charAt_3b067 14 = .ok (.ireturn, 1) := by decide +kernel
theorem dJ2_getChar_3b067_0 : decode cJ2_getChar_3b067 0 = .ok (.getstatic 44, 3) := by decide +kernel
theorem dJ2_getChar_3b067_3 : decode cJ2_getChar_3b067 3 = .ok (.ifCond .ne 25, 3) := by decide +kernel
theorem dJ2_getChar_3b067_6 : decode cJ2_getChar_3b067 6 = .ok (.iload_n 1, 1) := by decide +kernel
theorem dJ2_getChar_3b067_7 : decode cJ2_getChar_3b067 7 = .ok (.ifCond .lt 11, 3) := by decide +kernel
theorem dJ2_getChar_3b067_10 : decode cJ2_getChar_3b067 10 = .ok (.iload_n 1, 1) := by decide +kernel
theorem dJ2_getChar_3b067_11 : decode cJ2_getChar_3b067 11 = .ok (.aload_n 0, 1) := by decide +kernel
theorem dJ2_getChar_3b067_12 : decode cJ2_getChar_3b067 12 = .ok (.invokestatic 48, 3) := by decide +kernel
theorem dJ2_getChar_3b067_15 : decode cJ2_getChar_3b067 15 = .ok (.if_icmp .lt 13, 3) := by decide +kernel
theorem dJ2_getChar_3b067_18 : decode cJ2_getChar_3b067 18 = .ok (.new 52, 3) := by decide +kernel
theorem dJ2_getChar_3b067_21 : decode cJ2_getChar_3b067 21 = .ok (.dup, 1) := by decide +kernel
theorem dJ2_getChar_3b067_22 : decode cJ2_getChar_3b067 22 = .ok (.ldc 54, 2) := by decide +kernel
theorem dJ2_getChar_3b067_24 : decode cJ2_getChar_3b067 24 = .ok (.invokespecial 56, 3) := by decide +kernel
theorem dJ2_getChar_3b067_27 : decode cJ2_getChar_3b067 27 = .ok (.athrow, 1) := by decide +kernel
theorem dJ2_getChar_3b067_28 : decode cJ2_getChar_3b067 28 = .ok (.iload_n 1, 1) := by decide +kernel
theorem dJ2_getChar_3b067_29 : decode cJ2_getChar_3b067 29 = .ok (.iconst 1, 1) := by decide +kernel
theorem dJ2_getChar_3b067_30 : decode cJ2_getChar_3b067 30 = .ok (.ishl, 1) := by decide +kernel
theorem dJ2_getChar_3b067_31 : decode cJ2_getChar_3b067 31 = .ok (.istore_n 1, 1) := by decide +kernel
theorem dJ2_getChar_3b067_32 : decode cJ2_getChar_3b067 32 = .ok (.aload_n 0, 1) := by decide +kernel
theorem dJ2_getChar_3b067_33 : decode cJ2_getChar_3b067 33 = .ok (.iload_n 1, 1) := by decide +kernel
theorem dJ2_getChar_3b067_34 : decode cJ2_getChar_3b067 34 = .ok (.iinc 1 1, 3) := by decide +kernel
theorem dJ2_getChar_3b067_37 : decode cJ2_getChar_3b067 37 = .ok (.baload, 1) := by decide +kernel
theorem dJ2_getChar_3b067_38 : decode cJ2_getChar_3b067 38 = .ok (.sipush 255, 3) := by decide +kernel
theorem dJ2_getChar_3b067_41 : decode cJ2_getChar_3b067 41 = .ok (.iand, 1) := by decide +kernel
theorem dJ2_getChar_3b067_42 : decode cJ2_getChar_3b067 42 = .ok (.getstatic 59, 3) := by decide +kernel
theorem dJ2_getChar_3b067_45 : decode cJ2_getChar_3b067 45 = .ok (.ishl, 1) := by decide +kernel
theorem dJ2_getChar_3b067_46 : decode cJ2_getChar_3b067 46 = .ok (.aload_n 0, 1) := by decide +kernel
theorem dJ2_getChar_3b067_47 : decode cJ2_getChar_3b067 47 = .ok (.iload_n 1, 1) := by decide +kernel
theorem dJ2_getChar_3b067_48 : decode cJ2_getChar_3b067 48 = .ok (.baload, 1) := by decide +kernel
theorem dJ2_getChar_3b067_49 : decode cJ2_getChar_3b067 49 = .ok (.sipush 255, 3) := by decide +kernel
theorem dJ2_getChar_3b067_52 : decode cJ2_getChar_3b067 52 = .ok (.iand, 1) := by decide +kernel
theorem dJ2_getChar_3b067_53 : decode cJ2_getChar_3b067 53 = .ok (.getstatic 63, 3) := by decide +kernel
theorem dJ2_getChar_3b067_56 : decode cJ2_getChar_3b067 56 = .ok (.ishl, 1) := by decide +kernel
theorem dJ2_getChar_3b067_57 : decode cJ2_getChar_3b067 57 = .ok (.ior, 1) := by decide +kernel
theorem dJ2_getChar_3b067_58 : decode cJ2_getChar_3b067 58 = .ok (.i2c, 1) := by decide +kernel
theorem dJ2_getChar_3b067_59 : decode cJ2_getChar_3b067 59 = .ok (.ireturn, 1) := by decide +kernel
theorem dJ2_length_9d52b_0 : decode cJ2_length_9d52b 0 = .ok (.aload_n 0, 1) := by decide +kernel
theorem dJ2_length_9d52b_1 : decode cJ2_length_9d52b 1 = .ok (.arraylength, 1) := by decide +kernel
theorem dJ2_length_9d52b_2 : decode cJ2_length_9d52b 2 = .ok (.iconst 1, 1) := by decide +kernel
theorem dJ2_length_9d52b_3 : decode cJ2_length_9d52b 3 = .ok (.ishr, 1) := by decide +kernel
theorem dJ2_length_9d52b_4 : decode cJ2_length_9d52b 4 = .ok (.ireturn, 1) := by decide +kernel
theorem dJ2_charAt_3b067_0 : decode cJ2_charAt_3b067 0 = .ok (.iload_n 1, 1) := by decide +kernel
theorem dJ2_charAt_3b067_1 : decode cJ2_charAt_3b067 1 = .ok (.aload_n 0, 1) := by decide +kernel
theorem dJ2_charAt_3b067_2 : decode cJ2_charAt_3b067 2 = .ok (.invokestatic 67, 3) := by decide +kernel
theorem dJ2_charAt_3b067_5 : decode cJ2_charAt_3b067 5 = .ok (.aload_n 0, 1) := by decide +kernel
theorem dJ2_charAt_3b067_6 : decode cJ2_charAt_3b067 6 = .ok (.iload_n 1, 1) := by decide +kernel
theorem dJ2_charAt_3b067_7 : decode cJ2_charAt_3b067 7 = .ok (.invokestatic 71, 3) := by decide +kernel
theorem dJ2_charAt_3b067_10 : decode cJ2_charAt_3b067 10 = .ok (.ireturn, 1) := by decide +kernel
theorem dJ2_checkIndex_2214a_0 : decode cJ2_checkIndex_2214a 0 = .ok (.iload_n 0, 1) := by decide +kernel
theorem dJ2_checkIndex_2214a_1 : decode cJ2_checkIndex_2214a 1 = .ok (.aload_n 1, 1) := by decide +kernel
theorem dJ2_checkIndex_2214a_2 : decode cJ2_checkIndex_2214a 2 = .ok (.invokestatic 48, 3) := by decide +kernel
theorem dJ2_checkIndex_2214a_5 : decode cJ2_checkIndex_2214a 5 = .ok (.invokestatic 414, 3) := by decide +kernel
theorem dJ2_checkIndex_2214a_8 : decode cJ2_checkIndex_2214a 8 = .ok (.return_, 1) := by decide +kernel
theorem dJ3_checkIndex_8e157_0 : decode cJ3_checkIndex_8e157 0 = .ok (.iload_n 0, 1) := by decide +kernel
theorem dJ3_checkIndex_8e157_1 : decode cJ3_checkIndex_8e157 1 = .ok (.ifCond .lt 8, 3) := by decide +kernel
theorem dJ3_checkIndex_8e157_4 : decode cJ3_checkIndex_8e157 4 = .ok (.iload_n 0, 1) := by decide +kernel
theorem dJ3_checkIndex_8e157_5 : decode cJ3_checkIndex_8e157 5 = .ok (.iload_n 1, 1) := by decide +kernel
theorem dJ3_checkIndex_8e157_6 : decode cJ3_checkIndex_8e157 6 = .ok (.if_icmp .lt 10, 3) := by decide +kernel
theorem dJ3_checkIndex_8e157_9 : decode cJ3_checkIndex_8e157 9 = .ok (.aload_n 2, 1) := by decide +kernel
theorem dJ3_checkIndex_8e157_10 : decode cJ3_checkIndex_8e157 10 = .ok (.iload_n 0, 1) := by decide +kernel
theorem dJ3_checkIndex_8e157_11 : decode cJ3_checkIndex_8e157 11 = .ok (.iload_n 1, 1) := by decide +kernel
theorem dJ3_checkIndex_8e157_12 : decode cJ3_checkIndex_8e157 12 = .ok (.invokestatic 95, 3) := by decide +kernel
theorem dJ3_checkIndex_8e157_15 : decode cJ3_checkIndex_8e157 15 = .ok (.athrow, 1) := by decide +kernel
theorem dJ3_checkIndex_8e157_16 : decode cJ3_checkIndex_8e157 16 = .ok (.iload_n 0, 1) := by decide +kernel
theorem dJ3_checkIndex_8e157_17 : decode cJ3_checkIndex_8e157 17 = .ok (.ireturn, 1) := by decide +kernel
theorem dL_law_0 : decode cL_law 0 = .ok (.new 7, 3) := by decide +kernel
theorem dL_law_3 : decode cL_law 3 = .ok (.dup, 1) := by decide +kernel
theorem dL_law_4 : decode cL_law 4 = .ok (.invokespecial 9, 3) := by decide +kernel
theorem dL_law_7 : decode cL_law 7 = .ok (.astore_n 1, 1) := by decide +kernel
theorem dL_law_8 : decode cL_law 8 = .ok (.new 10, 3) := by decide +kernel
theorem dL_law_11 : decode cL_law 11 = .ok (.dup, 1) := by decide +kernel
theorem dL_law_12 : decode cL_law 12 = .ok (.invokespecial 12, 3) := by decide +kernel
theorem dL_law_15 : decode cL_law 15 = .ok (.astore_n 2, 1) := by decide +kernel
theorem dL_law_16 : decode cL_law 16 = .ok (.iconst 0, 1) := by decide +kernel
theorem dL_law_17 : decode cL_law 17 = .ok (.istore_n 3, 1) := by decide +kernel
theorem dL_law_18 : decode cL_law 18 = .ok (.iload_n 3, 1) := by decide +kernel
theorem dL_law_19 : decode cL_law 19 = .ok (.aload_n 0, 1) := by decide +kernel
theorem dL_law_20 : decode cL_law 20 = .ok (.arraylength, 1) := by decide +kernel
theorem dL_law_21 : decode cL_law 21 = .ok (.iconst 5, 1) := by decide +kernel
theorem dL_law_22 : decode cL_law 22 = .ok (.isub, 1) := by decide +kernel
theorem dL_law_23 : decode cL_law 23 = .ok (.if_icmp .gt 727, 3) := by decide +kernel
theorem dL_law_26 : decode cL_law 26 = .ok (.aload_n 0, 1) := by decide +kernel
theorem dL_law_27 : decode cL_law 27 = .ok (.iload_n 3, 1) := by decide +kernel
theorem dL_law_28 : decode cL_law 28 = .ok (.iaload, 1) := by decide +kernel
theorem dL_law_29 : decode cL_law 29 = .ok (.bipush 31, 2) := by decide +kernel
theorem dL_law_31 : decode cL_law 31 = .ok (.iand, 1) := by decide +kernel
theorem dL_law_32 : decode cL_law 32 = .ok (.tableswitch 712 0 21 #[104, 167, 180, 193, 216, 259, 302, 335, 348, 381, 404, 427, 450, 473, 496, 550, 583, 596, 629, 652, 675, 698], 104) := by decide +kernel
theorem dL_law_136 : decode cL_law 136 = .ok (.aload_n 1, 1) := by decide +kernel
theorem dL_law_137 : decode cL_law 137 = .ok (.aload_n 0, 1) := by decide +kernel
theorem dL_law_138 : decode cL_law 138 = .ok (.iload_n 3, 1) := by decide +kernel
theorem dL_law_139 : decode cL_law 139 = .ok (.iconst 1, 1) := by decide +kernel
theorem dL_law_140 : decode cL_law 140 = .ok (.iadd, 1) := by decide +kernel
theorem dL_law_141 : decode cL_law 141 = .ok (.iaload, 1) := by decide +kernel
theorem dL_law_142 : decode cL_law 142 = .ok (.i2l, 1) := by decide +kernel
theorem dL_law_143 : decode cL_law 143 = .ok (.bipush 32, 2) := by decide +kernel
theorem dL_law_145 : decode cL_law 145 = .ok (.lshl, 1) := by decide +kernel
theorem dL_law_146 : decode cL_law 146 = .ok (.aload_n 0, 1) := by decide +kernel
theorem dL_law_147 : decode cL_law 147 = .ok (.iload_n 3, 1) := by decide +kernel
theorem dL_law_148 : decode cL_law 148 = .ok (.iconst 2, 1) := by decide +kernel
theorem dL_law_149 : decode cL_law 149 = .ok (.iadd, 1) := by decide +kernel
theorem dL_law_150 : decode cL_law 150 = .ok (.iaload, 1) := by decide +kernel
theorem dL_law_151 : decode cL_law 151 = .ok (.i2l, 1) := by decide +kernel
theorem dL_law_152 : decode cL_law 152 = .ok (.ldc2_w 13, 3) := by decide +kernel
theorem dL_law_155 : decode cL_law 155 = .ok (.land, 1) := by decide +kernel
theorem dL_law_156 : decode cL_law 156 = .ok (.lor, 1) := by decide +kernel
theorem dL_law_157 : decode cL_law 157 = .ok (.aload_n 0, 1) := by decide +kernel
theorem dL_law_158 : decode cL_law 158 = .ok (.iload_n 3, 1) := by decide +kernel
theorem dL_law_159 : decode cL_law 159 = .ok (.iconst 3, 1) := by decide +kernel
theorem dL_law_160 : decode cL_law 160 = .ok (.iadd, 1) := by decide +kernel
theorem dL_law_161 : decode cL_law 161 = .ok (.iaload, 1) := by decide +kernel
theorem dL_law_162 : decode cL_law 162 = .ok (.invokevirtual 15, 3) := by decide +kernel
theorem dL_law_165 : decode cL_law 165 = .ok (.aload_n 2, 1) := by decide +kernel
theorem dL_law_166 : decode cL_law 166 = .ok (.aload_n 0, 1) := by decide +kernel
theorem dL_law_167 : decode cL_law 167 = .ok (.iload_n 3, 1) := by decide +kernel
theorem dL_law_168 : decode cL_law 168 = .ok (.iconst 1, 1) := by decide +kernel
theorem dL_law_169 : decode cL_law 169 = .ok (.iadd, 1) := by decide +kernel
theorem dL_law_170 : decode cL_law 170 = .ok (.iaload, 1) := by decide +kernel
theorem dL_law_171 : decode cL_law 171 = .ok (.i2l, 1) := by decide +kernel
theorem dL_law_172 : decode cL_law 172 = .ok (.bipush 32, 2) := by decide +kernel
theorem dL_law_174 : decode cL_law 174 = .ok (.lshl, 1) := by decide +kernel
theorem dL_law_175 : decode cL_law 175 = .ok (.aload_n 0, 1) := by decide +kernel
theorem dL_law_176 : decode cL_law 176 = .ok (.iload_n 3, 1) := by decide +kernel
theorem dL_law_177 : decode cL_law 177 = .ok (.iconst 2, 1) := by decide +kernel
theorem dL_law_178 : decode cL_law 178 = .ok (.iadd, 1) := by decide +kernel
theorem dL_law_179 : decode cL_law 179 = .ok (.iaload, 1) := by decide +kernel
theorem dL_law_180 : decode cL_law 180 = .ok (.i2l, 1) := by decide +kernel
theorem dL_law_181 : decode cL_law 181 = .ok (.ldc2_w 13, 3) := by decide +kernel
theorem dL_law_184 : decode cL_law 184 = .ok (.land, 1) := by decide +kernel
theorem dL_law_185 : decode cL_law 185 = .ok (.lor, 1) := by decide +kernel
theorem dL_law_186 : decode cL_law 186 = .ok (.aload_n 0, 1) := by decide +kernel
theorem dL_law_187 : decode cL_law 187 = .ok (.iload_n 3, 1) := by decide +kernel
theorem dL_law_188 : decode cL_law 188 = .ok (.iconst 3, 1) := by decide +kernel
theorem dL_law_189 : decode cL_law 189 = .ok (.iadd, 1) := by decide +kernel
theorem dL_law_190 : decode cL_law 190 = .ok (.iaload, 1) := by decide +kernel
theorem dL_law_191 : decode cL_law 191 = .ok (.invokevirtual 19, 3) := by decide +kernel
theorem dL_law_194 : decode cL_law 194 = .ok (.if_icmp .eq 550, 3) := by decide +kernel
theorem dL_law_197 : decode cL_law 197 = .ok (.iconst 0, 1) := by decide +kernel
theorem dL_law_198 : decode cL_law 198 = .ok (.ireturn, 1) := by decide +kernel
theorem dL_law_199 : decode cL_law 199 = .ok (.aload_n 1, 1) := by decide +kernel
theorem dL_law_200 : decode cL_law 200 = .ok (.invokevirtual 20, 3) := by decide +kernel
theorem dL_law_203 : decode cL_law 203 = .ok (.aload_n 2, 1) := by decide +kernel
theorem dL_law_204 : decode cL_law 204 = .ok (.invokevirtual 24, 3) := by decide +kernel
theorem dL_law_207 : decode cL_law 207 = .ok (.if_icmp .eq 537, 3) := by decide +kernel
theorem dL_law_210 : decode cL_law 210 = .ok (.iconst 0, 1) := by decide +kernel
theorem dL_law_211 : decode cL_law 211 = .ok (.ireturn, 1) := by decide +kernel
theorem dL_law_212 : decode cL_law 212 = .ok (.aload_n 1, 1) := by decide +kernel
theorem dL_law_213 : decode cL_law 213 = .ok (.invokevirtual 25, 3) := by decide +kernel
theorem dL_law_216 : decode cL_law 216 = .ok (.aload_n 2, 1) := by decide +kernel
theorem dL_law_217 : decode cL_law 217 = .ok (.invokevirtual 28, 3) := by decide +kernel
theorem dL_law_220 : decode cL_law 220 = .ok (.if_icmp .eq 524, 3) := by decide +kernel
theorem dL_law_223 : decode cL_law 223 = .ok (.iconst 0, 1) := by decide +kernel
theorem dL_law_224 : decode cL_law 224 = .ok (.ireturn, 1) := by decide +kernel
theorem dL_law_225 : decode cL_law 225 = .ok (.aload_n 1, 1) := by decide +kernel
theorem dL_law_226 : decode cL_law 226 = .ok (.aload_n 0, 1) := by decide +kernel
theorem dL_law_227 : decode cL_law 227 = .ok (.iload_n 3, 1) := by decide +kernel
theorem dL_law_228 : decode cL_law 228 = .ok (.iconst 1, 1) := by decide +kernel
theorem dL_law_229 : decode cL_law 229 = .ok (.iadd, 1) := by decide +kernel
theorem dL_law_230 : decode cL_law 230 = .ok (.iaload, 1) := by decide +kernel
theorem dL_law_231 : decode cL_law 231 = .ok (.invokevirtual 29, 3) := by decide +kernel
theorem dL_law_234 : decode cL_law 234 = .ok (.aload_n 2, 1) := by decide +kernel
theorem dL_law_235 : decode cL_law 235 = .ok (.aload_n 0, 1) := by decide +kernel
theorem dL_law_236 : decode cL_law 236 = .ok (.iload_n 3, 1) := by decide +kernel
theorem dL_law_237 : decode cL_law 237 = .ok (.iconst 1, 1) := by decide +kernel
theorem dL_law_238 : decode cL_law 238 = .ok (.iadd, 1) := by decide +kernel
theorem dL_law_239 : decode cL_law 239 = .ok (.iaload, 1) := by decide +kernel
theorem dL_law_240 : decode cL_law 240 = .ok (.invokevirtual 33, 3) := by decide +kernel
theorem dL_law_243 : decode cL_law 243 = .ok (.if_icmp .eq 501, 3) := by decide +kernel
theorem dL_law_246 : decode cL_law 246 = .ok (.iconst 0, 1) := by decide +kernel
theorem dL_law_247 : decode cL_law 247 = .ok (.ireturn, 1) := by decide +kernel
theorem dL_law_248 : decode cL_law 248 = .ok (.aload_n 1, 1) := by decide +kernel
theorem dL_law_249 : decode cL_law 249 = .ok (.aload_n 0, 1) := by decide +kernel
theorem dL_law_250 : decode cL_law 250 = .ok (.iload_n 3, 1) := by decide +kernel
theorem dL_law_251 : decode cL_law 251 = .ok (.iconst 1, 1) := by decide +kernel
theorem dL_law_252 : decode cL_law 252 = .ok (.iadd, 1) := by decide +kernel
theorem dL_law_253 : decode cL_law 253 = .ok (.iaload, 1) := by decide +kernel
theorem dL_law_254 : decode cL_law 254 = .ok (.aload_n 0, 1) := by decide +kernel
theorem dL_law_255 : decode cL_law 255 = .ok (.iload_n 3, 1) := by decide +kernel
theorem dL_law_256 : decode cL_law 256 = .ok (.iconst 2, 1) := by decide +kernel
theorem dL_law_257 : decode cL_law 257 = .ok (.iadd, 1) := by decide +kernel
theorem dL_law_258 : decode cL_law 258 = .ok (.iaload, 1) := by decide +kernel
theorem dL_law_259 : decode cL_law 259 = .ok (.aload_n 0, 1) := by decide +kernel
theorem dL_law_260 : decode cL_law 260 = .ok (.iload_n 3, 1) := by decide +kernel
theorem dL_law_261 : decode cL_law 261 = .ok (.iconst 3, 1) := by decide +kernel
theorem dL_law_262 : decode cL_law 262 = .ok (.iadd, 1) := by decide +kernel
theorem dL_law_263 : decode cL_law 263 = .ok (.iaload, 1) := by decide +kernel
theorem dL_law_264 : decode cL_law 264 = .ok (.invokevirtual 34, 3) := by decide +kernel
theorem dL_law_267 : decode cL_law 267 = .ok (.aload_n 2, 1) := by decide +kernel
theorem dL_law_268 : decode cL_law 268 = .ok (.aload_n 0, 1) := by decide +kernel
theorem dL_law_269 : decode cL_law 269 = .ok (.iload_n 3, 1) := by decide +kernel
theorem dL_law_270 : decode cL_law 270 = .ok (.iconst 1, 1) := by decide +kernel
theorem dL_law_271 : decode cL_law 271 = .ok (.iadd, 1) := by decide +kernel
theorem dL_law_272 : decode cL_law 272 = .ok (.iaload, 1) := by decide +kernel
theorem dL_law_273 : decode cL_law 273 = .ok (.aload_n 0, 1) := by decide +kernel
theorem dL_law_274 : decode cL_law 274 = .ok (.iload_n 3, 1) := by decide +kernel
theorem dL_law_275 : decode cL_law 275 = .ok (.iconst 2, 1) := by decide +kernel
theorem dL_law_276 : decode cL_law 276 = .ok (.iadd, 1) := by decide +kernel
theorem dL_law_277 : decode cL_law 277 = .ok (.iaload, 1) := by decide +kernel
theorem dL_law_278 : decode cL_law 278 = .ok (.aload_n 0, 1) := by decide +kernel
theorem dL_law_279 : decode cL_law 279 = .ok (.iload_n 3, 1) := by decide +kernel
theorem dL_law_280 : decode cL_law 280 = .ok (.iconst 3, 1) := by decide +kernel
theorem dL_law_281 : decode cL_law 281 = .ok (.iadd, 1) := by decide +kernel
theorem dL_law_282 : decode cL_law 282 = .ok (.iaload, 1) := by decide +kernel
theorem dL_law_283 : decode cL_law 283 = .ok (.invokevirtual 38, 3) := by decide +kernel
theorem dL_law_286 : decode cL_law 286 = .ok (.if_icmp .eq 458, 3) := by decide +kernel
theorem dL_law_289 : decode cL_law 289 = .ok (.iconst 0, 1) := by decide +kernel
theorem dL_law_290 : decode cL_law 290 = .ok (.ireturn, 1) := by decide +kernel
theorem dL_law_291 : decode cL_law 291 = .ok (.aload_n 1, 1) := by decide +kernel
theorem dL_law_292 : decode cL_law 292 = .ok (.aload_n 0, 1) := by decide +kernel
theorem dL_law_293 : decode cL_law 293 = .ok (.iload_n 3, 1) := by decide +kernel
theorem dL_law_294 : decode cL_law 294 = .ok (.iconst 1, 1) := by decide +kernel
theorem dL_law_295 : decode cL_law 295 = .ok (.iadd, 1) := by decide +kernel
theorem dL_law_296 : decode cL_law 296 = .ok (.iaload, 1) := by decide +kernel
theorem dL_law_297 : decode cL_law 297 = .ok (.aload_n 0, 1) := by decide +kernel
theorem dL_law_298 : decode cL_law 298 = .ok (.iload_n 3, 1) := by decide +kernel
theorem dL_law_299 : decode cL_law 299 = .ok (.iconst 2, 1) := by decide +kernel
theorem dL_law_300 : decode cL_law 300 = .ok (.iadd, 1) := by decide +kernel
theorem dL_law_301 : decode cL_law 301 = .ok (.iaload, 1) := by decide +kernel
theorem dL_law_302 : decode cL_law 302 = .ok (.aload_n 0, 1) := by decide +kernel
theorem dL_law_303 : decode cL_law 303 = .ok (.iload_n 3, 1) := by decide +kernel
theorem dL_law_304 : decode cL_law 304 = .ok (.iconst 3, 1) := by decide +kernel
theorem dL_law_305 : decode cL_law 305 = .ok (.iadd, 1) := by decide +kernel
theorem dL_law_306 : decode cL_law 306 = .ok (.iaload, 1) := by decide +kernel
theorem dL_law_307 : decode cL_law 307 = .ok (.invokevirtual 39, 3) := by decide +kernel
theorem dL_law_310 : decode cL_law 310 = .ok (.aload_n 2, 1) := by decide +kernel
theorem dL_law_311 : decode cL_law 311 = .ok (.aload_n 0, 1) := by decide +kernel
theorem dL_law_312 : decode cL_law 312 = .ok (.iload_n 3, 1) := by decide +kernel
theorem dL_law_313 : decode cL_law 313 = .ok (.iconst 1, 1) := by decide +kernel
theorem dL_law_314 : decode cL_law 314 = .ok (.iadd, 1) := by decide +kernel
theorem dL_law_315 : decode cL_law 315 = .ok (.iaload, 1) := by decide +kernel
theorem dL_law_316 : decode cL_law 316 = .ok (.aload_n 0, 1) := by decide +kernel
theorem dL_law_317 : decode cL_law 317 = .ok (.iload_n 3, 1) := by decide +kernel
theorem dL_law_318 : decode cL_law 318 = .ok (.iconst 2, 1) := by decide +kernel
theorem dL_law_319 : decode cL_law 319 = .ok (.iadd, 1) := by decide +kernel
theorem dL_law_320 : decode cL_law 320 = .ok (.iaload, 1) := by decide +kernel
theorem dL_law_321 : decode cL_law 321 = .ok (.aload_n 0, 1) := by decide +kernel
theorem dL_law_322 : decode cL_law 322 = .ok (.iload_n 3, 1) := by decide +kernel
theorem dL_law_323 : decode cL_law 323 = .ok (.iconst 3, 1) := by decide +kernel
theorem dL_law_324 : decode cL_law 324 = .ok (.iadd, 1) := by decide +kernel
theorem dL_law_325 : decode cL_law 325 = .ok (.iaload, 1) := by decide +kernel
theorem dL_law_326 : decode cL_law 326 = .ok (.invokevirtual 42, 3) := by decide +kernel
theorem dL_law_329 : decode cL_law 329 = .ok (.if_icmp .eq 415, 3) := by decide +kernel
theorem dL_law_332 : decode cL_law 332 = .ok (.iconst 0, 1) := by decide +kernel
theorem dL_law_333 : decode cL_law 333 = .ok (.ireturn, 1) := by decide +kernel
theorem dL_law_334 : decode cL_law 334 = .ok (.aload_n 1, 1) := by decide +kernel
theorem dL_law_335 : decode cL_law 335 = .ok (.aload_n 0, 1) := by decide +kernel
theorem dL_law_336 : decode cL_law 336 = .ok (.iload_n 3, 1) := by decide +kernel
theorem dL_law_337 : decode cL_law 337 = .ok (.iconst 1, 1) := by decide +kernel
theorem dL_law_338 : decode cL_law 338 = .ok (.iadd, 1) := by decide +kernel
theorem dL_law_339 : decode cL_law 339 = .ok (.iaload, 1) := by decide +kernel
theorem dL_law_340 : decode cL_law 340 = .ok (.aload_n 0, 1) := by decide +kernel
theorem dL_law_341 : decode cL_law 341 = .ok (.iload_n 3, 1) := by decide +kernel
theorem dL_law_342 : decode cL_law 342 = .ok (.iconst 2, 1) := by decide +kernel
theorem dL_law_343 : decode cL_law 343 = .ok (.iadd, 1) := by decide +kernel
theorem dL_law_344 : decode cL_law 344 = .ok (.iaload, 1) := by decide +kernel
theorem dL_law_345 : decode cL_law 345 = .ok (.invokevirtual 43, 3) := by decide +kernel
theorem dL_law_348 : decode cL_law 348 = .ok (.aload_n 2, 1) := by decide +kernel
theorem dL_law_349 : decode cL_law 349 = .ok (.aload_n 0, 1) := by decide +kernel
theorem dL_law_350 : decode cL_law 350 = .ok (.iload_n 3, 1) := by decide +kernel
theorem dL_law_351 : decode cL_law 351 = .ok (.iconst 1, 1) := by decide +kernel
theorem dL_law_352 : decode cL_law 352 = .ok (.iadd, 1) := by decide +kernel
theorem dL_law_353 : decode cL_law 353 = .ok (.iaload, 1) := by decide +kernel
theorem dL_law_354 : decode cL_law 354 = .ok (.aload_n 0, 1) := by decide +kernel
theorem dL_law_355 : decode cL_law 355 = .ok (.iload_n 3, 1) := by decide +kernel
theorem dL_law_356 : decode cL_law 356 = .ok (.iconst 2, 1) := by decide +kernel
theorem dL_law_357 : decode cL_law 357 = .ok (.iadd, 1) := by decide +kernel
theorem dL_law_358 : decode cL_law 358 = .ok (.iaload, 1) := by decide +kernel
theorem dL_law_359 : decode cL_law 359 = .ok (.invokevirtual 47, 3) := by decide +kernel
theorem dL_law_362 : decode cL_law 362 = .ok (.if_icmp .eq 382, 3) := by decide +kernel
theorem dL_law_365 : decode cL_law 365 = .ok (.iconst 0, 1) := by decide +kernel
theorem dL_law_366 : decode cL_law 366 = .ok (.ireturn, 1) := by decide +kernel
theorem dL_law_367 : decode cL_law 367 = .ok (.aload_n 1, 1) := by decide +kernel
theorem dL_law_368 : decode cL_law 368 = .ok (.invokevirtual 48, 3) := by decide +kernel
theorem dL_law_371 : decode cL_law 371 = .ok (.aload_n 2, 1) := by decide +kernel
theorem dL_law_372 : decode cL_law 372 = .ok (.invokevirtual 51, 3) := by decide +kernel
theorem dL_law_375 : decode cL_law 375 = .ok (.if_icmp .eq 369, 3) := by decide +kernel
theorem dL_law_378 : decode cL_law 378 = .ok (.iconst 0, 1) := by decide +kernel
theorem dL_law_379 : decode cL_law 379 = .ok (.ireturn, 1) := by decide +kernel
theorem dL_law_380 : decode cL_law 380 = .ok (.aload_n 1, 1) := by decide +kernel
theorem dL_law_381 : decode cL_law 381 = .ok (.aload_n 0, 1) := by decide +kernel
theorem dL_law_382 : decode cL_law 382 = .ok (.iload_n 3, 1) := by decide +kernel
theorem dL_law_383 : decode cL_law 383 = .ok (.iconst 1, 1) := by decide +kernel
theorem dL_law_384 : decode cL_law 384 = .ok (.iadd, 1) := by decide +kernel
theorem dL_law_385 : decode cL_law 385 = .ok (.iaload, 1) := by decide +kernel
theorem dL_law_386 : decode cL_law 386 = .ok (.aload_n 0, 1) := by decide +kernel
theorem dL_law_387 : decode cL_law 387 = .ok (.iload_n 3, 1) := by decide +kernel
theorem dL_law_388 : decode cL_law 388 = .ok (.iconst 2, 1) := by decide +kernel
theorem dL_law_389 : decode cL_law 389 = .ok (.iadd, 1) := by decide +kernel
theorem dL_law_390 : decode cL_law 390 = .ok (.iaload, 1) := by decide +kernel
theorem dL_law_391 : decode cL_law 391 = .ok (.invokevirtual 52, 3) := by decide +kernel
theorem dL_law_394 : decode cL_law 394 = .ok (.aload_n 2, 1) := by decide +kernel
theorem dL_law_395 : decode cL_law 395 = .ok (.aload_n 0, 1) := by decide +kernel
theorem dL_law_396 : decode cL_law 396 = .ok (.iload_n 3, 1) := by decide +kernel
theorem dL_law_397 : decode cL_law 397 = .ok (.iconst 1, 1) := by decide +kernel
theorem dL_law_398 : decode cL_law 398 = .ok (.iadd, 1) := by decide +kernel
theorem dL_law_399 : decode cL_law 399 = .ok (.iaload, 1) := by decide +kernel
theorem dL_law_400 : decode cL_law 400 = .ok (.aload_n 0, 1) := by decide +kernel
theorem dL_law_401 : decode cL_law 401 = .ok (.iload_n 3, 1) := by decide +kernel
theorem dL_law_402 : decode cL_law 402 = .ok (.iconst 2, 1) := by decide +kernel
theorem dL_law_403 : decode cL_law 403 = .ok (.iadd, 1) := by decide +kernel
theorem dL_law_404 : decode cL_law 404 = .ok (.iaload, 1) := by decide +kernel
theorem dL_law_405 : decode cL_law 405 = .ok (.invokevirtual 55, 3) := by decide +kernel
theorem dL_law_408 : decode cL_law 408 = .ok (.if_icmp .eq 336, 3) := by decide +kernel
theorem dL_law_411 : decode cL_law 411 = .ok (.iconst 0, 1) := by decide +kernel
theorem dL_law_412 : decode cL_law 412 = .ok (.ireturn, 1) := by decide +kernel
theorem dL_law_413 : decode cL_law 413 = .ok (.aload_n 1, 1) := by decide +kernel
theorem dL_law_414 : decode cL_law 414 = .ok (.aload_n 0, 1) := by decide +kernel
theorem dL_law_415 : decode cL_law 415 = .ok (.iload_n 3, 1) := by decide +kernel
theorem dL_law_416 : decode cL_law 416 = .ok (.iconst 1, 1) := by decide +kernel
theorem dL_law_417 : decode cL_law 417 = .ok (.iadd, 1) := by decide +kernel
theorem dL_law_418 : decode cL_law 418 = .ok (.iaload, 1) := by decide +kernel
theorem dL_law_419 : decode cL_law 419 = .ok (.invokevirtual 56, 3) := by decide +kernel
theorem dL_law_422 : decode cL_law 422 = .ok (.aload_n 2, 1) := by decide +kernel
theorem dL_law_423 : decode cL_law 423 = .ok (.aload_n 0, 1) := by decide +kernel
theorem dL_law_424 : decode cL_law 424 = .ok (.iload_n 3, 1) := by decide +kernel
theorem dL_law_425 : decode cL_law 425 = .ok (.iconst 1, 1) := by decide +kernel
theorem dL_law_426 : decode cL_law 426 = .ok (.iadd, 1) := by decide +kernel
theorem dL_law_427 : decode cL_law 427 = .ok (.iaload, 1) := by decide +kernel
theorem dL_law_428 : decode cL_law 428 = .ok (.invokevirtual 59, 3) := by decide +kernel
theorem dL_law_431 : decode cL_law 431 = .ok (.if_icmp .eq 313, 3) := by decide +kernel
theorem dL_law_434 : decode cL_law 434 = .ok (.iconst 0, 1) := by decide +kernel
theorem dL_law_435 : decode cL_law 435 = .ok (.ireturn, 1) := by decide +kernel
theorem dL_law_436 : decode cL_law 436 = .ok (.aload_n 1, 1) := by decide +kernel
theorem dL_law_437 : decode cL_law 437 = .ok (.aload_n 0, 1) := by decide +kernel
theorem dL_law_438 : decode cL_law 438 = .ok (.iload_n 3, 1) := by decide +kernel
theorem dL_law_439 : decode cL_law 439 = .ok (.iconst 1, 1) := by decide +kernel
theorem dL_law_440 : decode cL_law 440 = .ok (.iadd, 1) := by decide +kernel
theorem dL_law_441 : decode cL_law 441 = .ok (.iaload, 1) := by decide +kernel
theorem dL_law_442 : decode cL_law 442 = .ok (.invokevirtual 60, 3) := by decide +kernel
theorem dL_law_445 : decode cL_law 445 = .ok (.aload_n 2, 1) := by decide +kernel
theorem dL_law_446 : decode cL_law 446 = .ok (.aload_n 0, 1) := by decide +kernel
theorem dL_law_447 : decode cL_law 447 = .ok (.iload_n 3, 1) := by decide +kernel
theorem dL_law_448 : decode cL_law 448 = .ok (.iconst 1, 1) := by decide +kernel
theorem dL_law_449 : decode cL_law 449 = .ok (.iadd, 1) := by decide +kernel
theorem dL_law_450 : decode cL_law 450 = .ok (.iaload, 1) := by decide +kernel
theorem dL_law_451 : decode cL_law 451 = .ok (.invokevirtual 63, 3) := by decide +kernel
theorem dL_law_454 : decode cL_law 454 = .ok (.if_icmp .eq 290, 3) := by decide +kernel
theorem dL_law_457 : decode cL_law 457 = .ok (.iconst 0, 1) := by decide +kernel
theorem dL_law_458 : decode cL_law 458 = .ok (.ireturn, 1) := by decide +kernel
theorem dL_law_459 : decode cL_law 459 = .ok (.aload_n 1, 1) := by decide +kernel
theorem dL_law_460 : decode cL_law 460 = .ok (.aload_n 0, 1) := by decide +kernel
theorem dL_law_461 : decode cL_law 461 = .ok (.iload_n 3, 1) := by decide +kernel
theorem dL_law_462 : decode cL_law 462 = .ok (.iconst 1, 1) := by decide +kernel
theorem dL_law_463 : decode cL_law 463 = .ok (.iadd, 1) := by decide +kernel
theorem dL_law_464 : decode cL_law 464 = .ok (.iaload, 1) := by decide +kernel
theorem dL_law_465 : decode cL_law 465 = .ok (.invokevirtual 64, 3) := by decide +kernel
theorem dL_law_468 : decode cL_law 468 = .ok (.aload_n 2, 1) := by decide +kernel
theorem dL_law_469 : decode cL_law 469 = .ok (.aload_n 0, 1) := by decide +kernel
theorem dL_law_470 : decode cL_law 470 = .ok (.iload_n 3, 1) := by decide +kernel
theorem dL_law_471 : decode cL_law 471 = .ok (.iconst 1, 1) := by decide +kernel
theorem dL_law_472 : decode cL_law 472 = .ok (.iadd, 1) := by decide +kernel
theorem dL_law_473 : decode cL_law 473 = .ok (.iaload, 1) := by decide +kernel
theorem dL_law_474 : decode cL_law 474 = .ok (.invokevirtual 67, 3) := by decide +kernel
theorem dL_law_477 : decode cL_law 477 = .ok (.if_icmp .eq 267, 3) := by decide +kernel
theorem dL_law_480 : decode cL_law 480 = .ok (.iconst 0, 1) := by decide +kernel
theorem dL_law_481 : decode cL_law 481 = .ok (.ireturn, 1) := by decide +kernel
theorem dL_law_482 : decode cL_law 482 = .ok (.aload_n 1, 1) := by decide +kernel
theorem dL_law_483 : decode cL_law 483 = .ok (.aload_n 0, 1) := by decide +kernel
theorem dL_law_484 : decode cL_law 484 = .ok (.iload_n 3, 1) := by decide +kernel
theorem dL_law_485 : decode cL_law 485 = .ok (.iconst 1, 1) := by decide +kernel
theorem dL_law_486 : decode cL_law 486 = .ok (.iadd, 1) := by decide +kernel
theorem dL_law_487 : decode cL_law 487 = .ok (.iaload, 1) := by decide +kernel
theorem dL_law_488 : decode cL_law 488 = .ok (.invokevirtual 68, 3) := by decide +kernel
theorem dL_law_491 : decode cL_law 491 = .ok (.aload_n 2, 1) := by decide +kernel
theorem dL_law_492 : decode cL_law 492 = .ok (.aload_n 0, 1) := by decide +kernel
theorem dL_law_493 : decode cL_law 493 = .ok (.iload_n 3, 1) := by decide +kernel
theorem dL_law_494 : decode cL_law 494 = .ok (.iconst 1, 1) := by decide +kernel
theorem dL_law_495 : decode cL_law 495 = .ok (.iadd, 1) := by decide +kernel
theorem dL_law_496 : decode cL_law 496 = .ok (.iaload, 1) := by decide +kernel
theorem dL_law_497 : decode cL_law 497 = .ok (.invokevirtual 71, 3) := by decide +kernel
theorem dL_law_500 : decode cL_law 500 = .ok (.if_icmp .eq 244, 3) := by decide +kernel
theorem dL_law_503 : decode cL_law 503 = .ok (.iconst 0, 1) := by decide +kernel
theorem dL_law_504 : decode cL_law 504 = .ok (.ireturn, 1) := by decide +kernel
theorem dL_law_505 : decode cL_law 505 = .ok (.aload_n 1, 1) := by decide +kernel
theorem dL_law_506 : decode cL_law 506 = .ok (.aload_n 0, 1) := by decide +kernel
theorem dL_law_507 : decode cL_law 507 = .ok (.iload_n 3, 1) := by decide +kernel
theorem dL_law_508 : decode cL_law 508 = .ok (.iconst 1, 1) := by decide +kernel
theorem dL_law_509 : decode cL_law 509 = .ok (.iadd, 1) := by decide +kernel
theorem dL_law_510 : decode cL_law 510 = .ok (.iaload, 1) := by decide +kernel
theorem dL_law_511 : decode cL_law 511 = .ok (.invokevirtual 72, 3) := by decide +kernel
theorem dL_law_514 : decode cL_law 514 = .ok (.aload_n 2, 1) := by decide +kernel
theorem dL_law_515 : decode cL_law 515 = .ok (.aload_n 0, 1) := by decide +kernel
theorem dL_law_516 : decode cL_law 516 = .ok (.iload_n 3, 1) := by decide +kernel
theorem dL_law_517 : decode cL_law 517 = .ok (.iconst 1, 1) := by decide +kernel
theorem dL_law_518 : decode cL_law 518 = .ok (.iadd, 1) := by decide +kernel
theorem dL_law_519 : decode cL_law 519 = .ok (.iaload, 1) := by decide +kernel
theorem dL_law_520 : decode cL_law 520 = .ok (.invokevirtual 75, 3) := by decide +kernel
theorem dL_law_523 : decode cL_law 523 = .ok (.if_icmp .eq 221, 3) := by decide +kernel
theorem dL_law_526 : decode cL_law 526 = .ok (.iconst 0, 1) := by decide +kernel
theorem dL_law_527 : decode cL_law 527 = .ok (.ireturn, 1) := by decide +kernel
theorem dL_law_528 : decode cL_law 528 = .ok (.aload_n 1, 1) := by decide +kernel
theorem dL_law_529 : decode cL_law 529 = .ok (.aload_n 0, 1) := by decide +kernel
theorem dL_law_530 : decode cL_law 530 = .ok (.iload_n 3, 1) := by decide +kernel
theorem dL_law_531 : decode cL_law 531 = .ok (.iconst 1, 1) := by decide +kernel
theorem dL_law_532 : decode cL_law 532 = .ok (.iadd, 1) := by decide +kernel
theorem dL_law_533 : decode cL_law 533 = .ok (.iaload, 1) := by decide +kernel
theorem dL_law_534 : decode cL_law 534 = .ok (.aload_n 0, 1) := by decide +kernel
theorem dL_law_535 : decode cL_law 535 = .ok (.iload_n 3, 1) := by decide +kernel
theorem dL_law_536 : decode cL_law 536 = .ok (.iconst 2, 1) := by decide +kernel
theorem dL_law_537 : decode cL_law 537 = .ok (.iadd, 1) := by decide +kernel
theorem dL_law_538 : decode cL_law 538 = .ok (.iaload, 1) := by decide +kernel
theorem dL_law_539 : decode cL_law 539 = .ok (.aload_n 0, 1) := by decide +kernel
theorem dL_law_540 : decode cL_law 540 = .ok (.iload_n 3, 1) := by decide +kernel
theorem dL_law_541 : decode cL_law 541 = .ok (.iconst 3, 1) := by decide +kernel
theorem dL_law_542 : decode cL_law 542 = .ok (.iadd, 1) := by decide +kernel
theorem dL_law_543 : decode cL_law 543 = .ok (.iaload, 1) := by decide +kernel
theorem dL_law_544 : decode cL_law 544 = .ok (.aload_n 0, 1) := by decide +kernel
theorem dL_law_545 : decode cL_law 545 = .ok (.iload_n 3, 1) := by decide +kernel
theorem dL_law_546 : decode cL_law 546 = .ok (.iconst 4, 1) := by decide +kernel
theorem dL_law_547 : decode cL_law 547 = .ok (.iadd, 1) := by decide +kernel
theorem dL_law_548 : decode cL_law 548 = .ok (.iaload, 1) := by decide +kernel
theorem dL_law_549 : decode cL_law 549 = .ok (.invokevirtual 76, 3) := by decide +kernel
theorem dL_law_552 : decode cL_law 552 = .ok (.aload_n 2, 1) := by decide +kernel
theorem dL_law_553 : decode cL_law 553 = .ok (.aload_n 0, 1) := by decide +kernel
theorem dL_law_554 : decode cL_law 554 = .ok (.iload_n 3, 1) := by decide +kernel
theorem dL_law_555 : decode cL_law 555 = .ok (.iconst 1, 1) := by decide +kernel
theorem dL_law_556 : decode cL_law 556 = .ok (.iadd, 1) := by decide +kernel
theorem dL_law_557 : decode cL_law 557 = .ok (.iaload, 1) := by decide +kernel
theorem dL_law_558 : decode cL_law 558 = .ok (.aload_n 0, 1) := by decide +kernel
theorem dL_law_559 : decode cL_law 559 = .ok (.iload_n 3, 1) := by decide +kernel
theorem dL_law_560 : decode cL_law 560 = .ok (.iconst 2, 1) := by decide +kernel
theorem dL_law_561 : decode cL_law 561 = .ok (.iadd, 1) := by decide +kernel
theorem dL_law_562 : decode cL_law 562 = .ok (.iaload, 1) := by decide +kernel
theorem dL_law_563 : decode cL_law 563 = .ok (.aload_n 0, 1) := by decide +kernel
theorem dL_law_564 : decode cL_law 564 = .ok (.iload_n 3, 1) := by decide +kernel
theorem dL_law_565 : decode cL_law 565 = .ok (.iconst 3, 1) := by decide +kernel
theorem dL_law_566 : decode cL_law 566 = .ok (.iadd, 1) := by decide +kernel
theorem dL_law_567 : decode cL_law 567 = .ok (.iaload, 1) := by decide +kernel
theorem dL_law_568 : decode cL_law 568 = .ok (.aload_n 0, 1) := by decide +kernel
theorem dL_law_569 : decode cL_law 569 = .ok (.iload_n 3, 1) := by decide +kernel
theorem dL_law_570 : decode cL_law 570 = .ok (.iconst 4, 1) := by decide +kernel
theorem dL_law_571 : decode cL_law 571 = .ok (.iadd, 1) := by decide +kernel
theorem dL_law_572 : decode cL_law 572 = .ok (.iaload, 1) := by decide +kernel
theorem dL_law_573 : decode cL_law 573 = .ok (.invokevirtual 80, 3) := by decide +kernel
theorem dL_law_576 : decode cL_law 576 = .ok (.lcmp, 1) := by decide +kernel
theorem dL_law_577 : decode cL_law 577 = .ok (.ifCond .eq 167, 3) := by decide +kernel
theorem dL_law_580 : decode cL_law 580 = .ok (.iconst 0, 1) := by decide +kernel
theorem dL_law_581 : decode cL_law 581 = .ok (.ireturn, 1) := by decide +kernel
theorem dL_law_582 : decode cL_law 582 = .ok (.aload_n 1, 1) := by decide +kernel
theorem dL_law_583 : decode cL_law 583 = .ok (.aload_n 0, 1) := by decide +kernel
theorem dL_law_584 : decode cL_law 584 = .ok (.iload_n 3, 1) := by decide +kernel
theorem dL_law_585 : decode cL_law 585 = .ok (.iconst 1, 1) := by decide +kernel
theorem dL_law_586 : decode cL_law 586 = .ok (.iadd, 1) := by decide +kernel
theorem dL_law_587 : decode cL_law 587 = .ok (.iaload, 1) := by decide +kernel
theorem dL_law_588 : decode cL_law 588 = .ok (.aload_n 0, 1) := by decide +kernel
theorem dL_law_589 : decode cL_law 589 = .ok (.iload_n 3, 1) := by decide +kernel
theorem dL_law_590 : decode cL_law 590 = .ok (.iconst 2, 1) := by decide +kernel
theorem dL_law_591 : decode cL_law 591 = .ok (.iadd, 1) := by decide +kernel
theorem dL_law_592 : decode cL_law 592 = .ok (.iaload, 1) := by decide +kernel
theorem dL_law_593 : decode cL_law 593 = .ok (.invokevirtual 81, 3) := by decide +kernel
theorem dL_law_596 : decode cL_law 596 = .ok (.aload_n 2, 1) := by decide +kernel
theorem dL_law_597 : decode cL_law 597 = .ok (.aload_n 0, 1) := by decide +kernel
theorem dL_law_598 : decode cL_law 598 = .ok (.iload_n 3, 1) := by decide +kernel
theorem dL_law_599 : decode cL_law 599 = .ok (.iconst 1, 1) := by decide +kernel
theorem dL_law_600 : decode cL_law 600 = .ok (.iadd, 1) := by decide +kernel
theorem dL_law_601 : decode cL_law 601 = .ok (.iaload, 1) := by decide +kernel
theorem dL_law_602 : decode cL_law 602 = .ok (.aload_n 0, 1) := by decide +kernel
theorem dL_law_603 : decode cL_law 603 = .ok (.iload_n 3, 1) := by decide +kernel
theorem dL_law_604 : decode cL_law 604 = .ok (.iconst 2, 1) := by decide +kernel
theorem dL_law_605 : decode cL_law 605 = .ok (.iadd, 1) := by decide +kernel
theorem dL_law_606 : decode cL_law 606 = .ok (.iaload, 1) := by decide +kernel
theorem dL_law_607 : decode cL_law 607 = .ok (.invokevirtual 84, 3) := by decide +kernel
theorem dL_law_610 : decode cL_law 610 = .ok (.if_icmp .eq 134, 3) := by decide +kernel
theorem dL_law_613 : decode cL_law 613 = .ok (.iconst 0, 1) := by decide +kernel
theorem dL_law_614 : decode cL_law 614 = .ok (.ireturn, 1) := by decide +kernel
theorem dL_law_615 : decode cL_law 615 = .ok (.aload_n 1, 1) := by decide +kernel
theorem dL_law_616 : decode cL_law 616 = .ok (.invokevirtual 85, 3) := by decide +kernel
theorem dL_law_619 : decode cL_law 619 = .ok (.aload_n 2, 1) := by decide +kernel
theorem dL_law_620 : decode cL_law 620 = .ok (.invokevirtual 88, 3) := by decide +kernel
theorem dL_law_623 : decode cL_law 623 = .ok (.if_icmp .eq 121, 3) := by decide +kernel
theorem dL_law_626 : decode cL_law 626 = .ok (.iconst 0, 1) := by decide +kernel
theorem dL_law_627 : decode cL_law 627 = .ok (.ireturn, 1) := by decide +kernel
theorem dL_law_628 : decode cL_law 628 = .ok (.aload_n 1, 1) := by decide +kernel
theorem dL_law_629 : decode cL_law 629 = .ok (.aload_n 0, 1) := by decide +kernel
theorem dL_law_630 : decode cL_law 630 = .ok (.iload_n 3, 1) := by decide +kernel
theorem dL_law_631 : decode cL_law 631 = .ok (.iconst 1, 1) := by decide +kernel
theorem dL_law_632 : decode cL_law 632 = .ok (.iadd, 1) := by decide +kernel
theorem dL_law_633 : decode cL_law 633 = .ok (.iaload, 1) := by decide +kernel
theorem dL_law_634 : decode cL_law 634 = .ok (.aload_n 0, 1) := by decide +kernel
theorem dL_law_635 : decode cL_law 635 = .ok (.iload_n 3, 1) := by decide +kernel
theorem dL_law_636 : decode cL_law 636 = .ok (.iconst 2, 1) := by decide +kernel
theorem dL_law_637 : decode cL_law 637 = .ok (.iadd, 1) := by decide +kernel
theorem dL_law_638 : decode cL_law 638 = .ok (.iaload, 1) := by decide +kernel
theorem dL_law_639 : decode cL_law 639 = .ok (.invokevirtual 89, 3) := by decide +kernel
theorem dL_law_642 : decode cL_law 642 = .ok (.aload_n 2, 1) := by decide +kernel
theorem dL_law_643 : decode cL_law 643 = .ok (.aload_n 0, 1) := by decide +kernel
theorem dL_law_644 : decode cL_law 644 = .ok (.iload_n 3, 1) := by decide +kernel
theorem dL_law_645 : decode cL_law 645 = .ok (.iconst 1, 1) := by decide +kernel
theorem dL_law_646 : decode cL_law 646 = .ok (.iadd, 1) := by decide +kernel
theorem dL_law_647 : decode cL_law 647 = .ok (.iaload, 1) := by decide +kernel
theorem dL_law_648 : decode cL_law 648 = .ok (.aload_n 0, 1) := by decide +kernel
theorem dL_law_649 : decode cL_law 649 = .ok (.iload_n 3, 1) := by decide +kernel
theorem dL_law_650 : decode cL_law 650 = .ok (.iconst 2, 1) := by decide +kernel
theorem dL_law_651 : decode cL_law 651 = .ok (.iadd, 1) := by decide +kernel
theorem dL_law_652 : decode cL_law 652 = .ok (.iaload, 1) := by decide +kernel
theorem dL_law_653 : decode cL_law 653 = .ok (.invokevirtual 92, 3) := by decide +kernel
theorem dL_law_656 : decode cL_law 656 = .ok (.if_icmp .eq 88, 3) := by decide +kernel
theorem dL_law_659 : decode cL_law 659 = .ok (.iconst 0, 1) := by decide +kernel
theorem dL_law_660 : decode cL_law 660 = .ok (.ireturn, 1) := by decide +kernel
theorem dL_law_661 : decode cL_law 661 = .ok (.aload_n 1, 1) := by decide +kernel
theorem dL_law_662 : decode cL_law 662 = .ok (.aload_n 0, 1) := by decide +kernel
theorem dL_law_663 : decode cL_law 663 = .ok (.iload_n 3, 1) := by decide +kernel
theorem dL_law_664 : decode cL_law 664 = .ok (.iconst 1, 1) := by decide +kernel
theorem dL_law_665 : decode cL_law 665 = .ok (.iadd, 1) := by decide +kernel
theorem dL_law_666 : decode cL_law 666 = .ok (.iaload, 1) := by decide +kernel
theorem dL_law_667 : decode cL_law 667 = .ok (.invokevirtual 93, 3) := by decide +kernel
theorem dL_law_670 : decode cL_law 670 = .ok (.aload_n 2, 1) := by decide +kernel
theorem dL_law_671 : decode cL_law 671 = .ok (.aload_n 0, 1) := by decide +kernel
theorem dL_law_672 : decode cL_law 672 = .ok (.iload_n 3, 1) := by decide +kernel
theorem dL_law_673 : decode cL_law 673 = .ok (.iconst 1, 1) := by decide +kernel
theorem dL_law_674 : decode cL_law 674 = .ok (.iadd, 1) := by decide +kernel
theorem dL_law_675 : decode cL_law 675 = .ok (.iaload, 1) := by decide +kernel
theorem dL_law_676 : decode cL_law 676 = .ok (.invokevirtual 96, 3) := by decide +kernel
theorem dL_law_679 : decode cL_law 679 = .ok (.if_icmp .eq 65, 3) := by decide +kernel
theorem dL_law_682 : decode cL_law 682 = .ok (.iconst 0, 1) := by decide +kernel
theorem dL_law_683 : decode cL_law 683 = .ok (.ireturn, 1) := by decide +kernel
theorem dL_law_684 : decode cL_law 684 = .ok (.aload_n 1, 1) := by decide +kernel
theorem dL_law_685 : decode cL_law 685 = .ok (.aload_n 0, 1) := by decide +kernel
theorem dL_law_686 : decode cL_law 686 = .ok (.iload_n 3, 1) := by decide +kernel
theorem dL_law_687 : decode cL_law 687 = .ok (.iconst 1, 1) := by decide +kernel
theorem dL_law_688 : decode cL_law 688 = .ok (.iadd, 1) := by decide +kernel
theorem dL_law_689 : decode cL_law 689 = .ok (.iaload, 1) := by decide +kernel
theorem dL_law_690 : decode cL_law 690 = .ok (.invokevirtual 97, 3) := by decide +kernel
theorem dL_law_693 : decode cL_law 693 = .ok (.aload_n 2, 1) := by decide +kernel
theorem dL_law_694 : decode cL_law 694 = .ok (.aload_n 0, 1) := by decide +kernel
theorem dL_law_695 : decode cL_law 695 = .ok (.iload_n 3, 1) := by decide +kernel
theorem dL_law_696 : decode cL_law 696 = .ok (.iconst 1, 1) := by decide +kernel
theorem dL_law_697 : decode cL_law 697 = .ok (.iadd, 1) := by decide +kernel
theorem dL_law_698 : decode cL_law 698 = .ok (.iaload, 1) := by decide +kernel
theorem dL_law_699 : decode cL_law 699 = .ok (.invokevirtual 100, 3) := by decide +kernel
theorem dL_law_702 : decode cL_law 702 = .ok (.if_icmp .eq 42, 3) := by decide +kernel
theorem dL_law_705 : decode cL_law 705 = .ok (.iconst 0, 1) := by decide +kernel
theorem dL_law_706 : decode cL_law 706 = .ok (.ireturn, 1) := by decide +kernel
theorem dL_law_707 : decode cL_law 707 = .ok (.aload_n 1, 1) := by decide +kernel
theorem dL_law_708 : decode cL_law 708 = .ok (.aload_n 0, 1) := by decide +kernel
theorem dL_law_709 : decode cL_law 709 = .ok (.iload_n 3, 1) := by decide +kernel
theorem dL_law_710 : decode cL_law 710 = .ok (.iconst 1, 1) := by decide +kernel
theorem dL_law_711 : decode cL_law 711 = .ok (.iadd, 1) := by decide +kernel
theorem dL_law_712 : decode cL_law 712 = .ok (.iaload, 1) := by decide +kernel
theorem dL_law_713 : decode cL_law 713 = .ok (.invokevirtual 101, 3) := by decide +kernel
theorem dL_law_716 : decode cL_law 716 = .ok (.aload_n 2, 1) := by decide +kernel
theorem dL_law_717 : decode cL_law 717 = .ok (.aload_n 0, 1) := by decide +kernel
theorem dL_law_718 : decode cL_law 718 = .ok (.iload_n 3, 1) := by decide +kernel
theorem dL_law_719 : decode cL_law 719 = .ok (.iconst 1, 1) := by decide +kernel
theorem dL_law_720 : decode cL_law 720 = .ok (.iadd, 1) := by decide +kernel
theorem dL_law_721 : decode cL_law 721 = .ok (.iaload, 1) := by decide +kernel
theorem dL_law_722 : decode cL_law 722 = .ok (.invokevirtual 104, 3) := by decide +kernel
theorem dL_law_725 : decode cL_law 725 = .ok (.if_icmp .eq 19, 3) := by decide +kernel
theorem dL_law_728 : decode cL_law 728 = .ok (.iconst 0, 1) := by decide +kernel
theorem dL_law_729 : decode cL_law 729 = .ok (.ireturn, 1) := by decide +kernel
theorem dL_law_730 : decode cL_law 730 = .ok (.aload_n 1, 1) := by decide +kernel
theorem dL_law_731 : decode cL_law 731 = .ok (.invokevirtual 105, 3) := by decide +kernel
theorem dL_law_734 : decode cL_law 734 = .ok (.aload_n 2, 1) := by decide +kernel
theorem dL_law_735 : decode cL_law 735 = .ok (.invokevirtual 109, 3) := by decide +kernel
theorem dL_law_738 : decode cL_law 738 = .ok (.lcmp, 1) := by decide +kernel
theorem dL_law_739 : decode cL_law 739 = .ok (.ifCond .eq 5, 3) := by decide +kernel
theorem dL_law_742 : decode cL_law 742 = .ok (.iconst 0, 1) := by decide +kernel
theorem dL_law_743 : decode cL_law 743 = .ok (.ireturn, 1) := by decide +kernel
theorem dL_law_744 : decode cL_law 744 = .ok (.iinc 3 5, 3) := by decide +kernel
theorem dL_law_747 : decode cL_law 747 = .ok (.goto (-729), 3) := by decide +kernel
theorem dL_law_750 : decode cL_law 750 = .ok (.iconst 1, 1) := by decide +kernel
theorem dL_law_751 : decode cL_law 751 = .ok (.ireturn, 1) := by decide +kernel
end
