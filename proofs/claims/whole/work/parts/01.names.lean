-- PART A of the kit's skeleton, then the printed names (claim/NAMES.whole.lean.txt): names, fields, codes; then the words of the tables, one list for all
-- ===== PART A: goes FIRST, ahead of the names: the tables' words, and 'selects' of the private methods out of them =====
/-- a private method of a class that the tables say can be made, by its rows of tables_1 -/
def lw_okq (q : MethodName × Nat) : Prop := (q.1.cls ≠ "java/lang/invoke/MethodHandle" ∧ q.1.cls ≠ "java/lang/invoke/VarHandle") ∧ Cond.instantiable q.1.cls q.2 ∈ tables_1 ∧ Cond.privateMethod q.1 ∈ tables_1 ∧ Cond.instanceMethod q.1 ∈ tables_1
theorem lw_p0 : lw_okq (⟨"SelfScale$Reader", "begin", "()V"⟩, 8) := ⟨⟨by decide +kernel, by decide +kernel⟩, List.mem_of_getElem? (i := 51) (by decide +kernel), List.mem_of_getElem? (i := 286) (by decide +kernel), List.mem_of_getElem? (i := 287) (by decide +kernel)⟩
theorem lw_p1 : lw_okq (⟨"SelfScale$Reader", "token", "()I"⟩, 8) := ⟨⟨by decide +kernel, by decide +kernel⟩, List.mem_of_getElem? (i := 51) (by decide +kernel), List.mem_of_getElem? (i := 294) (by decide +kernel), List.mem_of_getElem? (i := 295) (by decide +kernel)⟩
theorem lw_p2 : lw_okq (⟨"SelfScale$Reader", "endOfBlanks", "(I)I"⟩, 8) := ⟨⟨by decide +kernel, by decide +kernel⟩, List.mem_of_getElem? (i := 51) (by decide +kernel), List.mem_of_getElem? (i := 298) (by decide +kernel), List.mem_of_getElem? (i := 299) (by decide +kernel)⟩
theorem lw_p3 : lw_okq (⟨"SelfScale$Reader", "endOfWord", "(I)I"⟩, 8) := ⟨⟨by decide +kernel, by decide +kernel⟩, List.mem_of_getElem? (i := 51) (by decide +kernel), List.mem_of_getElem? (i := 317) (by decide +kernel), List.mem_of_getElem? (i := 318) (by decide +kernel)⟩
theorem lw_p4 : lw_okq (⟨"SelfScale$Reader", "wordToken", "()I"⟩, 8) := ⟨⟨by decide +kernel, by decide +kernel⟩, List.mem_of_getElem? (i := 51) (by decide +kernel), List.mem_of_getElem? (i := 321) (by decide +kernel), List.mem_of_getElem? (i := 322) (by decide +kernel)⟩
theorem lw_p5 : lw_okq (⟨"SelfScale$Reader", "endOfDigits", "(I)I"⟩, 8) := ⟨⟨by decide +kernel, by decide +kernel⟩, List.mem_of_getElem? (i := 51) (by decide +kernel), List.mem_of_getElem? (i := 384) (by decide +kernel), List.mem_of_getElem? (i := 385) (by decide +kernel)⟩
theorem lw_p6 : lw_okq (⟨"SelfScale$Reader", "numberToken", "()I"⟩, 8) := ⟨⟨by decide +kernel, by decide +kernel⟩, List.mem_of_getElem? (i := 51) (by decide +kernel), List.mem_of_getElem? (i := 388) (by decide +kernel), List.mem_of_getElem? (i := 389) (by decide +kernel)⟩
theorem lw_p7 : lw_okq (⟨"SelfScale$Reader", "mayBegin", "(I)Z"⟩, 8) := ⟨⟨by decide +kernel, by decide +kernel⟩, List.mem_of_getElem? (i := 51) (by decide +kernel), List.mem_of_getElem? (i := 392) (by decide +kernel), List.mem_of_getElem? (i := 393) (by decide +kernel)⟩
theorem lw_p8 : lw_okq (⟨"SelfScale$Reader", "mayTake", "(I)Z"⟩, 8) := ⟨⟨by decide +kernel, by decide +kernel⟩, List.mem_of_getElem? (i := 51) (by decide +kernel), List.mem_of_getElem? (i := 400) (by decide +kernel), List.mem_of_getElem? (i := 401) (by decide +kernel)⟩
theorem lw_p9 : lw_okq (⟨"SelfScale$Reader", "take", "(I)V"⟩, 8) := ⟨⟨by decide +kernel, by decide +kernel⟩, List.mem_of_getElem? (i := 51) (by decide +kernel), List.mem_of_getElem? (i := 404) (by decide +kernel), List.mem_of_getElem? (i := 405) (by decide +kernel)⟩
theorem lw_p10 : lw_okq (⟨"SelfScale", "isItem", "(I)Z"⟩, 9) := ⟨⟨by decide +kernel, by decide +kernel⟩, List.mem_of_getElem? (i := 19) (by decide +kernel), List.mem_of_getElem? (i := 455) (by decide +kernel), List.mem_of_getElem? (i := 456) (by decide +kernel)⟩
theorem lw_p11 : lw_okq (⟨"SelfScale", "isSet", "(I)Z"⟩, 9) := ⟨⟨by decide +kernel, by decide +kernel⟩, List.mem_of_getElem? (i := 19) (by decide +kernel), List.mem_of_getElem? (i := 470) (by decide +kernel), List.mem_of_getElem? (i := 471) (by decide +kernel)⟩
theorem lw_p12 : lw_okq (⟨"SelfScale", "isLine", "(I)Z"⟩, 9) := ⟨⟨by decide +kernel, by decide +kernel⟩, List.mem_of_getElem? (i := 19) (by decide +kernel), List.mem_of_getElem? (i := 516) (by decide +kernel), List.mem_of_getElem? (i := 517) (by decide +kernel)⟩
theorem lw_p13 : lw_okq (⟨"SelfScale", "known", "()LSelfScale$Worlds;"⟩, 9) := ⟨⟨by decide +kernel, by decide +kernel⟩, List.mem_of_getElem? (i := 19) (by decide +kernel), List.mem_of_getElem? (i := 545) (by decide +kernel), List.mem_of_getElem? (i := 546) (by decide +kernel)⟩
theorem lw_p14 : lw_okq (⟨"SelfScale$Worlds", "writeCodes", "()V"⟩, 11) := ⟨⟨by decide +kernel, by decide +kernel⟩, List.mem_of_getElem? (i := 160) (by decide +kernel), List.mem_of_getElem? (i := 557) (by decide +kernel), List.mem_of_getElem? (i := 558) (by decide +kernel)⟩
theorem lw_p15 : lw_okq (⟨"SelfScale$Worlds", "codeOf", "(II)I"⟩, 11) := ⟨⟨by decide +kernel, by decide +kernel⟩, List.mem_of_getElem? (i := 160) (by decide +kernel), List.mem_of_getElem? (i := 563) (by decide +kernel), List.mem_of_getElem? (i := 564) (by decide +kernel)⟩
def lw_privs_1 : List (MethodName × Nat) := [(⟨"SelfScale$Reader", "begin", "()V"⟩, 8), (⟨"SelfScale$Reader", "token", "()I"⟩, 8), (⟨"SelfScale$Reader", "endOfBlanks", "(I)I"⟩, 8), (⟨"SelfScale$Reader", "endOfWord", "(I)I"⟩, 8), (⟨"SelfScale$Reader", "wordToken", "()I"⟩, 8), (⟨"SelfScale$Reader", "endOfDigits", "(I)I"⟩, 8), (⟨"SelfScale$Reader", "numberToken", "()I"⟩, 8), (⟨"SelfScale$Reader", "mayBegin", "(I)Z"⟩, 8), (⟨"SelfScale$Reader", "mayTake", "(I)Z"⟩, 8), (⟨"SelfScale$Reader", "take", "(I)V"⟩, 8), (⟨"SelfScale", "isItem", "(I)Z"⟩, 9), (⟨"SelfScale", "isSet", "(I)Z"⟩, 9), (⟨"SelfScale", "isLine", "(I)Z"⟩, 9), (⟨"SelfScale", "known", "()LSelfScale$Worlds;"⟩, 9), (⟨"SelfScale$Worlds", "writeCodes", "()V"⟩, 11), (⟨"SelfScale$Worlds", "codeOf", "(II)I"⟩, 11)]
theorem lw_r1 : ∀ q ∈ lw_privs_1, lw_okq q := List.forall_mem_cons.mpr ⟨lw_p0, List.forall_mem_cons.mpr ⟨lw_p1, List.forall_mem_cons.mpr ⟨lw_p2, List.forall_mem_cons.mpr ⟨lw_p3, List.forall_mem_cons.mpr ⟨lw_p4, List.forall_mem_cons.mpr ⟨lw_p5, List.forall_mem_cons.mpr ⟨lw_p6, List.forall_mem_cons.mpr ⟨lw_p7, List.forall_mem_cons.mpr ⟨lw_p8, List.forall_mem_cons.mpr ⟨lw_p9, List.forall_mem_cons.mpr ⟨lw_p10, List.forall_mem_cons.mpr ⟨lw_p11, List.forall_mem_cons.mpr ⟨lw_p12, List.forall_mem_cons.mpr ⟨lw_p13, List.forall_mem_cons.mpr ⟨lw_p14, List.forall_mem_cons.mpr ⟨lw_p15, fun _ h => absurd h List.not_mem_nil⟩⟩⟩⟩⟩⟩⟩⟩⟩⟩⟩⟩⟩⟩⟩⟩
theorem lw_p16 : lw_okq (⟨"SelfScale$Worlds", "meetWorldsWith", "(I)V"⟩, 11) := ⟨⟨by decide +kernel, by decide +kernel⟩, List.mem_of_getElem? (i := 160) (by decide +kernel), List.mem_of_getElem? (i := 574) (by decide +kernel), List.mem_of_getElem? (i := 575) (by decide +kernel)⟩
theorem lw_p17 : lw_okq (⟨"SelfScale$Worlds", "code", "(II)I"⟩, 11) := ⟨⟨by decide +kernel, by decide +kernel⟩, List.mem_of_getElem? (i := 160) (by decide +kernel), List.mem_of_getElem? (i := 578) (by decide +kernel), List.mem_of_getElem? (i := 579) (by decide +kernel)⟩
theorem lw_p18 : lw_okq (⟨"SelfScale$Worlds", "leastOf", "(I)I"⟩, 11) := ⟨⟨by decide +kernel, by decide +kernel⟩, List.mem_of_getElem? (i := 160) (by decide +kernel), List.mem_of_getElem? (i := 583) (by decide +kernel), List.mem_of_getElem? (i := 584) (by decide +kernel)⟩
theorem lw_p19 : lw_okq (⟨"SelfScale$Worlds", "mostOf", "(I)I"⟩, 11) := ⟨⟨by decide +kernel, by decide +kernel⟩, List.mem_of_getElem? (i := 160) (by decide +kernel), List.mem_of_getElem? (i := 588) (by decide +kernel), List.mem_of_getElem? (i := 589) (by decide +kernel)⟩
theorem lw_p20 : lw_okq (⟨"SelfScale$Worlds", "meet", "(II)V"⟩, 11) := ⟨⟨by decide +kernel, by decide +kernel⟩, List.mem_of_getElem? (i := 160) (by decide +kernel), List.mem_of_getElem? (i := 592) (by decide +kernel), List.mem_of_getElem? (i := 593) (by decide +kernel)⟩
theorem lw_p21 : lw_okq (⟨"SelfScale$Worlds", "leave", "(II)V"⟩, 11) := ⟨⟨by decide +kernel, by decide +kernel⟩, List.mem_of_getElem? (i := 160) (by decide +kernel), List.mem_of_getElem? (i := 602) (by decide +kernel), List.mem_of_getElem? (i := 603) (by decide +kernel)⟩
theorem lw_p22 : lw_okq (⟨"SelfScale$Plan", "shownIn", "(II)I"⟩, 5) := ⟨⟨by decide +kernel, by decide +kernel⟩, List.mem_of_getElem? (i := 202) (by decide +kernel), List.mem_of_getElem? (i := 659) (by decide +kernel), List.mem_of_getElem? (i := 660) (by decide +kernel)⟩
theorem lw_p23 : lw_okq (⟨"SelfScale$Plan", "isSureBy", "(II)Z"⟩, 5) := ⟨⟨by decide +kernel, by decide +kernel⟩, List.mem_of_getElem? (i := 202) (by decide +kernel), List.mem_of_getElem? (i := 683) (by decide +kernel), List.mem_of_getElem? (i := 684) (by decide +kernel)⟩
theorem lw_p24 : lw_okq (⟨"SelfScale$Plan", "isSureByNoneAndAlone", "(I)Z"⟩, 5) := ⟨⟨by decide +kernel, by decide +kernel⟩, List.mem_of_getElem? (i := 202) (by decide +kernel), List.mem_of_getElem? (i := 693) (by decide +kernel), List.mem_of_getElem? (i := 694) (by decide +kernel)⟩
theorem lw_p25 : lw_okq (⟨"SelfScale$Worlds", "chance", "(III)J"⟩, 11) := ⟨⟨by decide +kernel, by decide +kernel⟩, List.mem_of_getElem? (i := 160) (by decide +kernel), List.mem_of_getElem? (i := 719) (by decide +kernel), List.mem_of_getElem? (i := 720) (by decide +kernel)⟩
theorem lw_p26 : lw_okq (⟨"SelfScale$Scale", "outcomeFrom", "(I)I"⟩, 5) := ⟨⟨by decide +kernel, by decide +kernel⟩, List.mem_of_getElem? (i := 57) (by decide +kernel), List.mem_of_getElem? (i := 752) (by decide +kernel), List.mem_of_getElem? (i := 753) (by decide +kernel)⟩
theorem lw_p27 : lw_okq (⟨"SelfScale$Kinds", "asThing", "(I)I"⟩, 3) := ⟨⟨by decide +kernel, by decide +kernel⟩, List.mem_of_getElem? (i := 144) (by decide +kernel), List.mem_of_getElem? (i := 770) (by decide +kernel), List.mem_of_getElem? (i := 771) (by decide +kernel)⟩
theorem lw_p28 : lw_okq (⟨"SelfScale$Kinds", "asSack", "(I)I"⟩, 3) := ⟨⟨by decide +kernel, by decide +kernel⟩, List.mem_of_getElem? (i := 144) (by decide +kernel), List.mem_of_getElem? (i := 775) (by decide +kernel), List.mem_of_getElem? (i := 776) (by decide +kernel)⟩
theorem lw_p29 : lw_okq (⟨"SelfScale$Kinds", "asLead", "(I)I"⟩, 3) := ⟨⟨by decide +kernel, by decide +kernel⟩, List.mem_of_getElem? (i := 144) (by decide +kernel), List.mem_of_getElem? (i := 781) (by decide +kernel), List.mem_of_getElem? (i := 782) (by decide +kernel)⟩
theorem lw_p30 : lw_okq (⟨"SelfScale$Kinds", "asFlour", "(I)I"⟩, 3) := ⟨⟨by decide +kernel, by decide +kernel⟩, List.mem_of_getElem? (i := 144) (by decide +kernel), List.mem_of_getElem? (i := 786) (by decide +kernel), List.mem_of_getElem? (i := 787) (by decide +kernel)⟩
theorem lw_p31 : lw_okq (⟨"SelfScale$Kinds", "asGold", "(I)I"⟩, 3) := ⟨⟨by decide +kernel, by decide +kernel⟩, List.mem_of_getElem? (i := 144) (by decide +kernel), List.mem_of_getElem? (i := 792) (by decide +kernel), List.mem_of_getElem? (i := 793) (by decide +kernel)⟩
def lw_privs_2 : List (MethodName × Nat) := [(⟨"SelfScale$Worlds", "meetWorldsWith", "(I)V"⟩, 11), (⟨"SelfScale$Worlds", "code", "(II)I"⟩, 11), (⟨"SelfScale$Worlds", "leastOf", "(I)I"⟩, 11), (⟨"SelfScale$Worlds", "mostOf", "(I)I"⟩, 11), (⟨"SelfScale$Worlds", "meet", "(II)V"⟩, 11), (⟨"SelfScale$Worlds", "leave", "(II)V"⟩, 11), (⟨"SelfScale$Plan", "shownIn", "(II)I"⟩, 5), (⟨"SelfScale$Plan", "isSureBy", "(II)Z"⟩, 5), (⟨"SelfScale$Plan", "isSureByNoneAndAlone", "(I)Z"⟩, 5), (⟨"SelfScale$Worlds", "chance", "(III)J"⟩, 11), (⟨"SelfScale$Scale", "outcomeFrom", "(I)I"⟩, 5), (⟨"SelfScale$Kinds", "asThing", "(I)I"⟩, 3), (⟨"SelfScale$Kinds", "asSack", "(I)I"⟩, 3), (⟨"SelfScale$Kinds", "asLead", "(I)I"⟩, 3), (⟨"SelfScale$Kinds", "asFlour", "(I)I"⟩, 3), (⟨"SelfScale$Kinds", "asGold", "(I)I"⟩, 3)]
theorem lw_r2 : ∀ q ∈ lw_privs_2, lw_okq q := List.forall_mem_cons.mpr ⟨lw_p16, List.forall_mem_cons.mpr ⟨lw_p17, List.forall_mem_cons.mpr ⟨lw_p18, List.forall_mem_cons.mpr ⟨lw_p19, List.forall_mem_cons.mpr ⟨lw_p20, List.forall_mem_cons.mpr ⟨lw_p21, List.forall_mem_cons.mpr ⟨lw_p22, List.forall_mem_cons.mpr ⟨lw_p23, List.forall_mem_cons.mpr ⟨lw_p24, List.forall_mem_cons.mpr ⟨lw_p25, List.forall_mem_cons.mpr ⟨lw_p26, List.forall_mem_cons.mpr ⟨lw_p27, List.forall_mem_cons.mpr ⟨lw_p28, List.forall_mem_cons.mpr ⟨lw_p29, List.forall_mem_cons.mpr ⟨lw_p30, List.forall_mem_cons.mpr ⟨lw_p31, fun _ h => absurd h List.not_mem_nil⟩⟩⟩⟩⟩⟩⟩⟩⟩⟩⟩⟩⟩⟩⟩⟩
theorem lw_p32 : lw_okq (⟨"SelfScale$Kinds", "asBaby", "(I)I"⟩, 3) := ⟨⟨by decide +kernel, by decide +kernel⟩, List.mem_of_getElem? (i := 144) (by decide +kernel), List.mem_of_getElem? (i := 797) (by decide +kernel), List.mem_of_getElem? (i := 798) (by decide +kernel)⟩
theorem lw_p33 : lw_okq (⟨"SelfScale", "imageOf", "(I)LSelfScale$Image;"⟩, 9) := ⟨⟨by decide +kernel, by decide +kernel⟩, List.mem_of_getElem? (i := 19) (by decide +kernel), List.mem_of_getElem? (i := 812) (by decide +kernel), List.mem_of_getElem? (i := 813) (by decide +kernel)⟩
theorem lw_p34 : lw_okq (⟨"SelfScaleModel", "nextToken", "()V"⟩, 20) := ⟨⟨by decide +kernel, by decide +kernel⟩, List.mem_of_getElem? (i := 850) (by decide +kernel), List.mem_of_getElem? (i := 934) (by decide +kernel), List.mem_of_getElem? (i := 935) (by decide +kernel)⟩
theorem lw_p35 : lw_okq (⟨"SelfScaleModel", "here", "()I"⟩, 20) := ⟨⟨by decide +kernel, by decide +kernel⟩, List.mem_of_getElem? (i := 850) (by decide +kernel), List.mem_of_getElem? (i := 938) (by decide +kernel), List.mem_of_getElem? (i := 939) (by decide +kernel)⟩
theorem lw_p36 : lw_okq (⟨"SelfScaleModel", "readItem", "()V"⟩, 20) := ⟨⟨by decide +kernel, by decide +kernel⟩, List.mem_of_getElem? (i := 850) (by decide +kernel), List.mem_of_getElem? (i := 944) (by decide +kernel), List.mem_of_getElem? (i := 945) (by decide +kernel)⟩
theorem lw_p37 : lw_okq (⟨"SelfScaleModel", "due", "(Z)I"⟩, 20) := ⟨⟨by decide +kernel, by decide +kernel⟩, List.mem_of_getElem? (i := 850) (by decide +kernel), List.mem_of_getElem? (i := 948) (by decide +kernel), List.mem_of_getElem? (i := 949) (by decide +kernel)⟩
theorem lw_p38 : lw_okq (⟨"SelfScaleModel", "number", "(II)I"⟩, 20) := ⟨⟨by decide +kernel, by decide +kernel⟩, List.mem_of_getElem? (i := 850) (by decide +kernel), List.mem_of_getElem? (i := 952) (by decide +kernel), List.mem_of_getElem? (i := 953) (by decide +kernel)⟩
theorem lw_p39 : lw_okq (⟨"SelfScaleModel", "isThing", "(I)Z"⟩, 20) := ⟨⟨by decide +kernel, by decide +kernel⟩, List.mem_of_getElem? (i := 850) (by decide +kernel), List.mem_of_getElem? (i := 960) (by decide +kernel), List.mem_of_getElem? (i := 961) (by decide +kernel)⟩
theorem lw_p40 : lw_okq (⟨"SelfScaleModel", "isSet", "(I)Z"⟩, 20) := ⟨⟨by decide +kernel, by decide +kernel⟩, List.mem_of_getElem? (i := 850) (by decide +kernel), List.mem_of_getElem? (i := 968) (by decide +kernel), List.mem_of_getElem? (i := 969) (by decide +kernel)⟩
theorem lw_p41 : lw_okq (⟨"SelfScaleModel", "trueSum", "(I)I"⟩, 20) := ⟨⟨by decide +kernel, by decide +kernel⟩, List.mem_of_getElem? (i := 850) (by decide +kernel), List.mem_of_getElem? (i := 972) (by decide +kernel), List.mem_of_getElem? (i := 973) (by decide +kernel)⟩
theorem lw_p42 : lw_okq (⟨"SelfScaleModel", "put", "(III)V"⟩, 20) := ⟨⟨by decide +kernel, by decide +kernel⟩, List.mem_of_getElem? (i := 850) (by decide +kernel), List.mem_of_getElem? (i := 976) (by decide +kernel), List.mem_of_getElem? (i := 977) (by decide +kernel)⟩
theorem lw_p43 : lw_okq (⟨"SelfScaleModel", "isLine", "(I)Z"⟩, 20) := ⟨⟨by decide +kernel, by decide +kernel⟩, List.mem_of_getElem? (i := 850) (by decide +kernel), List.mem_of_getElem? (i := 988) (by decide +kernel), List.mem_of_getElem? (i := 989) (by decide +kernel)⟩
theorem lw_p44 : lw_okq (⟨"SelfScaleModel", "isOne", "(I)Z"⟩, 20) := ⟨⟨by decide +kernel, by decide +kernel⟩, List.mem_of_getElem? (i := 850) (by decide +kernel), List.mem_of_getElem? (i := 1000) (by decide +kernel), List.mem_of_getElem? (i := 1001) (by decide +kernel)⟩
theorem lw_p45 : lw_okq (⟨"SelfScaleModel", "many", "(II)I"⟩, 20) := ⟨⟨by decide +kernel, by decide +kernel⟩, List.mem_of_getElem? (i := 850) (by decide +kernel), List.mem_of_getElem? (i := 1004) (by decide +kernel), List.mem_of_getElem? (i := 1005) (by decide +kernel)⟩
theorem lw_p46 : lw_okq (⟨"SelfScaleModel", "worlds", "()I"⟩, 20) := ⟨⟨by decide +kernel, by decide +kernel⟩, List.mem_of_getElem? (i := 850) (by decide +kernel), List.mem_of_getElem? (i := 1008) (by decide +kernel), List.mem_of_getElem? (i := 1009) (by decide +kernel)⟩
theorem lw_p47 : lw_okq (⟨"SelfScaleModel", "canBe", "(I)Z"⟩, 20) := ⟨⟨by decide +kernel, by decide +kernel⟩, List.mem_of_getElem? (i := 850) (by decide +kernel), List.mem_of_getElem? (i := 1012) (by decide +kernel), List.mem_of_getElem? (i := 1013) (by decide +kernel)⟩
def lw_privs_3 : List (MethodName × Nat) := [(⟨"SelfScale$Kinds", "asBaby", "(I)I"⟩, 3), (⟨"SelfScale", "imageOf", "(I)LSelfScale$Image;"⟩, 9), (⟨"SelfScaleModel", "nextToken", "()V"⟩, 20), (⟨"SelfScaleModel", "here", "()I"⟩, 20), (⟨"SelfScaleModel", "readItem", "()V"⟩, 20), (⟨"SelfScaleModel", "due", "(Z)I"⟩, 20), (⟨"SelfScaleModel", "number", "(II)I"⟩, 20), (⟨"SelfScaleModel", "isThing", "(I)Z"⟩, 20), (⟨"SelfScaleModel", "isSet", "(I)Z"⟩, 20), (⟨"SelfScaleModel", "trueSum", "(I)I"⟩, 20), (⟨"SelfScaleModel", "put", "(III)V"⟩, 20), (⟨"SelfScaleModel", "isLine", "(I)Z"⟩, 20), (⟨"SelfScaleModel", "isOne", "(I)Z"⟩, 20), (⟨"SelfScaleModel", "many", "(II)I"⟩, 20), (⟨"SelfScaleModel", "worlds", "()I"⟩, 20), (⟨"SelfScaleModel", "canBe", "(I)Z"⟩, 20)]
theorem lw_r3 : ∀ q ∈ lw_privs_3, lw_okq q := List.forall_mem_cons.mpr ⟨lw_p32, List.forall_mem_cons.mpr ⟨lw_p33, List.forall_mem_cons.mpr ⟨lw_p34, List.forall_mem_cons.mpr ⟨lw_p35, List.forall_mem_cons.mpr ⟨lw_p36, List.forall_mem_cons.mpr ⟨lw_p37, List.forall_mem_cons.mpr ⟨lw_p38, List.forall_mem_cons.mpr ⟨lw_p39, List.forall_mem_cons.mpr ⟨lw_p40, List.forall_mem_cons.mpr ⟨lw_p41, List.forall_mem_cons.mpr ⟨lw_p42, List.forall_mem_cons.mpr ⟨lw_p43, List.forall_mem_cons.mpr ⟨lw_p44, List.forall_mem_cons.mpr ⟨lw_p45, List.forall_mem_cons.mpr ⟨lw_p46, List.forall_mem_cons.mpr ⟨lw_p47, fun _ h => absurd h List.not_mem_nil⟩⟩⟩⟩⟩⟩⟩⟩⟩⟩⟩⟩⟩⟩⟩⟩
theorem lw_p48 : lw_okq (⟨"SelfScaleModel", "go", "(I)V"⟩, 20) := ⟨⟨by decide +kernel, by decide +kernel⟩, List.mem_of_getElem? (i := 850) (by decide +kernel), List.mem_of_getElem? (i := 1016) (by decide +kernel), List.mem_of_getElem? (i := 1017) (by decide +kernel)⟩
theorem lw_p49 : lw_okq (⟨"SelfScaleModel", "falseLines", "()I"⟩, 20) := ⟨⟨by decide +kernel, by decide +kernel⟩, List.mem_of_getElem? (i := 850) (by decide +kernel), List.mem_of_getElem? (i := 1020) (by decide +kernel), List.mem_of_getElem? (i := 1021) (by decide +kernel)⟩
theorem lw_p50 : lw_okq (⟨"SelfScaleModel", "laughIn", "(I)I"⟩, 20) := ⟨⟨by decide +kernel, by decide +kernel⟩, List.mem_of_getElem? (i := 850) (by decide +kernel), List.mem_of_getElem? (i := 1024) (by decide +kernel), List.mem_of_getElem? (i := 1025) (by decide +kernel)⟩
theorem lw_p51 : lw_okq (⟨"SelfScaleModel", "shownOf", "(I)I"⟩, 20) := ⟨⟨by decide +kernel, by decide +kernel⟩, List.mem_of_getElem? (i := 850) (by decide +kernel), List.mem_of_getElem? (i := 1028) (by decide +kernel), List.mem_of_getElem? (i := 1029) (by decide +kernel)⟩
theorem lw_p52 : lw_okq (⟨"SelfScaleModel", "worstOf", "(I)I"⟩, 20) := ⟨⟨by decide +kernel, by decide +kernel⟩, List.mem_of_getElem? (i := 850) (by decide +kernel), List.mem_of_getElem? (i := 1047) (by decide +kernel), List.mem_of_getElem? (i := 1048) (by decide +kernel)⟩
theorem lw_p53 : lw_okq (⟨"SelfScaleModel", "isKnown", "(I)Z"⟩, 20) := ⟨⟨by decide +kernel, by decide +kernel⟩, List.mem_of_getElem? (i := 850) (by decide +kernel), List.mem_of_getElem? (i := 1055) (by decide +kernel), List.mem_of_getElem? (i := 1056) (by decide +kernel)⟩
theorem lw_p54 : lw_okq (⟨"SelfScaleModel", "part", "(III)V"⟩, 20) := ⟨⟨by decide +kernel, by decide +kernel⟩, List.mem_of_getElem? (i := 850) (by decide +kernel), List.mem_of_getElem? (i := 1059) (by decide +kernel), List.mem_of_getElem? (i := 1060) (by decide +kernel)⟩
theorem lw_p55 : lw_okq (⟨"SelfScaleModel", "anyBad", "()Z"⟩, 20) := ⟨⟨by decide +kernel, by decide +kernel⟩, List.mem_of_getElem? (i := 850) (by decide +kernel), List.mem_of_getElem? (i := 1063) (by decide +kernel), List.mem_of_getElem? (i := 1064) (by decide +kernel)⟩
theorem lw_p56 : lw_okq (⟨"SelfScaleModel", "isEnough", "(II)Z"⟩, 20) := ⟨⟨by decide +kernel, by decide +kernel⟩, List.mem_of_getElem? (i := 850) (by decide +kernel), List.mem_of_getElem? (i := 1067) (by decide +kernel), List.mem_of_getElem? (i := 1068) (by decide +kernel)⟩
theorem lw_p57 : lw_okq (⟨"SelfScaleModel", "copy", "(II)V"⟩, 20) := ⟨⟨by decide +kernel, by decide +kernel⟩, List.mem_of_getElem? (i := 850) (by decide +kernel), List.mem_of_getElem? (i := 1107) (by decide +kernel), List.mem_of_getElem? (i := 1108) (by decide +kernel)⟩
def lw_privs_4 : List (MethodName × Nat) := [(⟨"SelfScaleModel", "go", "(I)V"⟩, 20), (⟨"SelfScaleModel", "falseLines", "()I"⟩, 20), (⟨"SelfScaleModel", "laughIn", "(I)I"⟩, 20), (⟨"SelfScaleModel", "shownOf", "(I)I"⟩, 20), (⟨"SelfScaleModel", "worstOf", "(I)I"⟩, 20), (⟨"SelfScaleModel", "isKnown", "(I)Z"⟩, 20), (⟨"SelfScaleModel", "part", "(III)V"⟩, 20), (⟨"SelfScaleModel", "anyBad", "()Z"⟩, 20), (⟨"SelfScaleModel", "isEnough", "(II)Z"⟩, 20), (⟨"SelfScaleModel", "copy", "(II)V"⟩, 20)]
theorem lw_r4 : ∀ q ∈ lw_privs_4, lw_okq q := List.forall_mem_cons.mpr ⟨lw_p48, List.forall_mem_cons.mpr ⟨lw_p49, List.forall_mem_cons.mpr ⟨lw_p50, List.forall_mem_cons.mpr ⟨lw_p51, List.forall_mem_cons.mpr ⟨lw_p52, List.forall_mem_cons.mpr ⟨lw_p53, List.forall_mem_cons.mpr ⟨lw_p54, List.forall_mem_cons.mpr ⟨lw_p55, List.forall_mem_cons.mpr ⟨lw_p56, List.forall_mem_cons.mpr ⟨lw_p57, fun _ h => absurd h List.not_mem_nil⟩⟩⟩⟩⟩⟩⟩⟩⟩⟩
def lw_privs : List (MethodName × Nat) := lw_privs_1 ++ (lw_privs_2 ++ (lw_privs_3 ++ (lw_privs_4)))
def lw_tbl : List Cond := k2_sels lw_privs ++ tables_1
theorem lw_privs_ok : ∀ q ∈ lw_privs, lw_okq q := by
  show ∀ q ∈ lw_privs_1 ++ (lw_privs_2 ++ (lw_privs_3 ++ (lw_privs_4))), lw_okq q
  exact List.forall_mem_append.mpr ⟨lw_r1, List.forall_mem_append.mpr ⟨lw_r2, List.forall_mem_append.mpr ⟨lw_r3, lw_r4⟩⟩⟩
def RX0 : String := "SelfScale$Book"
def TX0 : u_T := fun k => match k with
  | 0 => ("SelfScale$Book", "sets", "LSelfScale$Row;", true)
  | 1 => ("SelfScale$Book", "shown", "LSelfScale$Row;", true)
  | 2 => ("SelfScale$Book", "laughs", "LSelfScale$Row;", true)
  | _ => ("SelfScale$Book", "lines", "I", false)
def tyX0 : Nat → FieldType := fun k => match k with
  | 0 => .object "SelfScale$Row"
  | 1 => .object "SelfScale$Row"
  | 2 => .object "SelfScale$Row"
  | _ => .int
abbrev wsX00 : List Cond := u_ws RX0 TX0 4
theorem nmX0 : ∀ a, a < 4 → ∀ b, b < 4 → a ≠ b → (TX0 a).2.1 ≠ (TX0 b).2.1 := by decide +kernel
theorem tyX0_ok : ∀ k, k < 4 → parseFieldDescriptor (TX0 k).2.2.1 = some (tyX0 k) := by decide +kernel
abbrev cX0_init : ByteArray := prog_2_method_1_code
def yX0_init : MethodName := ⟨RX0, "<init>", "()V"⟩
abbrev cX0_lines : ByteArray := prog_2_method_2_code
def yX0_lines : MethodName := ⟨RX0, "lines", "()I"⟩
abbrev cX0_isFull : ByteArray := prog_2_method_3_code
def yX0_isFull : MethodName := ⟨RX0, "isFull", "()Z"⟩
abbrev cX0_wipe : ByteArray := prog_2_method_4_code
def yX0_wipe : MethodName := ⟨RX0, "wipe", "()V"⟩
abbrev cX0_add : ByteArray := prog_2_method_5_code
def yX0_add : MethodName := ⟨RX0, "add", "(III)V"⟩
abbrev cX0_dropLatest : ByteArray := prog_2_method_6_code
def yX0_dropLatest : MethodName := ⟨RX0, "dropLatest", "()V"⟩
abbrev cX0_copyFrom : ByteArray := prog_2_method_7_code
def yX0_copyFrom : MethodName := ⟨RX0, "copyFrom", "(LSelfScale$Book;)V"⟩
abbrev cX0_setOf : ByteArray := prog_2_method_8_code
def yX0_setOf : MethodName := ⟨RX0, "setOf", "(I)I"⟩
abbrev cX0_shownOf : ByteArray := prog_2_method_9_code
def yX0_shownOf : MethodName := ⟨RX0, "shownOf", "(I)I"⟩
abbrev cX0_laughOf : ByteArray := prog_2_method_10_code
def yX0_laughOf : MethodName := ⟨RX0, "laughOf", "(I)I"⟩
abbrev cX0_linesWith : ByteArray := prog_2_method_11_code
def yX0_linesWith : MethodName := ⟨RX0, "linesWith", "(I)I"⟩
abbrev cX0_unheardLines : ByteArray := prog_2_method_12_code
def yX0_unheardLines : MethodName := ⟨RX0, "unheardLines", "()I"⟩
def RX1 : String := "SelfScale$Image"
def TX1 : u_T := fun k => match k with
  | 0 => ("SelfScale$Image", "kept", "LSelfScale$Book;", true)
  | _ => ("SelfScale$Image", "isKept", "Z", false)
def tyX1 : Nat → FieldType := fun k => match k with
  | 0 => .object "SelfScale$Book"
  | _ => .boolean
abbrev wsX10 : List Cond := u_ws RX1 TX1 2
theorem nmX1 : ∀ a, a < 2 → ∀ b, b < 2 → a ≠ b → (TX1 a).2.1 ≠ (TX1 b).2.1 := by decide +kernel
theorem tyX1_ok : ∀ k, k < 2 → parseFieldDescriptor (TX1 k).2.2.1 = some (tyX1 k) := by decide +kernel
abbrev cX1_init : ByteArray := prog_3_method_1_code
def yX1_init : MethodName := ⟨RX1, "<init>", "()V"⟩
abbrev cX1_take : ByteArray := prog_3_method_2_code
def yX1_take : MethodName := ⟨RX1, "take", "(LSelfScale$Book;)V"⟩
abbrev cX1_drop : ByteArray := prog_3_method_3_code
def yX1_drop : MethodName := ⟨RX1, "drop", "()V"⟩
abbrev cX1_isKept : ByteArray := prog_3_method_4_code
def yX1_isKept : MethodName := ⟨RX1, "isKept", "()Z"⟩
abbrev cX1_kept : ByteArray := prog_3_method_5_code
def yX1_kept : MethodName := ⟨RX1, "kept", "()LSelfScale$Book;"⟩
def RX2 : String := "SelfScale$Kinds"
def TX2 : u_T := fun k => match k with
  | 0 => ("SelfScale$Kinds", "scale", "LSelfScale$Scale;", true)
  | 1 => ("SelfScale$Kinds", "book", "LSelfScale$Book;", true)
  | _ => ("SelfScale$Kinds", "asked", "J", false)
def tyX2 : Nat → FieldType := fun k => match k with
  | 0 => .object "SelfScale$Scale"
  | 1 => .object "SelfScale$Book"
  | _ => .long
abbrev wsX20 : List Cond := u_ws RX2 TX2 3
theorem nmX2 : ∀ a, a < 3 → ∀ b, b < 3 → a ≠ b → (TX2 a).2.1 ≠ (TX2 b).2.1 := by decide +kernel
theorem tyX2_ok : ∀ k, k < 3 → parseFieldDescriptor (TX2 k).2.2.1 = some (tyX2 k) := by decide +kernel
abbrev cX2_init : ByteArray := prog_4_method_1_code
def yX2_init : MethodName := ⟨RX2, "<init>", "(LSelfScale$Scale;LSelfScale$Book;)V"⟩
abbrev cX2_asked : ByteArray := prog_4_method_2_code
def yX2_asked : MethodName := ⟨RX2, "asked", "()J"⟩
abbrev cX2_markAs : ByteArray := prog_4_method_3_code
def yX2_markAs : MethodName := ⟨RX2, "markAs", "(II)I"⟩
abbrev cX2_asThing : ByteArray := prog_4_method_4_code
def yX2_asThing : MethodName := ⟨RX2, "asThing", "(I)I"⟩
abbrev cX2_asSack : ByteArray := prog_4_method_5_code
def yX2_asSack : MethodName := ⟨RX2, "asSack", "(I)I"⟩
abbrev cX2_asLead : ByteArray := prog_4_method_6_code
def yX2_asLead : MethodName := ⟨RX2, "asLead", "(I)I"⟩
abbrev cX2_asFlour : ByteArray := prog_4_method_7_code
def yX2_asFlour : MethodName := ⟨RX2, "asFlour", "(I)I"⟩
abbrev cX2_asGold : ByteArray := prog_4_method_8_code
def yX2_asGold : MethodName := ⟨RX2, "asGold", "(I)I"⟩
abbrev cX2_asBaby : ByteArray := prog_4_method_9_code
def yX2_asBaby : MethodName := ⟨RX2, "asBaby", "(I)I"⟩
def RX3 : String := "SelfScale$Plan"
def TX3 : u_T := fun k => match k with
  | 0 => ("SelfScale$Plan", "scale", "LSelfScale$Scale;", true)
  | 1 => ("SelfScale$Plan", "worlds", "LSelfScale$Worlds;", true)
  | 2 => ("SelfScale$Plan", "leftByShown", "LSelfScale$Row;", true)
  | 3 => ("SelfScale$Plan", "seenByOne", "LSelfScale$Row;", true)
  | _ => ("SelfScale$Plan", "seenByTwo", "LSelfScale$Row;", true)
def tyX3 : Nat → FieldType := fun k => match k with
  | 0 => .object "SelfScale$Scale"
  | 1 => .object "SelfScale$Worlds"
  | 2 => .object "SelfScale$Row"
  | 3 => .object "SelfScale$Row"
  | _ => .object "SelfScale$Row"
abbrev wsX30 : List Cond := u_ws RX3 TX3 5
theorem nmX3 : ∀ a, a < 5 → ∀ b, b < 5 → a ≠ b → (TX3 a).2.1 ≠ (TX3 b).2.1 := by decide +kernel
theorem tyX3_ok : ∀ k, k < 5 → parseFieldDescriptor (TX3 k).2.2.1 = some (tyX3 k) := by decide +kernel
abbrev cX3_init : ByteArray := prog_5_method_1_code
def yX3_init : MethodName := ⟨RX3, "<init>", "(LSelfScale$Scale;LSelfScale$Worlds;)V"⟩
abbrev cX3_bestSet : ByteArray := prog_5_method_2_code
def yX3_bestSet : MethodName := ⟨RX3, "bestSet", "()I"⟩
abbrev cX3_worstOf : ByteArray := prog_5_method_3_code
def yX3_worstOf : MethodName := ⟨RX3, "worstOf", "(I)I"⟩
abbrev cX3_weighingsFor : ByteArray := prog_5_method_4_code
def yX3_weighingsFor : MethodName := ⟨RX3, "weighingsFor", "(I)I"⟩
abbrev cX3_isSureBy : ByteArray := prog_5_method_5_code
def yX3_isSureBy : MethodName := ⟨RX3, "isSureBy", "(II)Z"⟩
abbrev cX3_isSureByNoneAndAlone : ByteArray := prog_5_method_6_code
def yX3_isSureByNoneAndAlone : MethodName := ⟨RX3, "isSureByNoneAndAlone", "(I)Z"⟩
abbrev cX3_isTorn : ByteArray := prog_5_method_7_code
def yX3_isTorn : MethodName := ⟨RX3, "isTorn", "(LSelfScale$Row;II)Z"⟩
abbrev cX3_shownIn : ByteArray := prog_5_method_8_code
def yX3_shownIn : MethodName := ⟨RX3, "shownIn", "(II)I"⟩
def RX4 : String := "SelfScale$Reader"
def TX4 : u_T := fun k => match k with
  | 0 => ("SelfScale$Reader", "text", "LSelfScale$Text;", true)
  | 1 => ("SelfScale$Reader", "told", "LSelfScale$Scale;", true)
  | 2 => ("SelfScale$Reader", "items", "I", false)
  | 3 => ("SelfScale$Reader", "isOwnTold", "Z", false)
  | 4 => ("SelfScale$Reader", "areFiguresTold", "Z", false)
  | 5 => ("SelfScale$Reader", "start", "I", false)
  | 6 => ("SelfScale$Reader", "end", "I", false)
  | _ => ("SelfScale$Reader", "number", "I", false)
def tyX4 : Nat → FieldType := fun k => match k with
  | 0 => .object "SelfScale$Text"
  | 1 => .object "SelfScale$Scale"
  | 2 => .int
  | 3 => .boolean
  | 4 => .boolean
  | 5 => .int
  | 6 => .int
  | _ => .int
abbrev wsX40 : List Cond := u_ws RX4 TX4 8
theorem nmX4 : ∀ a, a < 8 → ∀ b, b < 8 → a ≠ b → (TX4 a).2.1 ≠ (TX4 b).2.1 := by decide +kernel
theorem tyX4_ok : ∀ k, k < 8 → parseFieldDescriptor (TX4 k).2.2.1 = some (tyX4 k) := by decide +kernel
abbrev cX4_init : ByteArray := prog_6_method_1_code
def yX4_init : MethodName := ⟨RX4, "<init>", "(LSelfScale$Text;)V"⟩
abbrev cX4_told : ByteArray := prog_6_method_2_code
def yX4_told : MethodName := ⟨RX4, "told", "()LSelfScale$Scale;"⟩
abbrev cX4_items : ByteArray := prog_6_method_3_code
def yX4_items : MethodName := ⟨RX4, "items", "()I"⟩
abbrev cX4_read : ByteArray := prog_6_method_4_code
def yX4_read : MethodName := ⟨RX4, "read", "()I"⟩
abbrev cX4_begin : ByteArray := prog_6_method_5_code
def yX4_begin : MethodName := ⟨RX4, "begin", "()V"⟩
abbrev cX4_mayBegin : ByteArray := prog_6_method_6_code
def yX4_mayBegin : MethodName := ⟨RX4, "mayBegin", "(I)Z"⟩
abbrev cX4_mayTake : ByteArray := prog_6_method_7_code
def yX4_mayTake : MethodName := ⟨RX4, "mayTake", "(I)Z"⟩
abbrev cX4_take : ByteArray := prog_6_method_8_code
def yX4_take : MethodName := ⟨RX4, "take", "(I)V"⟩
abbrev cX4_token : ByteArray := prog_6_method_9_code
def yX4_token : MethodName := ⟨RX4, "token", "()I"⟩
abbrev cX4_wordToken : ByteArray := prog_6_method_10_code
def yX4_wordToken : MethodName := ⟨RX4, "wordToken", "()I"⟩
abbrev cX4_numberToken : ByteArray := prog_6_method_11_code
def yX4_numberToken : MethodName := ⟨RX4, "numberToken", "()I"⟩
abbrev cX4_endOfBlanks : ByteArray := prog_6_method_12_code
def yX4_endOfBlanks : MethodName := ⟨RX4, "endOfBlanks", "(I)I"⟩
abbrev cX4_endOfWord : ByteArray := prog_6_method_13_code
def yX4_endOfWord : MethodName := ⟨RX4, "endOfWord", "(I)I"⟩
abbrev cX4_endOfDigits : ByteArray := prog_6_method_14_code
def yX4_endOfDigits : MethodName := ⟨RX4, "endOfDigits", "(I)I"⟩
abbrev cX4_isLetter : ByteArray := prog_6_method_15_code
def yX4_isLetter : MethodName := ⟨RX4, "isLetter", "(I)Z"⟩
abbrev cX4_isDigit : ByteArray := prog_6_method_16_code
def yX4_isDigit : MethodName := ⟨RX4, "isDigit", "(I)Z"⟩
def RX5 : String := "SelfScale$Row"
def TX5 : u_T := fun k => match k with
  | _ => ("SelfScale$Row", "cells", "[I", true)
def tyX5 : Nat → FieldType := fun k => match k with
  | _ => .array .int
abbrev wsX50 : List Cond := u_ws RX5 TX5 1
theorem nmX5 : ∀ a, a < 1 → ∀ b, b < 1 → a ≠ b → (TX5 a).2.1 ≠ (TX5 b).2.1 := by decide +kernel
theorem tyX5_ok : ∀ k, k < 1 → parseFieldDescriptor (TX5 k).2.2.1 = some (tyX5 k) := by decide +kernel
abbrev cX5_init : ByteArray := prog_7_method_1_code
def yX5_init : MethodName := ⟨RX5, "<init>", "(I)V"⟩
abbrev cX5_get : ByteArray := prog_7_method_2_code
def yX5_get : MethodName := ⟨RX5, "get", "(I)I"⟩
abbrev cX5_put : ByteArray := prog_7_method_3_code
def yX5_put : MethodName := ⟨RX5, "put", "(II)V"⟩
abbrev cX5_add : ByteArray := prog_7_method_4_code
def yX5_add : MethodName := ⟨RX5, "add", "(II)V"⟩
abbrev cX5_join : ByteArray := prog_7_method_5_code
def yX5_join : MethodName := ⟨RX5, "join", "(II)V"⟩
abbrev cX5_wipe : ByteArray := prog_7_method_6_code
def yX5_wipe : MethodName := ⟨RX5, "wipe", "()V"⟩
abbrev cX5_copyFrom : ByteArray := prog_7_method_7_code
def yX5_copyFrom : MethodName := ⟨RX5, "copyFrom", "(LSelfScale$Row;)V"⟩
def RX6 : String := "SelfScale$Scale"
def TX6 : u_T := fun k => match k with
  | 0 => ("SelfScale$Scale", "weights", "LSelfScale$Row;", true)
  | 1 => ("SelfScale$Scale", "outcomes", "LSelfScale$Row;", true)
  | 2 => ("SelfScale$Scale", "things", "I", false)
  | 3 => ("SelfScale$Scale", "own", "I", false)
  | _ => ("SelfScale$Scale", "figures", "I", false)
def tyX6 : Nat → FieldType := fun k => match k with
  | 0 => .object "SelfScale$Row"
  | 1 => .object "SelfScale$Row"
  | 2 => .int
  | 3 => .int
  | _ => .int
abbrev wsX60 : List Cond := u_ws RX6 TX6 5
theorem nmX6 : ∀ a, a < 5 → ∀ b, b < 5 → a ≠ b → (TX6 a).2.1 ≠ (TX6 b).2.1 := by decide +kernel
theorem tyX6_ok : ∀ k, k < 5 → parseFieldDescriptor (TX6 k).2.2.1 = some (tyX6 k) := by decide +kernel
abbrev cX6_init : ByteArray := prog_8_method_1_code
def yX6_init : MethodName := ⟨RX6, "<init>", "()V"⟩
abbrev cX6_reset : ByteArray := prog_8_method_2_code
def yX6_reset : MethodName := ⟨RX6, "reset", "()V"⟩
abbrev cX6_copyFrom : ByteArray := prog_8_method_3_code
def yX6_copyFrom : MethodName := ⟨RX6, "copyFrom", "(LSelfScale$Scale;)V"⟩
abbrev cX6_addThing : ByteArray := prog_8_method_4_code
def yX6_addThing : MethodName := ⟨RX6, "addThing", "(I)V"⟩
abbrev cX6_setOwn : ByteArray := prog_8_method_5_code
def yX6_setOwn : MethodName := ⟨RX6, "setOwn", "(I)V"⟩
abbrev cX6_setFigures : ByteArray := prog_8_method_6_code
def yX6_setFigures : MethodName := ⟨RX6, "setFigures", "(I)V"⟩
abbrev cX6_things : ByteArray := prog_8_method_7_code
def yX6_things : MethodName := ⟨RX6, "things", "()I"⟩
abbrev cX6_sets : ByteArray := prog_8_method_8_code
def yX6_sets : MethodName := ⟨RX6, "sets", "()I"⟩
abbrev cX6_own : ByteArray := prog_8_method_9_code
def yX6_own : MethodName := ⟨RX6, "own", "()I"⟩
abbrev cX6_figures : ByteArray := prog_8_method_10_code
def yX6_figures : MethodName := ⟨RX6, "figures", "()I"⟩
abbrev cX6_weightOf : ByteArray := prog_8_method_11_code
def yX6_weightOf : MethodName := ⟨RX6, "weightOf", "(I)I"⟩
abbrev cX6_loadOf : ByteArray := prog_8_method_12_code
def yX6_loadOf : MethodName := ⟨RX6, "loadOf", "(I)I"⟩
abbrev cX6_leftOver : ByteArray := prog_8_method_13_code
def yX6_leftOver : MethodName := ⟨RX6, "leftOver", "(I)I"⟩
abbrev cX6_sidesOf : ByteArray := prog_8_method_14_code
def yX6_sidesOf : MethodName := ⟨RX6, "sidesOf", "(I)I"⟩
abbrev cX6_shownByTurns : ByteArray := prog_8_method_15_code
def yX6_shownByTurns : MethodName := ⟨RX6, "shownByTurns", "()I"⟩
abbrev cX6_outcomeFrom : ByteArray := prog_8_method_16_code
def yX6_outcomeFrom : MethodName := ⟨RX6, "outcomeFrom", "(I)I"⟩
def RX7 : String := "SelfScale$Text"
def TX7 : u_T := fun k => match k with
  | 0 => ("SelfScale$Text", "bytes", "LSelfScale$Row;", true)
  | _ => ("SelfScale$Text", "length", "I", false)
def tyX7 : Nat → FieldType := fun k => match k with
  | 0 => .object "SelfScale$Row"
  | _ => .int
abbrev wsX70 : List Cond := u_ws RX7 TX7 2
theorem nmX7 : ∀ a, a < 2 → ∀ b, b < 2 → a ≠ b → (TX7 a).2.1 ≠ (TX7 b).2.1 := by decide +kernel
theorem tyX7_ok : ∀ k, k < 2 → parseFieldDescriptor (TX7 k).2.2.1 = some (tyX7 k) := by decide +kernel
abbrev cX7_init : ByteArray := prog_9_method_1_code
def yX7_init : MethodName := ⟨RX7, "<init>", "()V"⟩
abbrev cX7_length : ByteArray := prog_9_method_2_code
def yX7_length : MethodName := ⟨RX7, "length", "()I"⟩
abbrev cX7_byteAt : ByteArray := prog_9_method_3_code
def yX7_byteAt : MethodName := ⟨RX7, "byteAt", "(I)I"⟩
abbrev cX7_append : ByteArray := prog_9_method_4_code
def yX7_append : MethodName := ⟨RX7, "append", "(I)V"⟩
abbrev cX7_wipe : ByteArray := prog_9_method_5_code
def yX7_wipe : MethodName := ⟨RX7, "wipe", "()V"⟩
abbrev cX7_has : ByteArray := prog_9_method_6_code
def yX7_has : MethodName := ⟨RX7, "has", "(Ljava/lang/String;II)Z"⟩
def RX8 : String := "SelfScale$Worlds"
def TX8 : u_T := fun k => match k with
  | 0 => ("SelfScale$Worlds", "scale", "LSelfScale$Scale;", true)
  | 1 => ("SelfScale$Worlds", "book", "LSelfScale$Book;", true)
  | 2 => ("SelfScale$Worlds", "codes", "LSelfScale$Row;", true)
  | 3 => ("SelfScale$Worlds", "leftBits", "LSelfScale$Row;", true)
  | 4 => ("SelfScale$Worlds", "leftByWeight", "LSelfScale$Row;", true)
  | 5 => ("SelfScale$Worlds", "leftByLaughs", "LSelfScale$Row;", true)
  | 6 => ("SelfScale$Worlds", "laughedByLaughs", "LSelfScale$Row;", true)
  | 7 => ("SelfScale$Worlds", "isKnown", "Z", false)
  | 8 => ("SelfScale$Worlds", "left", "I", false)
  | 9 => ("SelfScale$Worlds", "fewestFalse", "I", false)
  | _ => ("SelfScale$Worlds", "everFalse", "I", false)
def tyX8 : Nat → FieldType := fun k => match k with
  | 0 => .object "SelfScale$Scale"
  | 1 => .object "SelfScale$Book"
  | 2 => .object "SelfScale$Row"
  | 3 => .object "SelfScale$Row"
  | 4 => .object "SelfScale$Row"
  | 5 => .object "SelfScale$Row"
  | 6 => .object "SelfScale$Row"
  | 7 => .boolean
  | 8 => .int
  | 9 => .int
  | _ => .int
abbrev wsX80 : List Cond := u_ws RX8 TX8 11
theorem nmX8 : ∀ a, a < 11 → ∀ b, b < 11 → a ≠ b → (TX8 a).2.1 ≠ (TX8 b).2.1 := by decide +kernel
theorem tyX8_ok : ∀ k, k < 11 → parseFieldDescriptor (TX8 k).2.2.1 = some (tyX8 k) := by decide +kernel
abbrev cX8_init : ByteArray := prog_10_method_1_code
def yX8_init : MethodName := ⟨RX8, "<init>", "(LSelfScale$Scale;LSelfScale$Book;)V"⟩
abbrev cX8_forget : ByteArray := prog_10_method_2_code
def yX8_forget : MethodName := ⟨RX8, "forget", "()V"⟩
abbrev cX8_learn : ByteArray := prog_10_method_3_code
def yX8_learn : MethodName := ⟨RX8, "learn", "()V"⟩
abbrev cX8_left : ByteArray := prog_10_method_4_code
def yX8_left : MethodName := ⟨RX8, "left", "()I"⟩
abbrev cX8_leftWith : ByteArray := prog_10_method_5_code
def yX8_leftWith : MethodName := ⟨RX8, "leftWith", "(II)I"⟩
abbrev cX8_onlyWeightOf : ByteArray := prog_10_method_6_code
def yX8_onlyWeightOf : MethodName := ⟨RX8, "onlyWeightOf", "(I)I"⟩
abbrev cX8_fewestFalse : ByteArray := prog_10_method_7_code
def yX8_fewestFalse : MethodName := ⟨RX8, "fewestFalse", "()I"⟩
abbrev cX8_everFalse : ByteArray := prog_10_method_8_code
def yX8_everFalse : MethodName := ⟨RX8, "everFalse", "()I"⟩
abbrev cX8_surelyLaughed : ByteArray := prog_10_method_9_code
def yX8_surelyLaughed : MethodName := ⟨RX8, "surelyLaughed", "(I)I"⟩
abbrev cX8_chances : ByteArray := prog_10_method_10_code
def yX8_chances : MethodName := ⟨RX8, "chances", "(III)J"⟩
abbrev cX8_allChances : ByteArray := prog_10_method_11_code
def yX8_allChances : MethodName := ⟨RX8, "allChances", "(II)J"⟩
abbrev cX8_chance : ByteArray := prog_10_method_12_code
def yX8_chance : MethodName := ⟨RX8, "chance", "(III)J"⟩
abbrev cX8_leftAfter : ByteArray := prog_10_method_13_code
def yX8_leftAfter : MethodName := ⟨RX8, "leftAfter", "(I)I"⟩
abbrev cX8_weightIn : ByteArray := prog_10_method_14_code
def yX8_weightIn : MethodName := ⟨RX8, "weightIn", "(II)I"⟩
abbrev cX8_loadIn : ByteArray := prog_10_method_15_code
def yX8_loadIn : MethodName := ⟨RX8, "loadIn", "(II)I"⟩
abbrev cX8_writeCodes : ByteArray := prog_10_method_16_code
def yX8_writeCodes : MethodName := ⟨RX8, "writeCodes", "()V"⟩
abbrev cX8_codeOf : ByteArray := prog_10_method_17_code
def yX8_codeOf : MethodName := ⟨RX8, "codeOf", "(II)I"⟩
abbrev cX8_code : ByteArray := prog_10_method_18_code
def yX8_code : MethodName := ⟨RX8, "code", "(II)I"⟩
abbrev cX8_meetWorldsWith : ByteArray := prog_10_method_19_code
def yX8_meetWorldsWith : MethodName := ⟨RX8, "meetWorldsWith", "(I)V"⟩
abbrev cX8_leastOf : ByteArray := prog_10_method_20_code
def yX8_leastOf : MethodName := ⟨RX8, "leastOf", "(I)I"⟩
abbrev cX8_mostOf : ByteArray := prog_10_method_21_code
def yX8_mostOf : MethodName := ⟨RX8, "mostOf", "(I)I"⟩
abbrev cX8_meet : ByteArray := prog_10_method_22_code
def yX8_meet : MethodName := ⟨RX8, "meet", "(II)V"⟩
abbrev cX8_leave : ByteArray := prog_10_method_23_code
def yX8_leave : MethodName := ⟨RX8, "leave", "(II)V"⟩
def RX9 : String := "SelfScale"
def TX9 : u_T := fun k => match k with
  | 0 => ("SelfScale", "text", "LSelfScale$Text;", true)
  | 1 => ("SelfScale", "reader", "LSelfScale$Reader;", true)
  | 2 => ("SelfScale", "scale", "LSelfScale$Scale;", true)
  | 3 => ("SelfScale", "book", "LSelfScale$Book;", true)
  | 4 => ("SelfScale", "firstImage", "LSelfScale$Image;", true)
  | 5 => ("SelfScale", "secondImage", "LSelfScale$Image;", true)
  | 6 => ("SelfScale", "kinds", "LSelfScale$Kinds;", true)
  | 7 => ("SelfScale", "worlds", "LSelfScale$Worlds;", true)
  | _ => ("SelfScale", "plan", "LSelfScale$Plan;", true)
def tyX9 : Nat → FieldType := fun k => match k with
  | 0 => .object "SelfScale$Text"
  | 1 => .object "SelfScale$Reader"
  | 2 => .object "SelfScale$Scale"
  | 3 => .object "SelfScale$Book"
  | 4 => .object "SelfScale$Image"
  | 5 => .object "SelfScale$Image"
  | 6 => .object "SelfScale$Kinds"
  | 7 => .object "SelfScale$Worlds"
  | _ => .object "SelfScale$Plan"
abbrev wsX90 : List Cond := u_ws RX9 TX9 9
theorem nmX9 : ∀ a, a < 9 → ∀ b, b < 9 → a ≠ b → (TX9 a).2.1 ≠ (TX9 b).2.1 := by decide +kernel
theorem tyX9_ok : ∀ k, k < 9 → parseFieldDescriptor (TX9 k).2.2.1 = some (tyX9 k) := by decide +kernel
abbrev cX9_init : ByteArray := prog_1_method_1_code
def yX9_init : MethodName := ⟨RX9, "<init>", "()V"⟩
abbrev cX9_type : ByteArray := prog_1_method_2_code
def yX9_type : MethodName := ⟨RX9, "type", "(JI)I"⟩
abbrev cX9_clear : ByteArray := prog_1_method_3_code
def yX9_clear : MethodName := ⟨RX9, "clear", "()I"⟩
abbrev cX9_market : ByteArray := prog_1_method_4_code
def yX9_market : MethodName := ⟨RX9, "market", "()I"⟩
abbrev cX9_thing : ByteArray := prog_1_method_5_code
def yX9_thing : MethodName := ⟨RX9, "thing", "(I)I"⟩
abbrev cX9_weigh : ByteArray := prog_1_method_6_code
def yX9_weigh : MethodName := ⟨RX9, "weigh", "(III)I"⟩
abbrev cX9_tell : ByteArray := prog_1_method_7_code
def yX9_tell : MethodName := ⟨RX9, "tell", "(III)I"⟩
abbrev cX9_line : ByteArray := prog_1_method_8_code
def yX9_line : MethodName := ⟨RX9, "line", "(II)I"⟩
abbrev cX9_undo : ByteArray := prog_1_method_9_code
def yX9_undo : MethodName := ⟨RX9, "undo", "()I"⟩
abbrev cX9_could : ByteArray := prog_1_method_10_code
def yX9_could : MethodName := ⟨RX9, "could", "(II)I"⟩
abbrev cX9_sure : ByteArray := prog_1_method_11_code
def yX9_sure : MethodName := ⟨RX9, "sure", "(I)I"⟩
abbrev cX9_wrong : ByteArray := prog_1_method_12_code
def yX9_wrong : MethodName := ⟨RX9, "wrong", "(I)I"⟩
abbrev cX9_next : ByteArray := prog_1_method_13_code
def yX9_next : MethodName := ⟨RX9, "next", "(I)I"⟩
abbrev cX9_fewest : ByteArray := prog_1_method_14_code
def yX9_fewest : MethodName := ⟨RX9, "fewest", "(I)I"⟩
abbrev cX9_laugh : ByteArray := prog_1_method_15_code
def yX9_laugh : MethodName := ⟨RX9, "laugh", "(I)I"⟩
abbrev cX9_odds : ByteArray := prog_1_method_16_code
def yX9_odds : MethodName := ⟨RX9, "odds", "(IIII)J"⟩
abbrev cX9_sack : ByteArray := prog_1_method_17_code
def yX9_sack : MethodName := ⟨RX9, "sack", "(II)I"⟩
abbrev cX9_byTurns : ByteArray := prog_1_method_18_code
def yX9_byTurns : MethodName := ⟨RX9, "byTurns", "()I"⟩
abbrev cX9_mark : ByteArray := prog_1_method_19_code
def yX9_mark : MethodName := ⟨RX9, "mark", "(II)I"⟩
abbrev cX9_keep : ByteArray := prog_1_method_20_code
def yX9_keep : MethodName := ⟨RX9, "keep", "(I)I"⟩
abbrev cX9_back : ByteArray := prog_1_method_21_code
def yX9_back : MethodName := ⟨RX9, "back", "(I)I"⟩
abbrev cX9_count : ByteArray := prog_1_method_22_code
def yX9_count : MethodName := ⟨RX9, "count", "(I)I"⟩
abbrev cX9_trace : ByteArray := prog_1_method_23_code
def yX9_trace : MethodName := ⟨RX9, "trace", "()J"⟩
abbrev cX9_isBetween : ByteArray := prog_1_method_24_code
def yX9_isBetween : MethodName := ⟨RX9, "isBetween", "(III)Z"⟩
abbrev cX9_isItem : ByteArray := prog_1_method_25_code
def yX9_isItem : MethodName := ⟨RX9, "isItem", "(I)Z"⟩
abbrev cX9_isSet : ByteArray := prog_1_method_26_code
def yX9_isSet : MethodName := ⟨RX9, "isSet", "(I)Z"⟩
abbrev cX9_isLine : ByteArray := prog_1_method_27_code
def yX9_isLine : MethodName := ⟨RX9, "isLine", "(I)Z"⟩
abbrev cX9_known : ByteArray := prog_1_method_28_code
def yX9_known : MethodName := ⟨RX9, "known", "()LSelfScale$Worlds;"⟩
abbrev cX9_imageOf : ByteArray := prog_1_method_29_code
def yX9_imageOf : MethodName := ⟨RX9, "imageOf", "(I)LSelfScale$Image;"⟩
abbrev cX9_greatestDivisor : ByteArray := prog_1_method_30_code
def yX9_greatestDivisor : MethodName := ⟨RX9, "greatestDivisor", "(JJ)J"⟩
def RX10 : String := "SelfScaleModel"
def TX10 : u_T := fun k => match k with
  | 0 => ("SelfScaleModel", "trace", "J", false)
  | 1 => ("SelfScaleModel", "text", "[B", true)
  | 2 => ("SelfScaleModel", "typed", "I", false)
  | 3 => ("SelfScaleModel", "things", "[I", true)
  | 4 => ("SelfScaleModel", "weights", "[I", true)
  | 5 => ("SelfScaleModel", "figures", "[I", true)
  | 6 => ("SelfScaleModel", "at", "I", false)
  | 7 => ("SelfScaleModel", "start", "I", false)
  | 8 => ("SelfScaleModel", "sort", "I", false)
  | 9 => ("SelfScaleModel", "value", "I", false)
  | 10 => ("SelfScaleModel", "fault", "I", false)
  | 11 => ("SelfScaleModel", "told", "I", false)
  | 12 => ("SelfScaleModel", "lines", "[I", true)
  | 13 => ("SelfScaleModel", "row", "[I", true)
  | 14 => ("SelfScaleModel", "isKept", "[Z", true)
  | 15 => ("SelfScaleModel", "world", "[I", true)
  | 16 => ("SelfScaleModel", "shownMany", "[I", true)
  | 17 => ("SelfScaleModel", "seen", "[I", true)
  | 18 => ("SelfScaleModel", "isBad", "[Z", true)
  | _ => ("SelfScaleModel", "comes", "[I", true)
def tyX10 : Nat → FieldType := fun k => match k with
  | 0 => .long
  | 1 => .array .byte
  | 2 => .int
  | 3 => .array .int
  | 4 => .array .int
  | 5 => .array .int
  | 6 => .int
  | 7 => .int
  | 8 => .int
  | 9 => .int
  | 10 => .int
  | 11 => .int
  | 12 => .array .int
  | 13 => .array .int
  | 14 => .array .boolean
  | 15 => .array .int
  | 16 => .array .int
  | 17 => .array .int
  | 18 => .array .boolean
  | _ => .array .int
abbrev wsX100 : List Cond := u_ws RX10 TX10 20
theorem nmX10 : ∀ a, a < 20 → ∀ b, b < 20 → a ≠ b → (TX10 a).2.1 ≠ (TX10 b).2.1 := by decide +kernel
theorem tyX10_ok : ∀ k, k < 20 → parseFieldDescriptor (TX10 k).2.2.1 = some (tyX10 k) := by decide +kernel
abbrev cX10_init : ByteArray := prog_12_method_1_code
def yX10_init : MethodName := ⟨RX10, "<init>", "()V"⟩
abbrev cX10_in : ByteArray := prog_12_method_3_code
def yX10_in : MethodName := ⟨RX10, "in", "(III)Z"⟩
abbrev cX10_type : ByteArray := prog_12_method_4_code
def yX10_type : MethodName := ⟨RX10, "type", "(JI)I"⟩
abbrev cX10_clear : ByteArray := prog_12_method_5_code
def yX10_clear : MethodName := ⟨RX10, "clear", "()I"⟩
abbrev cX10_here : ByteArray := prog_12_method_6_code
def yX10_here : MethodName := ⟨RX10, "here", "()I"⟩
abbrev cX10_nextToken : ByteArray := prog_12_method_7_code
def yX10_nextToken : MethodName := ⟨RX10, "nextToken", "()V"⟩
abbrev cX10_due : ByteArray := prog_12_method_8_code
def yX10_due : MethodName := ⟨RX10, "due", "(Z)I"⟩
abbrev cX10_number : ByteArray := prog_12_method_9_code
def yX10_number : MethodName := ⟨RX10, "number", "(II)I"⟩
abbrev cX10_readItem : ByteArray := prog_12_method_10_code
def yX10_readItem : MethodName := ⟨RX10, "readItem", "()V"⟩
abbrev cX10_market : ByteArray := prog_12_method_11_code
def yX10_market : MethodName := ⟨RX10, "market", "()I"⟩
abbrev cX10_isThing : ByteArray := prog_12_method_12_code
def yX10_isThing : MethodName := ⟨RX10, "isThing", "(I)Z"⟩
abbrev cX10_thing : ByteArray := prog_12_method_13_code
def yX10_thing : MethodName := ⟨RX10, "thing", "(I)I"⟩
abbrev cX10_isSet : ByteArray := prog_12_method_14_code
def yX10_isSet : MethodName := ⟨RX10, "isSet", "(I)Z"⟩
abbrev cX10_trueSum : ByteArray := prog_12_method_15_code
def yX10_trueSum : MethodName := ⟨RX10, "trueSum", "(I)I"⟩
abbrev cX10_put : ByteArray := prog_12_method_16_code
def yX10_put : MethodName := ⟨RX10, "put", "(III)V"⟩
abbrev cX10_weigh : ByteArray := prog_12_method_17_code
def yX10_weigh : MethodName := ⟨RX10, "weigh", "(III)I"⟩
abbrev cX10_tell : ByteArray := prog_12_method_18_code
def yX10_tell : MethodName := ⟨RX10, "tell", "(III)I"⟩
abbrev cX10_isLine : ByteArray := prog_12_method_19_code
def yX10_isLine : MethodName := ⟨RX10, "isLine", "(I)Z"⟩
abbrev cX10_line : ByteArray := prog_12_method_20_code
def yX10_line : MethodName := ⟨RX10, "line", "(II)I"⟩
abbrev cX10_undo : ByteArray := prog_12_method_21_code
def yX10_undo : MethodName := ⟨RX10, "undo", "()I"⟩
abbrev cX10_worlds : ByteArray := prog_12_method_22_code
def yX10_worlds : MethodName := ⟨RX10, "worlds", "()I"⟩
abbrev cX10_go : ByteArray := prog_12_method_23_code
def yX10_go : MethodName := ⟨RX10, "go", "(I)V"⟩
abbrev cX10_shownOf : ByteArray := prog_12_method_24_code
def yX10_shownOf : MethodName := ⟨RX10, "shownOf", "(I)I"⟩
abbrev cX10_laughIn : ByteArray := prog_12_method_25_code
def yX10_laughIn : MethodName := ⟨RX10, "laughIn", "(I)I"⟩
abbrev cX10_falseLines : ByteArray := prog_12_method_26_code
def yX10_falseLines : MethodName := ⟨RX10, "falseLines", "()I"⟩
abbrev cX10_canBe : ByteArray := prog_12_method_27_code
def yX10_canBe : MethodName := ⟨RX10, "canBe", "(I)Z"⟩
abbrev cX10_many : ByteArray := prog_12_method_28_code
def yX10_many : MethodName := ⟨RX10, "many", "(II)I"⟩
abbrev cX10_isOne : ByteArray := prog_12_method_29_code
def yX10_isOne : MethodName := ⟨RX10, "isOne", "(I)Z"⟩
abbrev cX10_could : ByteArray := prog_12_method_30_code
def yX10_could : MethodName := ⟨RX10, "could", "(II)I"⟩
abbrev cX10_sure : ByteArray := prog_12_method_31_code
def yX10_sure : MethodName := ⟨RX10, "sure", "(I)I"⟩
abbrev cX10_bitsIn : ByteArray := prog_12_method_32_code
def yX10_bitsIn : MethodName := ⟨RX10, "bitsIn", "(I)I"⟩
abbrev cX10_wrong : ByteArray := prog_12_method_33_code
def yX10_wrong : MethodName := ⟨RX10, "wrong", "(I)I"⟩
abbrev cX10_worstOf : ByteArray := prog_12_method_34_code
def yX10_worstOf : MethodName := ⟨RX10, "worstOf", "(I)I"⟩
abbrev cX10_next : ByteArray := prog_12_method_35_code
def yX10_next : MethodName := ⟨RX10, "next", "(I)I"⟩
abbrev cX10_part : ByteArray := prog_12_method_36_code
def yX10_part : MethodName := ⟨RX10, "part", "(III)V"⟩
abbrev cX10_anyBad : ByteArray := prog_12_method_37_code
def yX10_anyBad : MethodName := ⟨RX10, "anyBad", "()Z"⟩
abbrev cX10_isEnough : ByteArray := prog_12_method_38_code
def yX10_isEnough : MethodName := ⟨RX10, "isEnough", "(II)Z"⟩
abbrev cX10_isKnown : ByteArray := prog_12_method_39_code
def yX10_isKnown : MethodName := ⟨RX10, "isKnown", "(I)Z"⟩
abbrev cX10_fewest : ByteArray := prog_12_method_40_code
def yX10_fewest : MethodName := ⟨RX10, "fewest", "(I)I"⟩
abbrev cX10_laugh : ByteArray := prog_12_method_41_code
def yX10_laugh : MethodName := ⟨RX10, "laugh", "(I)I"⟩
abbrev cX10_common : ByteArray := prog_12_method_42_code
def yX10_common : MethodName := ⟨RX10, "common", "(JJ)J"⟩
abbrev cX10_odds : ByteArray := prog_12_method_43_code
def yX10_odds : MethodName := ⟨RX10, "odds", "(IIII)J"⟩
abbrev cX10_sack : ByteArray := prog_12_method_44_code
def yX10_sack : MethodName := ⟨RX10, "sack", "(II)I"⟩
abbrev cX10_byTurns : ByteArray := prog_12_method_45_code
def yX10_byTurns : MethodName := ⟨RX10, "byTurns", "()I"⟩
abbrev cX10_mark : ByteArray := prog_12_method_46_code
def yX10_mark : MethodName := ⟨RX10, "mark", "(II)I"⟩
abbrev cX10_copy : ByteArray := prog_12_method_47_code
def yX10_copy : MethodName := ⟨RX10, "copy", "(II)V"⟩
abbrev cX10_keep : ByteArray := prog_12_method_48_code
def yX10_keep : MethodName := ⟨RX10, "keep", "(I)I"⟩
abbrev cX10_back : ByteArray := prog_12_method_49_code
def yX10_back : MethodName := ⟨RX10, "back", "(I)I"⟩
abbrev cX10_count : ByteArray := prog_12_method_50_code
def yX10_count : MethodName := ⟨RX10, "count", "(I)I"⟩
abbrev cX10_trace : ByteArray := prog_12_method_51_code
def yX10_trace : MethodName := ⟨RX10, "trace", "()J"⟩
def RJ6 : String := "java/lang/Integer"
abbrev cJ6_bitCount_0f7a4 : ByteArray := prog_13_method_49_code
def yJ6_bitCount_0f7a4 : MethodName := ⟨RJ6, "bitCount", "(I)I"⟩
def RJ9 : String := "java/lang/Math"
abbrev cJ9_max_7cf53 : ByteArray := prog_14_method_65_code
def yJ9_max_7cf53 : MethodName := ⟨RJ9, "max", "(II)I"⟩
abbrev cJ9_min_7cf53 : ByteArray := prog_14_method_69_code
def yJ9_min_7cf53 : MethodName := ⟨RJ9, "min", "(II)I"⟩
def RJ0 : String := "java/lang/String"
abbrev cJ0_length_8abf5 : ByteArray := prog_15_method_54_code
def yJ0_length_8abf5 : MethodName := ⟨RJ0, "length", "()I"⟩
abbrev cJ0_charAt_5068e : ByteArray := prog_15_method_56_code
def yJ0_charAt_5068e : MethodName := ⟨RJ0, "charAt", "(I)C"⟩
abbrev cJ0_coder_7d493 : ByteArray := prog_15_method_152_code
def yJ0_coder_7d493 : MethodName := ⟨RJ0, "coder", "()B"⟩
abbrev cJ0_isLatin1_aae02 : ByteArray := prog_15_method_154_code
def yJ0_isLatin1_aae02 : MethodName := ⟨RJ0, "isLatin1", "()Z"⟩
abbrev cJ0_checkIndex_df160 : ByteArray := prog_15_method_155_code
def yJ0_checkIndex_df160 : MethodName := ⟨RJ0, "checkIndex", "(II)V"⟩
def RJ1 : String := "java/lang/StringLatin1"
abbrev cJ1_charAt_3b067 : ByteArray := prog_16_method_2_code
def yJ1_charAt_3b067 : MethodName := ⟨RJ1, "charAt", "([BI)C"⟩
def RJ2 : String := "java/lang/StringUTF16"
abbrev cJ2_getChar_3b067 : ByteArray := prog_17_method_5_code
def yJ2_getChar_3b067 : MethodName := ⟨RJ2, "getChar", "([BI)C"⟩
abbrev cJ2_length_9d52b : ByteArray := prog_17_method_6_code
def yJ2_length_9d52b : MethodName := ⟨RJ2, "length", "([B)I"⟩
abbrev cJ2_charAt_3b067 : ByteArray := prog_17_method_83_code
def yJ2_charAt_3b067 : MethodName := ⟨RJ2, "charAt", "([BI)C"⟩
abbrev cJ2_checkIndex_2214a : ByteArray := prog_17_method_91_code
def yJ2_checkIndex_2214a : MethodName := ⟨RJ2, "checkIndex", "(I[B)V"⟩
def RJ3 : String := "jdk/internal/util/Preconditions"
abbrev cJ3_checkIndex_8e157 : ByteArray := prog_18_method_11_code
def yJ3_checkIndex_8e157 : MethodName := ⟨RJ3, "checkIndex", "(IILjava/util/function/BiFunction;)I"⟩
def RL : String := "SelfScaleLaw"
abbrev cL_law : ByteArray := code
def yL_law : MethodName := ⟨RL, "law", "([I)Z"⟩
def BIG : List Cond := lw_tbl.filter goodWord
theorem big_of {w : Cond} (h : w ∈ lw_tbl) (g : goodWord w = true) : w ∈ BIG := List.mem_filter.mpr ⟨h, g⟩
theorem big_tbl : ∀ w ∈ BIG, w ∈ lw_tbl := fun w h => (List.mem_filter.mp h).1
theorem big_good : ∀ w ∈ BIG, goodWord w = true := fun w h => (List.mem_filter.mp h).2
theorem tin_p : ∀ w ∈ k2_sels lw_privs, w ∈ lw_tbl := fun w h => List.mem_append_left _ h
theorem tin_1 : ∀ w ∈ tables_1_1, w ∈ lw_tbl := fun w h => List.mem_append_right _ (List.mem_append_left _ h)
theorem tin_2 : ∀ w ∈ tables_1_2, w ∈ lw_tbl := fun w h => List.mem_append_right _ (List.mem_append_right _ (List.mem_append_left _ h))
theorem tin_3 : ∀ w ∈ tables_1_3, w ∈ lw_tbl := fun w h => List.mem_append_right _ (List.mem_append_right _ (List.mem_append_right _ (List.mem_append_left _ h)))
theorem tin_4 : ∀ w ∈ tables_1_4, w ∈ lw_tbl := fun w h => List.mem_append_right _ (List.mem_append_right _ (List.mem_append_right _ (List.mem_append_right _ (List.mem_append_left _ h))))
theorem tin_5 : ∀ w ∈ tables_1_5, w ∈ lw_tbl := fun w h => List.mem_append_right _ (List.mem_append_right _ (List.mem_append_right _ (List.mem_append_right _ (List.mem_append_right _ h))))
theorem bw_1_119 : Cond.laysFinal "SelfScale$Book" "SelfScale$Book" "sets" "LSelfScale$Row;" ∈ BIG := big_of (tin_1 _ (List.mem_of_getElem? (i := 119) (by decide +kernel))) rfl
theorem bw_1_121 : Cond.laysFinal "SelfScale$Book" "SelfScale$Book" "shown" "LSelfScale$Row;" ∈ BIG := big_of (tin_1 _ (List.mem_of_getElem? (i := 121) (by decide +kernel))) rfl
theorem bw_1_123 : Cond.laysFinal "SelfScale$Book" "SelfScale$Book" "laughs" "LSelfScale$Row;" ∈ BIG := big_of (tin_1 _ (List.mem_of_getElem? (i := 123) (by decide +kernel))) rfl
theorem bw_1_125 : Cond.lays "SelfScale$Book" "SelfScale$Book" "lines" "I" ∈ BIG := big_of (tin_1 _ (List.mem_of_getElem? (i := 125) (by decide +kernel))) rfl
theorem bw_1_138 : Cond.laysFinal "SelfScale$Image" "SelfScale$Image" "kept" "LSelfScale$Book;" ∈ BIG := big_of (tin_1 _ (List.mem_of_getElem? (i := 138) (by decide +kernel))) rfl
theorem bw_1_140 : Cond.lays "SelfScale$Image" "SelfScale$Image" "isKept" "Z" ∈ BIG := big_of (tin_1 _ (List.mem_of_getElem? (i := 140) (by decide +kernel))) rfl
theorem bw_1_152 : Cond.laysFinal "SelfScale$Kinds" "SelfScale$Kinds" "scale" "LSelfScale$Scale;" ∈ BIG := big_of (tin_1 _ (List.mem_of_getElem? (i := 152) (by decide +kernel))) rfl
theorem bw_1_154 : Cond.laysFinal "SelfScale$Kinds" "SelfScale$Kinds" "book" "LSelfScale$Book;" ∈ BIG := big_of (tin_1 _ (List.mem_of_getElem? (i := 154) (by decide +kernel))) rfl
theorem bw_1_156 : Cond.lays "SelfScale$Kinds" "SelfScale$Kinds" "asked" "J" ∈ BIG := big_of (tin_1 _ (List.mem_of_getElem? (i := 156) (by decide +kernel))) rfl
theorem bw_1_214 : Cond.laysFinal "SelfScale$Plan" "SelfScale$Plan" "scale" "LSelfScale$Scale;" ∈ BIG := big_of (tin_1 _ (List.mem_of_getElem? (i := 214) (by decide +kernel))) rfl
theorem bw_1_216 : Cond.laysFinal "SelfScale$Plan" "SelfScale$Plan" "worlds" "LSelfScale$Worlds;" ∈ BIG := big_of (tin_1 _ (List.mem_of_getElem? (i := 216) (by decide +kernel))) rfl
theorem bw_1_218 : Cond.laysFinal "SelfScale$Plan" "SelfScale$Plan" "leftByShown" "LSelfScale$Row;" ∈ BIG := big_of (tin_1 _ (List.mem_of_getElem? (i := 218) (by decide +kernel))) rfl
theorem bw_1_220 : Cond.laysFinal "SelfScale$Plan" "SelfScale$Plan" "seenByOne" "LSelfScale$Row;" ∈ BIG := big_of (tin_1 _ (List.mem_of_getElem? (i := 220) (by decide +kernel))) rfl
theorem bw_1_222 : Cond.laysFinal "SelfScale$Plan" "SelfScale$Plan" "seenByTwo" "LSelfScale$Row;" ∈ BIG := big_of (tin_1 _ (List.mem_of_getElem? (i := 222) (by decide +kernel))) rfl
theorem bw_1_88 : Cond.laysFinal "SelfScale$Reader" "SelfScale$Reader" "text" "LSelfScale$Text;" ∈ BIG := big_of (tin_1 _ (List.mem_of_getElem? (i := 88) (by decide +kernel))) rfl
theorem bw_1_90 : Cond.laysFinal "SelfScale$Reader" "SelfScale$Reader" "told" "LSelfScale$Scale;" ∈ BIG := big_of (tin_1 _ (List.mem_of_getElem? (i := 90) (by decide +kernel))) rfl
theorem bw_1_92 : Cond.lays "SelfScale$Reader" "SelfScale$Reader" "items" "I" ∈ BIG := big_of (tin_1 _ (List.mem_of_getElem? (i := 92) (by decide +kernel))) rfl
theorem bw_1_94 : Cond.lays "SelfScale$Reader" "SelfScale$Reader" "isOwnTold" "Z" ∈ BIG := big_of (tin_1 _ (List.mem_of_getElem? (i := 94) (by decide +kernel))) rfl
theorem bw_1_96 : Cond.lays "SelfScale$Reader" "SelfScale$Reader" "areFiguresTold" "Z" ∈ BIG := big_of (tin_1 _ (List.mem_of_getElem? (i := 96) (by decide +kernel))) rfl
theorem bw_1_98 : Cond.lays "SelfScale$Reader" "SelfScale$Reader" "start" "I" ∈ BIG := big_of (tin_1 _ (List.mem_of_getElem? (i := 98) (by decide +kernel))) rfl
theorem bw_1_100 : Cond.lays "SelfScale$Reader" "SelfScale$Reader" "end" "I" ∈ BIG := big_of (tin_1 _ (List.mem_of_getElem? (i := 100) (by decide +kernel))) rfl
theorem bw_1_102 : Cond.lays "SelfScale$Reader" "SelfScale$Reader" "number" "I" ∈ BIG := big_of (tin_1 _ (List.mem_of_getElem? (i := 102) (by decide +kernel))) rfl
theorem bw_1_39 : Cond.laysFinal "SelfScale$Row" "SelfScale$Row" "cells" "[I" ∈ BIG := big_of (tin_1 _ (List.mem_of_getElem? (i := 39) (by decide +kernel))) rfl
theorem bw_1_69 : Cond.laysFinal "SelfScale$Scale" "SelfScale$Scale" "weights" "LSelfScale$Row;" ∈ BIG := big_of (tin_1 _ (List.mem_of_getElem? (i := 69) (by decide +kernel))) rfl
theorem bw_1_71 : Cond.laysFinal "SelfScale$Scale" "SelfScale$Scale" "outcomes" "LSelfScale$Row;" ∈ BIG := big_of (tin_1 _ (List.mem_of_getElem? (i := 71) (by decide +kernel))) rfl
theorem bw_1_73 : Cond.lays "SelfScale$Scale" "SelfScale$Scale" "things" "I" ∈ BIG := big_of (tin_1 _ (List.mem_of_getElem? (i := 73) (by decide +kernel))) rfl
theorem bw_1_75 : Cond.lays "SelfScale$Scale" "SelfScale$Scale" "own" "I" ∈ BIG := big_of (tin_1 _ (List.mem_of_getElem? (i := 75) (by decide +kernel))) rfl
theorem bw_1_77 : Cond.lays "SelfScale$Scale" "SelfScale$Scale" "figures" "I" ∈ BIG := big_of (tin_1 _ (List.mem_of_getElem? (i := 77) (by decide +kernel))) rfl
theorem bw_1_45 : Cond.laysFinal "SelfScale$Text" "SelfScale$Text" "bytes" "LSelfScale$Row;" ∈ BIG := big_of (tin_1 _ (List.mem_of_getElem? (i := 45) (by decide +kernel))) rfl
theorem bw_1_47 : Cond.lays "SelfScale$Text" "SelfScale$Text" "length" "I" ∈ BIG := big_of (tin_1 _ (List.mem_of_getElem? (i := 47) (by decide +kernel))) rfl
theorem bw_1_178 : Cond.laysFinal "SelfScale$Worlds" "SelfScale$Worlds" "scale" "LSelfScale$Scale;" ∈ BIG := big_of (tin_1 _ (List.mem_of_getElem? (i := 178) (by decide +kernel))) rfl
theorem bw_1_180 : Cond.laysFinal "SelfScale$Worlds" "SelfScale$Worlds" "book" "LSelfScale$Book;" ∈ BIG := big_of (tin_1 _ (List.mem_of_getElem? (i := 180) (by decide +kernel))) rfl
theorem bw_1_182 : Cond.laysFinal "SelfScale$Worlds" "SelfScale$Worlds" "codes" "LSelfScale$Row;" ∈ BIG := big_of (tin_1 _ (List.mem_of_getElem? (i := 182) (by decide +kernel))) rfl
theorem bw_1_184 : Cond.laysFinal "SelfScale$Worlds" "SelfScale$Worlds" "leftBits" "LSelfScale$Row;" ∈ BIG := big_of (tin_1 _ (List.mem_of_getElem? (i := 184) (by decide +kernel))) rfl
theorem bw_1_186 : Cond.laysFinal "SelfScale$Worlds" "SelfScale$Worlds" "leftByWeight" "LSelfScale$Row;" ∈ BIG := big_of (tin_1 _ (List.mem_of_getElem? (i := 186) (by decide +kernel))) rfl
theorem bw_1_188 : Cond.laysFinal "SelfScale$Worlds" "SelfScale$Worlds" "leftByLaughs" "LSelfScale$Row;" ∈ BIG := big_of (tin_1 _ (List.mem_of_getElem? (i := 188) (by decide +kernel))) rfl
theorem bw_1_190 : Cond.laysFinal "SelfScale$Worlds" "SelfScale$Worlds" "laughedByLaughs" "LSelfScale$Row;" ∈ BIG := big_of (tin_1 _ (List.mem_of_getElem? (i := 190) (by decide +kernel))) rfl
theorem bw_1_192 : Cond.lays "SelfScale$Worlds" "SelfScale$Worlds" "isKnown" "Z" ∈ BIG := big_of (tin_1 _ (List.mem_of_getElem? (i := 192) (by decide +kernel))) rfl
theorem bw_1_194 : Cond.lays "SelfScale$Worlds" "SelfScale$Worlds" "left" "I" ∈ BIG := big_of (tin_1 _ (List.mem_of_getElem? (i := 194) (by decide +kernel))) rfl
theorem bw_1_196 : Cond.lays "SelfScale$Worlds" "SelfScale$Worlds" "fewestFalse" "I" ∈ BIG := big_of (tin_1 _ (List.mem_of_getElem? (i := 196) (by decide +kernel))) rfl
theorem bw_1_198 : Cond.lays "SelfScale$Worlds" "SelfScale$Worlds" "everFalse" "I" ∈ BIG := big_of (tin_1 _ (List.mem_of_getElem? (i := 198) (by decide +kernel))) rfl
theorem bw_1_234 : Cond.laysFinal "SelfScale" "SelfScale" "text" "LSelfScale$Text;" ∈ BIG := big_of (tin_1 _ (List.mem_of_getElem? (i := 234) (by decide +kernel))) rfl
theorem bw_1_236 : Cond.laysFinal "SelfScale" "SelfScale" "reader" "LSelfScale$Reader;" ∈ BIG := big_of (tin_1 _ (List.mem_of_getElem? (i := 236) (by decide +kernel))) rfl
theorem bw_1_238 : Cond.laysFinal "SelfScale" "SelfScale" "scale" "LSelfScale$Scale;" ∈ BIG := big_of (tin_1 _ (List.mem_of_getElem? (i := 238) (by decide +kernel))) rfl
theorem bw_2_0 : Cond.laysFinal "SelfScale" "SelfScale" "book" "LSelfScale$Book;" ∈ BIG := big_of (tin_2 _ (List.mem_of_getElem? (i := 0) (by decide +kernel))) rfl
theorem bw_2_2 : Cond.laysFinal "SelfScale" "SelfScale" "firstImage" "LSelfScale$Image;" ∈ BIG := big_of (tin_2 _ (List.mem_of_getElem? (i := 2) (by decide +kernel))) rfl
theorem bw_2_4 : Cond.laysFinal "SelfScale" "SelfScale" "secondImage" "LSelfScale$Image;" ∈ BIG := big_of (tin_2 _ (List.mem_of_getElem? (i := 4) (by decide +kernel))) rfl
theorem bw_2_6 : Cond.laysFinal "SelfScale" "SelfScale" "kinds" "LSelfScale$Kinds;" ∈ BIG := big_of (tin_2 _ (List.mem_of_getElem? (i := 6) (by decide +kernel))) rfl
theorem bw_2_8 : Cond.laysFinal "SelfScale" "SelfScale" "worlds" "LSelfScale$Worlds;" ∈ BIG := big_of (tin_2 _ (List.mem_of_getElem? (i := 8) (by decide +kernel))) rfl
theorem bw_2_10 : Cond.laysFinal "SelfScale" "SelfScale" "plan" "LSelfScale$Plan;" ∈ BIG := big_of (tin_2 _ (List.mem_of_getElem? (i := 10) (by decide +kernel))) rfl
theorem bw_4_155 : Cond.lays "SelfScaleModel" "SelfScaleModel" "trace" "J" ∈ BIG := big_of (tin_4 _ (List.mem_of_getElem? (i := 155) (by decide +kernel))) rfl
theorem bw_4_157 : Cond.laysFinal "SelfScaleModel" "SelfScaleModel" "text" "[B" ∈ BIG := big_of (tin_4 _ (List.mem_of_getElem? (i := 157) (by decide +kernel))) rfl
theorem bw_4_159 : Cond.lays "SelfScaleModel" "SelfScaleModel" "typed" "I" ∈ BIG := big_of (tin_4 _ (List.mem_of_getElem? (i := 159) (by decide +kernel))) rfl
theorem bw_4_161 : Cond.laysFinal "SelfScaleModel" "SelfScaleModel" "things" "[I" ∈ BIG := big_of (tin_4 _ (List.mem_of_getElem? (i := 161) (by decide +kernel))) rfl
theorem bw_4_163 : Cond.laysFinal "SelfScaleModel" "SelfScaleModel" "weights" "[I" ∈ BIG := big_of (tin_4 _ (List.mem_of_getElem? (i := 163) (by decide +kernel))) rfl
theorem bw_4_165 : Cond.laysFinal "SelfScaleModel" "SelfScaleModel" "figures" "[I" ∈ BIG := big_of (tin_4 _ (List.mem_of_getElem? (i := 165) (by decide +kernel))) rfl
theorem bw_4_167 : Cond.lays "SelfScaleModel" "SelfScaleModel" "at" "I" ∈ BIG := big_of (tin_4 _ (List.mem_of_getElem? (i := 167) (by decide +kernel))) rfl
theorem bw_4_169 : Cond.lays "SelfScaleModel" "SelfScaleModel" "start" "I" ∈ BIG := big_of (tin_4 _ (List.mem_of_getElem? (i := 169) (by decide +kernel))) rfl
theorem bw_4_171 : Cond.lays "SelfScaleModel" "SelfScaleModel" "sort" "I" ∈ BIG := big_of (tin_4 _ (List.mem_of_getElem? (i := 171) (by decide +kernel))) rfl
theorem bw_4_173 : Cond.lays "SelfScaleModel" "SelfScaleModel" "value" "I" ∈ BIG := big_of (tin_4 _ (List.mem_of_getElem? (i := 173) (by decide +kernel))) rfl
theorem bw_4_175 : Cond.lays "SelfScaleModel" "SelfScaleModel" "fault" "I" ∈ BIG := big_of (tin_4 _ (List.mem_of_getElem? (i := 175) (by decide +kernel))) rfl
theorem bw_4_177 : Cond.lays "SelfScaleModel" "SelfScaleModel" "told" "I" ∈ BIG := big_of (tin_4 _ (List.mem_of_getElem? (i := 177) (by decide +kernel))) rfl
theorem bw_4_179 : Cond.laysFinal "SelfScaleModel" "SelfScaleModel" "lines" "[I" ∈ BIG := big_of (tin_4 _ (List.mem_of_getElem? (i := 179) (by decide +kernel))) rfl
theorem bw_4_181 : Cond.laysFinal "SelfScaleModel" "SelfScaleModel" "row" "[I" ∈ BIG := big_of (tin_4 _ (List.mem_of_getElem? (i := 181) (by decide +kernel))) rfl
theorem bw_4_183 : Cond.laysFinal "SelfScaleModel" "SelfScaleModel" "isKept" "[Z" ∈ BIG := big_of (tin_4 _ (List.mem_of_getElem? (i := 183) (by decide +kernel))) rfl
theorem bw_4_185 : Cond.laysFinal "SelfScaleModel" "SelfScaleModel" "world" "[I" ∈ BIG := big_of (tin_4 _ (List.mem_of_getElem? (i := 185) (by decide +kernel))) rfl
theorem bw_4_187 : Cond.laysFinal "SelfScaleModel" "SelfScaleModel" "shownMany" "[I" ∈ BIG := big_of (tin_4 _ (List.mem_of_getElem? (i := 187) (by decide +kernel))) rfl
theorem bw_4_189 : Cond.laysFinal "SelfScaleModel" "SelfScaleModel" "seen" "[I" ∈ BIG := big_of (tin_4 _ (List.mem_of_getElem? (i := 189) (by decide +kernel))) rfl
theorem bw_4_191 : Cond.laysFinal "SelfScaleModel" "SelfScaleModel" "isBad" "[Z" ∈ BIG := big_of (tin_4 _ (List.mem_of_getElem? (i := 191) (by decide +kernel))) rfl
theorem bw_4_193 : Cond.laysFinal "SelfScaleModel" "SelfScaleModel" "comes" "[I" ∈ BIG := big_of (tin_4 _ (List.mem_of_getElem? (i := 193) (by decide +kernel))) rfl
theorem bw_1_18 : Cond.classLink RL 7 RX9 ∈ BIG := big_of (tin_1 _ (List.mem_of_getElem? (i := 18) (by decide +kernel))) rfl
theorem bw_1_19 : Cond.instantiable RX9 9 ∈ BIG := big_of (tin_1 _ (List.mem_of_getElem? (i := 19) (by decide +kernel))) rfl
theorem bw_1_1 : Cond.initialized RX9 ∈ BIG := big_of (tin_1 _ (List.mem_of_getElem? (i := 1) (by decide +kernel))) rfl
theorem bw_4_129 : Cond.classLink RL 10 RX10 ∈ BIG := big_of (tin_4 _ (List.mem_of_getElem? (i := 129) (by decide +kernel))) rfl
theorem bw_4_130 : Cond.instantiable RX10 20 ∈ BIG := big_of (tin_4 _ (List.mem_of_getElem? (i := 130) (by decide +kernel))) rfl
theorem bw_1_11 : Cond.initialized RX10 ∈ BIG := big_of (tin_1 _ (List.mem_of_getElem? (i := 11) (by decide +kernel))) rfl
theorem bw_5_162 : Cond.constantLong RL 13 (4294967295) ∈ BIG := big_of (tin_5 _ (List.mem_of_getElem? (i := 162) (by decide +kernel))) rfl
theorem bw_1_20 : Cond.methodLink RL 9 yX9_init ∈ BIG := big_of (tin_1 _ (List.mem_of_getElem? (i := 20) (by decide +kernel))) rfl
theorem bw_1_21 : Cond.instanceMethod yX9_init ∈ BIG := big_of (tin_1 _ (List.mem_of_getElem? (i := 21) (by decide +kernel))) rfl
theorem bw_1_22 : Cond.code yX9_init cX9_init 1 none ∈ BIG := big_of (tin_1 _ (List.mem_of_getElem? (i := 22) (by decide +kernel))) rfl
theorem bw_1_23 : Cond.methodLink RX9 1 objectInit ∈ BIG := big_of (tin_1 _ (List.mem_of_getElem? (i := 23) (by decide +kernel))) rfl
theorem bw_1_24 : Cond.instanceMethod objectInit ∈ BIG := big_of (tin_1 _ (List.mem_of_getElem? (i := 24) (by decide +kernel))) rfl
theorem bw_1_25 : Cond.code objectInit ⟨#[0xb1]⟩ 1 none ∈ BIG := big_of (tin_1 _ (List.mem_of_getElem? (i := 25) (by decide +kernel))) rfl
theorem bw_1_26 : Cond.classLink RX9 7 RX7 ∈ BIG := big_of (tin_1 _ (List.mem_of_getElem? (i := 26) (by decide +kernel))) rfl
theorem bw_1_27 : Cond.instantiable RX7 2 ∈ BIG := big_of (tin_1 _ (List.mem_of_getElem? (i := 27) (by decide +kernel))) rfl
theorem bw_1_2 : Cond.initialized RX7 ∈ BIG := big_of (tin_1 _ (List.mem_of_getElem? (i := 2) (by decide +kernel))) rfl
theorem bw_1_225 : Cond.fieldLink RX9 10 "SelfScale" "text" "LSelfScale$Text;" ∈ BIG := big_of (tin_1 _ (List.mem_of_getElem? (i := 225) (by decide +kernel))) rfl
theorem bw_1_50 : Cond.classLink RX9 16 RX4 ∈ BIG := big_of (tin_1 _ (List.mem_of_getElem? (i := 50) (by decide +kernel))) rfl
theorem bw_1_51 : Cond.instantiable RX4 8 ∈ BIG := big_of (tin_1 _ (List.mem_of_getElem? (i := 51) (by decide +kernel))) rfl
theorem bw_1_4 : Cond.initialized RX4 ∈ BIG := big_of (tin_1 _ (List.mem_of_getElem? (i := 4) (by decide +kernel))) rfl
theorem bw_1_226 : Cond.fieldLink RX9 21 "SelfScale" "reader" "LSelfScale$Reader;" ∈ BIG := big_of (tin_1 _ (List.mem_of_getElem? (i := 226) (by decide +kernel))) rfl
theorem bw_1_105 : Cond.classLink RX9 25 RX6 ∈ BIG := big_of (tin_1 _ (List.mem_of_getElem? (i := 105) (by decide +kernel))) rfl
theorem bw_1_57 : Cond.instantiable RX6 5 ∈ BIG := big_of (tin_1 _ (List.mem_of_getElem? (i := 57) (by decide +kernel))) rfl
theorem bw_1_5 : Cond.initialized RX6 ∈ BIG := big_of (tin_1 _ (List.mem_of_getElem? (i := 5) (by decide +kernel))) rfl
theorem bw_1_227 : Cond.fieldLink RX9 28 "SelfScale" "scale" "LSelfScale$Scale;" ∈ BIG := big_of (tin_1 _ (List.mem_of_getElem? (i := 227) (by decide +kernel))) rfl
theorem bw_1_107 : Cond.classLink RX9 32 RX0 ∈ BIG := big_of (tin_1 _ (List.mem_of_getElem? (i := 107) (by decide +kernel))) rfl
theorem bw_1_108 : Cond.instantiable RX0 4 ∈ BIG := big_of (tin_1 _ (List.mem_of_getElem? (i := 108) (by decide +kernel))) rfl
theorem bw_1_6 : Cond.initialized RX0 ∈ BIG := big_of (tin_1 _ (List.mem_of_getElem? (i := 6) (by decide +kernel))) rfl
theorem bw_1_228 : Cond.fieldLink RX9 35 "SelfScale" "book" "LSelfScale$Book;" ∈ BIG := big_of (tin_1 _ (List.mem_of_getElem? (i := 228) (by decide +kernel))) rfl
theorem bw_1_128 : Cond.classLink RX9 39 RX1 ∈ BIG := big_of (tin_1 _ (List.mem_of_getElem? (i := 128) (by decide +kernel))) rfl
theorem bw_1_129 : Cond.instantiable RX1 2 ∈ BIG := big_of (tin_1 _ (List.mem_of_getElem? (i := 129) (by decide +kernel))) rfl
theorem bw_1_7 : Cond.initialized RX1 ∈ BIG := big_of (tin_1 _ (List.mem_of_getElem? (i := 7) (by decide +kernel))) rfl
theorem bw_1_229 : Cond.fieldLink RX9 42 "SelfScale" "firstImage" "LSelfScale$Image;" ∈ BIG := big_of (tin_1 _ (List.mem_of_getElem? (i := 229) (by decide +kernel))) rfl
theorem bw_1_230 : Cond.fieldLink RX9 46 "SelfScale" "secondImage" "LSelfScale$Image;" ∈ BIG := big_of (tin_1 _ (List.mem_of_getElem? (i := 230) (by decide +kernel))) rfl
theorem bw_1_143 : Cond.classLink RX9 49 RX2 ∈ BIG := big_of (tin_1 _ (List.mem_of_getElem? (i := 143) (by decide +kernel))) rfl
theorem bw_1_144 : Cond.instantiable RX2 3 ∈ BIG := big_of (tin_1 _ (List.mem_of_getElem? (i := 144) (by decide +kernel))) rfl
theorem bw_1_8 : Cond.initialized RX2 ∈ BIG := big_of (tin_1 _ (List.mem_of_getElem? (i := 8) (by decide +kernel))) rfl
theorem bw_1_231 : Cond.fieldLink RX9 54 "SelfScale" "kinds" "LSelfScale$Kinds;" ∈ BIG := big_of (tin_1 _ (List.mem_of_getElem? (i := 231) (by decide +kernel))) rfl
theorem bw_1_159 : Cond.classLink RX9 58 RX8 ∈ BIG := big_of (tin_1 _ (List.mem_of_getElem? (i := 159) (by decide +kernel))) rfl
theorem bw_1_160 : Cond.instantiable RX8 11 ∈ BIG := big_of (tin_1 _ (List.mem_of_getElem? (i := 160) (by decide +kernel))) rfl
theorem bw_1_9 : Cond.initialized RX8 ∈ BIG := big_of (tin_1 _ (List.mem_of_getElem? (i := 9) (by decide +kernel))) rfl
theorem bw_1_232 : Cond.fieldLink RX9 61 "SelfScale" "worlds" "LSelfScale$Worlds;" ∈ BIG := big_of (tin_1 _ (List.mem_of_getElem? (i := 232) (by decide +kernel))) rfl
theorem bw_1_201 : Cond.classLink RX9 65 RX3 ∈ BIG := big_of (tin_1 _ (List.mem_of_getElem? (i := 201) (by decide +kernel))) rfl
theorem bw_1_202 : Cond.instantiable RX3 5 ∈ BIG := big_of (tin_1 _ (List.mem_of_getElem? (i := 202) (by decide +kernel))) rfl
theorem bw_1_10 : Cond.initialized RX3 ∈ BIG := big_of (tin_1 _ (List.mem_of_getElem? (i := 10) (by decide +kernel))) rfl
theorem bw_1_233 : Cond.fieldLink RX9 70 "SelfScale" "plan" "LSelfScale$Plan;" ∈ BIG := big_of (tin_1 _ (List.mem_of_getElem? (i := 233) (by decide +kernel))) rfl
theorem bw_1_28 : Cond.methodLink RX9 9 yX7_init ∈ BIG := big_of (tin_1 _ (List.mem_of_getElem? (i := 28) (by decide +kernel))) rfl
theorem bw_1_29 : Cond.instanceMethod yX7_init ∈ BIG := big_of (tin_1 _ (List.mem_of_getElem? (i := 29) (by decide +kernel))) rfl
theorem bw_1_30 : Cond.code yX7_init cX7_init 1 none ∈ BIG := big_of (tin_1 _ (List.mem_of_getElem? (i := 30) (by decide +kernel))) rfl
theorem bw_1_31 : Cond.methodLink RX7 3 objectInit ∈ BIG := big_of (tin_1 _ (List.mem_of_getElem? (i := 31) (by decide +kernel))) rfl
theorem bw_1_32 : Cond.classLink RX7 9 RX5 ∈ BIG := big_of (tin_1 _ (List.mem_of_getElem? (i := 32) (by decide +kernel))) rfl
theorem bw_1_33 : Cond.instantiable RX5 1 ∈ BIG := big_of (tin_1 _ (List.mem_of_getElem? (i := 33) (by decide +kernel))) rfl
theorem bw_1_3 : Cond.initialized RX5 ∈ BIG := big_of (tin_1 _ (List.mem_of_getElem? (i := 3) (by decide +kernel))) rfl
theorem bw_1_43 : Cond.fieldLink RX7 14 "SelfScale$Text" "bytes" "LSelfScale$Row;" ∈ BIG := big_of (tin_1 _ (List.mem_of_getElem? (i := 43) (by decide +kernel))) rfl
theorem bw_1_34 : Cond.methodLink RX7 11 yX5_init ∈ BIG := big_of (tin_1 _ (List.mem_of_getElem? (i := 34) (by decide +kernel))) rfl
theorem bw_1_35 : Cond.instanceMethod yX5_init ∈ BIG := big_of (tin_1 _ (List.mem_of_getElem? (i := 35) (by decide +kernel))) rfl
theorem bw_1_36 : Cond.code yX5_init cX5_init 2 none ∈ BIG := big_of (tin_1 _ (List.mem_of_getElem? (i := 36) (by decide +kernel))) rfl
theorem bw_1_37 : Cond.methodLink RX5 1 objectInit ∈ BIG := big_of (tin_1 _ (List.mem_of_getElem? (i := 37) (by decide +kernel))) rfl
theorem bw_1_42 : Cond.arrayClass .int ∈ BIG := big_of (tin_1 _ (List.mem_of_getElem? (i := 42) (by decide +kernel))) rfl
theorem bw_1_38 : Cond.fieldLink RX5 7 "SelfScale$Row" "cells" "[I" ∈ BIG := big_of (tin_1 _ (List.mem_of_getElem? (i := 38) (by decide +kernel))) rfl
theorem bw_1_52 : Cond.methodLink RX9 18 yX4_init ∈ BIG := big_of (tin_1 _ (List.mem_of_getElem? (i := 52) (by decide +kernel))) rfl
theorem bw_1_53 : Cond.instanceMethod yX4_init ∈ BIG := big_of (tin_1 _ (List.mem_of_getElem? (i := 53) (by decide +kernel))) rfl
theorem bw_1_54 : Cond.code yX4_init cX4_init 2 none ∈ BIG := big_of (tin_1 _ (List.mem_of_getElem? (i := 54) (by decide +kernel))) rfl
theorem bw_1_55 : Cond.methodLink RX4 3 objectInit ∈ BIG := big_of (tin_1 _ (List.mem_of_getElem? (i := 55) (by decide +kernel))) rfl
theorem bw_1_56 : Cond.classLink RX4 9 RX6 ∈ BIG := big_of (tin_1 _ (List.mem_of_getElem? (i := 56) (by decide +kernel))) rfl
theorem bw_1_81 : Cond.fieldLink RX4 12 "SelfScale$Reader" "told" "LSelfScale$Scale;" ∈ BIG := big_of (tin_1 _ (List.mem_of_getElem? (i := 81) (by decide +kernel))) rfl
theorem bw_1_80 : Cond.fieldLink RX4 18 "SelfScale$Reader" "text" "LSelfScale$Text;" ∈ BIG := big_of (tin_1 _ (List.mem_of_getElem? (i := 80) (by decide +kernel))) rfl
theorem bw_1_58 : Cond.methodLink RX4 11 yX6_init ∈ BIG := big_of (tin_1 _ (List.mem_of_getElem? (i := 58) (by decide +kernel))) rfl
theorem bw_1_59 : Cond.instanceMethod yX6_init ∈ BIG := big_of (tin_1 _ (List.mem_of_getElem? (i := 59) (by decide +kernel))) rfl
theorem bw_1_60 : Cond.code yX6_init cX6_init 1 none ∈ BIG := big_of (tin_1 _ (List.mem_of_getElem? (i := 60) (by decide +kernel))) rfl
theorem bw_1_61 : Cond.methodLink RX6 3 objectInit ∈ BIG := big_of (tin_1 _ (List.mem_of_getElem? (i := 61) (by decide +kernel))) rfl
theorem bw_1_62 : Cond.classLink RX6 9 RX5 ∈ BIG := big_of (tin_1 _ (List.mem_of_getElem? (i := 62) (by decide +kernel))) rfl
theorem bw_1_64 : Cond.fieldLink RX6 14 "SelfScale$Scale" "weights" "LSelfScale$Row;" ∈ BIG := big_of (tin_1 _ (List.mem_of_getElem? (i := 64) (by decide +kernel))) rfl
theorem bw_1_65 : Cond.fieldLink RX6 20 "SelfScale$Scale" "outcomes" "LSelfScale$Row;" ∈ BIG := big_of (tin_1 _ (List.mem_of_getElem? (i := 65) (by decide +kernel))) rfl
theorem bw_1_68 : Cond.fieldLink RX6 23 "SelfScale$Scale" "figures" "I" ∈ BIG := big_of (tin_1 _ (List.mem_of_getElem? (i := 68) (by decide +kernel))) rfl
theorem bw_1_63 : Cond.methodLink RX6 11 yX5_init ∈ BIG := big_of (tin_1 _ (List.mem_of_getElem? (i := 63) (by decide +kernel))) rfl
theorem bw_1_106 : Cond.methodLink RX9 27 yX6_init ∈ BIG := big_of (tin_1 _ (List.mem_of_getElem? (i := 106) (by decide +kernel))) rfl
theorem bw_1_109 : Cond.methodLink RX9 34 yX0_init ∈ BIG := big_of (tin_1 _ (List.mem_of_getElem? (i := 109) (by decide +kernel))) rfl
theorem bw_1_110 : Cond.instanceMethod yX0_init ∈ BIG := big_of (tin_1 _ (List.mem_of_getElem? (i := 110) (by decide +kernel))) rfl
theorem bw_1_111 : Cond.code yX0_init cX0_init 1 none ∈ BIG := big_of (tin_1 _ (List.mem_of_getElem? (i := 111) (by decide +kernel))) rfl
theorem bw_1_112 : Cond.methodLink RX0 3 objectInit ∈ BIG := big_of (tin_1 _ (List.mem_of_getElem? (i := 112) (by decide +kernel))) rfl
theorem bw_1_113 : Cond.classLink RX0 9 RX5 ∈ BIG := big_of (tin_1 _ (List.mem_of_getElem? (i := 113) (by decide +kernel))) rfl
theorem bw_1_115 : Cond.fieldLink RX0 14 "SelfScale$Book" "sets" "LSelfScale$Row;" ∈ BIG := big_of (tin_1 _ (List.mem_of_getElem? (i := 115) (by decide +kernel))) rfl
theorem bw_1_116 : Cond.fieldLink RX0 20 "SelfScale$Book" "shown" "LSelfScale$Row;" ∈ BIG := big_of (tin_1 _ (List.mem_of_getElem? (i := 116) (by decide +kernel))) rfl
theorem bw_1_117 : Cond.fieldLink RX0 23 "SelfScale$Book" "laughs" "LSelfScale$Row;" ∈ BIG := big_of (tin_1 _ (List.mem_of_getElem? (i := 117) (by decide +kernel))) rfl
theorem bw_1_114 : Cond.methodLink RX0 11 yX5_init ∈ BIG := big_of (tin_1 _ (List.mem_of_getElem? (i := 114) (by decide +kernel))) rfl
theorem bw_1_130 : Cond.methodLink RX9 41 yX1_init ∈ BIG := big_of (tin_1 _ (List.mem_of_getElem? (i := 130) (by decide +kernel))) rfl
theorem bw_1_131 : Cond.instanceMethod yX1_init ∈ BIG := big_of (tin_1 _ (List.mem_of_getElem? (i := 131) (by decide +kernel))) rfl
theorem bw_1_132 : Cond.code yX1_init cX1_init 1 none ∈ BIG := big_of (tin_1 _ (List.mem_of_getElem? (i := 132) (by decide +kernel))) rfl
theorem bw_1_133 : Cond.methodLink RX1 1 objectInit ∈ BIG := big_of (tin_1 _ (List.mem_of_getElem? (i := 133) (by decide +kernel))) rfl
theorem bw_1_134 : Cond.classLink RX1 7 RX0 ∈ BIG := big_of (tin_1 _ (List.mem_of_getElem? (i := 134) (by decide +kernel))) rfl
theorem bw_1_136 : Cond.fieldLink RX1 10 "SelfScale$Image" "kept" "LSelfScale$Book;" ∈ BIG := big_of (tin_1 _ (List.mem_of_getElem? (i := 136) (by decide +kernel))) rfl
theorem bw_1_135 : Cond.methodLink RX1 9 yX0_init ∈ BIG := big_of (tin_1 _ (List.mem_of_getElem? (i := 135) (by decide +kernel))) rfl
theorem bw_1_145 : Cond.methodLink RX9 51 yX2_init ∈ BIG := big_of (tin_1 _ (List.mem_of_getElem? (i := 145) (by decide +kernel))) rfl
theorem bw_1_146 : Cond.instanceMethod yX2_init ∈ BIG := big_of (tin_1 _ (List.mem_of_getElem? (i := 146) (by decide +kernel))) rfl
theorem bw_1_147 : Cond.code yX2_init cX2_init 3 none ∈ BIG := big_of (tin_1 _ (List.mem_of_getElem? (i := 147) (by decide +kernel))) rfl
theorem bw_1_148 : Cond.methodLink RX2 3 objectInit ∈ BIG := big_of (tin_1 _ (List.mem_of_getElem? (i := 148) (by decide +kernel))) rfl
theorem bw_1_149 : Cond.fieldLink RX2 9 "SelfScale$Kinds" "scale" "LSelfScale$Scale;" ∈ BIG := big_of (tin_1 _ (List.mem_of_getElem? (i := 149) (by decide +kernel))) rfl
theorem bw_1_150 : Cond.fieldLink RX2 15 "SelfScale$Kinds" "book" "LSelfScale$Book;" ∈ BIG := big_of (tin_1 _ (List.mem_of_getElem? (i := 150) (by decide +kernel))) rfl
theorem bw_1_161 : Cond.methodLink RX9 60 yX8_init ∈ BIG := big_of (tin_1 _ (List.mem_of_getElem? (i := 161) (by decide +kernel))) rfl
theorem bw_1_162 : Cond.instanceMethod yX8_init ∈ BIG := big_of (tin_1 _ (List.mem_of_getElem? (i := 162) (by decide +kernel))) rfl
theorem bw_1_163 : Cond.code yX8_init cX8_init 3 none ∈ BIG := big_of (tin_1 _ (List.mem_of_getElem? (i := 163) (by decide +kernel))) rfl
theorem bw_1_164 : Cond.methodLink RX8 3 objectInit ∈ BIG := big_of (tin_1 _ (List.mem_of_getElem? (i := 164) (by decide +kernel))) rfl
theorem bw_1_165 : Cond.classLink RX8 9 RX5 ∈ BIG := big_of (tin_1 _ (List.mem_of_getElem? (i := 165) (by decide +kernel))) rfl
theorem bw_1_169 : Cond.fieldLink RX8 16 "SelfScale$Worlds" "codes" "LSelfScale$Row;" ∈ BIG := big_of (tin_1 _ (List.mem_of_getElem? (i := 169) (by decide +kernel))) rfl
theorem bw_1_170 : Cond.fieldLink RX8 20 "SelfScale$Worlds" "leftBits" "LSelfScale$Row;" ∈ BIG := big_of (tin_1 _ (List.mem_of_getElem? (i := 170) (by decide +kernel))) rfl
theorem bw_1_171 : Cond.fieldLink RX8 23 "SelfScale$Worlds" "leftByWeight" "LSelfScale$Row;" ∈ BIG := big_of (tin_1 _ (List.mem_of_getElem? (i := 171) (by decide +kernel))) rfl
theorem bw_1_172 : Cond.fieldLink RX8 26 "SelfScale$Worlds" "leftByLaughs" "LSelfScale$Row;" ∈ BIG := big_of (tin_1 _ (List.mem_of_getElem? (i := 172) (by decide +kernel))) rfl
theorem bw_1_173 : Cond.fieldLink RX8 29 "SelfScale$Worlds" "laughedByLaughs" "LSelfScale$Row;" ∈ BIG := big_of (tin_1 _ (List.mem_of_getElem? (i := 173) (by decide +kernel))) rfl
theorem bw_1_167 : Cond.fieldLink RX8 32 "SelfScale$Worlds" "scale" "LSelfScale$Scale;" ∈ BIG := big_of (tin_1 _ (List.mem_of_getElem? (i := 167) (by decide +kernel))) rfl
theorem bw_1_168 : Cond.fieldLink RX8 36 "SelfScale$Worlds" "book" "LSelfScale$Book;" ∈ BIG := big_of (tin_1 _ (List.mem_of_getElem? (i := 168) (by decide +kernel))) rfl
theorem bw_1_166 : Cond.methodLink RX8 13 yX5_init ∈ BIG := big_of (tin_1 _ (List.mem_of_getElem? (i := 166) (by decide +kernel))) rfl
theorem bw_1_203 : Cond.methodLink RX9 67 yX3_init ∈ BIG := big_of (tin_1 _ (List.mem_of_getElem? (i := 203) (by decide +kernel))) rfl
theorem bw_1_204 : Cond.instanceMethod yX3_init ∈ BIG := big_of (tin_1 _ (List.mem_of_getElem? (i := 204) (by decide +kernel))) rfl
theorem bw_1_205 : Cond.code yX3_init cX3_init 3 none ∈ BIG := big_of (tin_1 _ (List.mem_of_getElem? (i := 205) (by decide +kernel))) rfl
theorem bw_1_206 : Cond.methodLink RX3 3 objectInit ∈ BIG := big_of (tin_1 _ (List.mem_of_getElem? (i := 206) (by decide +kernel))) rfl
theorem bw_1_207 : Cond.classLink RX3 9 RX5 ∈ BIG := big_of (tin_1 _ (List.mem_of_getElem? (i := 207) (by decide +kernel))) rfl
theorem bw_1_211 : Cond.fieldLink RX3 14 "SelfScale$Plan" "leftByShown" "LSelfScale$Row;" ∈ BIG := big_of (tin_1 _ (List.mem_of_getElem? (i := 211) (by decide +kernel))) rfl
theorem bw_1_212 : Cond.fieldLink RX3 20 "SelfScale$Plan" "seenByOne" "LSelfScale$Row;" ∈ BIG := big_of (tin_1 _ (List.mem_of_getElem? (i := 212) (by decide +kernel))) rfl
theorem bw_1_213 : Cond.fieldLink RX3 23 "SelfScale$Plan" "seenByTwo" "LSelfScale$Row;" ∈ BIG := big_of (tin_1 _ (List.mem_of_getElem? (i := 213) (by decide +kernel))) rfl
theorem bw_1_209 : Cond.fieldLink RX3 26 "SelfScale$Plan" "scale" "LSelfScale$Scale;" ∈ BIG := big_of (tin_1 _ (List.mem_of_getElem? (i := 209) (by decide +kernel))) rfl
theorem bw_1_210 : Cond.fieldLink RX3 30 "SelfScale$Plan" "worlds" "LSelfScale$Worlds;" ∈ BIG := big_of (tin_1 _ (List.mem_of_getElem? (i := 210) (by decide +kernel))) rfl
theorem bw_1_208 : Cond.methodLink RX3 11 yX5_init ∈ BIG := big_of (tin_1 _ (List.mem_of_getElem? (i := 208) (by decide +kernel))) rfl
theorem bw_4_131 : Cond.methodLink RL 12 yX10_init ∈ BIG := big_of (tin_4 _ (List.mem_of_getElem? (i := 131) (by decide +kernel))) rfl
theorem bw_4_132 : Cond.instanceMethod yX10_init ∈ BIG := big_of (tin_4 _ (List.mem_of_getElem? (i := 132) (by decide +kernel))) rfl
theorem bw_4_133 : Cond.code yX10_init cX10_init 1 none ∈ BIG := big_of (tin_4 _ (List.mem_of_getElem? (i := 133) (by decide +kernel))) rfl
theorem bw_4_134 : Cond.methodLink RX10 1 objectInit ∈ BIG := big_of (tin_4 _ (List.mem_of_getElem? (i := 134) (by decide +kernel))) rfl
theorem bw_2_209 : Cond.arrayClass .byte ∈ BIG := big_of (tin_2 _ (List.mem_of_getElem? (i := 209) (by decide +kernel))) rfl
theorem bw_4_136 : Cond.fieldLink RX10 7 "SelfScaleModel" "text" "[B" ∈ BIG := big_of (tin_4 _ (List.mem_of_getElem? (i := 136) (by decide +kernel))) rfl
theorem bw_4_138 : Cond.fieldLink RX10 13 "SelfScaleModel" "things" "[I" ∈ BIG := big_of (tin_4 _ (List.mem_of_getElem? (i := 138) (by decide +kernel))) rfl
theorem bw_4_139 : Cond.fieldLink RX10 17 "SelfScaleModel" "weights" "[I" ∈ BIG := big_of (tin_4 _ (List.mem_of_getElem? (i := 139) (by decide +kernel))) rfl
theorem bw_4_140 : Cond.fieldLink RX10 20 "SelfScaleModel" "figures" "[I" ∈ BIG := big_of (tin_4 _ (List.mem_of_getElem? (i := 140) (by decide +kernel))) rfl
theorem bw_4_147 : Cond.fieldLink RX10 23 "SelfScaleModel" "lines" "[I" ∈ BIG := big_of (tin_4 _ (List.mem_of_getElem? (i := 147) (by decide +kernel))) rfl
theorem bw_4_148 : Cond.fieldLink RX10 26 "SelfScaleModel" "row" "[I" ∈ BIG := big_of (tin_4 _ (List.mem_of_getElem? (i := 148) (by decide +kernel))) rfl
theorem bw_4_196 : Cond.arrayClass .boolean ∈ BIG := big_of (tin_4 _ (List.mem_of_getElem? (i := 196) (by decide +kernel))) rfl
theorem bw_4_149 : Cond.fieldLink RX10 29 "SelfScaleModel" "isKept" "[Z" ∈ BIG := big_of (tin_4 _ (List.mem_of_getElem? (i := 149) (by decide +kernel))) rfl
theorem bw_4_150 : Cond.fieldLink RX10 33 "SelfScaleModel" "world" "[I" ∈ BIG := big_of (tin_4 _ (List.mem_of_getElem? (i := 150) (by decide +kernel))) rfl
theorem bw_4_151 : Cond.fieldLink RX10 36 "SelfScaleModel" "shownMany" "[I" ∈ BIG := big_of (tin_4 _ (List.mem_of_getElem? (i := 151) (by decide +kernel))) rfl
theorem bw_4_152 : Cond.fieldLink RX10 39 "SelfScaleModel" "seen" "[I" ∈ BIG := big_of (tin_4 _ (List.mem_of_getElem? (i := 152) (by decide +kernel))) rfl
theorem bw_4_153 : Cond.fieldLink RX10 42 "SelfScaleModel" "isBad" "[Z" ∈ BIG := big_of (tin_4 _ (List.mem_of_getElem? (i := 153) (by decide +kernel))) rfl
theorem bw_4_154 : Cond.fieldLink RX10 45 "SelfScaleModel" "comes" "[I" ∈ BIG := big_of (tin_4 _ (List.mem_of_getElem? (i := 154) (by decide +kernel))) rfl
theorem bw_2_13 : Cond.methodLink RL 15 yX9_type ∈ BIG := big_of (tin_2 _ (List.mem_of_getElem? (i := 13) (by decide +kernel))) rfl
theorem bw_2_14 : Cond.instanceMethod yX9_type ∈ BIG := big_of (tin_2 _ (List.mem_of_getElem? (i := 14) (by decide +kernel))) rfl
theorem bw_2_15 : Cond.selects RX9 yX9_type yX9_type ∈ BIG := big_of (tin_2 _ (List.mem_of_getElem? (i := 15) (by decide +kernel))) rfl
theorem bw_2_16 : Cond.code yX9_type cX9_type 5 (some .int) ∈ BIG := big_of (tin_2 _ (List.mem_of_getElem? (i := 16) (by decide +kernel))) rfl
theorem bw_2_17 : Cond.methodLink RX9 74 yX7_length ∈ BIG := big_of (tin_2 _ (List.mem_of_getElem? (i := 17) (by decide +kernel))) rfl
theorem bw_2_18 : Cond.instanceMethod yX7_length ∈ BIG := big_of (tin_2 _ (List.mem_of_getElem? (i := 18) (by decide +kernel))) rfl
theorem bw_2_19 : Cond.selects RX7 yX7_length yX7_length ∈ BIG := big_of (tin_2 _ (List.mem_of_getElem? (i := 19) (by decide +kernel))) rfl
theorem bw_2_20 : Cond.code yX7_length cX7_length 1 (some .int) ∈ BIG := big_of (tin_2 _ (List.mem_of_getElem? (i := 20) (by decide +kernel))) rfl
theorem bw_1_44 : Cond.fieldLink RX7 20 "SelfScale$Text" "length" "I" ∈ BIG := big_of (tin_1 _ (List.mem_of_getElem? (i := 44) (by decide +kernel))) rfl
theorem bw_2_21 : Cond.methodLink RX9 78 yX7_append ∈ BIG := big_of (tin_2 _ (List.mem_of_getElem? (i := 21) (by decide +kernel))) rfl
theorem bw_2_22 : Cond.instanceMethod yX7_append ∈ BIG := big_of (tin_2 _ (List.mem_of_getElem? (i := 22) (by decide +kernel))) rfl
theorem bw_2_23 : Cond.selects RX7 yX7_append yX7_append ∈ BIG := big_of (tin_2 _ (List.mem_of_getElem? (i := 23) (by decide +kernel))) rfl
theorem bw_2_24 : Cond.code yX7_append cX7_append 2 none ∈ BIG := big_of (tin_2 _ (List.mem_of_getElem? (i := 24) (by decide +kernel))) rfl
theorem bw_2_25 : Cond.methodLink RX7 28 yX5_put ∈ BIG := big_of (tin_2 _ (List.mem_of_getElem? (i := 25) (by decide +kernel))) rfl
theorem bw_2_26 : Cond.instanceMethod yX5_put ∈ BIG := big_of (tin_2 _ (List.mem_of_getElem? (i := 26) (by decide +kernel))) rfl
theorem bw_2_27 : Cond.selects RX5 yX5_put yX5_put ∈ BIG := big_of (tin_2 _ (List.mem_of_getElem? (i := 27) (by decide +kernel))) rfl
theorem bw_2_28 : Cond.code yX5_put cX5_put 3 none ∈ BIG := big_of (tin_2 _ (List.mem_of_getElem? (i := 28) (by decide +kernel))) rfl
theorem bw_4_197 : Cond.methodLink RL 19 yX10_type ∈ BIG := big_of (tin_4 _ (List.mem_of_getElem? (i := 197) (by decide +kernel))) rfl
theorem bw_4_198 : Cond.instanceMethod yX10_type ∈ BIG := big_of (tin_4 _ (List.mem_of_getElem? (i := 198) (by decide +kernel))) rfl
theorem bw_4_199 : Cond.selects RX10 yX10_type yX10_type ∈ BIG := big_of (tin_4 _ (List.mem_of_getElem? (i := 199) (by decide +kernel))) rfl
theorem bw_4_200 : Cond.code yX10_type cX10_type 5 (some .int) ∈ BIG := big_of (tin_4 _ (List.mem_of_getElem? (i := 200) (by decide +kernel))) rfl
theorem bw_4_137 : Cond.fieldLink RX10 52 "SelfScaleModel" "typed" "I" ∈ BIG := big_of (tin_4 _ (List.mem_of_getElem? (i := 137) (by decide +kernel))) rfl
theorem bw_4_204 : Cond.constantLong RX10 56 (255) ∈ BIG := big_of (tin_4 _ (List.mem_of_getElem? (i := 204) (by decide +kernel))) rfl
theorem bw_4_201 : Cond.methodLink RX10 48 yX10_in ∈ BIG := big_of (tin_4 _ (List.mem_of_getElem? (i := 201) (by decide +kernel))) rfl
theorem bw_4_202 : Cond.static yX10_in ∈ BIG := big_of (tin_4 _ (List.mem_of_getElem? (i := 202) (by decide +kernel))) rfl
theorem bw_4_203 : Cond.code yX10_in cX10_in 3 (some .boolean) ∈ BIG := big_of (tin_4 _ (List.mem_of_getElem? (i := 203) (by decide +kernel))) rfl
theorem bw_2_29 : Cond.methodLink RL 20 yX9_clear ∈ BIG := big_of (tin_2 _ (List.mem_of_getElem? (i := 29) (by decide +kernel))) rfl
theorem bw_2_30 : Cond.instanceMethod yX9_clear ∈ BIG := big_of (tin_2 _ (List.mem_of_getElem? (i := 30) (by decide +kernel))) rfl
theorem bw_2_31 : Cond.selects RX9 yX9_clear yX9_clear ∈ BIG := big_of (tin_2 _ (List.mem_of_getElem? (i := 31) (by decide +kernel))) rfl
theorem bw_2_32 : Cond.code yX9_clear cX9_clear 2 (some .int) ∈ BIG := big_of (tin_2 _ (List.mem_of_getElem? (i := 32) (by decide +kernel))) rfl
theorem bw_2_33 : Cond.methodLink RX9 82 yX7_wipe ∈ BIG := big_of (tin_2 _ (List.mem_of_getElem? (i := 33) (by decide +kernel))) rfl
theorem bw_2_34 : Cond.instanceMethod yX7_wipe ∈ BIG := big_of (tin_2 _ (List.mem_of_getElem? (i := 34) (by decide +kernel))) rfl
theorem bw_2_35 : Cond.selects RX7 yX7_wipe yX7_wipe ∈ BIG := big_of (tin_2 _ (List.mem_of_getElem? (i := 35) (by decide +kernel))) rfl
theorem bw_2_36 : Cond.code yX7_wipe cX7_wipe 1 none ∈ BIG := big_of (tin_2 _ (List.mem_of_getElem? (i := 36) (by decide +kernel))) rfl
theorem bw_4_205 : Cond.methodLink RL 24 yX10_clear ∈ BIG := big_of (tin_4 _ (List.mem_of_getElem? (i := 205) (by decide +kernel))) rfl
theorem bw_4_206 : Cond.instanceMethod yX10_clear ∈ BIG := big_of (tin_4 _ (List.mem_of_getElem? (i := 206) (by decide +kernel))) rfl
theorem bw_4_207 : Cond.selects RX10 yX10_clear yX10_clear ∈ BIG := big_of (tin_4 _ (List.mem_of_getElem? (i := 207) (by decide +kernel))) rfl
theorem bw_4_208 : Cond.code yX10_clear cX10_clear 2 (some .int) ∈ BIG := big_of (tin_4 _ (List.mem_of_getElem? (i := 208) (by decide +kernel))) rfl
theorem bw_2_37 : Cond.methodLink RL 25 yX9_market ∈ BIG := big_of (tin_2 _ (List.mem_of_getElem? (i := 37) (by decide +kernel))) rfl
theorem bw_2_38 : Cond.instanceMethod yX9_market ∈ BIG := big_of (tin_2 _ (List.mem_of_getElem? (i := 38) (by decide +kernel))) rfl
theorem bw_2_39 : Cond.selects RX9 yX9_market yX9_market ∈ BIG := big_of (tin_2 _ (List.mem_of_getElem? (i := 39) (by decide +kernel))) rfl
theorem bw_2_40 : Cond.code yX9_market cX9_market 2 (some .int) ∈ BIG := big_of (tin_2 _ (List.mem_of_getElem? (i := 40) (by decide +kernel))) rfl
theorem bw_2_41 : Cond.methodLink RX9 85 yX4_read ∈ BIG := big_of (tin_2 _ (List.mem_of_getElem? (i := 41) (by decide +kernel))) rfl
theorem bw_2_42 : Cond.instanceMethod yX4_read ∈ BIG := big_of (tin_2 _ (List.mem_of_getElem? (i := 42) (by decide +kernel))) rfl
theorem bw_2_43 : Cond.selects RX4 yX4_read yX4_read ∈ BIG := big_of (tin_2 _ (List.mem_of_getElem? (i := 43) (by decide +kernel))) rfl
theorem bw_2_44 : Cond.code yX4_read cX4_read 3 (some .int) ∈ BIG := big_of (tin_2 _ (List.mem_of_getElem? (i := 44) (by decide +kernel))) rfl
theorem bw_1_85 : Cond.fieldLink RX4 40 "SelfScale$Reader" "start" "I" ∈ BIG := big_of (tin_1 _ (List.mem_of_getElem? (i := 85) (by decide +kernel))) rfl
theorem bw_1_82 : Cond.fieldLink RX4 22 "SelfScale$Reader" "items" "I" ∈ BIG := big_of (tin_1 _ (List.mem_of_getElem? (i := 82) (by decide +kernel))) rfl
theorem bw_2_45 : Cond.methodLink RX4 26 yX4_begin ∈ BIG := big_of (tin_2 _ (List.mem_of_getElem? (i := 45) (by decide +kernel))) rfl
theorem bw_2_47 : Cond.instanceMethod yX4_begin ∈ BIG := big_of (tin_2 _ (List.mem_of_getElem? (i := 47) (by decide +kernel))) rfl
theorem bw_p_0 : Cond.selects RX4 yX4_begin yX4_begin ∈ BIG := big_of (tin_p _ (List.mem_of_getElem? (i := 0) (by decide +kernel))) rfl
theorem bw_2_48 : Cond.code yX4_begin cX4_begin 1 none ∈ BIG := big_of (tin_2 _ (List.mem_of_getElem? (i := 48) (by decide +kernel))) rfl
theorem bw_1_83 : Cond.fieldLink RX4 50 "SelfScale$Reader" "isOwnTold" "Z" ∈ BIG := big_of (tin_1 _ (List.mem_of_getElem? (i := 83) (by decide +kernel))) rfl
theorem bw_1_84 : Cond.fieldLink RX4 54 "SelfScale$Reader" "areFiguresTold" "Z" ∈ BIG := big_of (tin_1 _ (List.mem_of_getElem? (i := 84) (by decide +kernel))) rfl
theorem bw_1_86 : Cond.fieldLink RX4 57 "SelfScale$Reader" "end" "I" ∈ BIG := big_of (tin_1 _ (List.mem_of_getElem? (i := 86) (by decide +kernel))) rfl
theorem bw_2_49 : Cond.methodLink RX4 47 yX6_reset ∈ BIG := big_of (tin_2 _ (List.mem_of_getElem? (i := 49) (by decide +kernel))) rfl
theorem bw_2_50 : Cond.instanceMethod yX6_reset ∈ BIG := big_of (tin_2 _ (List.mem_of_getElem? (i := 50) (by decide +kernel))) rfl
theorem bw_2_51 : Cond.selects RX6 yX6_reset yX6_reset ∈ BIG := big_of (tin_2 _ (List.mem_of_getElem? (i := 51) (by decide +kernel))) rfl
theorem bw_2_52 : Cond.code yX6_reset cX6_reset 1 none ∈ BIG := big_of (tin_2 _ (List.mem_of_getElem? (i := 52) (by decide +kernel))) rfl
theorem bw_1_66 : Cond.fieldLink RX6 27 "SelfScale$Scale" "things" "I" ∈ BIG := big_of (tin_1 _ (List.mem_of_getElem? (i := 66) (by decide +kernel))) rfl
theorem bw_1_67 : Cond.fieldLink RX6 30 "SelfScale$Scale" "own" "I" ∈ BIG := big_of (tin_1 _ (List.mem_of_getElem? (i := 67) (by decide +kernel))) rfl
theorem bw_2_53 : Cond.methodLink RX4 29 yX4_token ∈ BIG := big_of (tin_2 _ (List.mem_of_getElem? (i := 53) (by decide +kernel))) rfl
theorem bw_2_55 : Cond.instanceMethod yX4_token ∈ BIG := big_of (tin_2 _ (List.mem_of_getElem? (i := 55) (by decide +kernel))) rfl
theorem bw_p_1 : Cond.selects RX4 yX4_token yX4_token ∈ BIG := big_of (tin_p _ (List.mem_of_getElem? (i := 1) (by decide +kernel))) rfl
theorem bw_2_56 : Cond.code yX4_token cX4_token 2 (some .int) ∈ BIG := big_of (tin_2 _ (List.mem_of_getElem? (i := 56) (by decide +kernel))) rfl
theorem bw_2_57 : Cond.methodLink RX4 79 yX4_endOfBlanks ∈ BIG := big_of (tin_2 _ (List.mem_of_getElem? (i := 57) (by decide +kernel))) rfl
theorem bw_2_59 : Cond.instanceMethod yX4_endOfBlanks ∈ BIG := big_of (tin_2 _ (List.mem_of_getElem? (i := 59) (by decide +kernel))) rfl
theorem bw_p_2 : Cond.selects RX4 yX4_endOfBlanks yX4_endOfBlanks ∈ BIG := big_of (tin_p _ (List.mem_of_getElem? (i := 2) (by decide +kernel))) rfl
theorem bw_2_60 : Cond.code yX4_endOfBlanks cX4_endOfBlanks 3 (some .int) ∈ BIG := big_of (tin_2 _ (List.mem_of_getElem? (i := 60) (by decide +kernel))) rfl
theorem bw_2_61 : Cond.methodLink RX4 116 yX7_length ∈ BIG := big_of (tin_2 _ (List.mem_of_getElem? (i := 61) (by decide +kernel))) rfl
theorem bw_2_62 : Cond.methodLink RX4 83 yX7_byteAt ∈ BIG := big_of (tin_2 _ (List.mem_of_getElem? (i := 62) (by decide +kernel))) rfl
theorem bw_2_63 : Cond.instanceMethod yX7_byteAt ∈ BIG := big_of (tin_2 _ (List.mem_of_getElem? (i := 63) (by decide +kernel))) rfl
theorem bw_2_64 : Cond.selects RX7 yX7_byteAt yX7_byteAt ∈ BIG := big_of (tin_2 _ (List.mem_of_getElem? (i := 64) (by decide +kernel))) rfl
theorem bw_2_65 : Cond.code yX7_byteAt cX7_byteAt 2 (some .int) ∈ BIG := big_of (tin_2 _ (List.mem_of_getElem? (i := 65) (by decide +kernel))) rfl
theorem bw_2_66 : Cond.methodLink RX7 24 yX5_get ∈ BIG := big_of (tin_2 _ (List.mem_of_getElem? (i := 66) (by decide +kernel))) rfl
theorem bw_2_67 : Cond.instanceMethod yX5_get ∈ BIG := big_of (tin_2 _ (List.mem_of_getElem? (i := 67) (by decide +kernel))) rfl
theorem bw_2_68 : Cond.selects RX5 yX5_get yX5_get ∈ BIG := big_of (tin_2 _ (List.mem_of_getElem? (i := 68) (by decide +kernel))) rfl
theorem bw_2_69 : Cond.code yX5_get cX5_get 2 (some .int) ∈ BIG := big_of (tin_2 _ (List.mem_of_getElem? (i := 69) (by decide +kernel))) rfl
theorem bw_2_70 : Cond.methodLink RX4 88 yX4_isLetter ∈ BIG := big_of (tin_2 _ (List.mem_of_getElem? (i := 70) (by decide +kernel))) rfl
theorem bw_2_71 : Cond.static yX4_isLetter ∈ BIG := big_of (tin_2 _ (List.mem_of_getElem? (i := 71) (by decide +kernel))) rfl
theorem bw_2_72 : Cond.code yX4_isLetter cX4_isLetter 1 (some .boolean) ∈ BIG := big_of (tin_2 _ (List.mem_of_getElem? (i := 72) (by decide +kernel))) rfl
theorem bw_2_74 : Cond.static yX9_isBetween ∈ BIG := big_of (tin_2 _ (List.mem_of_getElem? (i := 74) (by decide +kernel))) rfl
theorem bw_2_75 : Cond.code yX9_isBetween cX9_isBetween 3 (some .boolean) ∈ BIG := big_of (tin_2 _ (List.mem_of_getElem? (i := 75) (by decide +kernel))) rfl
theorem bw_2_76 : Cond.methodLink RX4 91 yX4_endOfWord ∈ BIG := big_of (tin_2 _ (List.mem_of_getElem? (i := 76) (by decide +kernel))) rfl
theorem bw_2_78 : Cond.instanceMethod yX4_endOfWord ∈ BIG := big_of (tin_2 _ (List.mem_of_getElem? (i := 78) (by decide +kernel))) rfl
theorem bw_p_3 : Cond.selects RX4 yX4_endOfWord yX4_endOfWord ∈ BIG := big_of (tin_p _ (List.mem_of_getElem? (i := 3) (by decide +kernel))) rfl
theorem bw_2_79 : Cond.code yX4_endOfWord cX4_endOfWord 3 (some .int) ∈ BIG := big_of (tin_2 _ (List.mem_of_getElem? (i := 79) (by decide +kernel))) rfl
theorem bw_2_80 : Cond.methodLink RX4 94 yX4_wordToken ∈ BIG := big_of (tin_2 _ (List.mem_of_getElem? (i := 80) (by decide +kernel))) rfl
theorem bw_2_82 : Cond.instanceMethod yX4_wordToken ∈ BIG := big_of (tin_2 _ (List.mem_of_getElem? (i := 82) (by decide +kernel))) rfl
theorem bw_p_4 : Cond.selects RX4 yX4_wordToken yX4_wordToken ∈ BIG := big_of (tin_p _ (List.mem_of_getElem? (i := 4) (by decide +kernel))) rfl
theorem bw_2_83 : Cond.code yX4_wordToken cX4_wordToken 1 (some .int) ∈ BIG := big_of (tin_2 _ (List.mem_of_getElem? (i := 83) (by decide +kernel))) rfl
theorem bw_2_85 : Cond.methodLink RX4 108 yX7_has ∈ BIG := big_of (tin_2 _ (List.mem_of_getElem? (i := 85) (by decide +kernel))) rfl
theorem bw_2_86 : Cond.instanceMethod yX7_has ∈ BIG := big_of (tin_2 _ (List.mem_of_getElem? (i := 86) (by decide +kernel))) rfl
theorem bw_2_87 : Cond.selects RX7 yX7_has yX7_has ∈ BIG := big_of (tin_2 _ (List.mem_of_getElem? (i := 87) (by decide +kernel))) rfl
theorem bw_2_88 : Cond.code yX7_has cX7_has 5 (some .boolean) ∈ BIG := big_of (tin_2 _ (List.mem_of_getElem? (i := 88) (by decide +kernel))) rfl
theorem bw_2_89 : Cond.methodLink RX7 32 yJ0_length_8abf5 ∈ BIG := big_of (tin_2 _ (List.mem_of_getElem? (i := 89) (by decide +kernel))) rfl
theorem bw_2_90 : Cond.instanceMethod yJ0_length_8abf5 ∈ BIG := big_of (tin_2 _ (List.mem_of_getElem? (i := 90) (by decide +kernel))) rfl
theorem bw_2_91 : Cond.selects RJ0 yJ0_length_8abf5 yJ0_length_8abf5 ∈ BIG := big_of (tin_2 _ (List.mem_of_getElem? (i := 91) (by decide +kernel))) rfl
theorem bw_1_12 : Cond.initialized RJ0 ∈ BIG := big_of (tin_1 _ (List.mem_of_getElem? (i := 12) (by decide +kernel))) rfl
theorem bw_2_92 : Cond.code yJ0_length_8abf5 cJ0_length_8abf5 1 (some .int) ∈ BIG := big_of (tin_2 _ (List.mem_of_getElem? (i := 92) (by decide +kernel))) rfl
theorem bw_5_163 : Cond.fieldLink RJ0 9 "java/lang/String" "value" "[B" ∈ BIG := big_of (tin_5 _ (List.mem_of_getElem? (i := 163) (by decide +kernel))) rfl
theorem bw_2_93 : Cond.methodLink RJ0 335 yJ0_coder_7d493 ∈ BIG := big_of (tin_2 _ (List.mem_of_getElem? (i := 93) (by decide +kernel))) rfl
theorem bw_2_94 : Cond.instanceMethod yJ0_coder_7d493 ∈ BIG := big_of (tin_2 _ (List.mem_of_getElem? (i := 94) (by decide +kernel))) rfl
theorem bw_2_95 : Cond.selects RJ0 yJ0_coder_7d493 yJ0_coder_7d493 ∈ BIG := big_of (tin_2 _ (List.mem_of_getElem? (i := 95) (by decide +kernel))) rfl
theorem bw_2_96 : Cond.code yJ0_coder_7d493 cJ0_coder_7d493 1 (some .byte) ∈ BIG := big_of (tin_2 _ (List.mem_of_getElem? (i := 96) (by decide +kernel))) rfl
theorem bw_2_97 : Cond.fieldLink RJ0 38 "java/lang/String" "COMPACT_STRINGS" "Z" ∈ BIG := big_of (tin_2 _ (List.mem_of_getElem? (i := 97) (by decide +kernel))) rfl
theorem bw_5_164 : Cond.fieldLink RJ0 15 "java/lang/String" "coder" "B" ∈ BIG := big_of (tin_5 _ (List.mem_of_getElem? (i := 164) (by decide +kernel))) rfl
theorem bw_2_99 : Cond.methodLink RX7 37 yX7_byteAt ∈ BIG := big_of (tin_2 _ (List.mem_of_getElem? (i := 99) (by decide +kernel))) rfl
theorem bw_2_100 : Cond.methodLink RX7 40 yJ0_charAt_5068e ∈ BIG := big_of (tin_2 _ (List.mem_of_getElem? (i := 100) (by decide +kernel))) rfl
theorem bw_2_101 : Cond.instanceMethod yJ0_charAt_5068e ∈ BIG := big_of (tin_2 _ (List.mem_of_getElem? (i := 101) (by decide +kernel))) rfl
theorem bw_2_102 : Cond.selects RJ0 yJ0_charAt_5068e yJ0_charAt_5068e ∈ BIG := big_of (tin_2 _ (List.mem_of_getElem? (i := 102) (by decide +kernel))) rfl
theorem bw_2_103 : Cond.code yJ0_charAt_5068e cJ0_charAt_5068e 2 (some .char) ∈ BIG := big_of (tin_2 _ (List.mem_of_getElem? (i := 103) (by decide +kernel))) rfl
theorem bw_2_104 : Cond.methodLink RJ0 492 yJ0_isLatin1_aae02 ∈ BIG := big_of (tin_2 _ (List.mem_of_getElem? (i := 104) (by decide +kernel))) rfl
theorem bw_2_105 : Cond.instanceMethod yJ0_isLatin1_aae02 ∈ BIG := big_of (tin_2 _ (List.mem_of_getElem? (i := 105) (by decide +kernel))) rfl
theorem bw_2_106 : Cond.selects RJ0 yJ0_isLatin1_aae02 yJ0_isLatin1_aae02 ∈ BIG := big_of (tin_2 _ (List.mem_of_getElem? (i := 106) (by decide +kernel))) rfl
theorem bw_2_107 : Cond.code yJ0_isLatin1_aae02 cJ0_isLatin1_aae02 1 (some .boolean) ∈ BIG := big_of (tin_2 _ (List.mem_of_getElem? (i := 107) (by decide +kernel))) rfl
theorem bw_2_108 : Cond.methodLink RJ0 495 yJ1_charAt_3b067 ∈ BIG := big_of (tin_2 _ (List.mem_of_getElem? (i := 108) (by decide +kernel))) rfl
theorem bw_2_109 : Cond.static yJ1_charAt_3b067 ∈ BIG := big_of (tin_2 _ (List.mem_of_getElem? (i := 109) (by decide +kernel))) rfl
theorem bw_1_13 : Cond.initialized RJ1 ∈ BIG := big_of (tin_1 _ (List.mem_of_getElem? (i := 13) (by decide +kernel))) rfl
theorem bw_2_110 : Cond.code yJ1_charAt_3b067 cJ1_charAt_3b067 2 (some .char) ∈ BIG := big_of (tin_2 _ (List.mem_of_getElem? (i := 110) (by decide +kernel))) rfl
theorem bw_2_111 : Cond.methodLink RJ1 9 yJ0_checkIndex_df160 ∈ BIG := big_of (tin_2 _ (List.mem_of_getElem? (i := 111) (by decide +kernel))) rfl
theorem bw_2_112 : Cond.static yJ0_checkIndex_df160 ∈ BIG := big_of (tin_2 _ (List.mem_of_getElem? (i := 112) (by decide +kernel))) rfl
theorem bw_2_113 : Cond.code yJ0_checkIndex_df160 cJ0_checkIndex_df160 2 none ∈ BIG := big_of (tin_2 _ (List.mem_of_getElem? (i := 113) (by decide +kernel))) rfl
theorem bw_2_114 : Cond.fieldLink RJ0 1053 "jdk/internal/util/Preconditions" "SIOOBE_FORMATTER" "Ljava/util/function/BiFunction;" ∈ BIG := big_of (tin_2 _ (List.mem_of_getElem? (i := 114) (by decide +kernel))) rfl
theorem bw_2_116 : Cond.methodLink RJ0 1059 yJ3_checkIndex_8e157 ∈ BIG := big_of (tin_2 _ (List.mem_of_getElem? (i := 116) (by decide +kernel))) rfl
theorem bw_2_117 : Cond.static yJ3_checkIndex_8e157 ∈ BIG := big_of (tin_2 _ (List.mem_of_getElem? (i := 117) (by decide +kernel))) rfl
theorem bw_1_14 : Cond.initialized RJ3 ∈ BIG := big_of (tin_1 _ (List.mem_of_getElem? (i := 14) (by decide +kernel))) rfl
theorem bw_2_118 : Cond.code yJ3_checkIndex_8e157 cJ3_checkIndex_8e157 3 (some .int) ∈ BIG := big_of (tin_2 _ (List.mem_of_getElem? (i := 118) (by decide +kernel))) rfl
theorem bw_2_119 : Cond.methodLink RJ0 498 yJ2_charAt_3b067 ∈ BIG := big_of (tin_2 _ (List.mem_of_getElem? (i := 119) (by decide +kernel))) rfl
theorem bw_2_120 : Cond.static yJ2_charAt_3b067 ∈ BIG := big_of (tin_2 _ (List.mem_of_getElem? (i := 120) (by decide +kernel))) rfl
theorem bw_1_15 : Cond.initialized RJ2 ∈ BIG := big_of (tin_1 _ (List.mem_of_getElem? (i := 15) (by decide +kernel))) rfl
theorem bw_2_121 : Cond.code yJ2_charAt_3b067 cJ2_charAt_3b067 2 (some .char) ∈ BIG := big_of (tin_2 _ (List.mem_of_getElem? (i := 121) (by decide +kernel))) rfl
theorem bw_2_122 : Cond.methodLink RJ2 67 yJ2_checkIndex_2214a ∈ BIG := big_of (tin_2 _ (List.mem_of_getElem? (i := 122) (by decide +kernel))) rfl
theorem bw_2_123 : Cond.static yJ2_checkIndex_2214a ∈ BIG := big_of (tin_2 _ (List.mem_of_getElem? (i := 123) (by decide +kernel))) rfl
theorem bw_2_124 : Cond.code yJ2_checkIndex_2214a cJ2_checkIndex_2214a 2 none ∈ BIG := big_of (tin_2 _ (List.mem_of_getElem? (i := 124) (by decide +kernel))) rfl
theorem bw_2_125 : Cond.methodLink RJ2 48 yJ2_length_9d52b ∈ BIG := big_of (tin_2 _ (List.mem_of_getElem? (i := 125) (by decide +kernel))) rfl
theorem bw_2_126 : Cond.static yJ2_length_9d52b ∈ BIG := big_of (tin_2 _ (List.mem_of_getElem? (i := 126) (by decide +kernel))) rfl
theorem bw_2_127 : Cond.code yJ2_length_9d52b cJ2_length_9d52b 1 (some .int) ∈ BIG := big_of (tin_2 _ (List.mem_of_getElem? (i := 127) (by decide +kernel))) rfl
theorem bw_2_128 : Cond.methodLink RJ2 414 yJ0_checkIndex_df160 ∈ BIG := big_of (tin_2 _ (List.mem_of_getElem? (i := 128) (by decide +kernel))) rfl
theorem bw_2_129 : Cond.methodLink RJ2 71 yJ2_getChar_3b067 ∈ BIG := big_of (tin_2 _ (List.mem_of_getElem? (i := 129) (by decide +kernel))) rfl
theorem bw_2_130 : Cond.static yJ2_getChar_3b067 ∈ BIG := big_of (tin_2 _ (List.mem_of_getElem? (i := 130) (by decide +kernel))) rfl
theorem bw_2_131 : Cond.code yJ2_getChar_3b067 cJ2_getChar_3b067 2 (some .char) ∈ BIG := big_of (tin_2 _ (List.mem_of_getElem? (i := 131) (by decide +kernel))) rfl
theorem bw_2_132 : Cond.fieldLink RJ2 44 "java/lang/StringUTF16" "$assertionsDisabled" "Z" ∈ BIG := big_of (tin_2 _ (List.mem_of_getElem? (i := 132) (by decide +kernel))) rfl
theorem bw_2_134 : Cond.fieldLink RJ2 59 "java/lang/StringUTF16" "HI_BYTE_SHIFT" "I" ∈ BIG := big_of (tin_2 _ (List.mem_of_getElem? (i := 134) (by decide +kernel))) rfl
theorem bw_2_136 : Cond.fieldLink RJ2 63 "java/lang/StringUTF16" "LO_BYTE_SHIFT" "I" ∈ BIG := big_of (tin_2 _ (List.mem_of_getElem? (i := 136) (by decide +kernel))) rfl
theorem bw_2_140 : Cond.methodLink RX4 97 yX4_isDigit ∈ BIG := big_of (tin_2 _ (List.mem_of_getElem? (i := 140) (by decide +kernel))) rfl
theorem bw_2_141 : Cond.static yX4_isDigit ∈ BIG := big_of (tin_2 _ (List.mem_of_getElem? (i := 141) (by decide +kernel))) rfl
theorem bw_2_142 : Cond.code yX4_isDigit cX4_isDigit 1 (some .boolean) ∈ BIG := big_of (tin_2 _ (List.mem_of_getElem? (i := 142) (by decide +kernel))) rfl
theorem bw_2_143 : Cond.methodLink RX4 100 yX4_endOfDigits ∈ BIG := big_of (tin_2 _ (List.mem_of_getElem? (i := 143) (by decide +kernel))) rfl
theorem bw_2_145 : Cond.instanceMethod yX4_endOfDigits ∈ BIG := big_of (tin_2 _ (List.mem_of_getElem? (i := 145) (by decide +kernel))) rfl
theorem bw_p_5 : Cond.selects RX4 yX4_endOfDigits yX4_endOfDigits ∈ BIG := big_of (tin_p _ (List.mem_of_getElem? (i := 5) (by decide +kernel))) rfl
theorem bw_2_146 : Cond.code yX4_endOfDigits cX4_endOfDigits 3 (some .int) ∈ BIG := big_of (tin_2 _ (List.mem_of_getElem? (i := 146) (by decide +kernel))) rfl
theorem bw_2_147 : Cond.methodLink RX4 103 yX4_numberToken ∈ BIG := big_of (tin_2 _ (List.mem_of_getElem? (i := 147) (by decide +kernel))) rfl
theorem bw_2_149 : Cond.instanceMethod yX4_numberToken ∈ BIG := big_of (tin_2 _ (List.mem_of_getElem? (i := 149) (by decide +kernel))) rfl
theorem bw_p_6 : Cond.selects RX4 yX4_numberToken yX4_numberToken ∈ BIG := big_of (tin_p _ (List.mem_of_getElem? (i := 6) (by decide +kernel))) rfl
theorem bw_2_150 : Cond.code yX4_numberToken cX4_numberToken 2 (some .int) ∈ BIG := big_of (tin_2 _ (List.mem_of_getElem? (i := 150) (by decide +kernel))) rfl
theorem bw_1_87 : Cond.fieldLink RX4 63 "SelfScale$Reader" "number" "I" ∈ BIG := big_of (tin_1 _ (List.mem_of_getElem? (i := 87) (by decide +kernel))) rfl
theorem bw_2_151 : Cond.methodLink RX4 33 yX4_mayBegin ∈ BIG := big_of (tin_2 _ (List.mem_of_getElem? (i := 151) (by decide +kernel))) rfl
theorem bw_2_153 : Cond.instanceMethod yX4_mayBegin ∈ BIG := big_of (tin_2 _ (List.mem_of_getElem? (i := 153) (by decide +kernel))) rfl
theorem bw_p_7 : Cond.selects RX4 yX4_mayBegin yX4_mayBegin ∈ BIG := big_of (tin_p _ (List.mem_of_getElem? (i := 7) (by decide +kernel))) rfl
theorem bw_2_154 : Cond.code yX4_mayBegin cX4_mayBegin 2 (some .boolean) ∈ BIG := big_of (tin_2 _ (List.mem_of_getElem? (i := 154) (by decide +kernel))) rfl
theorem bw_2_155 : Cond.methodLink RX4 60 yX6_things ∈ BIG := big_of (tin_2 _ (List.mem_of_getElem? (i := 155) (by decide +kernel))) rfl
theorem bw_2_156 : Cond.instanceMethod yX6_things ∈ BIG := big_of (tin_2 _ (List.mem_of_getElem? (i := 156) (by decide +kernel))) rfl
theorem bw_2_157 : Cond.selects RX6 yX6_things yX6_things ∈ BIG := big_of (tin_2 _ (List.mem_of_getElem? (i := 157) (by decide +kernel))) rfl
theorem bw_2_158 : Cond.code yX6_things cX6_things 1 (some .int) ∈ BIG := big_of (tin_2 _ (List.mem_of_getElem? (i := 158) (by decide +kernel))) rfl
theorem bw_2_159 : Cond.methodLink RX4 37 yX4_mayTake ∈ BIG := big_of (tin_2 _ (List.mem_of_getElem? (i := 159) (by decide +kernel))) rfl
theorem bw_2_161 : Cond.instanceMethod yX4_mayTake ∈ BIG := big_of (tin_2 _ (List.mem_of_getElem? (i := 161) (by decide +kernel))) rfl
theorem bw_p_8 : Cond.selects RX4 yX4_mayTake yX4_mayTake ∈ BIG := big_of (tin_p _ (List.mem_of_getElem? (i := 8) (by decide +kernel))) rfl
theorem bw_2_162 : Cond.code yX4_mayTake cX4_mayTake 2 (some .boolean) ∈ BIG := big_of (tin_2 _ (List.mem_of_getElem? (i := 162) (by decide +kernel))) rfl
theorem bw_2_163 : Cond.methodLink RX4 43 yX4_take ∈ BIG := big_of (tin_2 _ (List.mem_of_getElem? (i := 163) (by decide +kernel))) rfl
theorem bw_2_165 : Cond.instanceMethod yX4_take ∈ BIG := big_of (tin_2 _ (List.mem_of_getElem? (i := 165) (by decide +kernel))) rfl
theorem bw_p_9 : Cond.selects RX4 yX4_take yX4_take ∈ BIG := big_of (tin_p _ (List.mem_of_getElem? (i := 9) (by decide +kernel))) rfl
theorem bw_2_166 : Cond.code yX4_take cX4_take 2 none ∈ BIG := big_of (tin_2 _ (List.mem_of_getElem? (i := 166) (by decide +kernel))) rfl
theorem bw_2_167 : Cond.methodLink RX4 70 yX6_addThing ∈ BIG := big_of (tin_2 _ (List.mem_of_getElem? (i := 167) (by decide +kernel))) rfl
theorem bw_2_168 : Cond.instanceMethod yX6_addThing ∈ BIG := big_of (tin_2 _ (List.mem_of_getElem? (i := 168) (by decide +kernel))) rfl
theorem bw_2_169 : Cond.selects RX6 yX6_addThing yX6_addThing ∈ BIG := big_of (tin_2 _ (List.mem_of_getElem? (i := 169) (by decide +kernel))) rfl
theorem bw_2_170 : Cond.code yX6_addThing cX6_addThing 2 none ∈ BIG := big_of (tin_2 _ (List.mem_of_getElem? (i := 170) (by decide +kernel))) rfl
theorem bw_2_171 : Cond.methodLink RX6 37 yX5_put ∈ BIG := big_of (tin_2 _ (List.mem_of_getElem? (i := 171) (by decide +kernel))) rfl
theorem bw_2_172 : Cond.methodLink RX4 73 yX6_setOwn ∈ BIG := big_of (tin_2 _ (List.mem_of_getElem? (i := 172) (by decide +kernel))) rfl
theorem bw_2_173 : Cond.instanceMethod yX6_setOwn ∈ BIG := big_of (tin_2 _ (List.mem_of_getElem? (i := 173) (by decide +kernel))) rfl
theorem bw_2_174 : Cond.selects RX6 yX6_setOwn yX6_setOwn ∈ BIG := big_of (tin_2 _ (List.mem_of_getElem? (i := 174) (by decide +kernel))) rfl
theorem bw_2_175 : Cond.code yX6_setOwn cX6_setOwn 2 none ∈ BIG := big_of (tin_2 _ (List.mem_of_getElem? (i := 175) (by decide +kernel))) rfl
theorem bw_2_176 : Cond.methodLink RX4 76 yX6_setFigures ∈ BIG := big_of (tin_2 _ (List.mem_of_getElem? (i := 176) (by decide +kernel))) rfl
theorem bw_2_177 : Cond.instanceMethod yX6_setFigures ∈ BIG := big_of (tin_2 _ (List.mem_of_getElem? (i := 177) (by decide +kernel))) rfl
theorem bw_2_178 : Cond.selects RX6 yX6_setFigures yX6_setFigures ∈ BIG := big_of (tin_2 _ (List.mem_of_getElem? (i := 178) (by decide +kernel))) rfl
theorem bw_2_179 : Cond.code yX6_setFigures cX6_setFigures 2 none ∈ BIG := big_of (tin_2 _ (List.mem_of_getElem? (i := 179) (by decide +kernel))) rfl
theorem bw_2_180 : Cond.methodLink RX9 88 yX4_told ∈ BIG := big_of (tin_2 _ (List.mem_of_getElem? (i := 180) (by decide +kernel))) rfl
theorem bw_2_181 : Cond.instanceMethod yX4_told ∈ BIG := big_of (tin_2 _ (List.mem_of_getElem? (i := 181) (by decide +kernel))) rfl
theorem bw_2_182 : Cond.selects RX4 yX4_told yX4_told ∈ BIG := big_of (tin_2 _ (List.mem_of_getElem? (i := 182) (by decide +kernel))) rfl
theorem bw_2_183 : Cond.code yX4_told cX4_told 1 (some (.object "SelfScale$Scale")) ∈ BIG := big_of (tin_2 _ (List.mem_of_getElem? (i := 183) (by decide +kernel))) rfl
theorem bw_2_184 : Cond.methodLink RX9 92 yX6_copyFrom ∈ BIG := big_of (tin_2 _ (List.mem_of_getElem? (i := 184) (by decide +kernel))) rfl
theorem bw_2_185 : Cond.instanceMethod yX6_copyFrom ∈ BIG := big_of (tin_2 _ (List.mem_of_getElem? (i := 185) (by decide +kernel))) rfl
theorem bw_2_186 : Cond.selects RX6 yX6_copyFrom yX6_copyFrom ∈ BIG := big_of (tin_2 _ (List.mem_of_getElem? (i := 186) (by decide +kernel))) rfl
theorem bw_2_187 : Cond.code yX6_copyFrom cX6_copyFrom 2 none ∈ BIG := big_of (tin_2 _ (List.mem_of_getElem? (i := 187) (by decide +kernel))) rfl
theorem bw_2_188 : Cond.methodLink RX6 33 yX5_copyFrom ∈ BIG := big_of (tin_2 _ (List.mem_of_getElem? (i := 188) (by decide +kernel))) rfl
theorem bw_2_189 : Cond.instanceMethod yX5_copyFrom ∈ BIG := big_of (tin_2 _ (List.mem_of_getElem? (i := 189) (by decide +kernel))) rfl
theorem bw_2_190 : Cond.selects RX5 yX5_copyFrom yX5_copyFrom ∈ BIG := big_of (tin_2 _ (List.mem_of_getElem? (i := 190) (by decide +kernel))) rfl
theorem bw_2_191 : Cond.code yX5_copyFrom cX5_copyFrom 3 none ∈ BIG := big_of (tin_2 _ (List.mem_of_getElem? (i := 191) (by decide +kernel))) rfl
theorem bw_2_192 : Cond.methodLink RX5 13 yX5_get ∈ BIG := big_of (tin_2 _ (List.mem_of_getElem? (i := 192) (by decide +kernel))) rfl
theorem bw_2_193 : Cond.methodLink RX9 96 yX0_wipe ∈ BIG := big_of (tin_2 _ (List.mem_of_getElem? (i := 193) (by decide +kernel))) rfl
theorem bw_2_194 : Cond.instanceMethod yX0_wipe ∈ BIG := big_of (tin_2 _ (List.mem_of_getElem? (i := 194) (by decide +kernel))) rfl
theorem bw_2_195 : Cond.selects RX0 yX0_wipe yX0_wipe ∈ BIG := big_of (tin_2 _ (List.mem_of_getElem? (i := 195) (by decide +kernel))) rfl
theorem bw_2_196 : Cond.code yX0_wipe cX0_wipe 1 none ∈ BIG := big_of (tin_2 _ (List.mem_of_getElem? (i := 196) (by decide +kernel))) rfl
theorem bw_1_118 : Cond.fieldLink RX0 26 "SelfScale$Book" "lines" "I" ∈ BIG := big_of (tin_1 _ (List.mem_of_getElem? (i := 118) (by decide +kernel))) rfl
theorem bw_2_197 : Cond.methodLink RX9 97 yX1_drop ∈ BIG := big_of (tin_2 _ (List.mem_of_getElem? (i := 197) (by decide +kernel))) rfl
theorem bw_2_198 : Cond.instanceMethod yX1_drop ∈ BIG := big_of (tin_2 _ (List.mem_of_getElem? (i := 198) (by decide +kernel))) rfl
theorem bw_2_199 : Cond.selects RX1 yX1_drop yX1_drop ∈ BIG := big_of (tin_2 _ (List.mem_of_getElem? (i := 199) (by decide +kernel))) rfl
theorem bw_2_200 : Cond.code yX1_drop cX1_drop 1 none ∈ BIG := big_of (tin_2 _ (List.mem_of_getElem? (i := 200) (by decide +kernel))) rfl
theorem bw_1_137 : Cond.fieldLink RX1 20 "SelfScale$Image" "isKept" "Z" ∈ BIG := big_of (tin_1 _ (List.mem_of_getElem? (i := 137) (by decide +kernel))) rfl
theorem bw_2_201 : Cond.methodLink RX9 100 yX8_forget ∈ BIG := big_of (tin_2 _ (List.mem_of_getElem? (i := 201) (by decide +kernel))) rfl
theorem bw_2_202 : Cond.instanceMethod yX8_forget ∈ BIG := big_of (tin_2 _ (List.mem_of_getElem? (i := 202) (by decide +kernel))) rfl
theorem bw_2_203 : Cond.selects RX8 yX8_forget yX8_forget ∈ BIG := big_of (tin_2 _ (List.mem_of_getElem? (i := 203) (by decide +kernel))) rfl
theorem bw_2_204 : Cond.code yX8_forget cX8_forget 1 none ∈ BIG := big_of (tin_2 _ (List.mem_of_getElem? (i := 204) (by decide +kernel))) rfl
theorem bw_1_174 : Cond.fieldLink RX8 40 "SelfScale$Worlds" "isKnown" "Z" ∈ BIG := big_of (tin_1 _ (List.mem_of_getElem? (i := 174) (by decide +kernel))) rfl
theorem bw_2_205 : Cond.methodLink RX9 103 yX4_items ∈ BIG := big_of (tin_2 _ (List.mem_of_getElem? (i := 205) (by decide +kernel))) rfl
theorem bw_2_206 : Cond.instanceMethod yX4_items ∈ BIG := big_of (tin_2 _ (List.mem_of_getElem? (i := 206) (by decide +kernel))) rfl
theorem bw_2_207 : Cond.selects RX4 yX4_items yX4_items ∈ BIG := big_of (tin_2 _ (List.mem_of_getElem? (i := 207) (by decide +kernel))) rfl
theorem bw_2_208 : Cond.code yX4_items cX4_items 1 (some .int) ∈ BIG := big_of (tin_2 _ (List.mem_of_getElem? (i := 208) (by decide +kernel))) rfl
theorem bw_4_209 : Cond.methodLink RL 28 yX10_market ∈ BIG := big_of (tin_4 _ (List.mem_of_getElem? (i := 209) (by decide +kernel))) rfl
theorem bw_4_210 : Cond.instanceMethod yX10_market ∈ BIG := big_of (tin_4 _ (List.mem_of_getElem? (i := 210) (by decide +kernel))) rfl
theorem bw_4_211 : Cond.selects RX10 yX10_market yX10_market ∈ BIG := big_of (tin_4 _ (List.mem_of_getElem? (i := 211) (by decide +kernel))) rfl
theorem bw_4_212 : Cond.code yX10_market cX10_market 3 (some .int) ∈ BIG := big_of (tin_4 _ (List.mem_of_getElem? (i := 212) (by decide +kernel))) rfl
theorem bw_4_141 : Cond.fieldLink RX10 58 "SelfScaleModel" "at" "I" ∈ BIG := big_of (tin_4 _ (List.mem_of_getElem? (i := 141) (by decide +kernel))) rfl
theorem bw_4_145 : Cond.fieldLink RX10 76 "SelfScaleModel" "fault" "I" ∈ BIG := big_of (tin_4 _ (List.mem_of_getElem? (i := 145) (by decide +kernel))) rfl
theorem bw_4_146 : Cond.fieldLink RX10 86 "SelfScaleModel" "told" "I" ∈ BIG := big_of (tin_4 _ (List.mem_of_getElem? (i := 146) (by decide +kernel))) rfl
theorem bw_4_143 : Cond.fieldLink RX10 71 "SelfScaleModel" "sort" "I" ∈ BIG := big_of (tin_4 _ (List.mem_of_getElem? (i := 143) (by decide +kernel))) rfl
theorem bw_4_213 : Cond.methodLink RX10 79 yX10_nextToken ∈ BIG := big_of (tin_4 _ (List.mem_of_getElem? (i := 213) (by decide +kernel))) rfl
theorem bw_4_215 : Cond.instanceMethod yX10_nextToken ∈ BIG := big_of (tin_4 _ (List.mem_of_getElem? (i := 215) (by decide +kernel))) rfl
theorem bw_p_34 : Cond.selects RX10 yX10_nextToken yX10_nextToken ∈ BIG := big_of (tin_p _ (List.mem_of_getElem? (i := 34) (by decide +kernel))) rfl
theorem bw_4_216 : Cond.code yX10_nextToken cX10_nextToken 5 none ∈ BIG := big_of (tin_4 _ (List.mem_of_getElem? (i := 216) (by decide +kernel))) rfl
theorem bw_4_142 : Cond.fieldLink RX10 65 "SelfScaleModel" "start" "I" ∈ BIG := big_of (tin_4 _ (List.mem_of_getElem? (i := 142) (by decide +kernel))) rfl
theorem bw_4_144 : Cond.fieldLink RX10 68 "SelfScaleModel" "value" "I" ∈ BIG := big_of (tin_4 _ (List.mem_of_getElem? (i := 144) (by decide +kernel))) rfl
theorem bw_4_221 : Cond.constant RX10 74 (10793230) ∈ BIG := big_of (tin_4 _ (List.mem_of_getElem? (i := 221) (by decide +kernel))) rfl
theorem bw_4_222 : Cond.constant RX10 75 (91029992) ∈ BIG := big_of (tin_4 _ (List.mem_of_getElem? (i := 222) (by decide +kernel))) rfl
theorem bw_4_217 : Cond.methodLink RX10 61 yX10_here ∈ BIG := big_of (tin_4 _ (List.mem_of_getElem? (i := 217) (by decide +kernel))) rfl
theorem bw_4_219 : Cond.instanceMethod yX10_here ∈ BIG := big_of (tin_4 _ (List.mem_of_getElem? (i := 219) (by decide +kernel))) rfl
theorem bw_p_35 : Cond.selects RX10 yX10_here yX10_here ∈ BIG := big_of (tin_p _ (List.mem_of_getElem? (i := 35) (by decide +kernel))) rfl
theorem bw_4_220 : Cond.code yX10_here cX10_here 1 (some .int) ∈ BIG := big_of (tin_4 _ (List.mem_of_getElem? (i := 220) (by decide +kernel))) rfl
theorem bw_4_223 : Cond.methodLink RX10 93 yX10_readItem ∈ BIG := big_of (tin_4 _ (List.mem_of_getElem? (i := 223) (by decide +kernel))) rfl
theorem bw_4_225 : Cond.instanceMethod yX10_readItem ∈ BIG := big_of (tin_4 _ (List.mem_of_getElem? (i := 225) (by decide +kernel))) rfl
theorem bw_p_36 : Cond.selects RX10 yX10_readItem yX10_readItem ∈ BIG := big_of (tin_p _ (List.mem_of_getElem? (i := 36) (by decide +kernel))) rfl
theorem bw_4_226 : Cond.code yX10_readItem cX10_readItem 2 none ∈ BIG := big_of (tin_4 _ (List.mem_of_getElem? (i := 226) (by decide +kernel))) rfl
theorem bw_4_227 : Cond.methodLink RX10 82 yX10_due ∈ BIG := big_of (tin_4 _ (List.mem_of_getElem? (i := 227) (by decide +kernel))) rfl
theorem bw_4_229 : Cond.instanceMethod yX10_due ∈ BIG := big_of (tin_4 _ (List.mem_of_getElem? (i := 229) (by decide +kernel))) rfl
theorem bw_p_37 : Cond.selects RX10 yX10_due yX10_due ∈ BIG := big_of (tin_p _ (List.mem_of_getElem? (i := 37) (by decide +kernel))) rfl
theorem bw_4_230 : Cond.code yX10_due cX10_due 3 (some .int) ∈ BIG := big_of (tin_4 _ (List.mem_of_getElem? (i := 230) (by decide +kernel))) rfl
theorem bw_4_231 : Cond.methodLink RX10 89 yX10_number ∈ BIG := big_of (tin_4 _ (List.mem_of_getElem? (i := 231) (by decide +kernel))) rfl
theorem bw_4_233 : Cond.instanceMethod yX10_number ∈ BIG := big_of (tin_4 _ (List.mem_of_getElem? (i := 233) (by decide +kernel))) rfl
theorem bw_p_38 : Cond.selects RX10 yX10_number yX10_number ∈ BIG := big_of (tin_p _ (List.mem_of_getElem? (i := 38) (by decide +kernel))) rfl
theorem bw_4_234 : Cond.code yX10_number cX10_number 3 (some .int) ∈ BIG := big_of (tin_4 _ (List.mem_of_getElem? (i := 234) (by decide +kernel))) rfl
theorem bw_2_210 : Cond.methodLink RL 29 yX9_thing ∈ BIG := big_of (tin_2 _ (List.mem_of_getElem? (i := 210) (by decide +kernel))) rfl
theorem bw_2_211 : Cond.instanceMethod yX9_thing ∈ BIG := big_of (tin_2 _ (List.mem_of_getElem? (i := 211) (by decide +kernel))) rfl
theorem bw_2_212 : Cond.selects RX9 yX9_thing yX9_thing ∈ BIG := big_of (tin_2 _ (List.mem_of_getElem? (i := 212) (by decide +kernel))) rfl
theorem bw_2_213 : Cond.code yX9_thing cX9_thing 2 (some .int) ∈ BIG := big_of (tin_2 _ (List.mem_of_getElem? (i := 213) (by decide +kernel))) rfl
theorem bw_2_214 : Cond.methodLink RX9 106 yX9_isItem ∈ BIG := big_of (tin_2 _ (List.mem_of_getElem? (i := 214) (by decide +kernel))) rfl
theorem bw_2_216 : Cond.instanceMethod yX9_isItem ∈ BIG := big_of (tin_2 _ (List.mem_of_getElem? (i := 216) (by decide +kernel))) rfl
theorem bw_p_10 : Cond.selects RX9 yX9_isItem yX9_isItem ∈ BIG := big_of (tin_p _ (List.mem_of_getElem? (i := 10) (by decide +kernel))) rfl
theorem bw_2_217 : Cond.code yX9_isItem cX9_isItem 2 (some .boolean) ∈ BIG := big_of (tin_2 _ (List.mem_of_getElem? (i := 217) (by decide +kernel))) rfl
theorem bw_2_218 : Cond.methodLink RX9 179 yX6_things ∈ BIG := big_of (tin_2 _ (List.mem_of_getElem? (i := 218) (by decide +kernel))) rfl
theorem bw_2_219 : Cond.methodLink RX9 117 yX9_isBetween ∈ BIG := big_of (tin_2 _ (List.mem_of_getElem? (i := 219) (by decide +kernel))) rfl
theorem bw_2_220 : Cond.methodLink RX9 110 yX6_weightOf ∈ BIG := big_of (tin_2 _ (List.mem_of_getElem? (i := 220) (by decide +kernel))) rfl
theorem bw_2_221 : Cond.instanceMethod yX6_weightOf ∈ BIG := big_of (tin_2 _ (List.mem_of_getElem? (i := 221) (by decide +kernel))) rfl
theorem bw_2_222 : Cond.selects RX6 yX6_weightOf yX6_weightOf ∈ BIG := big_of (tin_2 _ (List.mem_of_getElem? (i := 222) (by decide +kernel))) rfl
theorem bw_2_223 : Cond.code yX6_weightOf cX6_weightOf 2 (some .int) ∈ BIG := big_of (tin_2 _ (List.mem_of_getElem? (i := 223) (by decide +kernel))) rfl
theorem bw_2_224 : Cond.methodLink RX6 41 yX5_get ∈ BIG := big_of (tin_2 _ (List.mem_of_getElem? (i := 224) (by decide +kernel))) rfl
theorem bw_4_235 : Cond.methodLink RL 33 yX10_thing ∈ BIG := big_of (tin_4 _ (List.mem_of_getElem? (i := 235) (by decide +kernel))) rfl
theorem bw_4_236 : Cond.instanceMethod yX10_thing ∈ BIG := big_of (tin_4 _ (List.mem_of_getElem? (i := 236) (by decide +kernel))) rfl
theorem bw_4_237 : Cond.selects RX10 yX10_thing yX10_thing ∈ BIG := big_of (tin_4 _ (List.mem_of_getElem? (i := 237) (by decide +kernel))) rfl
theorem bw_4_238 : Cond.code yX10_thing cX10_thing 2 (some .int) ∈ BIG := big_of (tin_4 _ (List.mem_of_getElem? (i := 238) (by decide +kernel))) rfl
theorem bw_4_239 : Cond.methodLink RX10 96 yX10_isThing ∈ BIG := big_of (tin_4 _ (List.mem_of_getElem? (i := 239) (by decide +kernel))) rfl
theorem bw_5_1 : Cond.instanceMethod yX10_isThing ∈ BIG := big_of (tin_5 _ (List.mem_of_getElem? (i := 1) (by decide +kernel))) rfl
theorem bw_p_39 : Cond.selects RX10 yX10_isThing yX10_isThing ∈ BIG := big_of (tin_p _ (List.mem_of_getElem? (i := 39) (by decide +kernel))) rfl
theorem bw_5_2 : Cond.code yX10_isThing cX10_isThing 2 (some .boolean) ∈ BIG := big_of (tin_5 _ (List.mem_of_getElem? (i := 2) (by decide +kernel))) rfl
theorem bw_2_225 : Cond.methodLink RL 34 yX9_weigh ∈ BIG := big_of (tin_2 _ (List.mem_of_getElem? (i := 225) (by decide +kernel))) rfl
theorem bw_2_226 : Cond.instanceMethod yX9_weigh ∈ BIG := big_of (tin_2 _ (List.mem_of_getElem? (i := 226) (by decide +kernel))) rfl
theorem bw_2_227 : Cond.selects RX9 yX9_weigh yX9_weigh ∈ BIG := big_of (tin_2 _ (List.mem_of_getElem? (i := 227) (by decide +kernel))) rfl
theorem bw_2_228 : Cond.code yX9_weigh cX9_weigh 5 (some .int) ∈ BIG := big_of (tin_2 _ (List.mem_of_getElem? (i := 228) (by decide +kernel))) rfl
theorem bw_2_229 : Cond.methodLink RX9 114 yX9_isSet ∈ BIG := big_of (tin_2 _ (List.mem_of_getElem? (i := 229) (by decide +kernel))) rfl
theorem bw_2_231 : Cond.instanceMethod yX9_isSet ∈ BIG := big_of (tin_2 _ (List.mem_of_getElem? (i := 231) (by decide +kernel))) rfl
theorem bw_p_11 : Cond.selects RX9 yX9_isSet yX9_isSet ∈ BIG := big_of (tin_p _ (List.mem_of_getElem? (i := 11) (by decide +kernel))) rfl
theorem bw_2_232 : Cond.code yX9_isSet cX9_isSet 2 (some .boolean) ∈ BIG := big_of (tin_2 _ (List.mem_of_getElem? (i := 232) (by decide +kernel))) rfl
theorem bw_2_233 : Cond.methodLink RX9 249 yX6_sets ∈ BIG := big_of (tin_2 _ (List.mem_of_getElem? (i := 233) (by decide +kernel))) rfl
theorem bw_2_234 : Cond.instanceMethod yX6_sets ∈ BIG := big_of (tin_2 _ (List.mem_of_getElem? (i := 234) (by decide +kernel))) rfl
theorem bw_2_235 : Cond.selects RX6 yX6_sets yX6_sets ∈ BIG := big_of (tin_2 _ (List.mem_of_getElem? (i := 235) (by decide +kernel))) rfl
theorem bw_2_236 : Cond.code yX6_sets cX6_sets 1 (some .int) ∈ BIG := big_of (tin_2 _ (List.mem_of_getElem? (i := 236) (by decide +kernel))) rfl
theorem bw_2_237 : Cond.methodLink RX9 121 yX0_isFull ∈ BIG := big_of (tin_2 _ (List.mem_of_getElem? (i := 237) (by decide +kernel))) rfl
theorem bw_2_238 : Cond.instanceMethod yX0_isFull ∈ BIG := big_of (tin_2 _ (List.mem_of_getElem? (i := 238) (by decide +kernel))) rfl
theorem bw_2_239 : Cond.selects RX0 yX0_isFull yX0_isFull ∈ BIG := big_of (tin_2 _ (List.mem_of_getElem? (i := 239) (by decide +kernel))) rfl
theorem bw_3_0 : Cond.code yX0_isFull cX0_isFull 1 (some .boolean) ∈ BIG := big_of (tin_3 _ (List.mem_of_getElem? (i := 0) (by decide +kernel))) rfl
theorem bw_3_1 : Cond.methodLink RX9 125 yX6_loadOf ∈ BIG := big_of (tin_3 _ (List.mem_of_getElem? (i := 1) (by decide +kernel))) rfl
theorem bw_3_2 : Cond.instanceMethod yX6_loadOf ∈ BIG := big_of (tin_3 _ (List.mem_of_getElem? (i := 2) (by decide +kernel))) rfl
theorem bw_3_3 : Cond.selects RX6 yX6_loadOf yX6_loadOf ∈ BIG := big_of (tin_3 _ (List.mem_of_getElem? (i := 3) (by decide +kernel))) rfl
theorem bw_3_4 : Cond.code yX6_loadOf cX6_loadOf 4 (some .int) ∈ BIG := big_of (tin_3 _ (List.mem_of_getElem? (i := 4) (by decide +kernel))) rfl
theorem bw_3_5 : Cond.methodLink RX9 128 yX6_own ∈ BIG := big_of (tin_3 _ (List.mem_of_getElem? (i := 5) (by decide +kernel))) rfl
theorem bw_3_6 : Cond.instanceMethod yX6_own ∈ BIG := big_of (tin_3 _ (List.mem_of_getElem? (i := 6) (by decide +kernel))) rfl
theorem bw_3_7 : Cond.selects RX6 yX6_own yX6_own ∈ BIG := big_of (tin_3 _ (List.mem_of_getElem? (i := 7) (by decide +kernel))) rfl
theorem bw_3_8 : Cond.code yX6_own cX6_own 1 (some .int) ∈ BIG := big_of (tin_3 _ (List.mem_of_getElem? (i := 8) (by decide +kernel))) rfl
theorem bw_3_9 : Cond.methodLink RX9 131 yX6_leftOver ∈ BIG := big_of (tin_3 _ (List.mem_of_getElem? (i := 9) (by decide +kernel))) rfl
theorem bw_3_10 : Cond.instanceMethod yX6_leftOver ∈ BIG := big_of (tin_3 _ (List.mem_of_getElem? (i := 10) (by decide +kernel))) rfl
theorem bw_3_11 : Cond.selects RX6 yX6_leftOver yX6_leftOver ∈ BIG := big_of (tin_3 _ (List.mem_of_getElem? (i := 11) (by decide +kernel))) rfl
theorem bw_3_12 : Cond.code yX6_leftOver cX6_leftOver 2 (some .int) ∈ BIG := big_of (tin_3 _ (List.mem_of_getElem? (i := 12) (by decide +kernel))) rfl
theorem bw_3_13 : Cond.methodLink RX9 134 yX0_add ∈ BIG := big_of (tin_3 _ (List.mem_of_getElem? (i := 13) (by decide +kernel))) rfl
theorem bw_3_14 : Cond.instanceMethod yX0_add ∈ BIG := big_of (tin_3 _ (List.mem_of_getElem? (i := 14) (by decide +kernel))) rfl
theorem bw_3_15 : Cond.selects RX0 yX0_add yX0_add ∈ BIG := big_of (tin_3 _ (List.mem_of_getElem? (i := 15) (by decide +kernel))) rfl
theorem bw_3_16 : Cond.code yX0_add cX0_add 4 none ∈ BIG := big_of (tin_3 _ (List.mem_of_getElem? (i := 16) (by decide +kernel))) rfl
theorem bw_3_17 : Cond.methodLink RX0 30 yX0_isFull ∈ BIG := big_of (tin_3 _ (List.mem_of_getElem? (i := 17) (by decide +kernel))) rfl
theorem bw_3_18 : Cond.methodLink RX0 34 yX5_put ∈ BIG := big_of (tin_3 _ (List.mem_of_getElem? (i := 18) (by decide +kernel))) rfl
theorem bw_5_3 : Cond.methodLink RL 38 yX10_weigh ∈ BIG := big_of (tin_5 _ (List.mem_of_getElem? (i := 3) (by decide +kernel))) rfl
theorem bw_5_4 : Cond.instanceMethod yX10_weigh ∈ BIG := big_of (tin_5 _ (List.mem_of_getElem? (i := 4) (by decide +kernel))) rfl
theorem bw_5_5 : Cond.selects RX10 yX10_weigh yX10_weigh ∈ BIG := big_of (tin_5 _ (List.mem_of_getElem? (i := 5) (by decide +kernel))) rfl
theorem bw_5_6 : Cond.code yX10_weigh cX10_weigh 5 (some .int) ∈ BIG := big_of (tin_5 _ (List.mem_of_getElem? (i := 6) (by decide +kernel))) rfl
theorem bw_5_7 : Cond.methodLink RX10 100 yX10_isSet ∈ BIG := big_of (tin_5 _ (List.mem_of_getElem? (i := 7) (by decide +kernel))) rfl
theorem bw_5_9 : Cond.instanceMethod yX10_isSet ∈ BIG := big_of (tin_5 _ (List.mem_of_getElem? (i := 9) (by decide +kernel))) rfl
theorem bw_p_40 : Cond.selects RX10 yX10_isSet yX10_isSet ∈ BIG := big_of (tin_p _ (List.mem_of_getElem? (i := 40) (by decide +kernel))) rfl
theorem bw_5_10 : Cond.code yX10_isSet cX10_isSet 2 (some .boolean) ∈ BIG := big_of (tin_5 _ (List.mem_of_getElem? (i := 10) (by decide +kernel))) rfl
theorem bw_5_11 : Cond.methodLink RX10 103 yX10_trueSum ∈ BIG := big_of (tin_5 _ (List.mem_of_getElem? (i := 11) (by decide +kernel))) rfl
theorem bw_5_13 : Cond.instanceMethod yX10_trueSum ∈ BIG := big_of (tin_5 _ (List.mem_of_getElem? (i := 13) (by decide +kernel))) rfl
theorem bw_p_41 : Cond.selects RX10 yX10_trueSum yX10_trueSum ∈ BIG := big_of (tin_p _ (List.mem_of_getElem? (i := 41) (by decide +kernel))) rfl
theorem bw_5_14 : Cond.code yX10_trueSum cX10_trueSum 4 (some .int) ∈ BIG := big_of (tin_5 _ (List.mem_of_getElem? (i := 14) (by decide +kernel))) rfl
theorem bw_5_15 : Cond.methodLink RX10 107 yX10_put ∈ BIG := big_of (tin_5 _ (List.mem_of_getElem? (i := 15) (by decide +kernel))) rfl
theorem bw_5_17 : Cond.instanceMethod yX10_put ∈ BIG := big_of (tin_5 _ (List.mem_of_getElem? (i := 17) (by decide +kernel))) rfl
theorem bw_p_42 : Cond.selects RX10 yX10_put yX10_put ∈ BIG := big_of (tin_p _ (List.mem_of_getElem? (i := 42) (by decide +kernel))) rfl
theorem bw_5_18 : Cond.code yX10_put cX10_put 4 none ∈ BIG := big_of (tin_5 _ (List.mem_of_getElem? (i := 18) (by decide +kernel))) rfl
theorem bw_3_19 : Cond.methodLink RL 39 yX9_tell ∈ BIG := big_of (tin_3 _ (List.mem_of_getElem? (i := 19) (by decide +kernel))) rfl
theorem bw_3_20 : Cond.instanceMethod yX9_tell ∈ BIG := big_of (tin_3 _ (List.mem_of_getElem? (i := 20) (by decide +kernel))) rfl
theorem bw_3_21 : Cond.selects RX9 yX9_tell yX9_tell ∈ BIG := big_of (tin_3 _ (List.mem_of_getElem? (i := 21) (by decide +kernel))) rfl
theorem bw_3_22 : Cond.code yX9_tell cX9_tell 4 (some .int) ∈ BIG := big_of (tin_3 _ (List.mem_of_getElem? (i := 22) (by decide +kernel))) rfl
theorem bw_3_23 : Cond.methodLink RX9 138 yX6_figures ∈ BIG := big_of (tin_3 _ (List.mem_of_getElem? (i := 23) (by decide +kernel))) rfl
theorem bw_3_24 : Cond.instanceMethod yX6_figures ∈ BIG := big_of (tin_3 _ (List.mem_of_getElem? (i := 24) (by decide +kernel))) rfl
theorem bw_3_25 : Cond.selects RX6 yX6_figures yX6_figures ∈ BIG := big_of (tin_3 _ (List.mem_of_getElem? (i := 25) (by decide +kernel))) rfl
theorem bw_3_26 : Cond.code yX6_figures cX6_figures 1 (some .int) ∈ BIG := big_of (tin_3 _ (List.mem_of_getElem? (i := 26) (by decide +kernel))) rfl
theorem bw_3_27 : Cond.methodLink RX9 141 yX0_lines ∈ BIG := big_of (tin_3 _ (List.mem_of_getElem? (i := 27) (by decide +kernel))) rfl
theorem bw_3_28 : Cond.instanceMethod yX0_lines ∈ BIG := big_of (tin_3 _ (List.mem_of_getElem? (i := 28) (by decide +kernel))) rfl
theorem bw_3_29 : Cond.selects RX0 yX0_lines yX0_lines ∈ BIG := big_of (tin_3 _ (List.mem_of_getElem? (i := 29) (by decide +kernel))) rfl
theorem bw_3_30 : Cond.code yX0_lines cX0_lines 1 (some .int) ∈ BIG := big_of (tin_3 _ (List.mem_of_getElem? (i := 30) (by decide +kernel))) rfl
theorem bw_5_19 : Cond.methodLink RL 42 yX10_tell ∈ BIG := big_of (tin_5 _ (List.mem_of_getElem? (i := 19) (by decide +kernel))) rfl
theorem bw_5_20 : Cond.instanceMethod yX10_tell ∈ BIG := big_of (tin_5 _ (List.mem_of_getElem? (i := 20) (by decide +kernel))) rfl
theorem bw_5_21 : Cond.selects RX10 yX10_tell yX10_tell ∈ BIG := big_of (tin_5 _ (List.mem_of_getElem? (i := 21) (by decide +kernel))) rfl
theorem bw_5_22 : Cond.code yX10_tell cX10_tell 4 (some .int) ∈ BIG := big_of (tin_5 _ (List.mem_of_getElem? (i := 22) (by decide +kernel))) rfl
theorem bw_3_31 : Cond.methodLink RL 43 yX9_line ∈ BIG := big_of (tin_3 _ (List.mem_of_getElem? (i := 31) (by decide +kernel))) rfl
theorem bw_3_32 : Cond.instanceMethod yX9_line ∈ BIG := big_of (tin_3 _ (List.mem_of_getElem? (i := 32) (by decide +kernel))) rfl
theorem bw_3_33 : Cond.selects RX9 yX9_line yX9_line ∈ BIG := big_of (tin_3 _ (List.mem_of_getElem? (i := 33) (by decide +kernel))) rfl
theorem bw_3_34 : Cond.code yX9_line cX9_line 3 (some .int) ∈ BIG := big_of (tin_3 _ (List.mem_of_getElem? (i := 34) (by decide +kernel))) rfl
theorem bw_3_35 : Cond.methodLink RX9 144 yX9_isLine ∈ BIG := big_of (tin_3 _ (List.mem_of_getElem? (i := 35) (by decide +kernel))) rfl
theorem bw_3_37 : Cond.instanceMethod yX9_isLine ∈ BIG := big_of (tin_3 _ (List.mem_of_getElem? (i := 37) (by decide +kernel))) rfl
theorem bw_p_12 : Cond.selects RX9 yX9_isLine yX9_isLine ∈ BIG := big_of (tin_p _ (List.mem_of_getElem? (i := 12) (by decide +kernel))) rfl
theorem bw_3_38 : Cond.code yX9_isLine cX9_isLine 2 (some .boolean) ∈ BIG := big_of (tin_3 _ (List.mem_of_getElem? (i := 38) (by decide +kernel))) rfl
theorem bw_3_39 : Cond.methodLink RX9 147 yX0_setOf ∈ BIG := big_of (tin_3 _ (List.mem_of_getElem? (i := 39) (by decide +kernel))) rfl
theorem bw_3_40 : Cond.instanceMethod yX0_setOf ∈ BIG := big_of (tin_3 _ (List.mem_of_getElem? (i := 40) (by decide +kernel))) rfl
theorem bw_3_41 : Cond.selects RX0 yX0_setOf yX0_setOf ∈ BIG := big_of (tin_3 _ (List.mem_of_getElem? (i := 41) (by decide +kernel))) rfl
theorem bw_3_42 : Cond.code yX0_setOf cX0_setOf 2 (some .int) ∈ BIG := big_of (tin_3 _ (List.mem_of_getElem? (i := 42) (by decide +kernel))) rfl
theorem bw_3_43 : Cond.methodLink RX0 42 yX5_get ∈ BIG := big_of (tin_3 _ (List.mem_of_getElem? (i := 43) (by decide +kernel))) rfl
theorem bw_3_44 : Cond.methodLink RX9 150 yX0_shownOf ∈ BIG := big_of (tin_3 _ (List.mem_of_getElem? (i := 44) (by decide +kernel))) rfl
theorem bw_3_45 : Cond.instanceMethod yX0_shownOf ∈ BIG := big_of (tin_3 _ (List.mem_of_getElem? (i := 45) (by decide +kernel))) rfl
theorem bw_3_46 : Cond.selects RX0 yX0_shownOf yX0_shownOf ∈ BIG := big_of (tin_3 _ (List.mem_of_getElem? (i := 46) (by decide +kernel))) rfl
theorem bw_3_47 : Cond.code yX0_shownOf cX0_shownOf 2 (some .int) ∈ BIG := big_of (tin_3 _ (List.mem_of_getElem? (i := 47) (by decide +kernel))) rfl
theorem bw_3_48 : Cond.methodLink RX9 153 yX0_laughOf ∈ BIG := big_of (tin_3 _ (List.mem_of_getElem? (i := 48) (by decide +kernel))) rfl
theorem bw_3_49 : Cond.instanceMethod yX0_laughOf ∈ BIG := big_of (tin_3 _ (List.mem_of_getElem? (i := 49) (by decide +kernel))) rfl
theorem bw_3_50 : Cond.selects RX0 yX0_laughOf yX0_laughOf ∈ BIG := big_of (tin_3 _ (List.mem_of_getElem? (i := 50) (by decide +kernel))) rfl
theorem bw_3_51 : Cond.code yX0_laughOf cX0_laughOf 2 (some .int) ∈ BIG := big_of (tin_3 _ (List.mem_of_getElem? (i := 51) (by decide +kernel))) rfl
theorem bw_5_23 : Cond.methodLink RL 47 yX10_line ∈ BIG := big_of (tin_5 _ (List.mem_of_getElem? (i := 23) (by decide +kernel))) rfl
theorem bw_5_24 : Cond.instanceMethod yX10_line ∈ BIG := big_of (tin_5 _ (List.mem_of_getElem? (i := 24) (by decide +kernel))) rfl
theorem bw_5_25 : Cond.selects RX10 yX10_line yX10_line ∈ BIG := big_of (tin_5 _ (List.mem_of_getElem? (i := 25) (by decide +kernel))) rfl
theorem bw_5_26 : Cond.code yX10_line cX10_line 3 (some .int) ∈ BIG := big_of (tin_5 _ (List.mem_of_getElem? (i := 26) (by decide +kernel))) rfl
theorem bw_5_27 : Cond.methodLink RX10 111 yX10_isLine ∈ BIG := big_of (tin_5 _ (List.mem_of_getElem? (i := 27) (by decide +kernel))) rfl
theorem bw_5_29 : Cond.instanceMethod yX10_isLine ∈ BIG := big_of (tin_5 _ (List.mem_of_getElem? (i := 29) (by decide +kernel))) rfl
theorem bw_p_43 : Cond.selects RX10 yX10_isLine yX10_isLine ∈ BIG := big_of (tin_p _ (List.mem_of_getElem? (i := 43) (by decide +kernel))) rfl
theorem bw_5_30 : Cond.code yX10_isLine cX10_isLine 2 (some .boolean) ∈ BIG := big_of (tin_5 _ (List.mem_of_getElem? (i := 30) (by decide +kernel))) rfl
theorem bw_3_52 : Cond.methodLink RL 48 yX9_undo ∈ BIG := big_of (tin_3 _ (List.mem_of_getElem? (i := 52) (by decide +kernel))) rfl
theorem bw_3_53 : Cond.instanceMethod yX9_undo ∈ BIG := big_of (tin_3 _ (List.mem_of_getElem? (i := 53) (by decide +kernel))) rfl
theorem bw_3_54 : Cond.selects RX9 yX9_undo yX9_undo ∈ BIG := big_of (tin_3 _ (List.mem_of_getElem? (i := 54) (by decide +kernel))) rfl
theorem bw_3_55 : Cond.code yX9_undo cX9_undo 1 (some .int) ∈ BIG := big_of (tin_3 _ (List.mem_of_getElem? (i := 55) (by decide +kernel))) rfl
theorem bw_3_56 : Cond.methodLink RX9 156 yX0_dropLatest ∈ BIG := big_of (tin_3 _ (List.mem_of_getElem? (i := 56) (by decide +kernel))) rfl
theorem bw_3_57 : Cond.instanceMethod yX0_dropLatest ∈ BIG := big_of (tin_3 _ (List.mem_of_getElem? (i := 57) (by decide +kernel))) rfl
theorem bw_3_58 : Cond.selects RX0 yX0_dropLatest yX0_dropLatest ∈ BIG := big_of (tin_3 _ (List.mem_of_getElem? (i := 58) (by decide +kernel))) rfl
theorem bw_3_59 : Cond.code yX0_dropLatest cX0_dropLatest 1 none ∈ BIG := big_of (tin_3 _ (List.mem_of_getElem? (i := 59) (by decide +kernel))) rfl
theorem bw_5_31 : Cond.methodLink RL 51 yX10_undo ∈ BIG := big_of (tin_5 _ (List.mem_of_getElem? (i := 31) (by decide +kernel))) rfl
theorem bw_5_32 : Cond.instanceMethod yX10_undo ∈ BIG := big_of (tin_5 _ (List.mem_of_getElem? (i := 32) (by decide +kernel))) rfl
theorem bw_5_33 : Cond.selects RX10 yX10_undo yX10_undo ∈ BIG := big_of (tin_5 _ (List.mem_of_getElem? (i := 33) (by decide +kernel))) rfl
theorem bw_5_34 : Cond.code yX10_undo cX10_undo 1 (some .int) ∈ BIG := big_of (tin_5 _ (List.mem_of_getElem? (i := 34) (by decide +kernel))) rfl
theorem bw_3_60 : Cond.methodLink RL 52 yX9_could ∈ BIG := big_of (tin_3 _ (List.mem_of_getElem? (i := 60) (by decide +kernel))) rfl
theorem bw_3_61 : Cond.instanceMethod yX9_could ∈ BIG := big_of (tin_3 _ (List.mem_of_getElem? (i := 61) (by decide +kernel))) rfl
theorem bw_3_62 : Cond.selects RX9 yX9_could yX9_could ∈ BIG := big_of (tin_3 _ (List.mem_of_getElem? (i := 62) (by decide +kernel))) rfl
theorem bw_3_63 : Cond.code yX9_could cX9_could 3 (some .int) ∈ BIG := big_of (tin_3 _ (List.mem_of_getElem? (i := 63) (by decide +kernel))) rfl
theorem bw_3_64 : Cond.methodLink RX9 159 yX9_known ∈ BIG := big_of (tin_3 _ (List.mem_of_getElem? (i := 64) (by decide +kernel))) rfl
theorem bw_3_66 : Cond.instanceMethod yX9_known ∈ BIG := big_of (tin_3 _ (List.mem_of_getElem? (i := 66) (by decide +kernel))) rfl
theorem bw_p_13 : Cond.selects RX9 yX9_known yX9_known ∈ BIG := big_of (tin_p _ (List.mem_of_getElem? (i := 13) (by decide +kernel))) rfl
theorem bw_3_67 : Cond.code yX9_known cX9_known 1 (some (.object "SelfScale$Worlds")) ∈ BIG := big_of (tin_3 _ (List.mem_of_getElem? (i := 67) (by decide +kernel))) rfl
theorem bw_3_68 : Cond.methodLink RX9 182 yX8_learn ∈ BIG := big_of (tin_3 _ (List.mem_of_getElem? (i := 68) (by decide +kernel))) rfl
theorem bw_3_69 : Cond.instanceMethod yX8_learn ∈ BIG := big_of (tin_3 _ (List.mem_of_getElem? (i := 69) (by decide +kernel))) rfl
theorem bw_3_70 : Cond.selects RX8 yX8_learn yX8_learn ∈ BIG := big_of (tin_3 _ (List.mem_of_getElem? (i := 70) (by decide +kernel))) rfl
theorem bw_3_71 : Cond.code yX8_learn cX8_learn 2 none ∈ BIG := big_of (tin_3 _ (List.mem_of_getElem? (i := 71) (by decide +kernel))) rfl
theorem bw_1_175 : Cond.fieldLink RX8 44 "SelfScale$Worlds" "left" "I" ∈ BIG := big_of (tin_1 _ (List.mem_of_getElem? (i := 175) (by decide +kernel))) rfl
theorem bw_1_176 : Cond.fieldLink RX8 48 "SelfScale$Worlds" "fewestFalse" "I" ∈ BIG := big_of (tin_1 _ (List.mem_of_getElem? (i := 176) (by decide +kernel))) rfl
theorem bw_1_177 : Cond.fieldLink RX8 51 "SelfScale$Worlds" "everFalse" "I" ∈ BIG := big_of (tin_1 _ (List.mem_of_getElem? (i := 177) (by decide +kernel))) rfl
theorem bw_3_72 : Cond.methodLink RX8 54 yX5_wipe ∈ BIG := big_of (tin_3 _ (List.mem_of_getElem? (i := 72) (by decide +kernel))) rfl
theorem bw_3_73 : Cond.instanceMethod yX5_wipe ∈ BIG := big_of (tin_3 _ (List.mem_of_getElem? (i := 73) (by decide +kernel))) rfl
theorem bw_3_74 : Cond.selects RX5 yX5_wipe yX5_wipe ∈ BIG := big_of (tin_3 _ (List.mem_of_getElem? (i := 74) (by decide +kernel))) rfl
theorem bw_3_75 : Cond.code yX5_wipe cX5_wipe 2 none ∈ BIG := big_of (tin_3 _ (List.mem_of_getElem? (i := 75) (by decide +kernel))) rfl
theorem bw_3_76 : Cond.methodLink RX8 57 yX8_writeCodes ∈ BIG := big_of (tin_3 _ (List.mem_of_getElem? (i := 76) (by decide +kernel))) rfl
theorem bw_3_78 : Cond.instanceMethod yX8_writeCodes ∈ BIG := big_of (tin_3 _ (List.mem_of_getElem? (i := 78) (by decide +kernel))) rfl
theorem bw_p_14 : Cond.selects RX8 yX8_writeCodes yX8_writeCodes ∈ BIG := big_of (tin_p _ (List.mem_of_getElem? (i := 14) (by decide +kernel))) rfl
theorem bw_3_79 : Cond.code yX8_writeCodes cX8_writeCodes 3 none ∈ BIG := big_of (tin_3 _ (List.mem_of_getElem? (i := 79) (by decide +kernel))) rfl
theorem bw_3_80 : Cond.methodLink RX8 84 yX0_lines ∈ BIG := big_of (tin_3 _ (List.mem_of_getElem? (i := 80) (by decide +kernel))) rfl
theorem bw_3_81 : Cond.methodLink RX8 87 yX0_setOf ∈ BIG := big_of (tin_3 _ (List.mem_of_getElem? (i := 81) (by decide +kernel))) rfl
theorem bw_3_82 : Cond.methodLink RX8 90 yX8_codeOf ∈ BIG := big_of (tin_3 _ (List.mem_of_getElem? (i := 82) (by decide +kernel))) rfl
theorem bw_3_84 : Cond.instanceMethod yX8_codeOf ∈ BIG := big_of (tin_3 _ (List.mem_of_getElem? (i := 84) (by decide +kernel))) rfl
theorem bw_p_15 : Cond.selects RX8 yX8_codeOf yX8_codeOf ∈ BIG := big_of (tin_p _ (List.mem_of_getElem? (i := 15) (by decide +kernel))) rfl
theorem bw_3_85 : Cond.code yX8_codeOf cX8_codeOf 8 (some .int) ∈ BIG := big_of (tin_3 _ (List.mem_of_getElem? (i := 85) (by decide +kernel))) rfl
theorem bw_3_86 : Cond.methodLink RX8 67 yX0_laughOf ∈ BIG := big_of (tin_3 _ (List.mem_of_getElem? (i := 86) (by decide +kernel))) rfl
theorem bw_3_87 : Cond.methodLink RX8 98 yX6_leftOver ∈ BIG := big_of (tin_3 _ (List.mem_of_getElem? (i := 87) (by decide +kernel))) rfl
theorem bw_3_88 : Cond.methodLink RX8 103 yX0_shownOf ∈ BIG := big_of (tin_3 _ (List.mem_of_getElem? (i := 88) (by decide +kernel))) rfl
theorem bw_3_89 : Cond.methodLink RX8 94 yX5_join ∈ BIG := big_of (tin_3 _ (List.mem_of_getElem? (i := 89) (by decide +kernel))) rfl
theorem bw_3_90 : Cond.instanceMethod yX5_join ∈ BIG := big_of (tin_3 _ (List.mem_of_getElem? (i := 90) (by decide +kernel))) rfl
theorem bw_3_91 : Cond.selects RX5 yX5_join yX5_join ∈ BIG := big_of (tin_3 _ (List.mem_of_getElem? (i := 91) (by decide +kernel))) rfl
theorem bw_3_92 : Cond.code yX5_join cX5_join 3 none ∈ BIG := big_of (tin_3 _ (List.mem_of_getElem? (i := 92) (by decide +kernel))) rfl
theorem bw_3_93 : Cond.methodLink RX8 60 yX8_meetWorldsWith ∈ BIG := big_of (tin_3 _ (List.mem_of_getElem? (i := 93) (by decide +kernel))) rfl
theorem bw_3_95 : Cond.instanceMethod yX8_meetWorldsWith ∈ BIG := big_of (tin_3 _ (List.mem_of_getElem? (i := 95) (by decide +kernel))) rfl
theorem bw_p_16 : Cond.selects RX8 yX8_meetWorldsWith yX8_meetWorldsWith ∈ BIG := big_of (tin_p _ (List.mem_of_getElem? (i := 16) (by decide +kernel))) rfl
theorem bw_3_96 : Cond.code yX8_meetWorldsWith cX8_meetWorldsWith 9 none ∈ BIG := big_of (tin_3 _ (List.mem_of_getElem? (i := 96) (by decide +kernel))) rfl
theorem bw_3_97 : Cond.methodLink RX8 106 yX8_code ∈ BIG := big_of (tin_3 _ (List.mem_of_getElem? (i := 97) (by decide +kernel))) rfl
theorem bw_3_99 : Cond.instanceMethod yX8_code ∈ BIG := big_of (tin_3 _ (List.mem_of_getElem? (i := 99) (by decide +kernel))) rfl
theorem bw_p_17 : Cond.selects RX8 yX8_code yX8_code ∈ BIG := big_of (tin_p _ (List.mem_of_getElem? (i := 17) (by decide +kernel))) rfl
theorem bw_3_100 : Cond.code yX8_code cX8_code 3 (some .int) ∈ BIG := big_of (tin_3 _ (List.mem_of_getElem? (i := 100) (by decide +kernel))) rfl
theorem bw_3_101 : Cond.methodLink RX8 63 yX5_get ∈ BIG := big_of (tin_3 _ (List.mem_of_getElem? (i := 101) (by decide +kernel))) rfl
theorem bw_3_102 : Cond.methodLink RX8 109 yX8_leastOf ∈ BIG := big_of (tin_3 _ (List.mem_of_getElem? (i := 102) (by decide +kernel))) rfl
theorem bw_3_104 : Cond.instanceMethod yX8_leastOf ∈ BIG := big_of (tin_3 _ (List.mem_of_getElem? (i := 104) (by decide +kernel))) rfl
theorem bw_p_18 : Cond.selects RX8 yX8_leastOf yX8_leastOf ∈ BIG := big_of (tin_p _ (List.mem_of_getElem? (i := 18) (by decide +kernel))) rfl
theorem bw_3_105 : Cond.code yX8_leastOf cX8_leastOf 2 (some .int) ∈ BIG := big_of (tin_3 _ (List.mem_of_getElem? (i := 105) (by decide +kernel))) rfl
theorem bw_3_106 : Cond.methodLink RX8 118 yX6_things ∈ BIG := big_of (tin_3 _ (List.mem_of_getElem? (i := 106) (by decide +kernel))) rfl
theorem bw_3_107 : Cond.methodLink RX8 112 yX8_mostOf ∈ BIG := big_of (tin_3 _ (List.mem_of_getElem? (i := 107) (by decide +kernel))) rfl
theorem bw_3_109 : Cond.instanceMethod yX8_mostOf ∈ BIG := big_of (tin_3 _ (List.mem_of_getElem? (i := 109) (by decide +kernel))) rfl
theorem bw_p_19 : Cond.selects RX8 yX8_mostOf yX8_mostOf ∈ BIG := big_of (tin_p _ (List.mem_of_getElem? (i := 19) (by decide +kernel))) rfl
theorem bw_3_110 : Cond.code yX8_mostOf cX8_mostOf 2 (some .int) ∈ BIG := big_of (tin_3 _ (List.mem_of_getElem? (i := 110) (by decide +kernel))) rfl
theorem bw_3_111 : Cond.methodLink RX8 115 yX8_meet ∈ BIG := big_of (tin_3 _ (List.mem_of_getElem? (i := 111) (by decide +kernel))) rfl
theorem bw_3_113 : Cond.instanceMethod yX8_meet ∈ BIG := big_of (tin_3 _ (List.mem_of_getElem? (i := 113) (by decide +kernel))) rfl
theorem bw_p_20 : Cond.selects RX8 yX8_meet yX8_meet ∈ BIG := big_of (tin_p _ (List.mem_of_getElem? (i := 20) (by decide +kernel))) rfl
theorem bw_3_114 : Cond.code yX8_meet cX8_meet 5 none ∈ BIG := big_of (tin_3 _ (List.mem_of_getElem? (i := 114) (by decide +kernel))) rfl
theorem bw_3_115 : Cond.methodLink RX8 121 yJ6_bitCount_0f7a4 ∈ BIG := big_of (tin_3 _ (List.mem_of_getElem? (i := 115) (by decide +kernel))) rfl
theorem bw_3_116 : Cond.static yJ6_bitCount_0f7a4 ∈ BIG := big_of (tin_3 _ (List.mem_of_getElem? (i := 116) (by decide +kernel))) rfl
theorem bw_1_16 : Cond.initialized RJ6 ∈ BIG := big_of (tin_1 _ (List.mem_of_getElem? (i := 16) (by decide +kernel))) rfl
theorem bw_3_117 : Cond.code yJ6_bitCount_0f7a4 cJ6_bitCount_0f7a4 1 (some .int) ∈ BIG := big_of (tin_3 _ (List.mem_of_getElem? (i := 117) (by decide +kernel))) rfl
theorem bw_3_118 : Cond.constant RJ6 265 (1431655765) ∈ BIG := big_of (tin_3 _ (List.mem_of_getElem? (i := 118) (by decide +kernel))) rfl
theorem bw_3_119 : Cond.constant RJ6 266 (858993459) ∈ BIG := big_of (tin_3 _ (List.mem_of_getElem? (i := 119) (by decide +kernel))) rfl
theorem bw_3_120 : Cond.constant RJ6 267 (252645135) ∈ BIG := big_of (tin_3 _ (List.mem_of_getElem? (i := 120) (by decide +kernel))) rfl
theorem bw_3_121 : Cond.methodLink RX8 126 yX8_leave ∈ BIG := big_of (tin_3 _ (List.mem_of_getElem? (i := 121) (by decide +kernel))) rfl
theorem bw_3_123 : Cond.instanceMethod yX8_leave ∈ BIG := big_of (tin_3 _ (List.mem_of_getElem? (i := 123) (by decide +kernel))) rfl
theorem bw_p_21 : Cond.selects RX8 yX8_leave yX8_leave ∈ BIG := big_of (tin_p _ (List.mem_of_getElem? (i := 21) (by decide +kernel))) rfl
theorem bw_3_124 : Cond.code yX8_leave cX8_leave 5 none ∈ BIG := big_of (tin_3 _ (List.mem_of_getElem? (i := 124) (by decide +kernel))) rfl
theorem bw_3_125 : Cond.methodLink RX8 129 yX8_weightIn ∈ BIG := big_of (tin_3 _ (List.mem_of_getElem? (i := 125) (by decide +kernel))) rfl
theorem bw_3_126 : Cond.static yX8_weightIn ∈ BIG := big_of (tin_3 _ (List.mem_of_getElem? (i := 126) (by decide +kernel))) rfl
theorem bw_3_127 : Cond.code yX8_weightIn cX8_weightIn 2 (some .int) ∈ BIG := big_of (tin_3 _ (List.mem_of_getElem? (i := 127) (by decide +kernel))) rfl
theorem bw_3_128 : Cond.methodLink RX8 132 yX5_add ∈ BIG := big_of (tin_3 _ (List.mem_of_getElem? (i := 128) (by decide +kernel))) rfl
theorem bw_3_129 : Cond.instanceMethod yX5_add ∈ BIG := big_of (tin_3 _ (List.mem_of_getElem? (i := 129) (by decide +kernel))) rfl
theorem bw_3_130 : Cond.selects RX5 yX5_add yX5_add ∈ BIG := big_of (tin_3 _ (List.mem_of_getElem? (i := 130) (by decide +kernel))) rfl
theorem bw_3_131 : Cond.code yX5_add cX5_add 3 none ∈ BIG := big_of (tin_3 _ (List.mem_of_getElem? (i := 131) (by decide +kernel))) rfl
theorem bw_3_132 : Cond.methodLink RX9 163 yX8_left ∈ BIG := big_of (tin_3 _ (List.mem_of_getElem? (i := 132) (by decide +kernel))) rfl
theorem bw_3_133 : Cond.instanceMethod yX8_left ∈ BIG := big_of (tin_3 _ (List.mem_of_getElem? (i := 133) (by decide +kernel))) rfl
theorem bw_3_134 : Cond.selects RX8 yX8_left yX8_left ∈ BIG := big_of (tin_3 _ (List.mem_of_getElem? (i := 134) (by decide +kernel))) rfl
theorem bw_3_135 : Cond.code yX8_left cX8_left 1 (some .int) ∈ BIG := big_of (tin_3 _ (List.mem_of_getElem? (i := 135) (by decide +kernel))) rfl
theorem bw_3_136 : Cond.methodLink RX9 166 yX8_leftWith ∈ BIG := big_of (tin_3 _ (List.mem_of_getElem? (i := 136) (by decide +kernel))) rfl
theorem bw_3_137 : Cond.instanceMethod yX8_leftWith ∈ BIG := big_of (tin_3 _ (List.mem_of_getElem? (i := 137) (by decide +kernel))) rfl
theorem bw_3_138 : Cond.selects RX8 yX8_leftWith yX8_leftWith ∈ BIG := big_of (tin_3 _ (List.mem_of_getElem? (i := 138) (by decide +kernel))) rfl
theorem bw_3_139 : Cond.code yX8_leftWith cX8_leftWith 3 (some .int) ∈ BIG := big_of (tin_3 _ (List.mem_of_getElem? (i := 139) (by decide +kernel))) rfl
theorem bw_5_35 : Cond.methodLink RL 55 yX10_could ∈ BIG := big_of (tin_5 _ (List.mem_of_getElem? (i := 35) (by decide +kernel))) rfl
theorem bw_5_36 : Cond.instanceMethod yX10_could ∈ BIG := big_of (tin_5 _ (List.mem_of_getElem? (i := 36) (by decide +kernel))) rfl
theorem bw_5_37 : Cond.selects RX10 yX10_could yX10_could ∈ BIG := big_of (tin_5 _ (List.mem_of_getElem? (i := 37) (by decide +kernel))) rfl
theorem bw_5_38 : Cond.code yX10_could cX10_could 3 (some .int) ∈ BIG := big_of (tin_5 _ (List.mem_of_getElem? (i := 38) (by decide +kernel))) rfl
theorem bw_5_39 : Cond.methodLink RX10 133 yX10_isOne ∈ BIG := big_of (tin_5 _ (List.mem_of_getElem? (i := 39) (by decide +kernel))) rfl
theorem bw_5_41 : Cond.instanceMethod yX10_isOne ∈ BIG := big_of (tin_5 _ (List.mem_of_getElem? (i := 41) (by decide +kernel))) rfl
theorem bw_p_44 : Cond.selects RX10 yX10_isOne yX10_isOne ∈ BIG := big_of (tin_p _ (List.mem_of_getElem? (i := 44) (by decide +kernel))) rfl
theorem bw_5_42 : Cond.code yX10_isOne cX10_isOne 2 (some .boolean) ∈ BIG := big_of (tin_5 _ (List.mem_of_getElem? (i := 42) (by decide +kernel))) rfl
theorem bw_5_43 : Cond.methodLink RX10 136 yX10_many ∈ BIG := big_of (tin_5 _ (List.mem_of_getElem? (i := 43) (by decide +kernel))) rfl
theorem bw_5_45 : Cond.instanceMethod yX10_many ∈ BIG := big_of (tin_5 _ (List.mem_of_getElem? (i := 45) (by decide +kernel))) rfl
theorem bw_p_45 : Cond.selects RX10 yX10_many yX10_many ∈ BIG := big_of (tin_p _ (List.mem_of_getElem? (i := 45) (by decide +kernel))) rfl
theorem bw_5_46 : Cond.code yX10_many cX10_many 5 (some .int) ∈ BIG := big_of (tin_5 _ (List.mem_of_getElem? (i := 46) (by decide +kernel))) rfl
theorem bw_5_47 : Cond.methodLink RX10 127 yX10_worlds ∈ BIG := big_of (tin_5 _ (List.mem_of_getElem? (i := 47) (by decide +kernel))) rfl
theorem bw_5_49 : Cond.instanceMethod yX10_worlds ∈ BIG := big_of (tin_5 _ (List.mem_of_getElem? (i := 49) (by decide +kernel))) rfl
theorem bw_p_46 : Cond.selects RX10 yX10_worlds yX10_worlds ∈ BIG := big_of (tin_p _ (List.mem_of_getElem? (i := 46) (by decide +kernel))) rfl
theorem bw_5_50 : Cond.code yX10_worlds cX10_worlds 3 (some .int) ∈ BIG := big_of (tin_5 _ (List.mem_of_getElem? (i := 50) (by decide +kernel))) rfl
theorem bw_5_51 : Cond.methodLink RX10 130 yX10_canBe ∈ BIG := big_of (tin_5 _ (List.mem_of_getElem? (i := 51) (by decide +kernel))) rfl
theorem bw_5_53 : Cond.instanceMethod yX10_canBe ∈ BIG := big_of (tin_5 _ (List.mem_of_getElem? (i := 53) (by decide +kernel))) rfl
theorem bw_p_47 : Cond.selects RX10 yX10_canBe yX10_canBe ∈ BIG := big_of (tin_p _ (List.mem_of_getElem? (i := 47) (by decide +kernel))) rfl
theorem bw_5_54 : Cond.code yX10_canBe cX10_canBe 2 (some .boolean) ∈ BIG := big_of (tin_5 _ (List.mem_of_getElem? (i := 54) (by decide +kernel))) rfl
theorem bw_5_55 : Cond.methodLink RX10 120 yX10_go ∈ BIG := big_of (tin_5 _ (List.mem_of_getElem? (i := 55) (by decide +kernel))) rfl
theorem bw_5_57 : Cond.instanceMethod yX10_go ∈ BIG := big_of (tin_5 _ (List.mem_of_getElem? (i := 57) (by decide +kernel))) rfl
theorem bw_p_48 : Cond.selects RX10 yX10_go yX10_go ∈ BIG := big_of (tin_p _ (List.mem_of_getElem? (i := 48) (by decide +kernel))) rfl
theorem bw_5_58 : Cond.code yX10_go cX10_go 4 none ∈ BIG := big_of (tin_5 _ (List.mem_of_getElem? (i := 58) (by decide +kernel))) rfl
theorem bw_5_59 : Cond.methodLink RX10 124 yX10_falseLines ∈ BIG := big_of (tin_5 _ (List.mem_of_getElem? (i := 59) (by decide +kernel))) rfl
theorem bw_5_61 : Cond.instanceMethod yX10_falseLines ∈ BIG := big_of (tin_5 _ (List.mem_of_getElem? (i := 61) (by decide +kernel))) rfl
theorem bw_p_49 : Cond.selects RX10 yX10_falseLines yX10_falseLines ∈ BIG := big_of (tin_p _ (List.mem_of_getElem? (i := 49) (by decide +kernel))) rfl
theorem bw_5_62 : Cond.code yX10_falseLines cX10_falseLines 3 (some .int) ∈ BIG := big_of (tin_5 _ (List.mem_of_getElem? (i := 62) (by decide +kernel))) rfl
theorem bw_5_63 : Cond.methodLink RX10 117 yX10_laughIn ∈ BIG := big_of (tin_5 _ (List.mem_of_getElem? (i := 63) (by decide +kernel))) rfl
theorem bw_5_65 : Cond.instanceMethod yX10_laughIn ∈ BIG := big_of (tin_5 _ (List.mem_of_getElem? (i := 65) (by decide +kernel))) rfl
theorem bw_p_50 : Cond.selects RX10 yX10_laughIn yX10_laughIn ∈ BIG := big_of (tin_p _ (List.mem_of_getElem? (i := 50) (by decide +kernel))) rfl
theorem bw_5_66 : Cond.code yX10_laughIn cX10_laughIn 4 (some .int) ∈ BIG := big_of (tin_5 _ (List.mem_of_getElem? (i := 66) (by decide +kernel))) rfl
theorem bw_5_67 : Cond.methodLink RX10 114 yX10_shownOf ∈ BIG := big_of (tin_5 _ (List.mem_of_getElem? (i := 67) (by decide +kernel))) rfl
theorem bw_5_69 : Cond.instanceMethod yX10_shownOf ∈ BIG := big_of (tin_5 _ (List.mem_of_getElem? (i := 69) (by decide +kernel))) rfl
theorem bw_p_51 : Cond.selects RX10 yX10_shownOf yX10_shownOf ∈ BIG := big_of (tin_p _ (List.mem_of_getElem? (i := 51) (by decide +kernel))) rfl
theorem bw_5_70 : Cond.code yX10_shownOf cX10_shownOf 4 (some .int) ∈ BIG := big_of (tin_5 _ (List.mem_of_getElem? (i := 70) (by decide +kernel))) rfl
theorem bw_3_140 : Cond.methodLink RL 56 yX9_sure ∈ BIG := big_of (tin_3 _ (List.mem_of_getElem? (i := 140) (by decide +kernel))) rfl
theorem bw_3_141 : Cond.instanceMethod yX9_sure ∈ BIG := big_of (tin_3 _ (List.mem_of_getElem? (i := 141) (by decide +kernel))) rfl
theorem bw_3_142 : Cond.selects RX9 yX9_sure yX9_sure ∈ BIG := big_of (tin_3 _ (List.mem_of_getElem? (i := 142) (by decide +kernel))) rfl
theorem bw_3_143 : Cond.code yX9_sure cX9_sure 2 (some .int) ∈ BIG := big_of (tin_3 _ (List.mem_of_getElem? (i := 143) (by decide +kernel))) rfl
theorem bw_3_144 : Cond.methodLink RX9 170 yX8_onlyWeightOf ∈ BIG := big_of (tin_3 _ (List.mem_of_getElem? (i := 144) (by decide +kernel))) rfl
theorem bw_3_145 : Cond.instanceMethod yX8_onlyWeightOf ∈ BIG := big_of (tin_3 _ (List.mem_of_getElem? (i := 145) (by decide +kernel))) rfl
theorem bw_3_146 : Cond.selects RX8 yX8_onlyWeightOf yX8_onlyWeightOf ∈ BIG := big_of (tin_3 _ (List.mem_of_getElem? (i := 146) (by decide +kernel))) rfl
theorem bw_3_147 : Cond.code yX8_onlyWeightOf cX8_onlyWeightOf 3 (some .int) ∈ BIG := big_of (tin_3 _ (List.mem_of_getElem? (i := 147) (by decide +kernel))) rfl
theorem bw_5_71 : Cond.methodLink RL 59 yX10_sure ∈ BIG := big_of (tin_5 _ (List.mem_of_getElem? (i := 71) (by decide +kernel))) rfl
theorem bw_5_72 : Cond.instanceMethod yX10_sure ∈ BIG := big_of (tin_5 _ (List.mem_of_getElem? (i := 72) (by decide +kernel))) rfl
theorem bw_5_73 : Cond.selects RX10 yX10_sure yX10_sure ∈ BIG := big_of (tin_5 _ (List.mem_of_getElem? (i := 73) (by decide +kernel))) rfl
theorem bw_5_74 : Cond.code yX10_sure cX10_sure 5 (some .int) ∈ BIG := big_of (tin_5 _ (List.mem_of_getElem? (i := 74) (by decide +kernel))) rfl
theorem bw_3_148 : Cond.methodLink RL 60 yX9_wrong ∈ BIG := big_of (tin_3 _ (List.mem_of_getElem? (i := 148) (by decide +kernel))) rfl
theorem bw_3_149 : Cond.instanceMethod yX9_wrong ∈ BIG := big_of (tin_3 _ (List.mem_of_getElem? (i := 149) (by decide +kernel))) rfl
theorem bw_3_150 : Cond.selects RX9 yX9_wrong yX9_wrong ∈ BIG := big_of (tin_3 _ (List.mem_of_getElem? (i := 150) (by decide +kernel))) rfl
theorem bw_3_151 : Cond.code yX9_wrong cX9_wrong 2 (some .int) ∈ BIG := big_of (tin_3 _ (List.mem_of_getElem? (i := 151) (by decide +kernel))) rfl
theorem bw_3_152 : Cond.methodLink RX9 173 yX8_fewestFalse ∈ BIG := big_of (tin_3 _ (List.mem_of_getElem? (i := 152) (by decide +kernel))) rfl
theorem bw_3_153 : Cond.instanceMethod yX8_fewestFalse ∈ BIG := big_of (tin_3 _ (List.mem_of_getElem? (i := 153) (by decide +kernel))) rfl
theorem bw_3_154 : Cond.selects RX8 yX8_fewestFalse yX8_fewestFalse ∈ BIG := big_of (tin_3 _ (List.mem_of_getElem? (i := 154) (by decide +kernel))) rfl
theorem bw_3_155 : Cond.code yX8_fewestFalse cX8_fewestFalse 1 (some .int) ∈ BIG := big_of (tin_3 _ (List.mem_of_getElem? (i := 155) (by decide +kernel))) rfl
theorem bw_3_156 : Cond.methodLink RX9 176 yX8_everFalse ∈ BIG := big_of (tin_3 _ (List.mem_of_getElem? (i := 156) (by decide +kernel))) rfl
theorem bw_3_157 : Cond.instanceMethod yX8_everFalse ∈ BIG := big_of (tin_3 _ (List.mem_of_getElem? (i := 157) (by decide +kernel))) rfl
theorem bw_3_158 : Cond.selects RX8 yX8_everFalse yX8_everFalse ∈ BIG := big_of (tin_3 _ (List.mem_of_getElem? (i := 158) (by decide +kernel))) rfl
theorem bw_3_159 : Cond.code yX8_everFalse cX8_everFalse 1 (some .int) ∈ BIG := big_of (tin_3 _ (List.mem_of_getElem? (i := 159) (by decide +kernel))) rfl
theorem bw_5_75 : Cond.methodLink RL 63 yX10_wrong ∈ BIG := big_of (tin_5 _ (List.mem_of_getElem? (i := 75) (by decide +kernel))) rfl
theorem bw_5_76 : Cond.instanceMethod yX10_wrong ∈ BIG := big_of (tin_5 _ (List.mem_of_getElem? (i := 76) (by decide +kernel))) rfl
theorem bw_5_77 : Cond.selects RX10 yX10_wrong yX10_wrong ∈ BIG := big_of (tin_5 _ (List.mem_of_getElem? (i := 77) (by decide +kernel))) rfl
theorem bw_5_78 : Cond.code yX10_wrong cX10_wrong 7 (some .int) ∈ BIG := big_of (tin_5 _ (List.mem_of_getElem? (i := 78) (by decide +kernel))) rfl
theorem bw_5_79 : Cond.methodLink RX10 139 yX10_bitsIn ∈ BIG := big_of (tin_5 _ (List.mem_of_getElem? (i := 79) (by decide +kernel))) rfl
theorem bw_5_80 : Cond.static yX10_bitsIn ∈ BIG := big_of (tin_5 _ (List.mem_of_getElem? (i := 80) (by decide +kernel))) rfl
theorem bw_5_81 : Cond.code yX10_bitsIn cX10_bitsIn 3 (some .int) ∈ BIG := big_of (tin_5 _ (List.mem_of_getElem? (i := 81) (by decide +kernel))) rfl
theorem bw_3_160 : Cond.methodLink RL 64 yX9_next ∈ BIG := big_of (tin_3 _ (List.mem_of_getElem? (i := 160) (by decide +kernel))) rfl
theorem bw_3_161 : Cond.instanceMethod yX9_next ∈ BIG := big_of (tin_3 _ (List.mem_of_getElem? (i := 161) (by decide +kernel))) rfl
theorem bw_3_162 : Cond.selects RX9 yX9_next yX9_next ∈ BIG := big_of (tin_3 _ (List.mem_of_getElem? (i := 162) (by decide +kernel))) rfl
theorem bw_3_163 : Cond.code yX9_next cX9_next 3 (some .int) ∈ BIG := big_of (tin_3 _ (List.mem_of_getElem? (i := 163) (by decide +kernel))) rfl
theorem bw_3_164 : Cond.methodLink RX9 185 yX3_bestSet ∈ BIG := big_of (tin_3 _ (List.mem_of_getElem? (i := 164) (by decide +kernel))) rfl
theorem bw_3_165 : Cond.instanceMethod yX3_bestSet ∈ BIG := big_of (tin_3 _ (List.mem_of_getElem? (i := 165) (by decide +kernel))) rfl
theorem bw_3_166 : Cond.selects RX3 yX3_bestSet yX3_bestSet ∈ BIG := big_of (tin_3 _ (List.mem_of_getElem? (i := 166) (by decide +kernel))) rfl
theorem bw_3_167 : Cond.code yX3_bestSet cX3_bestSet 5 (some .int) ∈ BIG := big_of (tin_3 _ (List.mem_of_getElem? (i := 167) (by decide +kernel))) rfl
theorem bw_3_168 : Cond.methodLink RX3 34 yX3_worstOf ∈ BIG := big_of (tin_3 _ (List.mem_of_getElem? (i := 168) (by decide +kernel))) rfl
theorem bw_3_169 : Cond.instanceMethod yX3_worstOf ∈ BIG := big_of (tin_3 _ (List.mem_of_getElem? (i := 169) (by decide +kernel))) rfl
theorem bw_3_170 : Cond.selects RX3 yX3_worstOf yX3_worstOf ∈ BIG := big_of (tin_3 _ (List.mem_of_getElem? (i := 170) (by decide +kernel))) rfl
theorem bw_3_171 : Cond.code yX3_worstOf cX3_worstOf 7 (some .int) ∈ BIG := big_of (tin_3 _ (List.mem_of_getElem? (i := 171) (by decide +kernel))) rfl
theorem bw_3_188 : Cond.methodLink RX3 66 Lib.Math.max.name ∈ BIG := big_of (tin_3 _ (List.mem_of_getElem? (i := 188) (by decide +kernel))) rfl
theorem bw_3_189 : Cond.static Lib.Math.max.name ∈ BIG := big_of (tin_3 _ (List.mem_of_getElem? (i := 189) (by decide +kernel))) rfl
theorem bw_1_17 : Cond.initialized "java/lang/Math" ∈ BIG := big_of (tin_1 _ (List.mem_of_getElem? (i := 17) (by decide +kernel))) rfl
theorem bw_3_190 : Cond.code Lib.Math.max.name Lib.Math.max.code 2 (some .int) ∈ BIG := big_of (tin_3 _ (List.mem_of_getElem? (i := 190) (by decide +kernel))) rfl
theorem bw_3_172 : Cond.methodLink RX3 44 yX5_wipe ∈ BIG := big_of (tin_3 _ (List.mem_of_getElem? (i := 172) (by decide +kernel))) rfl
theorem bw_3_173 : Cond.methodLink RX3 47 yX8_left ∈ BIG := big_of (tin_3 _ (List.mem_of_getElem? (i := 173) (by decide +kernel))) rfl
theorem bw_3_174 : Cond.methodLink RX3 52 yX8_leftAfter ∈ BIG := big_of (tin_3 _ (List.mem_of_getElem? (i := 174) (by decide +kernel))) rfl
theorem bw_3_175 : Cond.instanceMethod yX8_leftAfter ∈ BIG := big_of (tin_3 _ (List.mem_of_getElem? (i := 175) (by decide +kernel))) rfl
theorem bw_3_176 : Cond.selects RX8 yX8_leftAfter yX8_leftAfter ∈ BIG := big_of (tin_3 _ (List.mem_of_getElem? (i := 176) (by decide +kernel))) rfl
theorem bw_3_177 : Cond.code yX8_leftAfter cX8_leftAfter 4 (some .int) ∈ BIG := big_of (tin_3 _ (List.mem_of_getElem? (i := 177) (by decide +kernel))) rfl
theorem bw_3_178 : Cond.methodLink RX3 55 yX3_shownIn ∈ BIG := big_of (tin_3 _ (List.mem_of_getElem? (i := 178) (by decide +kernel))) rfl
theorem bw_3_180 : Cond.instanceMethod yX3_shownIn ∈ BIG := big_of (tin_3 _ (List.mem_of_getElem? (i := 180) (by decide +kernel))) rfl
theorem bw_p_22 : Cond.selects RX3 yX3_shownIn yX3_shownIn ∈ BIG := big_of (tin_p _ (List.mem_of_getElem? (i := 22) (by decide +kernel))) rfl
theorem bw_3_181 : Cond.code yX3_shownIn cX3_shownIn 3 (some .int) ∈ BIG := big_of (tin_3 _ (List.mem_of_getElem? (i := 181) (by decide +kernel))) rfl
theorem bw_3_182 : Cond.methodLink RX3 97 yX8_loadIn ∈ BIG := big_of (tin_3 _ (List.mem_of_getElem? (i := 182) (by decide +kernel))) rfl
theorem bw_3_183 : Cond.static yX8_loadIn ∈ BIG := big_of (tin_3 _ (List.mem_of_getElem? (i := 183) (by decide +kernel))) rfl
theorem bw_3_184 : Cond.code yX8_loadIn cX8_loadIn 3 (some .int) ∈ BIG := big_of (tin_3 _ (List.mem_of_getElem? (i := 184) (by decide +kernel))) rfl
theorem bw_3_185 : Cond.methodLink RX3 100 yX6_leftOver ∈ BIG := big_of (tin_3 _ (List.mem_of_getElem? (i := 185) (by decide +kernel))) rfl
theorem bw_3_186 : Cond.methodLink RX3 59 yX5_add ∈ BIG := big_of (tin_3 _ (List.mem_of_getElem? (i := 186) (by decide +kernel))) rfl
theorem bw_3_187 : Cond.methodLink RX3 63 yX5_get ∈ BIG := big_of (tin_3 _ (List.mem_of_getElem? (i := 187) (by decide +kernel))) rfl
theorem bw_3_191 : Cond.methodLink RX3 38 yX6_sets ∈ BIG := big_of (tin_3 _ (List.mem_of_getElem? (i := 191) (by decide +kernel))) rfl
theorem bw_3_192 : Cond.methodLink RX9 188 yX3_worstOf ∈ BIG := big_of (tin_3 _ (List.mem_of_getElem? (i := 192) (by decide +kernel))) rfl
theorem bw_5_82 : Cond.methodLink RL 67 yX10_next ∈ BIG := big_of (tin_5 _ (List.mem_of_getElem? (i := 82) (by decide +kernel))) rfl
theorem bw_5_83 : Cond.instanceMethod yX10_next ∈ BIG := big_of (tin_5 _ (List.mem_of_getElem? (i := 83) (by decide +kernel))) rfl
theorem bw_5_84 : Cond.selects RX10 yX10_next yX10_next ∈ BIG := big_of (tin_5 _ (List.mem_of_getElem? (i := 84) (by decide +kernel))) rfl
theorem bw_5_85 : Cond.code yX10_next cX10_next 6 (some .int) ∈ BIG := big_of (tin_5 _ (List.mem_of_getElem? (i := 85) (by decide +kernel))) rfl
theorem bw_5_86 : Cond.methodLink RX10 142 yX10_worstOf ∈ BIG := big_of (tin_5 _ (List.mem_of_getElem? (i := 86) (by decide +kernel))) rfl
theorem bw_5_88 : Cond.instanceMethod yX10_worstOf ∈ BIG := big_of (tin_5 _ (List.mem_of_getElem? (i := 88) (by decide +kernel))) rfl
theorem bw_p_52 : Cond.selects RX10 yX10_worstOf yX10_worstOf ∈ BIG := big_of (tin_p _ (List.mem_of_getElem? (i := 52) (by decide +kernel))) rfl
theorem bw_5_89 : Cond.code yX10_worstOf cX10_worstOf 4 (some .int) ∈ BIG := big_of (tin_5 _ (List.mem_of_getElem? (i := 89) (by decide +kernel))) rfl
theorem bw_3_193 : Cond.methodLink RL 68 yX9_fewest ∈ BIG := big_of (tin_3 _ (List.mem_of_getElem? (i := 193) (by decide +kernel))) rfl
theorem bw_3_194 : Cond.instanceMethod yX9_fewest ∈ BIG := big_of (tin_3 _ (List.mem_of_getElem? (i := 194) (by decide +kernel))) rfl
theorem bw_3_195 : Cond.selects RX9 yX9_fewest yX9_fewest ∈ BIG := big_of (tin_3 _ (List.mem_of_getElem? (i := 195) (by decide +kernel))) rfl
theorem bw_3_196 : Cond.code yX9_fewest cX9_fewest 2 (some .int) ∈ BIG := big_of (tin_3 _ (List.mem_of_getElem? (i := 196) (by decide +kernel))) rfl
theorem bw_3_197 : Cond.methodLink RX9 191 yX3_weighingsFor ∈ BIG := big_of (tin_3 _ (List.mem_of_getElem? (i := 197) (by decide +kernel))) rfl
theorem bw_3_198 : Cond.instanceMethod yX3_weighingsFor ∈ BIG := big_of (tin_3 _ (List.mem_of_getElem? (i := 198) (by decide +kernel))) rfl
theorem bw_3_199 : Cond.selects RX3 yX3_weighingsFor yX3_weighingsFor ∈ BIG := big_of (tin_3 _ (List.mem_of_getElem? (i := 199) (by decide +kernel))) rfl
theorem bw_3_200 : Cond.code yX3_weighingsFor cX3_weighingsFor 3 (some .int) ∈ BIG := big_of (tin_3 _ (List.mem_of_getElem? (i := 200) (by decide +kernel))) rfl
theorem bw_3_201 : Cond.methodLink RX3 71 yX8_onlyWeightOf ∈ BIG := big_of (tin_3 _ (List.mem_of_getElem? (i := 201) (by decide +kernel))) rfl
theorem bw_3_202 : Cond.methodLink RX3 74 yX3_isSureBy ∈ BIG := big_of (tin_3 _ (List.mem_of_getElem? (i := 202) (by decide +kernel))) rfl
theorem bw_3_204 : Cond.instanceMethod yX3_isSureBy ∈ BIG := big_of (tin_3 _ (List.mem_of_getElem? (i := 204) (by decide +kernel))) rfl
theorem bw_p_23 : Cond.selects RX3 yX3_isSureBy yX3_isSureBy ∈ BIG := big_of (tin_p _ (List.mem_of_getElem? (i := 23) (by decide +kernel))) rfl
theorem bw_3_205 : Cond.code yX3_isSureBy cX3_isSureBy 6 (some .boolean) ∈ BIG := big_of (tin_3 _ (List.mem_of_getElem? (i := 205) (by decide +kernel))) rfl
theorem bw_3_206 : Cond.methodLink RX3 82 yX8_weightIn ∈ BIG := big_of (tin_3 _ (List.mem_of_getElem? (i := 206) (by decide +kernel))) rfl
theorem bw_3_207 : Cond.methodLink RX3 85 yX3_isTorn ∈ BIG := big_of (tin_3 _ (List.mem_of_getElem? (i := 207) (by decide +kernel))) rfl
theorem bw_3_208 : Cond.static yX3_isTorn ∈ BIG := big_of (tin_3 _ (List.mem_of_getElem? (i := 208) (by decide +kernel))) rfl
theorem bw_3_209 : Cond.code yX3_isTorn cX3_isTorn 3 (some .boolean) ∈ BIG := big_of (tin_3 _ (List.mem_of_getElem? (i := 209) (by decide +kernel))) rfl
theorem bw_3_210 : Cond.methodLink RX3 89 yX5_join ∈ BIG := big_of (tin_3 _ (List.mem_of_getElem? (i := 210) (by decide +kernel))) rfl
theorem bw_3_211 : Cond.methodLink RX3 92 yJ6_bitCount_0f7a4 ∈ BIG := big_of (tin_3 _ (List.mem_of_getElem? (i := 211) (by decide +kernel))) rfl
theorem bw_3_212 : Cond.methodLink RX3 78 yX3_isSureByNoneAndAlone ∈ BIG := big_of (tin_3 _ (List.mem_of_getElem? (i := 212) (by decide +kernel))) rfl
theorem bw_3_214 : Cond.instanceMethod yX3_isSureByNoneAndAlone ∈ BIG := big_of (tin_3 _ (List.mem_of_getElem? (i := 214) (by decide +kernel))) rfl
theorem bw_p_24 : Cond.selects RX3 yX3_isSureByNoneAndAlone yX3_isSureByNoneAndAlone ∈ BIG := big_of (tin_p _ (List.mem_of_getElem? (i := 24) (by decide +kernel))) rfl
theorem bw_3_215 : Cond.code yX3_isSureByNoneAndAlone cX3_isSureByNoneAndAlone 6 (some .boolean) ∈ BIG := big_of (tin_3 _ (List.mem_of_getElem? (i := 215) (by decide +kernel))) rfl
theorem bw_5_90 : Cond.methodLink RL 71 yX10_fewest ∈ BIG := big_of (tin_5 _ (List.mem_of_getElem? (i := 90) (by decide +kernel))) rfl
theorem bw_5_91 : Cond.instanceMethod yX10_fewest ∈ BIG := big_of (tin_5 _ (List.mem_of_getElem? (i := 91) (by decide +kernel))) rfl
theorem bw_5_92 : Cond.selects RX10 yX10_fewest yX10_fewest ∈ BIG := big_of (tin_5 _ (List.mem_of_getElem? (i := 92) (by decide +kernel))) rfl
theorem bw_5_93 : Cond.code yX10_fewest cX10_fewest 3 (some .int) ∈ BIG := big_of (tin_5 _ (List.mem_of_getElem? (i := 93) (by decide +kernel))) rfl
theorem bw_5_94 : Cond.methodLink RX10 149 yX10_isKnown ∈ BIG := big_of (tin_5 _ (List.mem_of_getElem? (i := 94) (by decide +kernel))) rfl
theorem bw_5_96 : Cond.instanceMethod yX10_isKnown ∈ BIG := big_of (tin_5 _ (List.mem_of_getElem? (i := 96) (by decide +kernel))) rfl
theorem bw_p_53 : Cond.selects RX10 yX10_isKnown yX10_isKnown ∈ BIG := big_of (tin_p _ (List.mem_of_getElem? (i := 53) (by decide +kernel))) rfl
theorem bw_5_97 : Cond.code yX10_isKnown cX10_isKnown 4 (some .boolean) ∈ BIG := big_of (tin_5 _ (List.mem_of_getElem? (i := 97) (by decide +kernel))) rfl
theorem bw_5_98 : Cond.methodLink RX10 146 yX10_part ∈ BIG := big_of (tin_5 _ (List.mem_of_getElem? (i := 98) (by decide +kernel))) rfl
theorem bw_5_100 : Cond.instanceMethod yX10_part ∈ BIG := big_of (tin_5 _ (List.mem_of_getElem? (i := 100) (by decide +kernel))) rfl
theorem bw_p_54 : Cond.selects RX10 yX10_part yX10_part ∈ BIG := big_of (tin_p _ (List.mem_of_getElem? (i := 54) (by decide +kernel))) rfl
theorem bw_5_101 : Cond.code yX10_part cX10_part 8 none ∈ BIG := big_of (tin_5 _ (List.mem_of_getElem? (i := 101) (by decide +kernel))) rfl
theorem bw_5_102 : Cond.methodLink RX10 152 yX10_anyBad ∈ BIG := big_of (tin_5 _ (List.mem_of_getElem? (i := 102) (by decide +kernel))) rfl
theorem bw_5_104 : Cond.instanceMethod yX10_anyBad ∈ BIG := big_of (tin_5 _ (List.mem_of_getElem? (i := 104) (by decide +kernel))) rfl
theorem bw_p_55 : Cond.selects RX10 yX10_anyBad yX10_anyBad ∈ BIG := big_of (tin_p _ (List.mem_of_getElem? (i := 55) (by decide +kernel))) rfl
theorem bw_5_105 : Cond.code yX10_anyBad cX10_anyBad 3 (some .boolean) ∈ BIG := big_of (tin_5 _ (List.mem_of_getElem? (i := 105) (by decide +kernel))) rfl
theorem bw_5_106 : Cond.methodLink RX10 156 yX10_isEnough ∈ BIG := big_of (tin_5 _ (List.mem_of_getElem? (i := 106) (by decide +kernel))) rfl
theorem bw_5_108 : Cond.instanceMethod yX10_isEnough ∈ BIG := big_of (tin_5 _ (List.mem_of_getElem? (i := 108) (by decide +kernel))) rfl
theorem bw_p_56 : Cond.selects RX10 yX10_isEnough yX10_isEnough ∈ BIG := big_of (tin_p _ (List.mem_of_getElem? (i := 56) (by decide +kernel))) rfl
theorem bw_5_109 : Cond.code yX10_isEnough cX10_isEnough 6 (some .boolean) ∈ BIG := big_of (tin_5 _ (List.mem_of_getElem? (i := 109) (by decide +kernel))) rfl
theorem bw_5_110 : Cond.constant RX10 145 (1048575) ∈ BIG := big_of (tin_5 _ (List.mem_of_getElem? (i := 110) (by decide +kernel))) rfl
theorem bw_3_216 : Cond.methodLink RL 72 yX9_laugh ∈ BIG := big_of (tin_3 _ (List.mem_of_getElem? (i := 216) (by decide +kernel))) rfl
theorem bw_3_217 : Cond.instanceMethod yX9_laugh ∈ BIG := big_of (tin_3 _ (List.mem_of_getElem? (i := 217) (by decide +kernel))) rfl
theorem bw_3_218 : Cond.selects RX9 yX9_laugh yX9_laugh ∈ BIG := big_of (tin_3 _ (List.mem_of_getElem? (i := 218) (by decide +kernel))) rfl
theorem bw_3_219 : Cond.code yX9_laugh cX9_laugh 2 (some .int) ∈ BIG := big_of (tin_3 _ (List.mem_of_getElem? (i := 219) (by decide +kernel))) rfl
theorem bw_3_220 : Cond.methodLink RX9 194 yX8_surelyLaughed ∈ BIG := big_of (tin_3 _ (List.mem_of_getElem? (i := 220) (by decide +kernel))) rfl
theorem bw_3_221 : Cond.instanceMethod yX8_surelyLaughed ∈ BIG := big_of (tin_3 _ (List.mem_of_getElem? (i := 221) (by decide +kernel))) rfl
theorem bw_3_222 : Cond.selects RX8 yX8_surelyLaughed yX8_surelyLaughed ∈ BIG := big_of (tin_3 _ (List.mem_of_getElem? (i := 222) (by decide +kernel))) rfl
theorem bw_3_223 : Cond.code yX8_surelyLaughed cX8_surelyLaughed 4 (some .int) ∈ BIG := big_of (tin_3 _ (List.mem_of_getElem? (i := 223) (by decide +kernel))) rfl
theorem bw_5_111 : Cond.methodLink RL 75 yX10_laugh ∈ BIG := big_of (tin_5 _ (List.mem_of_getElem? (i := 111) (by decide +kernel))) rfl
theorem bw_5_112 : Cond.instanceMethod yX10_laugh ∈ BIG := big_of (tin_5 _ (List.mem_of_getElem? (i := 112) (by decide +kernel))) rfl
theorem bw_5_113 : Cond.selects RX10 yX10_laugh yX10_laugh ∈ BIG := big_of (tin_5 _ (List.mem_of_getElem? (i := 113) (by decide +kernel))) rfl
theorem bw_5_114 : Cond.code yX10_laugh cX10_laugh 4 (some .int) ∈ BIG := big_of (tin_5 _ (List.mem_of_getElem? (i := 114) (by decide +kernel))) rfl
theorem bw_3_224 : Cond.methodLink RL 76 yX9_odds ∈ BIG := big_of (tin_3 _ (List.mem_of_getElem? (i := 224) (by decide +kernel))) rfl
theorem bw_3_225 : Cond.instanceMethod yX9_odds ∈ BIG := big_of (tin_3 _ (List.mem_of_getElem? (i := 225) (by decide +kernel))) rfl
theorem bw_3_226 : Cond.selects RX9 yX9_odds yX9_odds ∈ BIG := big_of (tin_3 _ (List.mem_of_getElem? (i := 226) (by decide +kernel))) rfl
theorem bw_3_227 : Cond.code yX9_odds cX9_odds 11 (some .long) ∈ BIG := big_of (tin_3 _ (List.mem_of_getElem? (i := 227) (by decide +kernel))) rfl
theorem bw_3_228 : Cond.constantLong RX9 197 (-1) ∈ BIG := big_of (tin_3 _ (List.mem_of_getElem? (i := 228) (by decide +kernel))) rfl
theorem bw_3_229 : Cond.constantLong RX9 199 (-2) ∈ BIG := big_of (tin_3 _ (List.mem_of_getElem? (i := 229) (by decide +kernel))) rfl
theorem bw_3_230 : Cond.methodLink RX9 201 yX8_chances ∈ BIG := big_of (tin_3 _ (List.mem_of_getElem? (i := 230) (by decide +kernel))) rfl
theorem bw_3_231 : Cond.instanceMethod yX8_chances ∈ BIG := big_of (tin_3 _ (List.mem_of_getElem? (i := 231) (by decide +kernel))) rfl
theorem bw_3_232 : Cond.selects RX8 yX8_chances yX8_chances ∈ BIG := big_of (tin_3 _ (List.mem_of_getElem? (i := 232) (by decide +kernel))) rfl
theorem bw_3_233 : Cond.code yX8_chances cX8_chances 7 (some .long) ∈ BIG := big_of (tin_3 _ (List.mem_of_getElem? (i := 233) (by decide +kernel))) rfl
theorem bw_3_234 : Cond.methodLink RX8 72 yX8_allChances ∈ BIG := big_of (tin_3 _ (List.mem_of_getElem? (i := 234) (by decide +kernel))) rfl
theorem bw_3_235 : Cond.instanceMethod yX8_allChances ∈ BIG := big_of (tin_3 _ (List.mem_of_getElem? (i := 235) (by decide +kernel))) rfl
theorem bw_3_236 : Cond.selects RX8 yX8_allChances yX8_allChances ∈ BIG := big_of (tin_3 _ (List.mem_of_getElem? (i := 236) (by decide +kernel))) rfl
theorem bw_3_237 : Cond.code yX8_allChances cX8_allChances 6 (some .long) ∈ BIG := big_of (tin_3 _ (List.mem_of_getElem? (i := 237) (by decide +kernel))) rfl
theorem bw_3_238 : Cond.methodLink RX8 76 yX8_chance ∈ BIG := big_of (tin_3 _ (List.mem_of_getElem? (i := 238) (by decide +kernel))) rfl
theorem bw_4_0 : Cond.instanceMethod yX8_chance ∈ BIG := big_of (tin_4 _ (List.mem_of_getElem? (i := 0) (by decide +kernel))) rfl
theorem bw_p_25 : Cond.selects RX8 yX8_chance yX8_chance ∈ BIG := big_of (tin_p _ (List.mem_of_getElem? (i := 25) (by decide +kernel))) rfl
theorem bw_4_1 : Cond.code yX8_chance cX8_chance 8 (some .long) ∈ BIG := big_of (tin_4 _ (List.mem_of_getElem? (i := 1) (by decide +kernel))) rfl
theorem bw_4_2 : Cond.methodLink RX8 80 yX0_unheardLines ∈ BIG := big_of (tin_4 _ (List.mem_of_getElem? (i := 2) (by decide +kernel))) rfl
theorem bw_4_3 : Cond.instanceMethod yX0_unheardLines ∈ BIG := big_of (tin_4 _ (List.mem_of_getElem? (i := 3) (by decide +kernel))) rfl
theorem bw_4_4 : Cond.selects RX0 yX0_unheardLines yX0_unheardLines ∈ BIG := big_of (tin_4 _ (List.mem_of_getElem? (i := 4) (by decide +kernel))) rfl
theorem bw_4_5 : Cond.code yX0_unheardLines cX0_unheardLines 3 (some .int) ∈ BIG := big_of (tin_4 _ (List.mem_of_getElem? (i := 5) (by decide +kernel))) rfl
theorem bw_4_6 : Cond.methodLink RX0 49 yX0_laughOf ∈ BIG := big_of (tin_4 _ (List.mem_of_getElem? (i := 6) (by decide +kernel))) rfl
theorem bw_4_7 : Cond.methodLink RX9 205 yX8_allChances ∈ BIG := big_of (tin_4 _ (List.mem_of_getElem? (i := 7) (by decide +kernel))) rfl
theorem bw_4_8 : Cond.methodLink RX9 209 yX9_greatestDivisor ∈ BIG := big_of (tin_4 _ (List.mem_of_getElem? (i := 8) (by decide +kernel))) rfl
theorem bw_4_9 : Cond.static yX9_greatestDivisor ∈ BIG := big_of (tin_4 _ (List.mem_of_getElem? (i := 9) (by decide +kernel))) rfl
theorem bw_4_10 : Cond.code yX9_greatestDivisor cX9_greatestDivisor 11 (some .long) ∈ BIG := big_of (tin_4 _ (List.mem_of_getElem? (i := 10) (by decide +kernel))) rfl
theorem bw_5_115 : Cond.methodLink RL 80 yX10_odds ∈ BIG := big_of (tin_5 _ (List.mem_of_getElem? (i := 115) (by decide +kernel))) rfl
theorem bw_5_116 : Cond.instanceMethod yX10_odds ∈ BIG := big_of (tin_5 _ (List.mem_of_getElem? (i := 116) (by decide +kernel))) rfl
theorem bw_5_117 : Cond.selects RX10 yX10_odds yX10_odds ∈ BIG := big_of (tin_5 _ (List.mem_of_getElem? (i := 117) (by decide +kernel))) rfl
theorem bw_5_118 : Cond.code yX10_odds cX10_odds 13 (some .long) ∈ BIG := big_of (tin_5 _ (List.mem_of_getElem? (i := 118) (by decide +kernel))) rfl
theorem bw_5_119 : Cond.constantLong RX10 160 (-1) ∈ BIG := big_of (tin_5 _ (List.mem_of_getElem? (i := 119) (by decide +kernel))) rfl
theorem bw_5_120 : Cond.constantLong RX10 162 (-2) ∈ BIG := big_of (tin_5 _ (List.mem_of_getElem? (i := 120) (by decide +kernel))) rfl
theorem bw_5_121 : Cond.methodLink RX10 164 yX10_common ∈ BIG := big_of (tin_5 _ (List.mem_of_getElem? (i := 121) (by decide +kernel))) rfl
theorem bw_5_122 : Cond.static yX10_common ∈ BIG := big_of (tin_5 _ (List.mem_of_getElem? (i := 122) (by decide +kernel))) rfl
theorem bw_5_123 : Cond.code yX10_common cX10_common 10 (some .long) ∈ BIG := big_of (tin_5 _ (List.mem_of_getElem? (i := 123) (by decide +kernel))) rfl
theorem bw_4_11 : Cond.methodLink RL 81 yX9_sack ∈ BIG := big_of (tin_4 _ (List.mem_of_getElem? (i := 11) (by decide +kernel))) rfl
theorem bw_4_12 : Cond.instanceMethod yX9_sack ∈ BIG := big_of (tin_4 _ (List.mem_of_getElem? (i := 12) (by decide +kernel))) rfl
theorem bw_4_13 : Cond.selects RX9 yX9_sack yX9_sack ∈ BIG := big_of (tin_4 _ (List.mem_of_getElem? (i := 13) (by decide +kernel))) rfl
theorem bw_4_14 : Cond.code yX9_sack cX9_sack 6 (some .int) ∈ BIG := big_of (tin_4 _ (List.mem_of_getElem? (i := 14) (by decide +kernel))) rfl
theorem bw_4_15 : Cond.methodLink RX9 213 yX6_sidesOf ∈ BIG := big_of (tin_4 _ (List.mem_of_getElem? (i := 15) (by decide +kernel))) rfl
theorem bw_4_16 : Cond.instanceMethod yX6_sidesOf ∈ BIG := big_of (tin_4 _ (List.mem_of_getElem? (i := 16) (by decide +kernel))) rfl
theorem bw_4_17 : Cond.selects RX6 yX6_sidesOf yX6_sidesOf ∈ BIG := big_of (tin_4 _ (List.mem_of_getElem? (i := 17) (by decide +kernel))) rfl
theorem bw_4_18 : Cond.code yX6_sidesOf cX6_sidesOf 8 (some .int) ∈ BIG := big_of (tin_4 _ (List.mem_of_getElem? (i := 18) (by decide +kernel))) rfl
theorem bw_4_19 : Cond.methodLink RX6 45 yX6_sets ∈ BIG := big_of (tin_4 _ (List.mem_of_getElem? (i := 19) (by decide +kernel))) rfl
theorem bw_4_20 : Cond.methodLink RX6 49 yJ6_bitCount_0f7a4 ∈ BIG := big_of (tin_4 _ (List.mem_of_getElem? (i := 20) (by decide +kernel))) rfl
theorem bw_4_21 : Cond.methodLink RX6 54 yX6_loadOf ∈ BIG := big_of (tin_4 _ (List.mem_of_getElem? (i := 21) (by decide +kernel))) rfl
theorem bw_4_22 : Cond.methodLink RX9 216 yJ6_bitCount_0f7a4 ∈ BIG := big_of (tin_4 _ (List.mem_of_getElem? (i := 22) (by decide +kernel))) rfl
theorem bw_5_124 : Cond.methodLink RL 84 yX10_sack ∈ BIG := big_of (tin_5 _ (List.mem_of_getElem? (i := 124) (by decide +kernel))) rfl
theorem bw_5_125 : Cond.instanceMethod yX10_sack ∈ BIG := big_of (tin_5 _ (List.mem_of_getElem? (i := 125) (by decide +kernel))) rfl
theorem bw_5_126 : Cond.selects RX10 yX10_sack yX10_sack ∈ BIG := big_of (tin_5 _ (List.mem_of_getElem? (i := 126) (by decide +kernel))) rfl
theorem bw_5_127 : Cond.code yX10_sack cX10_sack 8 (some .int) ∈ BIG := big_of (tin_5 _ (List.mem_of_getElem? (i := 127) (by decide +kernel))) rfl
theorem bw_4_23 : Cond.methodLink RL 85 yX9_byTurns ∈ BIG := big_of (tin_4 _ (List.mem_of_getElem? (i := 23) (by decide +kernel))) rfl
theorem bw_4_24 : Cond.instanceMethod yX9_byTurns ∈ BIG := big_of (tin_4 _ (List.mem_of_getElem? (i := 24) (by decide +kernel))) rfl
theorem bw_4_25 : Cond.selects RX9 yX9_byTurns yX9_byTurns ∈ BIG := big_of (tin_4 _ (List.mem_of_getElem? (i := 25) (by decide +kernel))) rfl
theorem bw_4_26 : Cond.code yX9_byTurns cX9_byTurns 1 (some .int) ∈ BIG := big_of (tin_4 _ (List.mem_of_getElem? (i := 26) (by decide +kernel))) rfl
theorem bw_4_27 : Cond.methodLink RX9 221 yX6_shownByTurns ∈ BIG := big_of (tin_4 _ (List.mem_of_getElem? (i := 27) (by decide +kernel))) rfl
theorem bw_4_28 : Cond.instanceMethod yX6_shownByTurns ∈ BIG := big_of (tin_4 _ (List.mem_of_getElem? (i := 28) (by decide +kernel))) rfl
theorem bw_4_29 : Cond.selects RX6 yX6_shownByTurns yX6_shownByTurns ∈ BIG := big_of (tin_4 _ (List.mem_of_getElem? (i := 29) (by decide +kernel))) rfl
theorem bw_4_30 : Cond.code yX6_shownByTurns cX6_shownByTurns 2 (some .int) ∈ BIG := big_of (tin_4 _ (List.mem_of_getElem? (i := 30) (by decide +kernel))) rfl
theorem bw_4_31 : Cond.methodLink RX6 57 yX6_outcomeFrom ∈ BIG := big_of (tin_4 _ (List.mem_of_getElem? (i := 31) (by decide +kernel))) rfl
theorem bw_4_33 : Cond.instanceMethod yX6_outcomeFrom ∈ BIG := big_of (tin_4 _ (List.mem_of_getElem? (i := 33) (by decide +kernel))) rfl
theorem bw_p_26 : Cond.selects RX6 yX6_outcomeFrom yX6_outcomeFrom ∈ BIG := big_of (tin_p _ (List.mem_of_getElem? (i := 26) (by decide +kernel))) rfl
theorem bw_4_34 : Cond.code yX6_outcomeFrom cX6_outcomeFrom 6 (some .int) ∈ BIG := big_of (tin_4 _ (List.mem_of_getElem? (i := 34) (by decide +kernel))) rfl
theorem bw_4_36 : Cond.methodLink RX6 63 Lib.Math.max.name ∈ BIG := big_of (tin_4 _ (List.mem_of_getElem? (i := 36) (by decide +kernel))) rfl
theorem bw_4_37 : Cond.methodLink RX6 69 Lib.Math.min.name ∈ BIG := big_of (tin_4 _ (List.mem_of_getElem? (i := 37) (by decide +kernel))) rfl
theorem bw_4_38 : Cond.static Lib.Math.min.name ∈ BIG := big_of (tin_4 _ (List.mem_of_getElem? (i := 38) (by decide +kernel))) rfl
theorem bw_4_39 : Cond.code Lib.Math.min.name Lib.Math.min.code 2 (some .int) ∈ BIG := big_of (tin_4 _ (List.mem_of_getElem? (i := 39) (by decide +kernel))) rfl
theorem bw_4_35 : Cond.methodLink RX6 60 yX6_leftOver ∈ BIG := big_of (tin_4 _ (List.mem_of_getElem? (i := 35) (by decide +kernel))) rfl
theorem bw_5_128 : Cond.methodLink RL 88 yX10_byTurns ∈ BIG := big_of (tin_5 _ (List.mem_of_getElem? (i := 128) (by decide +kernel))) rfl
theorem bw_5_129 : Cond.instanceMethod yX10_byTurns ∈ BIG := big_of (tin_5 _ (List.mem_of_getElem? (i := 129) (by decide +kernel))) rfl
theorem bw_5_130 : Cond.selects RX10 yX10_byTurns yX10_byTurns ∈ BIG := big_of (tin_5 _ (List.mem_of_getElem? (i := 130) (by decide +kernel))) rfl
theorem bw_5_131 : Cond.code yX10_byTurns cX10_byTurns 7 (some .int) ∈ BIG := big_of (tin_5 _ (List.mem_of_getElem? (i := 131) (by decide +kernel))) rfl
theorem bw_4_40 : Cond.methodLink RL 89 yX9_mark ∈ BIG := big_of (tin_4 _ (List.mem_of_getElem? (i := 40) (by decide +kernel))) rfl
theorem bw_4_41 : Cond.instanceMethod yX9_mark ∈ BIG := big_of (tin_4 _ (List.mem_of_getElem? (i := 41) (by decide +kernel))) rfl
theorem bw_4_42 : Cond.selects RX9 yX9_mark yX9_mark ∈ BIG := big_of (tin_4 _ (List.mem_of_getElem? (i := 42) (by decide +kernel))) rfl
theorem bw_4_43 : Cond.code yX9_mark cX9_mark 3 (some .int) ∈ BIG := big_of (tin_4 _ (List.mem_of_getElem? (i := 43) (by decide +kernel))) rfl
theorem bw_4_44 : Cond.constant RX9 224 (-1000000) ∈ BIG := big_of (tin_4 _ (List.mem_of_getElem? (i := 44) (by decide +kernel))) rfl
theorem bw_4_45 : Cond.methodLink RX9 225 yX2_markAs ∈ BIG := big_of (tin_4 _ (List.mem_of_getElem? (i := 45) (by decide +kernel))) rfl
theorem bw_4_46 : Cond.instanceMethod yX2_markAs ∈ BIG := big_of (tin_4 _ (List.mem_of_getElem? (i := 46) (by decide +kernel))) rfl
theorem bw_4_47 : Cond.selects RX2 yX2_markAs yX2_markAs ∈ BIG := big_of (tin_4 _ (List.mem_of_getElem? (i := 47) (by decide +kernel))) rfl
theorem bw_4_48 : Cond.code yX2_markAs cX2_markAs 3 (some .int) ∈ BIG := big_of (tin_4 _ (List.mem_of_getElem? (i := 48) (by decide +kernel))) rfl
theorem bw_4_86 : Cond.constant RX2 42 (-1000000) ∈ BIG := big_of (tin_4 _ (List.mem_of_getElem? (i := 86) (by decide +kernel))) rfl
theorem bw_4_49 : Cond.methodLink RX2 23 yX2_asThing ∈ BIG := big_of (tin_4 _ (List.mem_of_getElem? (i := 49) (by decide +kernel))) rfl
theorem bw_4_51 : Cond.instanceMethod yX2_asThing ∈ BIG := big_of (tin_4 _ (List.mem_of_getElem? (i := 51) (by decide +kernel))) rfl
theorem bw_p_27 : Cond.selects RX2 yX2_asThing yX2_asThing ∈ BIG := big_of (tin_p _ (List.mem_of_getElem? (i := 27) (by decide +kernel))) rfl
theorem bw_4_52 : Cond.code yX2_asThing cX2_asThing 2 (some .int) ∈ BIG := big_of (tin_4 _ (List.mem_of_getElem? (i := 52) (by decide +kernel))) rfl
theorem bw_1_151 : Cond.fieldLink RX2 19 "SelfScale$Kinds" "asked" "J" ∈ BIG := big_of (tin_1 _ (List.mem_of_getElem? (i := 151) (by decide +kernel))) rfl
theorem bw_4_53 : Cond.methodLink RX2 43 yX6_weightOf ∈ BIG := big_of (tin_4 _ (List.mem_of_getElem? (i := 53) (by decide +kernel))) rfl
theorem bw_4_54 : Cond.methodLink RX2 27 yX2_asSack ∈ BIG := big_of (tin_4 _ (List.mem_of_getElem? (i := 54) (by decide +kernel))) rfl
theorem bw_4_56 : Cond.instanceMethod yX2_asSack ∈ BIG := big_of (tin_4 _ (List.mem_of_getElem? (i := 56) (by decide +kernel))) rfl
theorem bw_p_28 : Cond.selects RX2 yX2_asSack yX2_asSack ∈ BIG := big_of (tin_p _ (List.mem_of_getElem? (i := 28) (by decide +kernel))) rfl
theorem bw_4_57 : Cond.code yX2_asSack cX2_asSack 2 (some .int) ∈ BIG := big_of (tin_4 _ (List.mem_of_getElem? (i := 57) (by decide +kernel))) rfl
theorem bw_4_58 : Cond.constantLong RX2 48 (10) ∈ BIG := big_of (tin_4 _ (List.mem_of_getElem? (i := 58) (by decide +kernel))) rfl
theorem bw_4_59 : Cond.methodLink RX2 50 yX6_own ∈ BIG := big_of (tin_4 _ (List.mem_of_getElem? (i := 59) (by decide +kernel))) rfl
theorem bw_4_60 : Cond.methodLink RX2 30 yX2_asLead ∈ BIG := big_of (tin_4 _ (List.mem_of_getElem? (i := 60) (by decide +kernel))) rfl
theorem bw_4_62 : Cond.instanceMethod yX2_asLead ∈ BIG := big_of (tin_4 _ (List.mem_of_getElem? (i := 62) (by decide +kernel))) rfl
theorem bw_p_29 : Cond.selects RX2 yX2_asLead yX2_asLead ∈ BIG := big_of (tin_p _ (List.mem_of_getElem? (i := 29) (by decide +kernel))) rfl
theorem bw_4_63 : Cond.code yX2_asLead cX2_asLead 2 (some .int) ∈ BIG := big_of (tin_4 _ (List.mem_of_getElem? (i := 63) (by decide +kernel))) rfl
theorem bw_4_64 : Cond.constantLong RX2 54 (100) ∈ BIG := big_of (tin_4 _ (List.mem_of_getElem? (i := 64) (by decide +kernel))) rfl
theorem bw_4_65 : Cond.methodLink RX2 33 yX2_asFlour ∈ BIG := big_of (tin_4 _ (List.mem_of_getElem? (i := 65) (by decide +kernel))) rfl
theorem bw_4_67 : Cond.instanceMethod yX2_asFlour ∈ BIG := big_of (tin_4 _ (List.mem_of_getElem? (i := 67) (by decide +kernel))) rfl
theorem bw_p_30 : Cond.selects RX2 yX2_asFlour yX2_asFlour ∈ BIG := big_of (tin_p _ (List.mem_of_getElem? (i := 30) (by decide +kernel))) rfl
theorem bw_4_68 : Cond.code yX2_asFlour cX2_asFlour 2 (some .int) ∈ BIG := big_of (tin_4 _ (List.mem_of_getElem? (i := 68) (by decide +kernel))) rfl
theorem bw_4_69 : Cond.constantLong RX2 56 (1000) ∈ BIG := big_of (tin_4 _ (List.mem_of_getElem? (i := 69) (by decide +kernel))) rfl
theorem bw_4_70 : Cond.methodLink RX2 58 yX0_lines ∈ BIG := big_of (tin_4 _ (List.mem_of_getElem? (i := 70) (by decide +kernel))) rfl
theorem bw_4_71 : Cond.methodLink RX2 36 yX2_asGold ∈ BIG := big_of (tin_4 _ (List.mem_of_getElem? (i := 71) (by decide +kernel))) rfl
theorem bw_4_73 : Cond.instanceMethod yX2_asGold ∈ BIG := big_of (tin_4 _ (List.mem_of_getElem? (i := 73) (by decide +kernel))) rfl
theorem bw_p_31 : Cond.selects RX2 yX2_asGold yX2_asGold ∈ BIG := big_of (tin_p _ (List.mem_of_getElem? (i := 31) (by decide +kernel))) rfl
theorem bw_4_74 : Cond.code yX2_asGold cX2_asGold 2 (some .int) ∈ BIG := big_of (tin_4 _ (List.mem_of_getElem? (i := 74) (by decide +kernel))) rfl
theorem bw_4_75 : Cond.constantLong RX2 63 (10000) ∈ BIG := big_of (tin_4 _ (List.mem_of_getElem? (i := 75) (by decide +kernel))) rfl
theorem bw_4_76 : Cond.methodLink RX2 39 yX2_asBaby ∈ BIG := big_of (tin_4 _ (List.mem_of_getElem? (i := 76) (by decide +kernel))) rfl
theorem bw_4_78 : Cond.instanceMethod yX2_asBaby ∈ BIG := big_of (tin_4 _ (List.mem_of_getElem? (i := 78) (by decide +kernel))) rfl
theorem bw_p_32 : Cond.selects RX2 yX2_asBaby yX2_asBaby ∈ BIG := big_of (tin_p _ (List.mem_of_getElem? (i := 32) (by decide +kernel))) rfl
theorem bw_4_79 : Cond.code yX2_asBaby cX2_asBaby 2 (some .int) ∈ BIG := big_of (tin_4 _ (List.mem_of_getElem? (i := 79) (by decide +kernel))) rfl
theorem bw_4_80 : Cond.constantLong RX2 65 (100000) ∈ BIG := big_of (tin_4 _ (List.mem_of_getElem? (i := 80) (by decide +kernel))) rfl
theorem bw_4_81 : Cond.methodLink RX2 67 yX0_linesWith ∈ BIG := big_of (tin_4 _ (List.mem_of_getElem? (i := 81) (by decide +kernel))) rfl
theorem bw_4_82 : Cond.instanceMethod yX0_linesWith ∈ BIG := big_of (tin_4 _ (List.mem_of_getElem? (i := 82) (by decide +kernel))) rfl
theorem bw_4_83 : Cond.selects RX0 yX0_linesWith yX0_linesWith ∈ BIG := big_of (tin_4 _ (List.mem_of_getElem? (i := 83) (by decide +kernel))) rfl
theorem bw_4_84 : Cond.code yX0_linesWith cX0_linesWith 4 (some .int) ∈ BIG := big_of (tin_4 _ (List.mem_of_getElem? (i := 84) (by decide +kernel))) rfl
theorem bw_4_85 : Cond.methodLink RX0 46 yX0_setOf ∈ BIG := big_of (tin_4 _ (List.mem_of_getElem? (i := 85) (by decide +kernel))) rfl
theorem bw_5_132 : Cond.methodLink RL 92 yX10_mark ∈ BIG := big_of (tin_5 _ (List.mem_of_getElem? (i := 132) (by decide +kernel))) rfl
theorem bw_5_133 : Cond.instanceMethod yX10_mark ∈ BIG := big_of (tin_5 _ (List.mem_of_getElem? (i := 133) (by decide +kernel))) rfl
theorem bw_5_134 : Cond.selects RX10 yX10_mark yX10_mark ∈ BIG := big_of (tin_5 _ (List.mem_of_getElem? (i := 134) (by decide +kernel))) rfl
theorem bw_5_135 : Cond.code yX10_mark cX10_mark 6 (some .int) ∈ BIG := big_of (tin_5 _ (List.mem_of_getElem? (i := 135) (by decide +kernel))) rfl
theorem bw_5_136 : Cond.constant RX10 168 (-1000000) ∈ BIG := big_of (tin_5 _ (List.mem_of_getElem? (i := 136) (by decide +kernel))) rfl
theorem bw_4_135 : Cond.fieldLink RX10 169 "SelfScaleModel" "trace" "J" ∈ BIG := big_of (tin_4 _ (List.mem_of_getElem? (i := 135) (by decide +kernel))) rfl
theorem bw_5_137 : Cond.constantLong RX10 173 (11) ∈ BIG := big_of (tin_5 _ (List.mem_of_getElem? (i := 137) (by decide +kernel))) rfl
theorem bw_5_138 : Cond.constantLong RX10 175 (101) ∈ BIG := big_of (tin_5 _ (List.mem_of_getElem? (i := 138) (by decide +kernel))) rfl
theorem bw_5_139 : Cond.constantLong RX10 177 (1011) ∈ BIG := big_of (tin_5 _ (List.mem_of_getElem? (i := 139) (by decide +kernel))) rfl
theorem bw_5_140 : Cond.constantLong RX10 179 (10101) ∈ BIG := big_of (tin_5 _ (List.mem_of_getElem? (i := 140) (by decide +kernel))) rfl
theorem bw_5_141 : Cond.constantLong RX10 181 (100001) ∈ BIG := big_of (tin_5 _ (List.mem_of_getElem? (i := 141) (by decide +kernel))) rfl
theorem bw_4_87 : Cond.methodLink RL 93 yX9_keep ∈ BIG := big_of (tin_4 _ (List.mem_of_getElem? (i := 87) (by decide +kernel))) rfl
theorem bw_4_88 : Cond.instanceMethod yX9_keep ∈ BIG := big_of (tin_4 _ (List.mem_of_getElem? (i := 88) (by decide +kernel))) rfl
theorem bw_4_89 : Cond.selects RX9 yX9_keep yX9_keep ∈ BIG := big_of (tin_4 _ (List.mem_of_getElem? (i := 89) (by decide +kernel))) rfl
theorem bw_4_90 : Cond.code yX9_keep cX9_keep 2 (some .int) ∈ BIG := big_of (tin_4 _ (List.mem_of_getElem? (i := 90) (by decide +kernel))) rfl
theorem bw_4_91 : Cond.methodLink RX9 228 yX9_imageOf ∈ BIG := big_of (tin_4 _ (List.mem_of_getElem? (i := 91) (by decide +kernel))) rfl
theorem bw_4_93 : Cond.instanceMethod yX9_imageOf ∈ BIG := big_of (tin_4 _ (List.mem_of_getElem? (i := 93) (by decide +kernel))) rfl
theorem bw_p_33 : Cond.selects RX9 yX9_imageOf yX9_imageOf ∈ BIG := big_of (tin_p _ (List.mem_of_getElem? (i := 33) (by decide +kernel))) rfl
theorem bw_4_94 : Cond.code yX9_imageOf cX9_imageOf 2 (some (.object "SelfScale$Image")) ∈ BIG := big_of (tin_4 _ (List.mem_of_getElem? (i := 94) (by decide +kernel))) rfl
theorem bw_4_95 : Cond.methodLink RX9 232 yX1_take ∈ BIG := big_of (tin_4 _ (List.mem_of_getElem? (i := 95) (by decide +kernel))) rfl
theorem bw_4_96 : Cond.instanceMethod yX1_take ∈ BIG := big_of (tin_4 _ (List.mem_of_getElem? (i := 96) (by decide +kernel))) rfl
theorem bw_4_97 : Cond.selects RX1 yX1_take yX1_take ∈ BIG := big_of (tin_4 _ (List.mem_of_getElem? (i := 97) (by decide +kernel))) rfl
theorem bw_4_98 : Cond.code yX1_take cX1_take 2 none ∈ BIG := big_of (tin_4 _ (List.mem_of_getElem? (i := 98) (by decide +kernel))) rfl
theorem bw_4_99 : Cond.methodLink RX1 16 yX0_copyFrom ∈ BIG := big_of (tin_4 _ (List.mem_of_getElem? (i := 99) (by decide +kernel))) rfl
theorem bw_4_100 : Cond.instanceMethod yX0_copyFrom ∈ BIG := big_of (tin_4 _ (List.mem_of_getElem? (i := 100) (by decide +kernel))) rfl
theorem bw_4_101 : Cond.selects RX0 yX0_copyFrom yX0_copyFrom ∈ BIG := big_of (tin_4 _ (List.mem_of_getElem? (i := 101) (by decide +kernel))) rfl
theorem bw_4_102 : Cond.code yX0_copyFrom cX0_copyFrom 2 none ∈ BIG := big_of (tin_4 _ (List.mem_of_getElem? (i := 102) (by decide +kernel))) rfl
theorem bw_4_103 : Cond.methodLink RX0 38 yX5_copyFrom ∈ BIG := big_of (tin_4 _ (List.mem_of_getElem? (i := 103) (by decide +kernel))) rfl
theorem bw_5_142 : Cond.methodLink RL 96 yX10_keep ∈ BIG := big_of (tin_5 _ (List.mem_of_getElem? (i := 142) (by decide +kernel))) rfl
theorem bw_5_143 : Cond.instanceMethod yX10_keep ∈ BIG := big_of (tin_5 _ (List.mem_of_getElem? (i := 143) (by decide +kernel))) rfl
theorem bw_5_144 : Cond.selects RX10 yX10_keep yX10_keep ∈ BIG := big_of (tin_5 _ (List.mem_of_getElem? (i := 144) (by decide +kernel))) rfl
theorem bw_5_145 : Cond.code yX10_keep cX10_keep 2 (some .int) ∈ BIG := big_of (tin_5 _ (List.mem_of_getElem? (i := 145) (by decide +kernel))) rfl
theorem bw_5_146 : Cond.methodLink RX10 183 yX10_copy ∈ BIG := big_of (tin_5 _ (List.mem_of_getElem? (i := 146) (by decide +kernel))) rfl
theorem bw_5_148 : Cond.instanceMethod yX10_copy ∈ BIG := big_of (tin_5 _ (List.mem_of_getElem? (i := 148) (by decide +kernel))) rfl
theorem bw_p_57 : Cond.selects RX10 yX10_copy yX10_copy ∈ BIG := big_of (tin_p _ (List.mem_of_getElem? (i := 57) (by decide +kernel))) rfl
theorem bw_5_149 : Cond.code yX10_copy cX10_copy 4 none ∈ BIG := big_of (tin_5 _ (List.mem_of_getElem? (i := 149) (by decide +kernel))) rfl
theorem bw_4_104 : Cond.methodLink RL 97 yX9_back ∈ BIG := big_of (tin_4 _ (List.mem_of_getElem? (i := 104) (by decide +kernel))) rfl
theorem bw_4_105 : Cond.instanceMethod yX9_back ∈ BIG := big_of (tin_4 _ (List.mem_of_getElem? (i := 105) (by decide +kernel))) rfl
theorem bw_4_106 : Cond.selects RX9 yX9_back yX9_back ∈ BIG := big_of (tin_4 _ (List.mem_of_getElem? (i := 106) (by decide +kernel))) rfl
theorem bw_4_107 : Cond.code yX9_back cX9_back 2 (some .int) ∈ BIG := big_of (tin_4 _ (List.mem_of_getElem? (i := 107) (by decide +kernel))) rfl
theorem bw_4_108 : Cond.methodLink RX9 236 yX1_isKept ∈ BIG := big_of (tin_4 _ (List.mem_of_getElem? (i := 108) (by decide +kernel))) rfl
theorem bw_4_109 : Cond.instanceMethod yX1_isKept ∈ BIG := big_of (tin_4 _ (List.mem_of_getElem? (i := 109) (by decide +kernel))) rfl
theorem bw_4_110 : Cond.selects RX1 yX1_isKept yX1_isKept ∈ BIG := big_of (tin_4 _ (List.mem_of_getElem? (i := 110) (by decide +kernel))) rfl
theorem bw_4_111 : Cond.code yX1_isKept cX1_isKept 1 (some .boolean) ∈ BIG := big_of (tin_4 _ (List.mem_of_getElem? (i := 111) (by decide +kernel))) rfl
theorem bw_4_112 : Cond.methodLink RX9 239 yX1_kept ∈ BIG := big_of (tin_4 _ (List.mem_of_getElem? (i := 112) (by decide +kernel))) rfl
theorem bw_4_113 : Cond.instanceMethod yX1_kept ∈ BIG := big_of (tin_4 _ (List.mem_of_getElem? (i := 113) (by decide +kernel))) rfl
theorem bw_4_114 : Cond.selects RX1 yX1_kept yX1_kept ∈ BIG := big_of (tin_4 _ (List.mem_of_getElem? (i := 114) (by decide +kernel))) rfl
theorem bw_4_115 : Cond.code yX1_kept cX1_kept 1 (some (.object "SelfScale$Book")) ∈ BIG := big_of (tin_4 _ (List.mem_of_getElem? (i := 115) (by decide +kernel))) rfl
theorem bw_4_116 : Cond.methodLink RX9 243 yX0_copyFrom ∈ BIG := big_of (tin_4 _ (List.mem_of_getElem? (i := 116) (by decide +kernel))) rfl
theorem bw_5_150 : Cond.methodLink RL 100 yX10_back ∈ BIG := big_of (tin_5 _ (List.mem_of_getElem? (i := 150) (by decide +kernel))) rfl
theorem bw_5_151 : Cond.instanceMethod yX10_back ∈ BIG := big_of (tin_5 _ (List.mem_of_getElem? (i := 151) (by decide +kernel))) rfl
theorem bw_5_152 : Cond.selects RX10 yX10_back yX10_back ∈ BIG := big_of (tin_5 _ (List.mem_of_getElem? (i := 152) (by decide +kernel))) rfl
theorem bw_5_153 : Cond.code yX10_back cX10_back 2 (some .int) ∈ BIG := big_of (tin_5 _ (List.mem_of_getElem? (i := 153) (by decide +kernel))) rfl
theorem bw_4_117 : Cond.methodLink RL 101 yX9_count ∈ BIG := big_of (tin_4 _ (List.mem_of_getElem? (i := 117) (by decide +kernel))) rfl
theorem bw_4_118 : Cond.instanceMethod yX9_count ∈ BIG := big_of (tin_4 _ (List.mem_of_getElem? (i := 118) (by decide +kernel))) rfl
theorem bw_4_119 : Cond.selects RX9 yX9_count yX9_count ∈ BIG := big_of (tin_4 _ (List.mem_of_getElem? (i := 119) (by decide +kernel))) rfl
theorem bw_4_120 : Cond.code yX9_count cX9_count 2 (some .int) ∈ BIG := big_of (tin_4 _ (List.mem_of_getElem? (i := 120) (by decide +kernel))) rfl
theorem bw_5_154 : Cond.methodLink RL 104 yX10_count ∈ BIG := big_of (tin_5 _ (List.mem_of_getElem? (i := 154) (by decide +kernel))) rfl
theorem bw_5_155 : Cond.instanceMethod yX10_count ∈ BIG := big_of (tin_5 _ (List.mem_of_getElem? (i := 155) (by decide +kernel))) rfl
theorem bw_5_156 : Cond.selects RX10 yX10_count yX10_count ∈ BIG := big_of (tin_5 _ (List.mem_of_getElem? (i := 156) (by decide +kernel))) rfl
theorem bw_5_157 : Cond.code yX10_count cX10_count 2 (some .int) ∈ BIG := big_of (tin_5 _ (List.mem_of_getElem? (i := 157) (by decide +kernel))) rfl
theorem bw_4_121 : Cond.methodLink RL 105 yX9_trace ∈ BIG := big_of (tin_4 _ (List.mem_of_getElem? (i := 121) (by decide +kernel))) rfl
theorem bw_4_122 : Cond.instanceMethod yX9_trace ∈ BIG := big_of (tin_4 _ (List.mem_of_getElem? (i := 122) (by decide +kernel))) rfl
theorem bw_4_123 : Cond.selects RX9 yX9_trace yX9_trace ∈ BIG := big_of (tin_4 _ (List.mem_of_getElem? (i := 123) (by decide +kernel))) rfl
theorem bw_4_124 : Cond.code yX9_trace cX9_trace 1 (some .long) ∈ BIG := big_of (tin_4 _ (List.mem_of_getElem? (i := 124) (by decide +kernel))) rfl
theorem bw_4_125 : Cond.methodLink RX9 245 yX2_asked ∈ BIG := big_of (tin_4 _ (List.mem_of_getElem? (i := 125) (by decide +kernel))) rfl
theorem bw_4_126 : Cond.instanceMethod yX2_asked ∈ BIG := big_of (tin_4 _ (List.mem_of_getElem? (i := 126) (by decide +kernel))) rfl
theorem bw_4_127 : Cond.selects RX2 yX2_asked yX2_asked ∈ BIG := big_of (tin_4 _ (List.mem_of_getElem? (i := 127) (by decide +kernel))) rfl
theorem bw_4_128 : Cond.code yX2_asked cX2_asked 1 (some .long) ∈ BIG := big_of (tin_4 _ (List.mem_of_getElem? (i := 128) (by decide +kernel))) rfl
theorem bw_5_158 : Cond.methodLink RL 109 yX10_trace ∈ BIG := big_of (tin_5 _ (List.mem_of_getElem? (i := 158) (by decide +kernel))) rfl
theorem bw_5_159 : Cond.instanceMethod yX10_trace ∈ BIG := big_of (tin_5 _ (List.mem_of_getElem? (i := 159) (by decide +kernel))) rfl
theorem bw_5_160 : Cond.selects RX10 yX10_trace yX10_trace ∈ BIG := big_of (tin_5 _ (List.mem_of_getElem? (i := 160) (by decide +kernel))) rfl
theorem bw_5_161 : Cond.code yX10_trace cX10_trace 1 (some .long) ∈ BIG := big_of (tin_5 _ (List.mem_of_getElem? (i := 161) (by decide +kernel))) rfl
theorem inX0 : ∀ w ∈ u_ws RX0 TX0 4, w ∈ BIG := by
  intro w h
  obtain ⟨k, hk, rfl⟩ := List.mem_map.mp h
  have hk2 : k < 4 := List.mem_range.mp hk
  rcases (show k = 0 ∨ k = 1 ∨ k = 2 ∨ k = 3 by omega) with rfl | rfl | rfl | rfl
  · exact bw_1_119
  · exact bw_1_121
  · exact bw_1_123
  · exact bw_1_125
theorem inX1 : ∀ w ∈ u_ws RX1 TX1 2, w ∈ BIG := by
  intro w h
  obtain ⟨k, hk, rfl⟩ := List.mem_map.mp h
  have hk2 : k < 2 := List.mem_range.mp hk
  rcases (show k = 0 ∨ k = 1 by omega) with rfl | rfl
  · exact bw_1_138
  · exact bw_1_140
theorem inX2 : ∀ w ∈ u_ws RX2 TX2 3, w ∈ BIG := by
  intro w h
  obtain ⟨k, hk, rfl⟩ := List.mem_map.mp h
  have hk2 : k < 3 := List.mem_range.mp hk
  rcases (show k = 0 ∨ k = 1 ∨ k = 2 by omega) with rfl | rfl | rfl
  · exact bw_1_152
  · exact bw_1_154
  · exact bw_1_156
theorem inX3 : ∀ w ∈ u_ws RX3 TX3 5, w ∈ BIG := by
  intro w h
  obtain ⟨k, hk, rfl⟩ := List.mem_map.mp h
  have hk2 : k < 5 := List.mem_range.mp hk
  rcases (show k = 0 ∨ k = 1 ∨ k = 2 ∨ k = 3 ∨ k = 4 by omega) with rfl | rfl | rfl | rfl | rfl
  · exact bw_1_214
  · exact bw_1_216
  · exact bw_1_218
  · exact bw_1_220
  · exact bw_1_222
theorem inX4 : ∀ w ∈ u_ws RX4 TX4 8, w ∈ BIG := by
  intro w h
  obtain ⟨k, hk, rfl⟩ := List.mem_map.mp h
  have hk2 : k < 8 := List.mem_range.mp hk
  rcases (show k = 0 ∨ k = 1 ∨ k = 2 ∨ k = 3 ∨ k = 4 ∨ k = 5 ∨ k = 6 ∨ k = 7 by omega) with rfl | rfl | rfl | rfl | rfl | rfl | rfl | rfl
  · exact bw_1_88
  · exact bw_1_90
  · exact bw_1_92
  · exact bw_1_94
  · exact bw_1_96
  · exact bw_1_98
  · exact bw_1_100
  · exact bw_1_102
theorem inX5 : ∀ w ∈ u_ws RX5 TX5 1, w ∈ BIG := by
  intro w h
  obtain ⟨k, hk, rfl⟩ := List.mem_map.mp h
  have hk2 : k < 1 := List.mem_range.mp hk
  have e : k = 0 := by omega
  subst e
  exact bw_1_39
theorem inX6 : ∀ w ∈ u_ws RX6 TX6 5, w ∈ BIG := by
  intro w h
  obtain ⟨k, hk, rfl⟩ := List.mem_map.mp h
  have hk2 : k < 5 := List.mem_range.mp hk
  rcases (show k = 0 ∨ k = 1 ∨ k = 2 ∨ k = 3 ∨ k = 4 by omega) with rfl | rfl | rfl | rfl | rfl
  · exact bw_1_69
  · exact bw_1_71
  · exact bw_1_73
  · exact bw_1_75
  · exact bw_1_77
theorem inX7 : ∀ w ∈ u_ws RX7 TX7 2, w ∈ BIG := by
  intro w h
  obtain ⟨k, hk, rfl⟩ := List.mem_map.mp h
  have hk2 : k < 2 := List.mem_range.mp hk
  rcases (show k = 0 ∨ k = 1 by omega) with rfl | rfl
  · exact bw_1_45
  · exact bw_1_47
theorem inX8 : ∀ w ∈ u_ws RX8 TX8 11, w ∈ BIG := by
  intro w h
  obtain ⟨k, hk, rfl⟩ := List.mem_map.mp h
  have hk2 : k < 11 := List.mem_range.mp hk
  rcases (show k = 0 ∨ k = 1 ∨ k = 2 ∨ k = 3 ∨ k = 4 ∨ k = 5 ∨ k = 6 ∨ k = 7 ∨ k = 8 ∨ k = 9 ∨ k = 10 by omega) with rfl | rfl | rfl | rfl | rfl | rfl | rfl | rfl | rfl | rfl | rfl
  · exact bw_1_178
  · exact bw_1_180
  · exact bw_1_182
  · exact bw_1_184
  · exact bw_1_186
  · exact bw_1_188
  · exact bw_1_190
  · exact bw_1_192
  · exact bw_1_194
  · exact bw_1_196
  · exact bw_1_198
theorem inX9 : ∀ w ∈ u_ws RX9 TX9 9, w ∈ BIG := by
  intro w h
  obtain ⟨k, hk, rfl⟩ := List.mem_map.mp h
  have hk2 : k < 9 := List.mem_range.mp hk
  rcases (show k = 0 ∨ k = 1 ∨ k = 2 ∨ k = 3 ∨ k = 4 ∨ k = 5 ∨ k = 6 ∨ k = 7 ∨ k = 8 by omega) with rfl | rfl | rfl | rfl | rfl | rfl | rfl | rfl | rfl
  · exact bw_1_234
  · exact bw_1_236
  · exact bw_1_238
  · exact bw_2_0
  · exact bw_2_2
  · exact bw_2_4
  · exact bw_2_6
  · exact bw_2_8
  · exact bw_2_10
theorem inX10 : ∀ w ∈ u_ws RX10 TX10 20, w ∈ BIG := by
  intro w h
  obtain ⟨k, hk, rfl⟩ := List.mem_map.mp h
  have hk2 : k < 20 := List.mem_range.mp hk
  rcases (show k = 0 ∨ k = 1 ∨ k = 2 ∨ k = 3 ∨ k = 4 ∨ k = 5 ∨ k = 6 ∨ k = 7 ∨ k = 8 ∨ k = 9 ∨ k = 10 ∨ k = 11 ∨ k = 12 ∨ k = 13 ∨ k = 14 ∨ k = 15 ∨ k = 16 ∨ k = 17 ∨ k = 18 ∨ k = 19 by omega) with rfl | rfl | rfl | rfl | rfl | rfl | rfl | rfl | rfl | rfl | rfl | rfl | rfl | rfl | rfl | rfl | rfl | rfl | rfl | rfl
  · exact bw_4_155
  · exact bw_4_157
  · exact bw_4_159
  · exact bw_4_161
  · exact bw_4_163
  · exact bw_4_165
  · exact bw_4_167
  · exact bw_4_169
  · exact bw_4_171
  · exact bw_4_173
  · exact bw_4_175
  · exact bw_4_177
  · exact bw_4_179
  · exact bw_4_181
  · exact bw_4_183
  · exact bw_4_185
  · exact bw_4_187
  · exact bw_4_189
  · exact bw_4_191
  · exact bw_4_193
