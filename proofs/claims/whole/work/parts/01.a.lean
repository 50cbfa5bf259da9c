-- ===== PART A: goes FIRST, ahead of the names: the tables' words, and 'selects' of the private methods out of them =====
/-- a private method of a class that the tables say can be made, by its rows of tables_1 -/
def lw_okq (q : MethodName × Nat) : Prop := (q.1.cls ≠ "java/lang/invoke/MethodHandle" ∧ q.1.cls ≠ "java/lang/invoke/VarHandle") ∧ Cond.instantiable q.1.cls q.2 ∈ tables_1 ∧ Cond.privateMethod q.1 ∈ tables_1 ∧ Cond.instanceMethod q.1 ∈ tables_1
theorem lw_p0 : lw_okq (⟨"java/util/ArrayList", "add", "(Ljava/lang/Object;[Ljava/lang/Object;I)V"⟩, 3) := ⟨⟨by decide +kernel, by decide +kernel⟩, List.mem_of_getElem? (i := 36) (by decide +kernel), List.mem_of_getElem? (i := 457) (by decide +kernel), List.mem_of_getElem? (i := 458) (by decide +kernel)⟩
theorem lw_p1 : lw_okq (⟨"java/util/ArrayList", "grow", "()[Ljava/lang/Object;"⟩, 3) := ⟨⟨by decide +kernel, by decide +kernel⟩, List.mem_of_getElem? (i := 36) (by decide +kernel), List.mem_of_getElem? (i := 461) (by decide +kernel), List.mem_of_getElem? (i := 462) (by decide +kernel)⟩
theorem lw_p2 : lw_okq (⟨"java/util/ArrayList", "grow", "(I)[Ljava/lang/Object;"⟩, 3) := ⟨⟨by decide +kernel, by decide +kernel⟩, List.mem_of_getElem? (i := 36) (by decide +kernel), List.mem_of_getElem? (i := 465) (by decide +kernel), List.mem_of_getElem? (i := 466) (by decide +kernel)⟩
theorem lw_p3 : lw_okq (⟨"MerchantYard", "manThere", "(I)LMerchantYard$Man;"⟩, 15) := ⟨⟨by decide +kernel, by decide +kernel⟩, List.mem_of_getElem? (i := 28) (by decide +kernel), List.mem_of_getElem? (i := 518) (by decide +kernel), List.mem_of_getElem? (i := 519) (by decide +kernel)⟩
theorem lw_p4 : lw_okq (⟨"MerchantYard", "payBargainsOf", "(I)V"⟩, 15) := ⟨⟨by decide +kernel, by decide +kernel⟩, List.mem_of_getElem? (i := 28) (by decide +kernel), List.mem_of_getElem? (i := 540) (by decide +kernel), List.mem_of_getElem? (i := 541) (by decide +kernel)⟩
theorem lw_p5 : lw_okq (⟨"MerchantYard", "nextDebt", "(II)I"⟩, 15) := ⟨⟨by decide +kernel, by decide +kernel⟩, List.mem_of_getElem? (i := 28) (by decide +kernel), List.mem_of_getElem? (i := 544) (by decide +kernel), List.mem_of_getElem? (i := 545) (by decide +kernel)⟩
theorem lw_p6 : lw_okq (⟨"MerchantYard", "payOwed", "(LMerchantYard$Bargain;I)I"⟩, 15) := ⟨⟨by decide +kernel, by decide +kernel⟩, List.mem_of_getElem? (i := 28) (by decide +kernel), List.mem_of_getElem? (i := 549) (by decide +kernel), List.mem_of_getElem? (i := 550) (by decide +kernel)⟩
theorem lw_p7 : lw_okq (⟨"MerchantYard", "give", "(III)V"⟩, 15) := ⟨⟨by decide +kernel, by decide +kernel⟩, List.mem_of_getElem? (i := 28) (by decide +kernel), List.mem_of_getElem? (i := 559) (by decide +kernel), List.mem_of_getElem? (i := 560) (by decide +kernel)⟩
theorem lw_p8 : lw_okq (⟨"MerchantYard", "payClaimsOf", "(I)V"⟩, 15) := ⟨⟨by decide +kernel, by decide +kernel⟩, List.mem_of_getElem? (i := 28) (by decide +kernel), List.mem_of_getElem? (i := 568) (by decide +kernel), List.mem_of_getElem? (i := 569) (by decide +kernel)⟩
theorem lw_p9 : lw_okq (⟨"MerchantYard", "payClaim", "(LMerchantYard$Bargain;II)I"⟩, 15) := ⟨⟨by decide +kernel, by decide +kernel⟩, List.mem_of_getElem? (i := 28) (by decide +kernel), List.mem_of_getElem? (i := 572) (by decide +kernel), List.mem_of_getElem? (i := 573) (by decide +kernel)⟩
theorem lw_p10 : lw_okq (⟨"MerchantYard", "heirOf", "(I)I"⟩, 15) := ⟨⟨by decide +kernel, by decide +kernel⟩, List.mem_of_getElem? (i := 28) (by decide +kernel), List.mem_of_getElem? (i := 576) (by decide +kernel), List.mem_of_getElem? (i := 577) (by decide +kernel)⟩
theorem lw_p11 : lw_okq (⟨"MerchantYard", "leastMan", "(II)I"⟩, 15) := ⟨⟨by decide +kernel, by decide +kernel⟩, List.mem_of_getElem? (i := 28) (by decide +kernel), List.mem_of_getElem? (i := 580) (by decide +kernel), List.mem_of_getElem? (i := 581) (by decide +kernel)⟩
theorem lw_p12 : lw_okq (⟨"MerchantYard", "leaveLots", "(II)V"⟩, 15) := ⟨⟨by decide +kernel, by decide +kernel⟩, List.mem_of_getElem? (i := 28) (by decide +kernel), List.mem_of_getElem? (i := 588) (by decide +kernel), List.mem_of_getElem? (i := 589) (by decide +kernel)⟩
theorem lw_p13 : lw_okq (⟨"MerchantYard", "leaveDues", "(II)V"⟩, 15) := ⟨⟨by decide +kernel, by decide +kernel⟩, List.mem_of_getElem? (i := 28) (by decide +kernel), List.mem_of_getElem? (i := 593) (by decide +kernel), List.mem_of_getElem? (i := 594) (by decide +kernel)⟩
theorem lw_p14 : lw_okq (⟨"MerchantYard", "owedBy", "(IZ)I"⟩, 15) := ⟨⟨by decide +kernel, by decide +kernel⟩, List.mem_of_getElem? (i := 28) (by decide +kernel), List.mem_of_getElem? (i := 640) (by decide +kernel), List.mem_of_getElem? (i := 641) (by decide +kernel)⟩
theorem lw_p15 : lw_okq (⟨"MerchantYard$LawReader", "cutTokens", "()V"⟩, 14) := ⟨⟨by decide +kernel, by decide +kernel⟩, List.mem_of_getElem? (i := 62) (by decide +kernel), List.mem_of_getElem? (i := 673) (by decide +kernel), List.mem_of_getElem? (i := 674) (by decide +kernel)⟩
def lw_privs_1 : List (MethodName × Nat) := [(⟨"java/util/ArrayList", "add", "(Ljava/lang/Object;[Ljava/lang/Object;I)V"⟩, 3), (⟨"java/util/ArrayList", "grow", "()[Ljava/lang/Object;"⟩, 3), (⟨"java/util/ArrayList", "grow", "(I)[Ljava/lang/Object;"⟩, 3), (⟨"MerchantYard", "manThere", "(I)LMerchantYard$Man;"⟩, 15), (⟨"MerchantYard", "payBargainsOf", "(I)V"⟩, 15), (⟨"MerchantYard", "nextDebt", "(II)I"⟩, 15), (⟨"MerchantYard", "payOwed", "(LMerchantYard$Bargain;I)I"⟩, 15), (⟨"MerchantYard", "give", "(III)V"⟩, 15), (⟨"MerchantYard", "payClaimsOf", "(I)V"⟩, 15), (⟨"MerchantYard", "payClaim", "(LMerchantYard$Bargain;II)I"⟩, 15), (⟨"MerchantYard", "heirOf", "(I)I"⟩, 15), (⟨"MerchantYard", "leastMan", "(II)I"⟩, 15), (⟨"MerchantYard", "leaveLots", "(II)V"⟩, 15), (⟨"MerchantYard", "leaveDues", "(II)V"⟩, 15), (⟨"MerchantYard", "owedBy", "(IZ)I"⟩, 15), (⟨"MerchantYard$LawReader", "cutTokens", "()V"⟩, 14)]
theorem lw_r1 : ∀ q ∈ lw_privs_1, lw_okq q := List.forall_mem_cons.mpr ⟨lw_p0, List.forall_mem_cons.mpr ⟨lw_p1, List.forall_mem_cons.mpr ⟨lw_p2, List.forall_mem_cons.mpr ⟨lw_p3, List.forall_mem_cons.mpr ⟨lw_p4, List.forall_mem_cons.mpr ⟨lw_p5, List.forall_mem_cons.mpr ⟨lw_p6, List.forall_mem_cons.mpr ⟨lw_p7, List.forall_mem_cons.mpr ⟨lw_p8, List.forall_mem_cons.mpr ⟨lw_p9, List.forall_mem_cons.mpr ⟨lw_p10, List.forall_mem_cons.mpr ⟨lw_p11, List.forall_mem_cons.mpr ⟨lw_p12, List.forall_mem_cons.mpr ⟨lw_p13, List.forall_mem_cons.mpr ⟨lw_p14, List.forall_mem_cons.mpr ⟨lw_p15, fun _ h => absurd h List.not_mem_nil⟩⟩⟩⟩⟩⟩⟩⟩⟩⟩⟩⟩⟩⟩⟩⟩
theorem lw_p16 : lw_okq (⟨"MerchantYard$LawReader", "cutNumber", "(I)I"⟩, 14) := ⟨⟨by decide +kernel, by decide +kernel⟩, List.mem_of_getElem? (i := 62) (by decide +kernel), List.mem_of_getElem? (i := 680) (by decide +kernel), List.mem_of_getElem? (i := 681) (by decide +kernel)⟩
theorem lw_p17 : lw_okq (⟨"MerchantYard$LawReader", "putToken", "(III)V"⟩, 14) := ⟨⟨by decide +kernel, by decide +kernel⟩, List.mem_of_getElem? (i := 62) (by decide +kernel), List.mem_of_getElem? (i := 684) (by decide +kernel), List.mem_of_getElem? (i := 685) (by decide +kernel)⟩
theorem lw_p18 : lw_okq (⟨"MerchantYard$LawReader", "cutWord", "(I)I"⟩, 14) := ⟨⟨by decide +kernel, by decide +kernel⟩, List.mem_of_getElem? (i := 62) (by decide +kernel), List.mem_of_getElem? (i := 691) (by decide +kernel), List.mem_of_getElem? (i := 692) (by decide +kernel)⟩
theorem lw_p19 : lw_okq (⟨"MerchantYard$LawReader", "wordToken", "(II)I"⟩, 14) := ⟨⟨by decide +kernel, by decide +kernel⟩, List.mem_of_getElem? (i := 62) (by decide +kernel), List.mem_of_getElem? (i := 695) (by decide +kernel), List.mem_of_getElem? (i := 696) (by decide +kernel)⟩
theorem lw_p20 : lw_okq (⟨"MerchantYard$LawReader", "isWord", "(III)Z"⟩, 14) := ⟨⟨by decide +kernel, by decide +kernel⟩, List.mem_of_getElem? (i := 62) (by decide +kernel), List.mem_of_getElem? (i := 699) (by decide +kernel), List.mem_of_getElem? (i := 700) (by decide +kernel)⟩
theorem lw_p21 : lw_okq (⟨"MerchantYard$LawReader", "cutSign", "(I)I"⟩, 14) := ⟨⟨by decide +kernel, by decide +kernel⟩, List.mem_of_getElem? (i := 62) (by decide +kernel), List.mem_of_getElem? (i := 742) (by decide +kernel), List.mem_of_getElem? (i := 743) (by decide +kernel)⟩
theorem lw_p22 : lw_okq (⟨"MerchantYard$LawReader", "readClause", "()Z"⟩, 14) := ⟨⟨by decide +kernel, by decide +kernel⟩, List.mem_of_getElem? (i := 62) (by decide +kernel), List.mem_of_getElem? (i := 749) (by decide +kernel), List.mem_of_getElem? (i := 750) (by decide +kernel)⟩
theorem lw_p23 : lw_okq (⟨"MerchantYard$LawReader", "fail", "(I)Z"⟩, 14) := ⟨⟨by decide +kernel, by decide +kernel⟩, List.mem_of_getElem? (i := 62) (by decide +kernel), List.mem_of_getElem? (i := 753) (by decide +kernel), List.mem_of_getElem? (i := 754) (by decide +kernel)⟩
theorem lw_p24 : lw_okq (⟨"MerchantYard$LawReader", "goOn", "()V"⟩, 14) := ⟨⟨by decide +kernel, by decide +kernel⟩, List.mem_of_getElem? (i := 62) (by decide +kernel), List.mem_of_getElem? (i := 757) (by decide +kernel), List.mem_of_getElem? (i := 758) (by decide +kernel)⟩
theorem lw_p25 : lw_okq (⟨"MerchantYard$LawReader", "readFine", "()Z"⟩, 14) := ⟨⟨by decide +kernel, by decide +kernel⟩, List.mem_of_getElem? (i := 62) (by decide +kernel), List.mem_of_getElem? (i := 761) (by decide +kernel), List.mem_of_getElem? (i := 762) (by decide +kernel)⟩
theorem lw_p26 : lw_okq (⟨"MerchantYard$LawReader", "pass", "(I)Z"⟩, 14) := ⟨⟨by decide +kernel, by decide +kernel⟩, List.mem_of_getElem? (i := 62) (by decide +kernel), List.mem_of_getElem? (i := 765) (by decide +kernel), List.mem_of_getElem? (i := 766) (by decide +kernel)⟩
theorem lw_p27 : lw_okq (⟨"MerchantYard$LawReader", "readTest", "(I)Z"⟩, 14) := ⟨⟨by decide +kernel, by decide +kernel⟩, List.mem_of_getElem? (i := 62) (by decide +kernel), List.mem_of_getElem? (i := 769) (by decide +kernel), List.mem_of_getElem? (i := 770) (by decide +kernel)⟩
theorem lw_p28 : lw_okq (⟨"MerchantYard$LawReader", "readFact", "(I)Z"⟩, 14) := ⟨⟨by decide +kernel, by decide +kernel⟩, List.mem_of_getElem? (i := 62) (by decide +kernel), List.mem_of_getElem? (i := 773) (by decide +kernel), List.mem_of_getElem? (i := 774) (by decide +kernel)⟩
theorem lw_p29 : lw_okq (⟨"MerchantYard$LawReader", "emit", "(I)V"⟩, 14) := ⟨⟨by decide +kernel, by decide +kernel⟩, List.mem_of_getElem? (i := 62) (by decide +kernel), List.mem_of_getElem? (i := 777) (by decide +kernel), List.mem_of_getElem? (i := 778) (by decide +kernel)⟩
theorem lw_p30 : lw_okq (⟨"MerchantYard$LawReader", "readSum", "(I)Z"⟩, 14) := ⟨⟨by decide +kernel, by decide +kernel⟩, List.mem_of_getElem? (i := 62) (by decide +kernel), List.mem_of_getElem? (i := 781) (by decide +kernel), List.mem_of_getElem? (i := 782) (by decide +kernel)⟩
theorem lw_p31 : lw_okq (⟨"MerchantYard$LawReader", "readValue", "(I)Z"⟩, 14) := ⟨⟨by decide +kernel, by decide +kernel⟩, List.mem_of_getElem? (i := 62) (by decide +kernel), List.mem_of_getElem? (i := 785) (by decide +kernel), List.mem_of_getElem? (i := 786) (by decide +kernel)⟩
def lw_privs_2 : List (MethodName × Nat) := [(⟨"MerchantYard$LawReader", "cutNumber", "(I)I"⟩, 14), (⟨"MerchantYard$LawReader", "putToken", "(III)V"⟩, 14), (⟨"MerchantYard$LawReader", "cutWord", "(I)I"⟩, 14), (⟨"MerchantYard$LawReader", "wordToken", "(II)I"⟩, 14), (⟨"MerchantYard$LawReader", "isWord", "(III)Z"⟩, 14), (⟨"MerchantYard$LawReader", "cutSign", "(I)I"⟩, 14), (⟨"MerchantYard$LawReader", "readClause", "()Z"⟩, 14), (⟨"MerchantYard$LawReader", "fail", "(I)Z"⟩, 14), (⟨"MerchantYard$LawReader", "goOn", "()V"⟩, 14), (⟨"MerchantYard$LawReader", "readFine", "()Z"⟩, 14), (⟨"MerchantYard$LawReader", "pass", "(I)Z"⟩, 14), (⟨"MerchantYard$LawReader", "readTest", "(I)Z"⟩, 14), (⟨"MerchantYard$LawReader", "readFact", "(I)Z"⟩, 14), (⟨"MerchantYard$LawReader", "emit", "(I)V"⟩, 14), (⟨"MerchantYard$LawReader", "readSum", "(I)Z"⟩, 14), (⟨"MerchantYard$LawReader", "readValue", "(I)Z"⟩, 14)]
theorem lw_r2 : ∀ q ∈ lw_privs_2, lw_okq q := List.forall_mem_cons.mpr ⟨lw_p16, List.forall_mem_cons.mpr ⟨lw_p17, List.forall_mem_cons.mpr ⟨lw_p18, List.forall_mem_cons.mpr ⟨lw_p19, List.forall_mem_cons.mpr ⟨lw_p20, List.forall_mem_cons.mpr ⟨lw_p21, List.forall_mem_cons.mpr ⟨lw_p22, List.forall_mem_cons.mpr ⟨lw_p23, List.forall_mem_cons.mpr ⟨lw_p24, List.forall_mem_cons.mpr ⟨lw_p25, List.forall_mem_cons.mpr ⟨lw_p26, List.forall_mem_cons.mpr ⟨lw_p27, List.forall_mem_cons.mpr ⟨lw_p28, List.forall_mem_cons.mpr ⟨lw_p29, List.forall_mem_cons.mpr ⟨lw_p30, List.forall_mem_cons.mpr ⟨lw_p31, fun _ h => absurd h List.not_mem_nil⟩⟩⟩⟩⟩⟩⟩⟩⟩⟩⟩⟩⟩⟩⟩⟩
theorem lw_p32 : lw_okq (⟨"MerchantYard", "refusal", "(IIIIIII)I"⟩, 15) := ⟨⟨by decide +kernel, by decide +kernel⟩, List.mem_of_getElem? (i := 28) (by decide +kernel), List.mem_of_getElem? (i := 856) (by decide +kernel), List.mem_of_getElem? (i := 857) (by decide +kernel)⟩
theorem lw_p33 : lw_okq (⟨"MerchantYard", "judge", "(IIIIIII)I"⟩, 15) := ⟨⟨by decide +kernel, by decide +kernel⟩, List.mem_of_getElem? (i := 28) (by decide +kernel), List.mem_of_getElem? (i := 860) (by decide +kernel), List.mem_of_getElem? (i := 861) (by decide +kernel)⟩
theorem lw_p34 : lw_okq (⟨"MerchantYard", "elderOn", "(I)I"⟩, 15) := ⟨⟨by decide +kernel, by decide +kernel⟩, List.mem_of_getElem? (i := 28) (by decide +kernel), List.mem_of_getElem? (i := 864) (by decide +kernel), List.mem_of_getElem? (i := 865) (by decide +kernel)⟩
theorem lw_p35 : lw_okq (⟨"MerchantYard$Sea", "covers", "(III)Z"⟩, 16) := ⟨⟨by decide +kernel, by decide +kernel⟩, List.mem_of_getElem? (i := 169) (by decide +kernel), List.mem_of_getElem? (i := 872) (by decide +kernel), List.mem_of_getElem? (i := 873) (by decide +kernel)⟩
theorem lw_p36 : lw_okq (⟨"MerchantYard$Sea", "latestNews", "(III)I"⟩, 16) := ⟨⟨by decide +kernel, by decide +kernel⟩, List.mem_of_getElem? (i := 169) (by decide +kernel), List.mem_of_getElem? (i := 880) (by decide +kernel), List.mem_of_getElem? (i := 881) (by decide +kernel)⟩
theorem lw_p37 : lw_okq (⟨"MerchantYard$Law", "isTrue", "(I[J[J)Z"⟩, 6) := ⟨⟨by decide +kernel, by decide +kernel⟩, List.mem_of_getElem? (i := 794) (by decide +kernel), List.mem_of_getElem? (i := 894) (by decide +kernel), List.mem_of_getElem? (i := 895) (by decide +kernel)⟩
theorem lw_p38 : lw_okq (⟨"MerchantYard", "splitLot", "(III)V"⟩, 15) := ⟨⟨by decide +kernel, by decide +kernel⟩, List.mem_of_getElem? (i := 28) (by decide +kernel), List.mem_of_getElem? (i := 935) (by decide +kernel), List.mem_of_getElem? (i := 936) (by decide +kernel)⟩
theorem lw_p39 : lw_okq (⟨"MerchantYard", "payFine", "(LMerchantYard$Man;I)I"⟩, 15) := ⟨⟨by decide +kernel, by decide +kernel⟩, List.mem_of_getElem? (i := 28) (by decide +kernel), List.mem_of_getElem? (i := 996) (by decide +kernel), List.mem_of_getElem? (i := 997) (by decide +kernel)⟩
theorem lw_p40 : lw_okq (⟨"MerchantYard", "bargainAt", "(I)LMerchantYard$Bargain;"⟩, 15) := ⟨⟨by decide +kernel, by decide +kernel⟩, List.mem_of_getElem? (i := 28) (by decide +kernel), List.mem_of_getElem? (i := 1004) (by decide +kernel), List.mem_of_getElem? (i := 1005) (by decide +kernel)⟩
theorem lw_p41 : lw_okq (⟨"MerchantYard", "callSurety", "(LMerchantYard$Bargain;I)I"⟩, 15) := ⟨⟨by decide +kernel, by decide +kernel⟩, List.mem_of_getElem? (i := 28) (by decide +kernel), List.mem_of_getElem? (i := 1032) (by decide +kernel), List.mem_of_getElem? (i := 1033) (by decide +kernel)⟩
theorem lw_p42 : lw_okq (⟨"MerchantYard$Measures", "isKnown", "(III)Z"⟩, 6) := ⟨⟨by decide +kernel, by decide +kernel⟩, List.mem_of_getElem? (i := 143) (by decide +kernel), List.mem_of_getElem? (i := 1071) (by decide +kernel), List.mem_of_getElem? (i := 1072) (by decide +kernel)⟩
theorem lw_p43 : lw_okq (⟨"MerchantYard$Measures", "lowerExceeds", "(II)Z"⟩, 6) := ⟨⟨by decide +kernel, by decide +kernel⟩, List.mem_of_getElem? (i := 143) (by decide +kernel), List.mem_of_getElem? (i := 1075) (by decide +kernel), List.mem_of_getElem? (i := 1076) (by decide +kernel)⟩
theorem lw_p44 : lw_okq (⟨"MerchantYard$Measures", "isWeighing", "(I)Z"⟩, 6) := ⟨⟨by decide +kernel, by decide +kernel⟩, List.mem_of_getElem? (i := 143) (by decide +kernel), List.mem_of_getElem? (i := 1083) (by decide +kernel), List.mem_of_getElem? (i := 1084) (by decide +kernel)⟩
theorem lw_p45 : lw_okq (⟨"MerchantYard$Measures", "upperExceeds", "(II)Z"⟩, 6) := ⟨⟨by decide +kernel, by decide +kernel⟩, List.mem_of_getElem? (i := 143) (by decide +kernel), List.mem_of_getElem? (i := 1097) (by decide +kernel), List.mem_of_getElem? (i := 1098) (by decide +kernel)⟩
theorem lw_p46 : lw_okq (⟨"MerchantYard$Measures", "liesAbove", "(II)Z"⟩, 6) := ⟨⟨by decide +kernel, by decide +kernel⟩, List.mem_of_getElem? (i := 143) (by decide +kernel), List.mem_of_getElem? (i := 1115) (by decide +kernel), List.mem_of_getElem? (i := 1116) (by decide +kernel)⟩
theorem lw_p47 : lw_okq (⟨"MerchantYard", "tellPlannerPrices", "()V"⟩, 15) := ⟨⟨by decide +kernel, by decide +kernel⟩, List.mem_of_getElem? (i := 28) (by decide +kernel), List.mem_of_getElem? (i := 1203) (by decide +kernel), List.mem_of_getElem? (i := 1204) (by decide +kernel)⟩
def lw_privs_3 : List (MethodName × Nat) := [(⟨"MerchantYard", "refusal", "(IIIIIII)I"⟩, 15), (⟨"MerchantYard", "judge", "(IIIIIII)I"⟩, 15), (⟨"MerchantYard", "elderOn", "(I)I"⟩, 15), (⟨"MerchantYard$Sea", "covers", "(III)Z"⟩, 16), (⟨"MerchantYard$Sea", "latestNews", "(III)I"⟩, 16), (⟨"MerchantYard$Law", "isTrue", "(I[J[J)Z"⟩, 6), (⟨"MerchantYard", "splitLot", "(III)V"⟩, 15), (⟨"MerchantYard", "payFine", "(LMerchantYard$Man;I)I"⟩, 15), (⟨"MerchantYard", "bargainAt", "(I)LMerchantYard$Bargain;"⟩, 15), (⟨"MerchantYard", "callSurety", "(LMerchantYard$Bargain;I)I"⟩, 15), (⟨"MerchantYard$Measures", "isKnown", "(III)Z"⟩, 6), (⟨"MerchantYard$Measures", "lowerExceeds", "(II)Z"⟩, 6), (⟨"MerchantYard$Measures", "isWeighing", "(I)Z"⟩, 6), (⟨"MerchantYard$Measures", "upperExceeds", "(II)Z"⟩, 6), (⟨"MerchantYard$Measures", "liesAbove", "(II)Z"⟩, 6), (⟨"MerchantYard", "tellPlannerPrices", "()V"⟩, 15)]
theorem lw_r3 : ∀ q ∈ lw_privs_3, lw_okq q := List.forall_mem_cons.mpr ⟨lw_p32, List.forall_mem_cons.mpr ⟨lw_p33, List.forall_mem_cons.mpr ⟨lw_p34, List.forall_mem_cons.mpr ⟨lw_p35, List.forall_mem_cons.mpr ⟨lw_p36, List.forall_mem_cons.mpr ⟨lw_p37, List.forall_mem_cons.mpr ⟨lw_p38, List.forall_mem_cons.mpr ⟨lw_p39, List.forall_mem_cons.mpr ⟨lw_p40, List.forall_mem_cons.mpr ⟨lw_p41, List.forall_mem_cons.mpr ⟨lw_p42, List.forall_mem_cons.mpr ⟨lw_p43, List.forall_mem_cons.mpr ⟨lw_p44, List.forall_mem_cons.mpr ⟨lw_p45, List.forall_mem_cons.mpr ⟨lw_p46, List.forall_mem_cons.mpr ⟨lw_p47, fun _ h => absurd h List.not_mem_nil⟩⟩⟩⟩⟩⟩⟩⟩⟩⟩⟩⟩⟩⟩⟩⟩
theorem lw_p48 : lw_okq (⟨"MerchantYard$Planner", "tryWays", "(IJJ)V"⟩, 14) := ⟨⟨by decide +kernel, by decide +kernel⟩, List.mem_of_getElem? (i := 230) (by decide +kernel), List.mem_of_getElem? (i := 1219) (by decide +kernel), List.mem_of_getElem? (i := 1220) (by decide +kernel)⟩
theorem lw_p49 : lw_okq (⟨"MerchantYard$Planner", "keepIfBetter", "(JJ)V"⟩, 14) := ⟨⟨by decide +kernel, by decide +kernel⟩, List.mem_of_getElem? (i := 230) (by decide +kernel), List.mem_of_getElem? (i := 1223) (by decide +kernel), List.mem_of_getElem? (i := 1224) (by decide +kernel)⟩
theorem lw_p50 : lw_okq (⟨"MerchantYard$Crowd", "isStable", "(II)Z"⟩, 6) := ⟨⟨by decide +kernel, by decide +kernel⟩, List.mem_of_getElem? (i := 286) (by decide +kernel), List.mem_of_getElem? (i := 1271) (by decide +kernel), List.mem_of_getElem? (i := 1272) (by decide +kernel)⟩
theorem lw_p51 : lw_okq (⟨"MerchantYard$Crowd", "profit", "(II)I"⟩, 6) := ⟨⟨by decide +kernel, by decide +kernel⟩, List.mem_of_getElem? (i := 286) (by decide +kernel), List.mem_of_getElem? (i := 1281) (by decide +kernel), List.mem_of_getElem? (i := 1282) (by decide +kernel)⟩
theorem lw_p52 : lw_okq (⟨"MerchantYard$Books", "weighPairs", "(II)V"⟩, 10) := ⟨⟨by decide +kernel, by decide +kernel⟩, List.mem_of_getElem? (i := 314) (by decide +kernel), List.mem_of_getElem? (i := 1313) (by decide +kernel), List.mem_of_getElem? (i := 1314) (by decide +kernel)⟩
theorem lw_p53 : lw_okq (⟨"MerchantYard$Books", "coinsBetween", "(II)I"⟩, 10) := ⟨⟨by decide +kernel, by decide +kernel⟩, List.mem_of_getElem? (i := 314) (by decide +kernel), List.mem_of_getElem? (i := 1317) (by decide +kernel), List.mem_of_getElem? (i := 1318) (by decide +kernel)⟩
theorem lw_p54 : lw_okq (⟨"MerchantYard$Books", "daysBetween", "(II)I"⟩, 10) := ⟨⟨by decide +kernel, by decide +kernel⟩, List.mem_of_getElem? (i := 314) (by decide +kernel), List.mem_of_getElem? (i := 1324) (by decide +kernel), List.mem_of_getElem? (i := 1325) (by decide +kernel)⟩
theorem lw_p55 : lw_okq (⟨"MerchantYard$Books", "bestWorth", "(III)I"⟩, 10) := ⟨⟨by decide +kernel, by decide +kernel⟩, List.mem_of_getElem? (i := 314) (by decide +kernel), List.mem_of_getElem? (i := 1329) (by decide +kernel), List.mem_of_getElem? (i := 1330) (by decide +kernel)⟩
theorem lw_p56 : lw_okq (⟨"MerchantYard$Books", "keepFirstBest", "(I)I"⟩, 10) := ⟨⟨by decide +kernel, by decide +kernel⟩, List.mem_of_getElem? (i := 314) (by decide +kernel), List.mem_of_getElem? (i := 1334) (by decide +kernel), List.mem_of_getElem? (i := 1335) (by decide +kernel)⟩
theorem lw_p57 : lw_okq (⟨"MerchantYard$Books", "firstPartner", "(III)I"⟩, 10) := ⟨⟨by decide +kernel, by decide +kernel⟩, List.mem_of_getElem? (i := 314) (by decide +kernel), List.mem_of_getElem? (i := 1338) (by decide +kernel), List.mem_of_getElem? (i := 1339) (by decide +kernel)⟩
theorem lw_p58 : lw_okq (⟨"MerchantYard", "allCoins", "()J"⟩, 15) := ⟨⟨by decide +kernel, by decide +kernel⟩, List.mem_of_getElem? (i := 28) (by decide +kernel), List.mem_of_getElem? (i := 1350) (by decide +kernel), List.mem_of_getElem? (i := 1351) (by decide +kernel)⟩
theorem lw_p59 : lw_okq (⟨"MerchantYardModel", "isThere", "(I)Z"⟩, 117) := ⟨⟨by decide +kernel, by decide +kernel⟩, List.mem_of_getElem? (i := 1354) (by decide +kernel), List.mem_of_getElem? (i := 1729) (by decide +kernel), List.mem_of_getElem? (i := 1730) (by decide +kernel)⟩
theorem lw_p60 : lw_okq (⟨"MerchantYardModel", "isMan", "(I)Z"⟩, 117) := ⟨⟨by decide +kernel, by decide +kernel⟩, List.mem_of_getElem? (i := 1354) (by decide +kernel), List.mem_of_getElem? (i := 1733) (by decide +kernel), List.mem_of_getElem? (i := 1734) (by decide +kernel)⟩
theorem lw_p61 : lw_okq (⟨"MerchantYardModel", "comes", "(IIII)I"⟩, 117) := ⟨⟨by decide +kernel, by decide +kernel⟩, List.mem_of_getElem? (i := 1354) (by decide +kernel), List.mem_of_getElem? (i := 1741) (by decide +kernel), List.mem_of_getElem? (i := 1742) (by decide +kernel)⟩
theorem lw_p62 : lw_okq (⟨"MerchantYardModel", "isLot", "(I)Z"⟩, 117) := ⟨⟨by decide +kernel, by decide +kernel⟩, List.mem_of_getElem? (i := 1354) (by decide +kernel), List.mem_of_getElem? (i := 1749) (by decide +kernel), List.mem_of_getElem? (i := 1750) (by decide +kernel)⟩
theorem lw_p63 : lw_okq (⟨"MerchantYardModel", "put", "(I)V"⟩, 117) := ⟨⟨by decide +kernel, by decide +kernel⟩, List.mem_of_getElem? (i := 1354) (by decide +kernel), List.mem_of_getElem? (i := 1757) (by decide +kernel), List.mem_of_getElem? (i := 1758) (by decide +kernel)⟩
def lw_privs_4 : List (MethodName × Nat) := [(⟨"MerchantYard$Planner", "tryWays", "(IJJ)V"⟩, 14), (⟨"MerchantYard$Planner", "keepIfBetter", "(JJ)V"⟩, 14), (⟨"MerchantYard$Crowd", "isStable", "(II)Z"⟩, 6), (⟨"MerchantYard$Crowd", "profit", "(II)I"⟩, 6), (⟨"MerchantYard$Books", "weighPairs", "(II)V"⟩, 10), (⟨"MerchantYard$Books", "coinsBetween", "(II)I"⟩, 10), (⟨"MerchantYard$Books", "daysBetween", "(II)I"⟩, 10), (⟨"MerchantYard$Books", "bestWorth", "(III)I"⟩, 10), (⟨"MerchantYard$Books", "keepFirstBest", "(I)I"⟩, 10), (⟨"MerchantYard$Books", "firstPartner", "(III)I"⟩, 10), (⟨"MerchantYard", "allCoins", "()J"⟩, 15), (⟨"MerchantYardModel", "isThere", "(I)Z"⟩, 117), (⟨"MerchantYardModel", "isMan", "(I)Z"⟩, 117), (⟨"MerchantYardModel", "comes", "(IIII)I"⟩, 117), (⟨"MerchantYardModel", "isLot", "(I)Z"⟩, 117), (⟨"MerchantYardModel", "put", "(I)V"⟩, 117)]
theorem lw_r4 : ∀ q ∈ lw_privs_4, lw_okq q := List.forall_mem_cons.mpr ⟨lw_p48, List.forall_mem_cons.mpr ⟨lw_p49, List.forall_mem_cons.mpr ⟨lw_p50, List.forall_mem_cons.mpr ⟨lw_p51, List.forall_mem_cons.mpr ⟨lw_p52, List.forall_mem_cons.mpr ⟨lw_p53, List.forall_mem_cons.mpr ⟨lw_p54, List.forall_mem_cons.mpr ⟨lw_p55, List.forall_mem_cons.mpr ⟨lw_p56, List.forall_mem_cons.mpr ⟨lw_p57, List.forall_mem_cons.mpr ⟨lw_p58, List.forall_mem_cons.mpr ⟨lw_p59, List.forall_mem_cons.mpr ⟨lw_p60, List.forall_mem_cons.mpr ⟨lw_p61, List.forall_mem_cons.mpr ⟨lw_p62, List.forall_mem_cons.mpr ⟨lw_p63, fun _ h => absurd h List.not_mem_nil⟩⟩⟩⟩⟩⟩⟩⟩⟩⟩⟩⟩⟩⟩⟩⟩
theorem lw_p64 : lw_okq (⟨"MerchantYardModel", "clause", "()V"⟩, 117) := ⟨⟨by decide +kernel, by decide +kernel⟩, List.mem_of_getElem? (i := 1354) (by decide +kernel), List.mem_of_getElem? (i := 1769) (by decide +kernel), List.mem_of_getElem? (i := 1770) (by decide +kernel)⟩
theorem lw_p65 : lw_okq (⟨"MerchantYardModel", "verb", "()I"⟩, 117) := ⟨⟨by decide +kernel, by decide +kernel⟩, List.mem_of_getElem? (i := 1354) (by decide +kernel), List.mem_of_getElem? (i := 1773) (by decide +kernel), List.mem_of_getElem? (i := 1774) (by decide +kernel)⟩
theorem lw_p66 : lw_okq (⟨"MerchantYardModel", "blanks", "()V"⟩, 117) := ⟨⟨by decide +kernel, by decide +kernel⟩, List.mem_of_getElem? (i := 1354) (by decide +kernel), List.mem_of_getElem? (i := 1777) (by decide +kernel), List.mem_of_getElem? (i := 1778) (by decide +kernel)⟩
theorem lw_p67 : lw_okq (⟨"MerchantYardModel", "wordEnd", "()I"⟩, 117) := ⟨⟨by decide +kernel, by decide +kernel⟩, List.mem_of_getElem? (i := 1354) (by decide +kernel), List.mem_of_getElem? (i := 1781) (by decide +kernel), List.mem_of_getElem? (i := 1782) (by decide +kernel)⟩
theorem lw_p68 : lw_okq (⟨"MerchantYardModel", "is", "(Ljava/lang/String;I)Z"⟩, 117) := ⟨⟨by decide +kernel, by decide +kernel⟩, List.mem_of_getElem? (i := 1354) (by decide +kernel), List.mem_of_getElem? (i := 1786) (by decide +kernel), List.mem_of_getElem? (i := 1787) (by decide +kernel)⟩
theorem lw_p69 : lw_okq (⟨"MerchantYardModel", "fails", "(II)V"⟩, 117) := ⟨⟨by decide +kernel, by decide +kernel⟩, List.mem_of_getElem? (i := 1354) (by decide +kernel), List.mem_of_getElem? (i := 1801) (by decide +kernel), List.mem_of_getElem? (i := 1802) (by decide +kernel)⟩
theorem lw_p70 : lw_okq (⟨"MerchantYardModel", "sign", "()I"⟩, 117) := ⟨⟨by decide +kernel, by decide +kernel⟩, List.mem_of_getElem? (i := 1354) (by decide +kernel), List.mem_of_getElem? (i := 1805) (by decide +kernel), List.mem_of_getElem? (i := 1806) (by decide +kernel)⟩
theorem lw_p71 : lw_okq (⟨"MerchantYardModel", "number", "()I"⟩, 117) := ⟨⟨by decide +kernel, by decide +kernel⟩, List.mem_of_getElem? (i := 1354) (by decide +kernel), List.mem_of_getElem? (i := 1812) (by decide +kernel), List.mem_of_getElem? (i := 1813) (by decide +kernel)⟩
theorem lw_p72 : lw_okq (⟨"MerchantYardModel", "wantsFact", "()I"⟩, 117) := ⟨⟨by decide +kernel, by decide +kernel⟩, List.mem_of_getElem? (i := 1354) (by decide +kernel), List.mem_of_getElem? (i := 1817) (by decide +kernel), List.mem_of_getElem? (i := 1818) (by decide +kernel)⟩
theorem lw_p73 : lw_okq (⟨"MerchantYardModel", "deeper", "(I)V"⟩, 117) := ⟨⟨by decide +kernel, by decide +kernel⟩, List.mem_of_getElem? (i := 1354) (by decide +kernel), List.mem_of_getElem? (i := 1822) (by decide +kernel), List.mem_of_getElem? (i := 1823) (by decide +kernel)⟩
theorem lw_p74 : lw_okq (⟨"MerchantYardModel", "opens", "(I)V"⟩, 117) := ⟨⟨by decide +kernel, by decide +kernel⟩, List.mem_of_getElem? (i := 1354) (by decide +kernel), List.mem_of_getElem? (i := 1826) (by decide +kernel), List.mem_of_getElem? (i := 1827) (by decide +kernel)⟩
theorem lw_p75 : lw_okq (⟨"MerchantYardModel", "value", "()Z"⟩, 117) := ⟨⟨by decide +kernel, by decide +kernel⟩, List.mem_of_getElem? (i := 1354) (by decide +kernel), List.mem_of_getElem? (i := 1830) (by decide +kernel), List.mem_of_getElem? (i := 1831) (by decide +kernel)⟩
theorem lw_p76 : lw_okq (⟨"MerchantYardModel", "counts", "(I)V"⟩, 117) := ⟨⟨by decide +kernel, by decide +kernel⟩, List.mem_of_getElem? (i := 1354) (by decide +kernel), List.mem_of_getElem? (i := 1834) (by decide +kernel), List.mem_of_getElem? (i := 1835) (by decide +kernel)⟩
theorem lw_p77 : lw_okq (⟨"MerchantYardModel", "emits", "(II)V"⟩, 117) := ⟨⟨by decide +kernel, by decide +kernel⟩, List.mem_of_getElem? (i := 1354) (by decide +kernel), List.mem_of_getElem? (i := 1838) (by decide +kernel), List.mem_of_getElem? (i := 1839) (by decide +kernel)⟩
theorem lw_p78 : lw_okq (⟨"MerchantYardModel", "hasValue", "()I"⟩, 117) := ⟨⟨by decide +kernel, by decide +kernel⟩, List.mem_of_getElem? (i := 1354) (by decide +kernel), List.mem_of_getElem? (i := 1859) (by decide +kernel), List.mem_of_getElem? (i := 1860) (by decide +kernel)⟩
theorem lw_p79 : lw_okq (⟨"MerchantYardModel", "sums", "(Z)V"⟩, 117) := ⟨⟨by decide +kernel, by decide +kernel⟩, List.mem_of_getElem? (i := 1354) (by decide +kernel), List.mem_of_getElem? (i := 1863) (by decide +kernel), List.mem_of_getElem? (i := 1864) (by decide +kernel)⟩
def lw_privs_5 : List (MethodName × Nat) := [(⟨"MerchantYardModel", "clause", "()V"⟩, 117), (⟨"MerchantYardModel", "verb", "()I"⟩, 117), (⟨"MerchantYardModel", "blanks", "()V"⟩, 117), (⟨"MerchantYardModel", "wordEnd", "()I"⟩, 117), (⟨"MerchantYardModel", "is", "(Ljava/lang/String;I)Z"⟩, 117), (⟨"MerchantYardModel", "fails", "(II)V"⟩, 117), (⟨"MerchantYardModel", "sign", "()I"⟩, 117), (⟨"MerchantYardModel", "number", "()I"⟩, 117), (⟨"MerchantYardModel", "wantsFact", "()I"⟩, 117), (⟨"MerchantYardModel", "deeper", "(I)V"⟩, 117), (⟨"MerchantYardModel", "opens", "(I)V"⟩, 117), (⟨"MerchantYardModel", "value", "()Z"⟩, 117), (⟨"MerchantYardModel", "counts", "(I)V"⟩, 117), (⟨"MerchantYardModel", "emits", "(II)V"⟩, 117), (⟨"MerchantYardModel", "hasValue", "()I"⟩, 117), (⟨"MerchantYardModel", "sums", "(Z)V"⟩, 117)]
theorem lw_r5 : ∀ q ∈ lw_privs_5, lw_okq q := List.forall_mem_cons.mpr ⟨lw_p64, List.forall_mem_cons.mpr ⟨lw_p65, List.forall_mem_cons.mpr ⟨lw_p66, List.forall_mem_cons.mpr ⟨lw_p67, List.forall_mem_cons.mpr ⟨lw_p68, List.forall_mem_cons.mpr ⟨lw_p69, List.forall_mem_cons.mpr ⟨lw_p70, List.forall_mem_cons.mpr ⟨lw_p71, List.forall_mem_cons.mpr ⟨lw_p72, List.forall_mem_cons.mpr ⟨lw_p73, List.forall_mem_cons.mpr ⟨lw_p74, List.forall_mem_cons.mpr ⟨lw_p75, List.forall_mem_cons.mpr ⟨lw_p76, List.forall_mem_cons.mpr ⟨lw_p77, List.forall_mem_cons.mpr ⟨lw_p78, List.forall_mem_cons.mpr ⟨lw_p79, fun _ h => absurd h List.not_mem_nil⟩⟩⟩⟩⟩⟩⟩⟩⟩⟩⟩⟩⟩⟩⟩⟩
theorem lw_p80 : lw_okq (⟨"MerchantYardModel", "top", "()I"⟩, 117) := ⟨⟨by decide +kernel, by decide +kernel⟩, List.mem_of_getElem? (i := 1354) (by decide +kernel), List.mem_of_getElem? (i := 1867) (by decide +kernel), List.mem_of_getElem? (i := 1868) (by decide +kernel)⟩
theorem lw_p81 : lw_okq (⟨"MerchantYardModel", "compares", "()I"⟩, 117) := ⟨⟨by decide +kernel, by decide +kernel⟩, List.mem_of_getElem? (i := 1354) (by decide +kernel), List.mem_of_getElem? (i := 1874) (by decide +kernel), List.mem_of_getElem? (i := 1875) (by decide +kernel)⟩
theorem lw_p82 : lw_okq (⟨"MerchantYardModel", "hasFact", "()I"⟩, 117) := ⟨⟨by decide +kernel, by decide +kernel⟩, List.mem_of_getElem? (i := 1354) (by decide +kernel), List.mem_of_getElem? (i := 1878) (by decide +kernel), List.mem_of_getElem? (i := 1879) (by decide +kernel)⟩
theorem lw_p83 : lw_okq (⟨"MerchantYardModel", "ands", "(Z)V"⟩, 117) := ⟨⟨by decide +kernel, by decide +kernel⟩, List.mem_of_getElem? (i := 1354) (by decide +kernel), List.mem_of_getElem? (i := 1884) (by decide +kernel), List.mem_of_getElem? (i := 1885) (by decide +kernel)⟩
theorem lw_p84 : lw_okq (⟨"MerchantYardModel", "inForce", "(II)I"⟩, 117) := ⟨⟨by decide +kernel, by decide +kernel⟩, List.mem_of_getElem? (i := 1354) (by decide +kernel), List.mem_of_getElem? (i := 1903) (by decide +kernel), List.mem_of_getElem? (i := 1904) (by decide +kernel)⟩
theorem lw_p85 : lw_okq (⟨"MerchantYardModel", "shuts", "(III)Z"⟩, 117) := ⟨⟨by decide +kernel, by decide +kernel⟩, List.mem_of_getElem? (i := 1354) (by decide +kernel), List.mem_of_getElem? (i := 1919) (by decide +kernel), List.mem_of_getElem? (i := 1920) (by decide +kernel)⟩
theorem lw_p86 : lw_okq (⟨"MerchantYardModel", "asked", "(IIIIIII)I"⟩, 117) := ⟨⟨by decide +kernel, by decide +kernel⟩, List.mem_of_getElem? (i := 1354) (by decide +kernel), List.mem_of_getElem? (i := 1927) (by decide +kernel), List.mem_of_getElem? (i := 1928) (by decide +kernel)⟩
theorem lw_p87 : lw_okq (⟨"MerchantYardModel", "weighs", "(IIIIIII)I"⟩, 117) := ⟨⟨by decide +kernel, by decide +kernel⟩, List.mem_of_getElem? (i := 1354) (by decide +kernel), List.mem_of_getElem? (i := 1931) (by decide +kernel), List.mem_of_getElem? (i := 1932) (by decide +kernel)⟩
theorem lw_p88 : lw_okq (⟨"MerchantYardModel", "owes", "(IZ)I"⟩, 117) := ⟨⟨by decide +kernel, by decide +kernel⟩, List.mem_of_getElem? (i := 1354) (by decide +kernel), List.mem_of_getElem? (i := 1942) (by decide +kernel), List.mem_of_getElem? (i := 1943) (by decide +kernel)⟩
theorem lw_p89 : lw_okq (⟨"MerchantYardModel", "isShutTo", "(I)Z"⟩, 117) := ⟨⟨by decide +kernel, by decide +kernel⟩, List.mem_of_getElem? (i := 1354) (by decide +kernel), List.mem_of_getElem? (i := 1946) (by decide +kernel), List.mem_of_getElem? (i := 1947) (by decide +kernel)⟩
theorem lw_p90 : lw_okq (⟨"MerchantYardModel", "isTrue", "(I)Z"⟩, 117) := ⟨⟨by decide +kernel, by decide +kernel⟩, List.mem_of_getElem? (i := 1354) (by decide +kernel), List.mem_of_getElem? (i := 1954) (by decide +kernel), List.mem_of_getElem? (i := 1955) (by decide +kernel)⟩
theorem lw_p91 : lw_okq (⟨"MerchantYardModel", "isBargain", "(I)Z"⟩, 117) := ⟨⟨by decide +kernel, by decide +kernel⟩, List.mem_of_getElem? (i := 1354) (by decide +kernel), List.mem_of_getElem? (i := 1973) (by decide +kernel), List.mem_of_getElem? (i := 1974) (by decide +kernel)⟩
theorem lw_p92 : lw_okq (⟨"MerchantYardModel", "pays", "(II)I"⟩, 117) := ⟨⟨by decide +kernel, by decide +kernel⟩, List.mem_of_getElem? (i := 1354) (by decide +kernel), List.mem_of_getElem? (i := 1989) (by decide +kernel), List.mem_of_getElem? (i := 1990) (by decide +kernel)⟩
theorem lw_p93 : lw_okq (⟨"MerchantYardModel", "goes", "(III)V"⟩, 117) := ⟨⟨by decide +kernel, by decide +kernel⟩, List.mem_of_getElem? (i := 1354) (by decide +kernel), List.mem_of_getElem? (i := 1993) (by decide +kernel), List.mem_of_getElem? (i := 1994) (by decide +kernel)⟩
theorem lw_p94 : lw_okq (⟨"MerchantYardModel", "claims", "(III)I"⟩, 117) := ⟨⟨by decide +kernel, by decide +kernel⟩, List.mem_of_getElem? (i := 1354) (by decide +kernel), List.mem_of_getElem? (i := 2005) (by decide +kernel), List.mem_of_getElem? (i := 2006) (by decide +kernel)⟩
theorem lw_p95 : lw_okq (⟨"MerchantYardModel", "spans", "(II)V"⟩, 117) := ⟨⟨by decide +kernel, by decide +kernel⟩, List.mem_of_getElem? (i := 1354) (by decide +kernel), List.mem_of_getElem? (i := 2033) (by decide +kernel), List.mem_of_getElem? (i := 2034) (by decide +kernel)⟩
def lw_privs_6 : List (MethodName × Nat) := [(⟨"MerchantYardModel", "top", "()I"⟩, 117), (⟨"MerchantYardModel", "compares", "()I"⟩, 117), (⟨"MerchantYardModel", "hasFact", "()I"⟩, 117), (⟨"MerchantYardModel", "ands", "(Z)V"⟩, 117), (⟨"MerchantYardModel", "inForce", "(II)I"⟩, 117), (⟨"MerchantYardModel", "shuts", "(III)Z"⟩, 117), (⟨"MerchantYardModel", "asked", "(IIIIIII)I"⟩, 117), (⟨"MerchantYardModel", "weighs", "(IIIIIII)I"⟩, 117), (⟨"MerchantYardModel", "owes", "(IZ)I"⟩, 117), (⟨"MerchantYardModel", "isShutTo", "(I)Z"⟩, 117), (⟨"MerchantYardModel", "isTrue", "(I)Z"⟩, 117), (⟨"MerchantYardModel", "isBargain", "(I)Z"⟩, 117), (⟨"MerchantYardModel", "pays", "(II)I"⟩, 117), (⟨"MerchantYardModel", "goes", "(III)V"⟩, 117), (⟨"MerchantYardModel", "claims", "(III)I"⟩, 117), (⟨"MerchantYardModel", "spans", "(II)V"⟩, 117)]
theorem lw_r6 : ∀ q ∈ lw_privs_6, lw_okq q := List.forall_mem_cons.mpr ⟨lw_p80, List.forall_mem_cons.mpr ⟨lw_p81, List.forall_mem_cons.mpr ⟨lw_p82, List.forall_mem_cons.mpr ⟨lw_p83, List.forall_mem_cons.mpr ⟨lw_p84, List.forall_mem_cons.mpr ⟨lw_p85, List.forall_mem_cons.mpr ⟨lw_p86, List.forall_mem_cons.mpr ⟨lw_p87, List.forall_mem_cons.mpr ⟨lw_p88, List.forall_mem_cons.mpr ⟨lw_p89, List.forall_mem_cons.mpr ⟨lw_p90, List.forall_mem_cons.mpr ⟨lw_p91, List.forall_mem_cons.mpr ⟨lw_p92, List.forall_mem_cons.mpr ⟨lw_p93, List.forall_mem_cons.mpr ⟨lw_p94, List.forall_mem_cons.mpr ⟨lw_p95, fun _ h => absurd h List.not_mem_nil⟩⟩⟩⟩⟩⟩⟩⟩⟩⟩⟩⟩⟩⟩⟩⟩
theorem lw_p96 : lw_okq (⟨"MerchantYardModel", "holds", "(III)Z"⟩, 117) := ⟨⟨by decide +kernel, by decide +kernel⟩, List.mem_of_getElem? (i := 1354) (by decide +kernel), List.mem_of_getElem? (i := 2037) (by decide +kernel), List.mem_of_getElem? (i := 2038) (by decide +kernel)⟩
theorem lw_p97 : lw_okq (⟨"MerchantYardModel", "bars", "(II)Z"⟩, 117) := ⟨⟨by decide +kernel, by decide +kernel⟩, List.mem_of_getElem? (i := 1354) (by decide +kernel), List.mem_of_getElem? (i := 2041) (by decide +kernel), List.mem_of_getElem? (i := 2042) (by decide +kernel)⟩
theorem lw_p98 : lw_okq (⟨"MerchantYardModel", "gathers", "()I"⟩, 117) := ⟨⟨by decide +kernel, by decide +kernel⟩, List.mem_of_getElem? (i := 1354) (by decide +kernel), List.mem_of_getElem? (i := 2071) (by decide +kernel), List.mem_of_getElem? (i := 2072) (by decide +kernel)⟩
theorem lw_p99 : lw_okq (⟨"MerchantYardModel", "worth", "(II)I"⟩, 117) := ⟨⟨by decide +kernel, by decide +kernel⟩, List.mem_of_getElem? (i := 1354) (by decide +kernel), List.mem_of_getElem? (i := 2099) (by decide +kernel), List.mem_of_getElem? (i := 2100) (by decide +kernel)⟩
theorem lw_p100 : lw_okq (⟨"MerchantYardModel", "pairs", "(IIII)J"⟩, 117) := ⟨⟨by decide +kernel, by decide +kernel⟩, List.mem_of_getElem? (i := 1354) (by decide +kernel), List.mem_of_getElem? (i := 2119) (by decide +kernel), List.mem_of_getElem? (i := 2120) (by decide +kernel)⟩
def lw_privs_7 : List (MethodName × Nat) := [(⟨"MerchantYardModel", "holds", "(III)Z"⟩, 117), (⟨"MerchantYardModel", "bars", "(II)Z"⟩, 117), (⟨"MerchantYardModel", "gathers", "()I"⟩, 117), (⟨"MerchantYardModel", "worth", "(II)I"⟩, 117), (⟨"MerchantYardModel", "pairs", "(IIII)J"⟩, 117)]
theorem lw_r7 : ∀ q ∈ lw_privs_7, lw_okq q := List.forall_mem_cons.mpr ⟨lw_p96, List.forall_mem_cons.mpr ⟨lw_p97, List.forall_mem_cons.mpr ⟨lw_p98, List.forall_mem_cons.mpr ⟨lw_p99, List.forall_mem_cons.mpr ⟨lw_p100, fun _ h => absurd h List.not_mem_nil⟩⟩⟩⟩⟩
def lw_privs : List (MethodName × Nat) := lw_privs_1 ++ (lw_privs_2 ++ (lw_privs_3 ++ (lw_privs_4 ++ (lw_privs_5 ++ (lw_privs_6 ++ (lw_privs_7))))))
def lw_tbl : List Cond := k2_sels lw_privs ++ tables_1
theorem lw_privs_ok : ∀ q ∈ lw_privs, lw_okq q := by
  show ∀ q ∈ lw_privs_1 ++ (lw_privs_2 ++ (lw_privs_3 ++ (lw_privs_4 ++ (lw_privs_5 ++ (lw_privs_6 ++ (lw_privs_7)))))), lw_okq q
  exact List.forall_mem_append.mpr ⟨lw_r1, List.forall_mem_append.mpr ⟨lw_r2, List.forall_mem_append.mpr ⟨lw_r3, List.forall_mem_append.mpr ⟨lw_r4, List.forall_mem_append.mpr ⟨lw_r5, List.forall_mem_append.mpr ⟨lw_r6, lw_r7⟩⟩⟩⟩⟩⟩
-- ===== end of PART A; then your names; then what follows =====
/-! ===== BEGIN words of one list among another's, by their places ===== -/
theorem goodIn_r {big : List Cond} (ws : List Cond) (ps : List Nat) (hp : ws = ps.filterMap (fun i => big[i]?)) (h : ws.all goodWord = true) : GoodIn big ws := by
  intro w hw
  have h1 := List.all_eq_true.mp h w hw
  rw [hp] at hw
  obtain ⟨i, -, hi⟩ := List.mem_filterMap.mp hw
  have hm : w ∈ big := by first | exact List.mem_of_getElem? hi | exact List.getElem?_mem hi
  exact ⟨hm, good_of_word h1⟩
theorem goodIn_app {big a b : List Cond} (ha : GoodIn big a) (hb : GoodIn big b) : GoodIn big (a ++ b) := fun w h => (List.mem_append.mp h).elim (ha w) (hb w)
theorem goodIn_ca {big a b : List Cond} {c : Cond} (ha : GoodIn big (c :: a)) (hb : GoodIn big b) : GoodIn big (c :: (a ++ b)) := fun w h => (List.mem_cons.mp h).elim (fun e => ha w (List.mem_cons.mpr (Or.inl e))) (fun h => (List.mem_append.mp h).elim (fun h => ha w (List.mem_cons.mpr (Or.inr h))) (hb w))
theorem goodIn_sub {big ws : List Cond} (hm : ∀ w ∈ ws, w ∈ big) (h : ws.all goodWord = true) : GoodIn big ws := fun w hw => ⟨hm w hw, good_of_word (List.all_eq_true.mp h w hw)⟩
/-! ===== END ===== -/

def RX0 : String := "MerchantYard$Bargain"
def TX0 : u_T := fun k => match k with
  | 0 => ("MerchantYard$Bargain", "seller", "I", true)
  | 1 => ("MerchantYard$Bargain", "buyer", "I", true)
  | 2 => ("MerchantYard$Bargain", "lot", "I", true)
  | 3 => ("MerchantYard$Bargain", "price", "I", true)
  | 4 => ("MerchantYard$Bargain", "due", "I", true)
  | 5 => ("MerchantYard$Bargain", "day", "I", true)
  | 6 => ("MerchantYard$Bargain", "owed", "I", false)
  | 7 => ("MerchantYard$Bargain", "fine", "I", false)
  | 8 => ("MerchantYard$Bargain", "creditor", "I", false)
  | 9 => ("MerchantYard$Bargain", "suretyCount", "I", false)
  | 10 => ("MerchantYard$Bargain", "vouchers", "[I", true)
  | 11 => ("MerchantYard$Bargain", "claims", "[I", true)
  | _ => ("MerchantYard$Bargain", "claimants", "[I", true)
def tyX0 : Nat → FieldType := fun k => match k with
  | 0 => .int
  | 1 => .int
  | 2 => .int
  | 3 => .int
  | 4 => .int
  | 5 => .int
  | 6 => .int
  | 7 => .int
  | 8 => .int
  | 9 => .int
  | 10 => .array .int
  | 11 => .array .int
  | _ => .array .int
theorem nmX0 : ∀ a, a < 13 → ∀ b, b < 13 → a ≠ b → (TX0 a).2.1 ≠ (TX0 b).2.1 := by decide +kernel
theorem tyX0_ok : ∀ k, k < 13 → parseFieldDescriptor (TX0 k).2.2.1 = some (tyX0 k) := by decide +kernel
abbrev cX0_init : ByteArray := prog_2_method_1_code
def yX0_init : MethodName := ⟨RX0, "<init>", "(IIIIII)V"⟩
abbrev cX0_hasSurety : ByteArray := prog_2_method_2_code
def yX0_hasSurety : MethodName := ⟨RX0, "hasSurety", "(I)Z"⟩
abbrev cX0_addSurety : ByteArray := prog_2_method_3_code
def yX0_addSurety : MethodName := ⟨RX0, "addSurety", "(I)V"⟩
abbrev cX0_allClaims : ByteArray := prog_2_method_4_code
def yX0_allClaims : MethodName := ⟨RX0, "allClaims", "()I"⟩
abbrev cX0_passTo : ByteArray := prog_2_method_5_code
def yX0_passTo : MethodName := ⟨RX0, "passTo", "(II)V"⟩
def RX1 : String := "MerchantYard$Books"
def TX1 : u_T := fun k => match k with
  | 0 => ("MerchantYard$Books", "counts", "[I", true)
  | 1 => ("MerchantYard$Books", "days", "[[I", true)
  | 2 => ("MerchantYard$Books", "men", "[[I", true)
  | 3 => ("MerchantYard$Books", "coins", "[[I", true)
  | 4 => ("MerchantYard$Books", "partners", "[I", true)
  | 5 => ("MerchantYard$Books", "coinsApart", "I", false)
  | 6 => ("MerchantYard$Books", "daysApart", "I", false)
  | 7 => ("MerchantYard$Books", "paired", "Z", false)
  | 8 => ("MerchantYard$Books", "pairs", "[I", true)
  | _ => ("MerchantYard$Books", "worths", "[I", false)
def tyX1 : Nat → FieldType := fun k => match k with
  | 0 => .array .int
  | 1 => .array (.array .int)
  | 2 => .array (.array .int)
  | 3 => .array (.array .int)
  | 4 => .array .int
  | 5 => .int
  | 6 => .int
  | 7 => .boolean
  | 8 => .array .int
  | _ => .array .int
theorem nmX1 : ∀ a, a < 10 → ∀ b, b < 10 → a ≠ b → (TX1 a).2.1 ≠ (TX1 b).2.1 := by decide +kernel
theorem tyX1_ok : ∀ k, k < 10 → parseFieldDescriptor (TX1 k).2.2.1 = some (tyX1 k) := by decide +kernel
abbrev cX1_init : ByteArray := prog_3_method_1_code
def yX1_init : MethodName := ⟨RX1, "<init>", "()V"⟩
abbrev cX1_add : ByteArray := prog_3_method_2_code
def yX1_add : MethodName := ⟨RX1, "add", "(IIII)I"⟩
abbrev cX1_empty : ByteArray := prog_3_method_3_code
def yX1_empty : MethodName := ⟨RX1, "empty", "()I"⟩
abbrev cX1_findPairs : ByteArray := prog_3_method_4_code
def yX1_findPairs : MethodName := ⟨RX1, "findPairs", "(II)I"⟩
abbrev cX1_weighPairs : ByteArray := prog_3_method_5_code
def yX1_weighPairs : MethodName := ⟨RX1, "weighPairs", "(II)V"⟩
abbrev cX1_coinsBetween : ByteArray := prog_3_method_6_code
def yX1_coinsBetween : MethodName := ⟨RX1, "coinsBetween", "(II)I"⟩
abbrev cX1_daysBetween : ByteArray := prog_3_method_7_code
def yX1_daysBetween : MethodName := ⟨RX1, "daysBetween", "(II)I"⟩
abbrev cX1_bestWorth : ByteArray := prog_3_method_8_code
def yX1_bestWorth : MethodName := ⟨RX1, "bestWorth", "(III)I"⟩
abbrev cX1_keepFirstBest : ByteArray := prog_3_method_9_code
def yX1_keepFirstBest : MethodName := ⟨RX1, "keepFirstBest", "(I)I"⟩
abbrev cX1_firstPartner : ByteArray := prog_3_method_10_code
def yX1_firstPartner : MethodName := ⟨RX1, "firstPartner", "(III)I"⟩
def RX2 : String := "MerchantYard$Court"
def TX2 : u_T := fun k => match k with
  | 0 => ("MerchantYard$Court", "laws", "Ljava/util/ArrayList;", true)
  | 1 => ("MerchantYard$Court", "facts", "[J", true)
  | 2 => ("MerchantYard$Court", "stack", "[J", true)
  | 3 => ("MerchantYard$Court", "toldLaw", "I", false)
  | _ => ("MerchantYard$Court", "toldClause", "I", false)
def tyX2 : Nat → FieldType := fun k => match k with
  | 0 => .object "java/util/ArrayList"
  | 1 => .array .long
  | 2 => .array .long
  | 3 => .int
  | _ => .int
theorem nmX2 : ∀ a, a < 5 → ∀ b, b < 5 → a ≠ b → (TX2 a).2.1 ≠ (TX2 b).2.1 := by decide +kernel
theorem tyX2_ok : ∀ k, k < 5 → parseFieldDescriptor (TX2 k).2.2.1 = some (tyX2 k) := by decide +kernel
abbrev cX2_init : ByteArray := prog_4_method_1_code
def yX2_init : MethodName := ⟨RX2, "<init>", "()V"⟩
abbrev cX2_lawAt : ByteArray := prog_4_method_2_code
def yX2_lawAt : MethodName := ⟨RX2, "lawAt", "(I)LMerchantYard$Law;"⟩
abbrev cX2_inForce : ByteArray := prog_4_method_3_code
def yX2_inForce : MethodName := ⟨RX2, "inForce", "(II)I"⟩
abbrev cX2_decide : ByteArray := prog_4_method_4_code
def yX2_decide : MethodName := ⟨RX2, "decide", "(I)I"⟩
def RX3 : String := "MerchantYard$Crowd"
def TX3 : u_T := fun k => match k with
  | 0 => ("MerchantYard$Crowd", "gains", "[I", true)
  | 1 => ("MerchantYard$Crowd", "fines", "[I", true)
  | 2 => ("MerchantYard$Crowd", "crowds", "[I", true)
  | 3 => ("MerchantYard$Crowd", "handCount", "I", false)
  | 4 => ("MerchantYard$Crowd", "holding", "[I", true)
  | _ => ("MerchantYard$Crowd", "holdingCount", "I", false)
def tyX3 : Nat → FieldType := fun k => match k with
  | 0 => .array .int
  | 1 => .array .int
  | 2 => .array .int
  | 3 => .int
  | 4 => .array .int
  | _ => .int
theorem nmX3 : ∀ a, a < 6 → ∀ b, b < 6 → a ≠ b → (TX3 a).2.1 ≠ (TX3 b).2.1 := by decide +kernel
theorem tyX3_ok : ∀ k, k < 6 → parseFieldDescriptor (TX3 k).2.2.1 = some (tyX3 k) := by decide +kernel
abbrev cX3_init : ByteArray := prog_5_method_1_code
def yX3_init : MethodName := ⟨RX3, "<init>", "()V"⟩
abbrev cX3_setHand : ByteArray := prog_5_method_2_code
def yX3_setHand : MethodName := ⟨RX3, "setHand", "(IIII)Z"⟩
abbrev cX3_findHolding : ByteArray := prog_5_method_3_code
def yX3_findHolding : MethodName := ⟨RX3, "findHolding", "(I)I"⟩
abbrev cX3_isStable : ByteArray := prog_5_method_4_code
def yX3_isStable : MethodName := ⟨RX3, "isStable", "(II)Z"⟩
abbrev cX3_profit : ByteArray := prog_5_method_5_code
def yX3_profit : MethodName := ⟨RX3, "profit", "(II)I"⟩
def RX4 : String := "MerchantYard$Law"
def TX4 : u_T := fun k => match k with
  | 0 => ("MerchantYard$Law", "rank", "I", true)
  | 1 => ("MerchantYard$Law", "toldOn", "I", true)
  | 2 => ("MerchantYard$Law", "binds", "I", false)
  | 3 => ("MerchantYard$Law", "verdicts", "[I", true)
  | 4 => ("MerchantYard$Law", "starts", "[I", true)
  | _ => ("MerchantYard$Law", "code", "[I", true)
def tyX4 : Nat → FieldType := fun k => match k with
  | 0 => .int
  | 1 => .int
  | 2 => .int
  | 3 => .array .int
  | 4 => .array .int
  | _ => .array .int
theorem nmX4 : ∀ a, a < 6 → ∀ b, b < 6 → a ≠ b → (TX4 a).2.1 ≠ (TX4 b).2.1 := by decide +kernel
theorem tyX4_ok : ∀ k, k < 6 → parseFieldDescriptor (TX4 k).2.2.1 = some (tyX4 k) := by decide +kernel
abbrev cX4_init : ByteArray := prog_6_method_1_code
def yX4_init : MethodName := ⟨RX4, "<init>", "(III[I[I[I)V"⟩
abbrev cX4_firstTrue : ByteArray := prog_6_method_2_code
def yX4_firstTrue : MethodName := ⟨RX4, "firstTrue", "([J[J)I"⟩
abbrev cX4_isTrue : ByteArray := prog_6_method_3_code
def yX4_isTrue : MethodName := ⟨RX4, "isTrue", "(I[J[J)Z"⟩
abbrev cX4_combine : ByteArray := prog_6_method_4_code
def yX4_combine : MethodName := ⟨RX4, "combine", "(IJJ)J"⟩
abbrev cX4_compares : ByteArray := prog_6_method_5_code
def yX4_compares : MethodName := ⟨RX4, "compares", "(IJJ)Z"⟩
def RX5 : String := "MerchantYard$LawReader"
def TX5 : u_T := fun k => match k with
  | 0 => ("MerchantYard$LawReader", "tape", "[B", true)
  | 1 => ("MerchantYard$LawReader", "length", "I", false)
  | 2 => ("MerchantYard$LawReader", "tokens", "[I", true)
  | 3 => ("MerchantYard$LawReader", "places", "[I", true)
  | 4 => ("MerchantYard$LawReader", "numbers", "[I", true)
  | 5 => ("MerchantYard$LawReader", "tokenCount", "I", false)
  | 6 => ("MerchantYard$LawReader", "at", "I", false)
  | 7 => ("MerchantYard$LawReader", "counted", "I", false)
  | 8 => ("MerchantYard$LawReader", "fault", "I", false)
  | 9 => ("MerchantYard$LawReader", "code", "[I", true)
  | 10 => ("MerchantYard$LawReader", "codeLength", "I", false)
  | 11 => ("MerchantYard$LawReader", "verdicts", "[I", true)
  | 12 => ("MerchantYard$LawReader", "starts", "[I", true)
  | _ => ("MerchantYard$LawReader", "clauseCount", "I", false)
def tyX5 : Nat → FieldType := fun k => match k with
  | 0 => .array .byte
  | 1 => .int
  | 2 => .array .int
  | 3 => .array .int
  | 4 => .array .int
  | 5 => .int
  | 6 => .int
  | 7 => .int
  | 8 => .int
  | 9 => .array .int
  | 10 => .int
  | 11 => .array .int
  | 12 => .array .int
  | _ => .int
theorem nmX5 : ∀ a, a < 14 → ∀ b, b < 14 → a ≠ b → (TX5 a).2.1 ≠ (TX5 b).2.1 := by decide +kernel
theorem tyX5_ok : ∀ k, k < 14 → parseFieldDescriptor (TX5 k).2.2.1 = some (tyX5 k) := by decide +kernel
abbrev cX5_init : ByteArray := prog_7_method_1_code
def yX5_init : MethodName := ⟨RX5, "<init>", "()V"⟩
abbrev cX5_hasRoomFor : ByteArray := prog_7_method_2_code
def yX5_hasRoomFor : MethodName := ⟨RX5, "hasRoomFor", "(I)Z"⟩
abbrev cX5_write : ByteArray := prog_7_method_3_code
def yX5_write : MethodName := ⟨RX5, "write", "(I)V"⟩
abbrev cX5_readTape : ByteArray := prog_7_method_4_code
def yX5_readTape : MethodName := ⟨RX5, "readTape", "()I"⟩
abbrev cX5_lawOf : ByteArray := prog_7_method_5_code
def yX5_lawOf : MethodName := ⟨RX5, "lawOf", "(III)LMerchantYard$Law;"⟩
abbrev cX5_cutTokens : ByteArray := prog_7_method_6_code
def yX5_cutTokens : MethodName := ⟨RX5, "cutTokens", "()V"⟩
abbrev cX5_putToken : ByteArray := prog_7_method_7_code
def yX5_putToken : MethodName := ⟨RX5, "putToken", "(III)V"⟩
abbrev cX5_cutNumber : ByteArray := prog_7_method_8_code
def yX5_cutNumber : MethodName := ⟨RX5, "cutNumber", "(I)I"⟩
abbrev cX5_cutWord : ByteArray := prog_7_method_9_code
def yX5_cutWord : MethodName := ⟨RX5, "cutWord", "(I)I"⟩
abbrev cX5_cutSign : ByteArray := prog_7_method_10_code
def yX5_cutSign : MethodName := ⟨RX5, "cutSign", "(I)I"⟩
abbrev cX5_wordToken : ByteArray := prog_7_method_11_code
def yX5_wordToken : MethodName := ⟨RX5, "wordToken", "(II)I"⟩
abbrev cX5_isWord : ByteArray := prog_7_method_12_code
def yX5_isWord : MethodName := ⟨RX5, "isWord", "(III)Z"⟩
abbrev cX5_isDigit : ByteArray := prog_7_method_13_code
def yX5_isDigit : MethodName := ⟨RX5, "isDigit", "(I)Z"⟩
abbrev cX5_isLetter : ByteArray := prog_7_method_14_code
def yX5_isLetter : MethodName := ⟨RX5, "isLetter", "(I)Z"⟩
abbrev cX5_signToken : ByteArray := prog_7_method_15_code
def yX5_signToken : MethodName := ⟨RX5, "signToken", "(IZ)I"⟩
abbrev cX5_readClause : ByteArray := prog_7_method_16_code
def yX5_readClause : MethodName := ⟨RX5, "readClause", "()Z"⟩
abbrev cX5_readFine : ByteArray := prog_7_method_17_code
def yX5_readFine : MethodName := ⟨RX5, "readFine", "()Z"⟩
abbrev cX5_readTest : ByteArray := prog_7_method_18_code
def yX5_readTest : MethodName := ⟨RX5, "readTest", "(I)Z"⟩
abbrev cX5_readFact : ByteArray := prog_7_method_19_code
def yX5_readFact : MethodName := ⟨RX5, "readFact", "(I)Z"⟩
abbrev cX5_readSum : ByteArray := prog_7_method_20_code
def yX5_readSum : MethodName := ⟨RX5, "readSum", "(I)Z"⟩
abbrev cX5_readValue : ByteArray := prog_7_method_21_code
def yX5_readValue : MethodName := ⟨RX5, "readValue", "(I)Z"⟩
abbrev cX5_goOn : ByteArray := prog_7_method_22_code
def yX5_goOn : MethodName := ⟨RX5, "goOn", "()V"⟩
abbrev cX5_pass : ByteArray := prog_7_method_23_code
def yX5_pass : MethodName := ⟨RX5, "pass", "(I)Z"⟩
abbrev cX5_fail : ByteArray := prog_7_method_24_code
def yX5_fail : MethodName := ⟨RX5, "fail", "(I)Z"⟩
abbrev cX5_emit : ByteArray := prog_7_method_25_code
def yX5_emit : MethodName := ⟨RX5, "emit", "(I)V"⟩
def RX6 : String := "MerchantYard$Lot"
def TX6 : u_T := fun k => match k with
  | 0 => ("MerchantYard$Lot", "kind", "I", true)
  | 1 => ("MerchantYard$Lot", "from", "I", true)
  | 2 => ("MerchantYard$Lot", "first", "I", true)
  | 3 => ("MerchantYard$Lot", "amount", "I", false)
  | _ => ("MerchantYard$Lot", "owner", "I", false)
def tyX6 : Nat → FieldType := fun k => match k with
  | 0 => .int
  | 1 => .int
  | 2 => .int
  | 3 => .int
  | _ => .int
theorem nmX6 : ∀ a, a < 5 → ∀ b, b < 5 → a ≠ b → (TX6 a).2.1 ≠ (TX6 b).2.1 := by decide +kernel
theorem tyX6_ok : ∀ k, k < 5 → parseFieldDescriptor (TX6 k).2.2.1 = some (tyX6 k) := by decide +kernel
abbrev cX6_init : ByteArray := prog_8_method_1_code
def yX6_init : MethodName := ⟨RX6, "<init>", "(IIII)V"⟩
def RX7 : String := "MerchantYard$Man"
def TX7 : u_T := fun k => match k with
  | 0 => ("MerchantYard$Man", "town", "I", true)
  | 1 => ("MerchantYard$Man", "winterer", "Z", true)
  | 2 => ("MerchantYard$Man", "came", "I", true)
  | 3 => ("MerchantYard$Man", "purse", "I", false)
  | 4 => ("MerchantYard$Man", "gone", "I", false)
  | 5 => ("MerchantYard$Man", "broke", "I", false)
  | _ => ("MerchantYard$Man", "sailed", "I", false)
def tyX7 : Nat → FieldType := fun k => match k with
  | 0 => .int
  | 1 => .boolean
  | 2 => .int
  | 3 => .int
  | 4 => .int
  | 5 => .int
  | _ => .int
theorem nmX7 : ∀ a, a < 7 → ∀ b, b < 7 → a ≠ b → (TX7 a).2.1 ≠ (TX7 b).2.1 := by decide +kernel
theorem tyX7_ok : ∀ k, k < 7 → parseFieldDescriptor (TX7 k).2.2.1 = some (tyX7 k) := by decide +kernel
abbrev cX7_init : ByteArray := prog_9_method_1_code
def yX7_init : MethodName := ⟨RX7, "<init>", "(IZII)V"⟩
abbrev cX7_wasThere : ByteArray := prog_9_method_2_code
def yX7_wasThere : MethodName := ⟨RX7, "wasThere", "(I)Z"⟩
abbrev cX7_spend : ByteArray := prog_9_method_3_code
def yX7_spend : MethodName := ⟨RX7, "spend", "(I)I"⟩
abbrev cX7_receive : ByteArray := prog_9_method_4_code
def yX7_receive : MethodName := ⟨RX7, "receive", "(I)I"⟩
def RX8 : String := "MerchantYard$Measures"
def TX8 : u_T := fun k => match k with
  | 0 => ("MerchantYard$Measures", "kinds", "[I", true)
  | 1 => ("MerchantYard$Measures", "ours", "[I", true)
  | 2 => ("MerchantYard$Measures", "theirs", "[I", true)
  | 3 => ("MerchantYard$Measures", "toldOn", "[I", true)
  | 4 => ("MerchantYard$Measures", "backOn", "[I", true)
  | _ => ("MerchantYard$Measures", "count", "I", false)
def tyX8 : Nat → FieldType := fun k => match k with
  | 0 => .array .int
  | 1 => .array .int
  | 2 => .array .int
  | 3 => .array .int
  | 4 => .array .int
  | _ => .int
theorem nmX8 : ∀ a, a < 6 → ∀ b, b < 6 → a ≠ b → (TX8 a).2.1 ≠ (TX8 b).2.1 := by decide +kernel
theorem tyX8_ok : ∀ k, k < 6 → parseFieldDescriptor (TX8 k).2.2.1 = some (tyX8 k) := by decide +kernel
abbrev cX8_init : ByteArray := prog_10_method_1_code
def yX8_init : MethodName := ⟨RX8, "<init>", "()V"⟩
abbrev cX8_add : ByteArray := prog_10_method_2_code
def yX8_add : MethodName := ⟨RX8, "add", "(IIII)I"⟩
abbrev cX8_withdraw : ByteArray := prog_10_method_3_code
def yX8_withdraw : MethodName := ⟨RX8, "withdraw", "(II)Z"⟩
abbrev cX8_isKnown : ByteArray := prog_10_method_4_code
def yX8_isKnown : MethodName := ⟨RX8, "isKnown", "(III)Z"⟩
abbrev cX8_greatestLower : ByteArray := prog_10_method_5_code
def yX8_greatestLower : MethodName := ⟨RX8, "greatestLower", "(II)I"⟩
abbrev cX8_leastUpper : ByteArray := prog_10_method_6_code
def yX8_leastUpper : MethodName := ⟨RX8, "leastUpper", "(II)I"⟩
abbrev cX8_lowerExceeds : ByteArray := prog_10_method_7_code
def yX8_lowerExceeds : MethodName := ⟨RX8, "lowerExceeds", "(II)Z"⟩
abbrev cX8_upperExceeds : ByteArray := prog_10_method_8_code
def yX8_upperExceeds : MethodName := ⟨RX8, "upperExceeds", "(II)Z"⟩
abbrev cX8_liesAbove : ByteArray := prog_10_method_9_code
def yX8_liesAbove : MethodName := ⟨RX8, "liesAbove", "(II)Z"⟩
abbrev cX8_lowerAbove : ByteArray := prog_10_method_10_code
def yX8_lowerAbove : MethodName := ⟨RX8, "lowerAbove", "(I)I"⟩
abbrev cX8_lowerBelow : ByteArray := prog_10_method_11_code
def yX8_lowerBelow : MethodName := ⟨RX8, "lowerBelow", "(I)I"⟩
abbrev cX8_upperAbove : ByteArray := prog_10_method_12_code
def yX8_upperAbove : MethodName := ⟨RX8, "upperAbove", "(I)I"⟩
abbrev cX8_upperBelow : ByteArray := prog_10_method_13_code
def yX8_upperBelow : MethodName := ⟨RX8, "upperBelow", "(I)I"⟩
abbrev cX8_isWeighing : ByteArray := prog_10_method_14_code
def yX8_isWeighing : MethodName := ⟨RX8, "isWeighing", "(I)Z"⟩
abbrev cX8_greaterQuarreller : ByteArray := prog_10_method_15_code
def yX8_greaterQuarreller : MethodName := ⟨RX8, "greaterQuarreller", "(II)I"⟩
abbrev cX8_lesserQuarreller : ByteArray := prog_10_method_16_code
def yX8_lesserQuarreller : MethodName := ⟨RX8, "lesserQuarreller", "(III)I"⟩
abbrev cX8_leastOf : ByteArray := prog_10_method_17_code
def yX8_leastOf : MethodName := ⟨RX8, "leastOf", "(III)I"⟩
abbrev cX8_mostOf : ByteArray := prog_10_method_18_code
def yX8_mostOf : MethodName := ⟨RX8, "mostOf", "(III)I"⟩
abbrev cX8_capped : ByteArray := prog_10_method_19_code
def yX8_capped : MethodName := ⟨RX8, "capped", "(J)I"⟩
def RX9 : String := "MerchantYard$Planner"
def TX9 : u_T := fun k => match k with
  | 0 => ("MerchantYard$Planner", "lotNumbers", "[I", true)
  | 1 => ("MerchantYard$Planner", "amounts", "[I", true)
  | 2 => ("MerchantYard$Planner", "lotCount", "I", false)
  | 3 => ("MerchantYard$Planner", "shipNumbers", "[I", true)
  | 4 => ("MerchantYard$Planner", "rooms", "[I", true)
  | 5 => ("MerchantYard$Planner", "shipCount", "I", false)
  | 6 => ("MerchantYard$Planner", "lows", "[J", true)
  | 7 => ("MerchantYard$Planner", "highs", "[J", true)
  | 8 => ("MerchantYard$Planner", "hopes", "[J", true)
  | 9 => ("MerchantYard$Planner", "tried", "[I", true)
  | 10 => ("MerchantYard$Planner", "best", "[I", true)
  | 11 => ("MerchantYard$Planner", "bestLow", "J", false)
  | 12 => ("MerchantYard$Planner", "bestHigh", "J", false)
  | _ => ("MerchantYard$Planner", "made", "Z", false)
def tyX9 : Nat → FieldType := fun k => match k with
  | 0 => .array .int
  | 1 => .array .int
  | 2 => .int
  | 3 => .array .int
  | 4 => .array .int
  | 5 => .int
  | 6 => .array .long
  | 7 => .array .long
  | 8 => .array .long
  | 9 => .array .int
  | 10 => .array .int
  | 11 => .long
  | 12 => .long
  | _ => .boolean
theorem nmX9 : ∀ a, a < 14 → ∀ b, b < 14 → a ≠ b → (TX9 a).2.1 ≠ (TX9 b).2.1 := by decide +kernel
theorem tyX9_ok : ∀ k, k < 14 → parseFieldDescriptor (TX9 k).2.2.1 = some (tyX9 k) := by decide +kernel
abbrev cX9_init : ByteArray := prog_11_method_1_code
def yX9_init : MethodName := ⟨RX9, "<init>", "()V"⟩
abbrev cX9_clearPlan : ByteArray := prog_11_method_2_code
def yX9_clearPlan : MethodName := ⟨RX9, "clearPlan", "()V"⟩
abbrev cX9_addLot : ByteArray := prog_11_method_3_code
def yX9_addLot : MethodName := ⟨RX9, "addLot", "(II)V"⟩
abbrev cX9_addShip : ByteArray := prog_11_method_4_code
def yX9_addShip : MethodName := ⟨RX9, "addShip", "(II)V"⟩
abbrev cX9_setPrices : ByteArray := prog_11_method_5_code
def yX9_setPrices : MethodName := ⟨RX9, "setPrices", "(IIII)V"⟩
abbrev cX9_shipOf : ByteArray := prog_11_method_6_code
def yX9_shipOf : MethodName := ⟨RX9, "shipOf", "(I)I"⟩
abbrev cX9_findBest : ByteArray := prog_11_method_7_code
def yX9_findBest : MethodName := ⟨RX9, "findBest", "()V"⟩
abbrev cX9_tryWays : ByteArray := prog_11_method_8_code
def yX9_tryWays : MethodName := ⟨RX9, "tryWays", "(IJJ)V"⟩
abbrev cX9_keepIfBetter : ByteArray := prog_11_method_9_code
def yX9_keepIfBetter : MethodName := ⟨RX9, "keepIfBetter", "(JJ)V"⟩
def RX10 : String := "MerchantYard$Sea"
def TX10 : u_T := fun k => match k with
  | 0 => ("MerchantYard$Sea", "shipTowns", "[I", true)
  | 1 => ("MerchantYard$Sea", "shipDays", "[I", true)
  | 2 => ("MerchantYard$Sea", "shipUnderWay", "[I", true)
  | 3 => ("MerchantYard$Sea", "shipRooms", "[I", true)
  | 4 => ("MerchantYard$Sea", "shipCount", "I", false)
  | 5 => ("MerchantYard$Sea", "newsTowns", "[I", true)
  | 6 => ("MerchantYard$Sea", "newsKinds", "[I", true)
  | 7 => ("MerchantYard$Sea", "newsLows", "[I", true)
  | 8 => ("MerchantYard$Sea", "newsHighs", "[I", true)
  | 9 => ("MerchantYard$Sea", "newsDays", "[I", true)
  | 10 => ("MerchantYard$Sea", "newsCount", "I", false)
  | 11 => ("MerchantYard$Sea", "closedTowns", "[I", true)
  | 12 => ("MerchantYard$Sea", "closedFirst", "[I", true)
  | 13 => ("MerchantYard$Sea", "closedLast", "[I", true)
  | 14 => ("MerchantYard$Sea", "closedRead", "[I", true)
  | _ => ("MerchantYard$Sea", "closingCount", "I", false)
def tyX10 : Nat → FieldType := fun k => match k with
  | 0 => .array .int
  | 1 => .array .int
  | 2 => .array .int
  | 3 => .array .int
  | 4 => .int
  | 5 => .array .int
  | 6 => .array .int
  | 7 => .array .int
  | 8 => .array .int
  | 9 => .array .int
  | 10 => .int
  | 11 => .array .int
  | 12 => .array .int
  | 13 => .array .int
  | 14 => .array .int
  | _ => .int
theorem nmX10 : ∀ a, a < 16 → ∀ b, b < 16 → a ≠ b → (TX10 a).2.1 ≠ (TX10 b).2.1 := by decide +kernel
theorem tyX10_ok : ∀ k, k < 16 → parseFieldDescriptor (TX10 k).2.2.1 = some (tyX10 k) := by decide +kernel
abbrev cX10_init : ByteArray := prog_12_method_1_code
def yX10_init : MethodName := ⟨RX10, "<init>", "()V"⟩
abbrev cX10_addShip : ByteArray := prog_12_method_2_code
def yX10_addShip : MethodName := ⟨RX10, "addShip", "(IIII)I"⟩
abbrev cX10_comingOf : ByteArray := prog_12_method_3_code
def yX10_comingOf : MethodName := ⟨RX10, "comingOf", "(I)I"⟩
abbrev cX10_nextOpenShip : ByteArray := prog_12_method_4_code
def yX10_nextOpenShip : MethodName := ⟨RX10, "nextOpenShip", "(II)I"⟩
abbrev cX10_addNews : ByteArray := prog_12_method_5_code
def yX10_addNews : MethodName := ⟨RX10, "addNews", "(IIIII)I"⟩
abbrev cX10_latestNews : ByteArray := prog_12_method_6_code
def yX10_latestNews : MethodName := ⟨RX10, "latestNews", "(III)I"⟩
abbrev cX10_lowPrice : ByteArray := prog_12_method_7_code
def yX10_lowPrice : MethodName := ⟨RX10, "lowPrice", "(III)I"⟩
abbrev cX10_highPrice : ByteArray := prog_12_method_8_code
def yX10_highPrice : MethodName := ⟨RX10, "highPrice", "(III)I"⟩
abbrev cX10_addClosing : ByteArray := prog_12_method_9_code
def yX10_addClosing : MethodName := ⟨RX10, "addClosing", "(III)I"⟩
abbrev cX10_readClosing : ByteArray := prog_12_method_10_code
def yX10_readClosing : MethodName := ⟨RX10, "readClosing", "(II)Z"⟩
abbrev cX10_covers : ByteArray := prog_12_method_11_code
def yX10_covers : MethodName := ⟨RX10, "covers", "(III)Z"⟩
abbrev cX10_closedBy : ByteArray := prog_12_method_12_code
def yX10_closedBy : MethodName := ⟨RX10, "closedBy", "(III)Z"⟩
abbrev cX10_closureTold : ByteArray := prog_12_method_13_code
def yX10_closureTold : MethodName := ⟨RX10, "closureTold", "(II)Z"⟩
def RX11 : String := "MerchantYard"
def TX11 : u_T := fun k => match k with
  | 0 => ("MerchantYard", "men", "Ljava/util/ArrayList;", true)
  | 1 => ("MerchantYard", "lots", "Ljava/util/ArrayList;", true)
  | 2 => ("MerchantYard", "bargains", "Ljava/util/ArrayList;", true)
  | 3 => ("MerchantYard", "chests", "[I", true)
  | 4 => ("MerchantYard", "reader", "LMerchantYard$LawReader;", true)
  | 5 => ("MerchantYard", "court", "LMerchantYard$Court;", true)
  | 6 => ("MerchantYard", "measures", "LMerchantYard$Measures;", true)
  | 7 => ("MerchantYard", "sea", "LMerchantYard$Sea;", true)
  | 8 => ("MerchantYard", "planner", "LMerchantYard$Planner;", true)
  | 9 => ("MerchantYard", "hands", "LMerchantYard$Crowd;", true)
  | 10 => ("MerchantYard", "books", "LMerchantYard$Books;", true)
  | 11 => ("MerchantYard", "now", "I", false)
  | 12 => ("MerchantYard", "lost", "J", false)
  | 13 => ("MerchantYard", "turns", "[I", false)
  | _ => ("MerchantYard", "termDays", "I", false)
def tyX11 : Nat → FieldType := fun k => match k with
  | 0 => .object "java/util/ArrayList"
  | 1 => .object "java/util/ArrayList"
  | 2 => .object "java/util/ArrayList"
  | 3 => .array .int
  | 4 => .object "MerchantYard$LawReader"
  | 5 => .object "MerchantYard$Court"
  | 6 => .object "MerchantYard$Measures"
  | 7 => .object "MerchantYard$Sea"
  | 8 => .object "MerchantYard$Planner"
  | 9 => .object "MerchantYard$Crowd"
  | 10 => .object "MerchantYard$Books"
  | 11 => .int
  | 12 => .long
  | 13 => .array .int
  | _ => .int
theorem nmX11 : ∀ a, a < 15 → ∀ b, b < 15 → a ≠ b → (TX11 a).2.1 ≠ (TX11 b).2.1 := by decide +kernel
theorem tyX11_ok : ∀ k, k < 15 → parseFieldDescriptor (TX11 k).2.2.1 = some (tyX11 k) := by decide +kernel
abbrev cX11_init : ByteArray := prog_1_method_1_code
def yX11_init : MethodName := ⟨RX11, "<init>", "()V"⟩
abbrev cX11_clock : ByteArray := prog_1_method_2_code
def yX11_clock : MethodName := ⟨RX11, "clock", "(I)Z"⟩
abbrev cX11_man : ByteArray := prog_1_method_3_code
def yX11_man : MethodName := ⟨RX11, "man", "(IZI)I"⟩
abbrev cX11_leave : ByteArray := prog_1_method_4_code
def yX11_leave : MethodName := ⟨RX11, "leave", "(I)Z"⟩
abbrev cX11_die : ByteArray := prog_1_method_5_code
def yX11_die : MethodName := ⟨RX11, "die", "(I)I"⟩
abbrev cX11_bring : ByteArray := prog_1_method_6_code
def yX11_bring : MethodName := ⟨RX11, "bring", "(III)I"⟩
abbrev cX11_lot : ByteArray := prog_1_method_7_code
def yX11_lot : MethodName := ⟨RX11, "lot", "(II)I"⟩
abbrev cX11_men : ByteArray := prog_1_method_8_code
def yX11_men : MethodName := ⟨RX11, "men", "(II)I"⟩
abbrev cX11_feed : ByteArray := prog_1_method_9_code
def yX11_feed : MethodName := ⟨RX11, "feed", "(IIIII)I"⟩
abbrev cX11_end : ByteArray := prog_1_method_10_code
def yX11_end : MethodName := ⟨RX11, "end", "(I)I"⟩
abbrev cX11_law : ByteArray := prog_1_method_11_code
def yX11_law : MethodName := ⟨RX11, "law", "(II)I"⟩
abbrev cX11_read : ByteArray := prog_1_method_12_code
def yX11_read : MethodName := ⟨RX11, "read", "(I)Z"⟩
abbrev cX11_laws : ByteArray := prog_1_method_13_code
def yX11_laws : MethodName := ⟨RX11, "laws", "(II)I"⟩
abbrev cX11_force : ByteArray := prog_1_method_14_code
def yX11_force : MethodName := ⟨RX11, "force", "(II)I"⟩
abbrev cX11_verdict : ByteArray := prog_1_method_15_code
def yX11_verdict : MethodName := ⟨RX11, "verdict", "(IIIIIII)I"⟩
abbrev cX11_told : ByteArray := prog_1_method_16_code
def yX11_told : MethodName := ⟨RX11, "told", "(I)I"⟩
abbrev cX11_shut : ByteArray := prog_1_method_17_code
def yX11_shut : MethodName := ⟨RX11, "shut", "(III)I"⟩
abbrev cX11_readShut : ByteArray := prog_1_method_18_code
def yX11_readShut : MethodName := ⟨RX11, "readShut", "(I)Z"⟩
abbrev cX11_isShut : ByteArray := prog_1_method_19_code
def yX11_isShut : MethodName := ⟨RX11, "isShut", "(III)I"⟩
abbrev cX11_deal : ByteArray := prog_1_method_20_code
def yX11_deal : MethodName := ⟨RX11, "deal", "(IIIIIII)I"⟩
abbrev cX11_bargain : ByteArray := prog_1_method_21_code
def yX11_bargain : MethodName := ⟨RX11, "bargain", "(II)I"⟩
abbrev cX11_surety : ByteArray := prog_1_method_22_code
def yX11_surety : MethodName := ⟨RX11, "surety", "(II)I"⟩
abbrev cX11_sureties : ByteArray := prog_1_method_23_code
def yX11_sureties : MethodName := ⟨RX11, "sureties", "(III)I"⟩
abbrev cX11_pay : ByteArray := prog_1_method_24_code
def yX11_pay : MethodName := ⟨RX11, "pay", "(II)I"⟩
abbrev cX11_call : ByteArray := prog_1_method_25_code
def yX11_call : MethodName := ⟨RX11, "call", "(I)I"⟩
abbrev cX11_claim : ByteArray := prog_1_method_26_code
def yX11_claim : MethodName := ⟨RX11, "claim", "(III)I"⟩
abbrev cX11_chest : ByteArray := prog_1_method_27_code
def yX11_chest : MethodName := ⟨RX11, "chest", "(I)I"⟩
abbrev cX11_weigh : ByteArray := prog_1_method_28_code
def yX11_weigh : MethodName := ⟨RX11, "weigh", "(III)I"⟩
abbrev cX11_takeBack : ByteArray := prog_1_method_29_code
def yX11_takeBack : MethodName := ⟨RX11, "takeBack", "(I)Z"⟩
abbrev cX11_span : ByteArray := prog_1_method_30_code
def yX11_span : MethodName := ⟨RX11, "span", "(III)I"⟩
abbrev cX11_theirs : ByteArray := prog_1_method_31_code
def yX11_theirs : MethodName := ⟨RX11, "theirs", "(IIII)I"⟩
abbrev cX11_order : ByteArray := prog_1_method_32_code
def yX11_order : MethodName := ⟨RX11, "order", "(IJI)Z"⟩
abbrev cX11_elder : ByteArray := prog_1_method_33_code
def yX11_elder : MethodName := ⟨RX11, "elder", "(I)I"⟩
abbrev cX11_ship : ByteArray := prog_1_method_34_code
def yX11_ship : MethodName := ⟨RX11, "ship", "(IIII)I"⟩
abbrev cX11_news : ByteArray := prog_1_method_35_code
def yX11_news : MethodName := ⟨RX11, "news", "(IIII)I"⟩
abbrev cX11_price : ByteArray := prog_1_method_36_code
def yX11_price : MethodName := ⟨RX11, "price", "(IIII)I"⟩
abbrev cX11_plan : ByteArray := prog_1_method_37_code
def yX11_plan : MethodName := ⟨RX11, "plan", "(I)J"⟩
abbrev cX11_planned : ByteArray := prog_1_method_38_code
def yX11_planned : MethodName := ⟨RX11, "planned", "(II)I"⟩
abbrev cX11_high : ByteArray := prog_1_method_39_code
def yX11_high : MethodName := ⟨RX11, "high", "()J"⟩
abbrev cX11_sail : ByteArray := prog_1_method_40_code
def yX11_sail : MethodName := ⟨RX11, "sail", "(II)I"⟩
abbrev cX11_broke : ByteArray := prog_1_method_41_code
def yX11_broke : MethodName := ⟨RX11, "broke", "(I)I"⟩
abbrev cX11_hand : ByteArray := prog_1_method_42_code
def yX11_hand : MethodName := ⟨RX11, "hand", "(IIII)Z"⟩
abbrev cX11_breakers : ByteArray := prog_1_method_43_code
def yX11_breakers : MethodName := ⟨RX11, "breakers", "(I)I"⟩
abbrev cX11_holds : ByteArray := prog_1_method_44_code
def yX11_holds : MethodName := ⟨RX11, "holds", "(I)I"⟩
abbrev cX11_entry : ByteArray := prog_1_method_45_code
def yX11_entry : MethodName := ⟨RX11, "entry", "(IIII)I"⟩
abbrev cX11_clear : ByteArray := prog_1_method_46_code
def yX11_clear : MethodName := ⟨RX11, "clear", "()I"⟩
abbrev cX11_join : ByteArray := prog_1_method_47_code
def yX11_join : MethodName := ⟨RX11, "join", "(II)I"⟩
abbrev cX11_joined : ByteArray := prog_1_method_48_code
def yX11_joined : MethodName := ⟨RX11, "joined", "(I)I"⟩
abbrev cX11_count : ByteArray := prog_1_method_49_code
def yX11_count : MethodName := ⟨RX11, "count", "(I)J"⟩
abbrev cX11_within : ByteArray := prog_1_method_50_code
def yX11_within : MethodName := ⟨RX11, "within", "(III)Z"⟩
abbrev cX11_isDay : ByteArray := prog_1_method_51_code
def yX11_isDay : MethodName := ⟨RX11, "isDay", "(I)Z"⟩
abbrev cX11_isTown : ByteArray := prog_1_method_52_code
def yX11_isTown : MethodName := ⟨RX11, "isTown", "(I)Z"⟩
abbrev cX11_isKind : ByteArray := prog_1_method_53_code
def yX11_isKind : MethodName := ⟨RX11, "isKind", "(I)Z"⟩
abbrev cX11_manThere : ByteArray := prog_1_method_54_code
def yX11_manThere : MethodName := ⟨RX11, "manThere", "(I)LMerchantYard$Man;"⟩
abbrev cX11_bargainAt : ByteArray := prog_1_method_55_code
def yX11_bargainAt : MethodName := ⟨RX11, "bargainAt", "(I)LMerchantYard$Bargain;"⟩
abbrev cX11_allCoins : ByteArray := prog_1_method_56_code
def yX11_allCoins : MethodName := ⟨RX11, "allCoins", "()J"⟩
abbrev cX11_give : ByteArray := prog_1_method_57_code
def yX11_give : MethodName := ⟨RX11, "give", "(III)V"⟩
abbrev cX11_owedBy : ByteArray := prog_1_method_58_code
def yX11_owedBy : MethodName := ⟨RX11, "owedBy", "(IZ)I"⟩
abbrev cX11_payOwed : ByteArray := prog_1_method_59_code
def yX11_payOwed : MethodName := ⟨RX11, "payOwed", "(LMerchantYard$Bargain;I)I"⟩
abbrev cX11_payClaim : ByteArray := prog_1_method_60_code
def yX11_payClaim : MethodName := ⟨RX11, "payClaim", "(LMerchantYard$Bargain;II)I"⟩
abbrev cX11_callSurety : ByteArray := prog_1_method_61_code
def yX11_callSurety : MethodName := ⟨RX11, "callSurety", "(LMerchantYard$Bargain;I)I"⟩
abbrev cX11_payFine : ByteArray := prog_1_method_62_code
def yX11_payFine : MethodName := ⟨RX11, "payFine", "(LMerchantYard$Man;I)I"⟩
abbrev cX11_splitLot : ByteArray := prog_1_method_63_code
def yX11_splitLot : MethodName := ⟨RX11, "splitLot", "(III)V"⟩
abbrev cX11_refusal : ByteArray := prog_1_method_64_code
def yX11_refusal : MethodName := ⟨RX11, "refusal", "(IIIIIII)I"⟩
abbrev cX11_judge : ByteArray := prog_1_method_65_code
def yX11_judge : MethodName := ⟨RX11, "judge", "(IIIIIII)I"⟩
abbrev cX11_elderOn : ByteArray := prog_1_method_66_code
def yX11_elderOn : MethodName := ⟨RX11, "elderOn", "(I)I"⟩
abbrev cX11_leastMan : ByteArray := prog_1_method_67_code
def yX11_leastMan : MethodName := ⟨RX11, "leastMan", "(II)I"⟩
abbrev cX11_heirOf : ByteArray := prog_1_method_68_code
def yX11_heirOf : MethodName := ⟨RX11, "heirOf", "(I)I"⟩
abbrev cX11_payBargainsOf : ByteArray := prog_1_method_69_code
def yX11_payBargainsOf : MethodName := ⟨RX11, "payBargainsOf", "(I)V"⟩
abbrev cX11_nextDebt : ByteArray := prog_1_method_70_code
def yX11_nextDebt : MethodName := ⟨RX11, "nextDebt", "(II)I"⟩
abbrev cX11_payClaimsOf : ByteArray := prog_1_method_71_code
def yX11_payClaimsOf : MethodName := ⟨RX11, "payClaimsOf", "(I)V"⟩
abbrev cX11_leaveLots : ByteArray := prog_1_method_72_code
def yX11_leaveLots : MethodName := ⟨RX11, "leaveLots", "(II)V"⟩
abbrev cX11_leaveDues : ByteArray := prog_1_method_73_code
def yX11_leaveDues : MethodName := ⟨RX11, "leaveDues", "(II)V"⟩
abbrev cX11_tellPlannerPrices : ByteArray := prog_1_method_74_code
def yX11_tellPlannerPrices : MethodName := ⟨RX11, "tellPlannerPrices", "()V"⟩
def RX12 : String := "MerchantYardModel"
def TX12 : u_T := fun k => match k with
  | 0 => ("MerchantYardModel", "thrown", "I", false)
  | 1 => ("MerchantYardModel", "now", "I", false)
  | 2 => ("MerchantYardModel", "men", "I", false)
  | 3 => ("MerchantYardModel", "town", "[I", true)
  | 4 => ("MerchantYardModel", "purse", "[I", true)
  | 5 => ("MerchantYardModel", "came", "[I", true)
  | 6 => ("MerchantYardModel", "gone", "[I", true)
  | 7 => ("MerchantYardModel", "broke", "[I", true)
  | 8 => ("MerchantYardModel", "chest", "[I", true)
  | 9 => ("MerchantYardModel", "winters", "[Z", true)
  | 10 => ("MerchantYardModel", "lots", "I", false)
  | 11 => ("MerchantYardModel", "lKind", "[I", true)
  | 12 => ("MerchantYardModel", "amount", "[I", true)
  | 13 => ("MerchantYardModel", "whose", "[I", true)
  | 14 => ("MerchantYardModel", "lFrom", "[I", true)
  | 15 => ("MerchantYardModel", "lCame", "[I", true)
  | 16 => ("MerchantYardModel", "tape", "[B", true)
  | 17 => ("MerchantYardModel", "taped", "I", false)
  | 18 => ("MerchantYardModel", "p", "I", false)
  | 19 => ("MerchantYardModel", "from", "I", false)
  | 20 => ("MerchantYardModel", "fault", "I", false)
  | 21 => ("MerchantYardModel", "deep", "I", false)
  | 22 => ("MerchantYardModel", "counted", "I", false)
  | 23 => ("MerchantYardModel", "laws", "I", false)
  | 24 => ("MerchantYardModel", "rank", "[I", true)
  | 25 => ("MerchantYardModel", "binds", "[I", true)
  | 26 => ("MerchantYardModel", "tells", "[I", true)
  | 27 => ("MerchantYardModel", "clauses", "[I", true)
  | 28 => ("MerchantYardModel", "worth", "[I", true)
  | 29 => ("MerchantYardModel", "first", "[I", true)
  | 30 => ("MerchantYardModel", "last", "[I", true)
  | 31 => ("MerchantYardModel", "op", "[I", true)
  | 32 => ("MerchantYardModel", "what0", "[I", true)
  | 33 => ("MerchantYardModel", "steps", "I", false)
  | 34 => ("MerchantYardModel", "open", "I", false)
  | 35 => ("MerchantYardModel", "kindAt", "[I", true)
  | 36 => ("MerchantYardModel", "pile", "[J", true)
  | 37 => ("MerchantYardModel", "fact", "[J", true)
  | 38 => ("MerchantYardModel", "ports", "I", false)
  | 39 => ("MerchantYardModel", "shTown", "[I", true)
  | 40 => ("MerchantYardModel", "shFirst", "[I", true)
  | 41 => ("MerchantYardModel", "shLast", "[I", true)
  | 42 => ("MerchantYardModel", "shRead", "[I", true)
  | 43 => ("MerchantYardModel", "bargains", "I", false)
  | 44 => ("MerchantYardModel", "seller", "[I", true)
  | 45 => ("MerchantYardModel", "buyer", "[I", true)
  | 46 => ("MerchantYardModel", "bLot", "[I", true)
  | 47 => ("MerchantYardModel", "bPrice", "[I", true)
  | 48 => ("MerchantYardModel", "owed", "[I", true)
  | 49 => ("MerchantYardModel", "till", "[I", true)
  | 50 => ("MerchantYardModel", "fined", "[I", true)
  | 51 => ("MerchantYardModel", "bDay", "[I", true)
  | 52 => ("MerchantYardModel", "creditor", "[I", true)
  | 53 => ("MerchantYardModel", "toChest", "[I", true)
  | 54 => ("MerchantYardModel", "sureties", "[I", true)
  | 55 => ("MerchantYardModel", "surety", "[I", true)
  | 56 => ("MerchantYardModel", "claimed", "[I", true)
  | 57 => ("MerchantYardModel", "claimant", "[I", true)
  | 58 => ("MerchantYardModel", "claimChest", "[I", true)
  | 59 => ("MerchantYardModel", "toldLaw", "I", false)
  | 60 => ("MerchantYardModel", "toldClause", "I", false)
  | 61 => ("MerchantYardModel", "weighings", "I", false)
  | 62 => ("MerchantYardModel", "wKind", "[I", true)
  | 63 => ("MerchantYardModel", "ours", "[I", true)
  | 64 => ("MerchantYardModel", "theirs", "[I", true)
  | 65 => ("MerchantYardModel", "wKnown", "[I", true)
  | 66 => ("MerchantYardModel", "wBack", "[I", true)
  | 67 => ("MerchantYardModel", "lowUp", "J", false)
  | 68 => ("MerchantYardModel", "lowDown", "J", false)
  | 69 => ("MerchantYardModel", "highUp", "J", false)
  | 70 => ("MerchantYardModel", "highDown", "J", false)
  | 71 => ("MerchantYardModel", "oneBar", "I", false)
  | 72 => ("MerchantYardModel", "twoBar", "I", false)
  | 73 => ("MerchantYardModel", "towns", "I", false)
  | 74 => ("MerchantYardModel", "term", "I", false)
  | 75 => ("MerchantYardModel", "orderOf", "[I", true)
  | 76 => ("MerchantYardModel", "ships", "I", false)
  | 77 => ("MerchantYardModel", "news", "I", false)
  | 78 => ("MerchantYardModel", "sTown", "[I", true)
  | 79 => ("MerchantYardModel", "sDay", "[I", true)
  | 80 => ("MerchantYardModel", "sDays", "[I", true)
  | 81 => ("MerchantYardModel", "sRoom", "[I", true)
  | 82 => ("MerchantYardModel", "nTown", "[I", true)
  | 83 => ("MerchantYardModel", "nKind", "[I", true)
  | 84 => ("MerchantYardModel", "nLow", "[I", true)
  | 85 => ("MerchantYardModel", "nHigh", "[I", true)
  | 86 => ("MerchantYardModel", "nKnown", "[I", true)
  | 87 => ("MerchantYardModel", "sailed", "[Z", true)
  | 88 => ("MerchantYardModel", "hasPlan", "Z", false)
  | 89 => ("MerchantYardModel", "planLots", "I", false)
  | 90 => ("MerchantYardModel", "planShips", "I", false)
  | 91 => ("MerchantYardModel", "planHigh", "J", false)
  | 92 => ("MerchantYardModel", "planLot", "[I", true)
  | 93 => ("MerchantYardModel", "planShip", "[I", true)
  | 94 => ("MerchantYardModel", "byShip", "[I", true)
  | 95 => ("MerchantYardModel", "which", "[I", true)
  | 96 => ("MerchantYardModel", "row", "[I", true)
  | 97 => ("MerchantYardModel", "met", "[Z", true)
  | 98 => ("MerchantYardModel", "done", "[Z", true)
  | 99 => ("MerchantYardModel", "low", "[J", true)
  | 100 => ("MerchantYardModel", "high", "[J", true)
  | 101 => ("MerchantYardModel", "loads", "[J", true)
  | 102 => ("MerchantYardModel", "hands", "I", false)
  | 103 => ("MerchantYardModel", "holding", "I", false)
  | 104 => ("MerchantYardModel", "gain", "[I", true)
  | 105 => ("MerchantYardModel", "fine", "[I", true)
  | 106 => ("MerchantYardModel", "crowd", "[I", true)
  | 107 => ("MerchantYardModel", "set", "[I", true)
  | 108 => ("MerchantYardModel", "areJoined", "Z", false)
  | 109 => ("MerchantYardModel", "entries", "[I", true)
  | 110 => ("MerchantYardModel", "eDay", "[I", true)
  | 111 => ("MerchantYardModel", "eMan", "[I", true)
  | 112 => ("MerchantYardModel", "eCoins", "[I", true)
  | 113 => ("MerchantYardModel", "pair", "[I", true)
  | 114 => ("MerchantYardModel", "joinedCoins", "I", false)
  | 115 => ("MerchantYardModel", "joinedDays", "I", false)
  | _ => ("MerchantYardModel", "best", "[J", true)
def tyX12 : Nat → FieldType := fun k => match k with
  | 0 => .int
  | 1 => .int
  | 2 => .int
  | 3 => .array .int
  | 4 => .array .int
  | 5 => .array .int
  | 6 => .array .int
  | 7 => .array .int
  | 8 => .array .int
  | 9 => .array .boolean
  | 10 => .int
  | 11 => .array .int
  | 12 => .array .int
  | 13 => .array .int
  | 14 => .array .int
  | 15 => .array .int
  | 16 => .array .byte
  | 17 => .int
  | 18 => .int
  | 19 => .int
  | 20 => .int
  | 21 => .int
  | 22 => .int
  | 23 => .int
  | 24 => .array .int
  | 25 => .array .int
  | 26 => .array .int
  | 27 => .array .int
  | 28 => .array .int
  | 29 => .array .int
  | 30 => .array .int
  | 31 => .array .int
  | 32 => .array .int
  | 33 => .int
  | 34 => .int
  | 35 => .array .int
  | 36 => .array .long
  | 37 => .array .long
  | 38 => .int
  | 39 => .array .int
  | 40 => .array .int
  | 41 => .array .int
  | 42 => .array .int
  | 43 => .int
  | 44 => .array .int
  | 45 => .array .int
  | 46 => .array .int
  | 47 => .array .int
  | 48 => .array .int
  | 49 => .array .int
  | 50 => .array .int
  | 51 => .array .int
  | 52 => .array .int
  | 53 => .array .int
  | 54 => .array .int
  | 55 => .array .int
  | 56 => .array .int
  | 57 => .array .int
  | 58 => .array .int
  | 59 => .int
  | 60 => .int
  | 61 => .int
  | 62 => .array .int
  | 63 => .array .int
  | 64 => .array .int
  | 65 => .array .int
  | 66 => .array .int
  | 67 => .long
  | 68 => .long
  | 69 => .long
  | 70 => .long
  | 71 => .int
  | 72 => .int
  | 73 => .int
  | 74 => .int
  | 75 => .array .int
  | 76 => .int
  | 77 => .int
  | 78 => .array .int
  | 79 => .array .int
  | 80 => .array .int
  | 81 => .array .int
  | 82 => .array .int
  | 83 => .array .int
  | 84 => .array .int
  | 85 => .array .int
  | 86 => .array .int
  | 87 => .array .boolean
  | 88 => .boolean
  | 89 => .int
  | 90 => .int
  | 91 => .long
  | 92 => .array .int
  | 93 => .array .int
  | 94 => .array .int
  | 95 => .array .int
  | 96 => .array .int
  | 97 => .array .boolean
  | 98 => .array .boolean
  | 99 => .array .long
  | 100 => .array .long
  | 101 => .array .long
  | 102 => .int
  | 103 => .int
  | 104 => .array .int
  | 105 => .array .int
  | 106 => .array .int
  | 107 => .array .int
  | 108 => .boolean
  | 109 => .array .int
  | 110 => .array .int
  | 111 => .array .int
  | 112 => .array .int
  | 113 => .array .int
  | 114 => .int
  | 115 => .int
  | _ => .array .long
theorem nmX12 : ∀ a, a < 117 → ∀ b, b < 117 → a ≠ b → (TX12 a).2.1 ≠ (TX12 b).2.1 := by decide +kernel
theorem tyX12_ok : ∀ k, k < 117 → parseFieldDescriptor (TX12 k).2.2.1 = some (tyX12 k) := by decide +kernel
abbrev cX12_init : ByteArray := prog_14_method_1_code
def yX12_init : MethodName := ⟨RX12, "<init>", "()V"⟩
abbrev cX12_in : ByteArray := prog_14_method_3_code
def yX12_in : MethodName := ⟨RX12, "in", "(III)Z"⟩
abbrev cX12_isDay : ByteArray := prog_14_method_4_code
def yX12_isDay : MethodName := ⟨RX12, "isDay", "(I)Z"⟩
abbrev cX12_clock : ByteArray := prog_14_method_5_code
def yX12_clock : MethodName := ⟨RX12, "clock", "(I)Z"⟩
abbrev cX12_man : ByteArray := prog_14_method_6_code
def yX12_man : MethodName := ⟨RX12, "man", "(IZI)I"⟩
abbrev cX12_isMan : ByteArray := prog_14_method_7_code
def yX12_isMan : MethodName := ⟨RX12, "isMan", "(I)Z"⟩
abbrev cX12_isThere : ByteArray := prog_14_method_8_code
def yX12_isThere : MethodName := ⟨RX12, "isThere", "(I)Z"⟩
abbrev cX12_leave : ByteArray := prog_14_method_9_code
def yX12_leave : MethodName := ⟨RX12, "leave", "(I)Z"⟩
abbrev cX12_comes : ByteArray := prog_14_method_10_code
def yX12_comes : MethodName := ⟨RX12, "comes", "(IIII)I"⟩
abbrev cX12_bring : ByteArray := prog_14_method_11_code
def yX12_bring : MethodName := ⟨RX12, "bring", "(III)I"⟩
abbrev cX12_isLot : ByteArray := prog_14_method_12_code
def yX12_isLot : MethodName := ⟨RX12, "isLot", "(I)Z"⟩
abbrev cX12_lot : ByteArray := prog_14_method_13_code
def yX12_lot : MethodName := ⟨RX12, "lot", "(II)I"⟩
abbrev cX12_feed : ByteArray := prog_14_method_14_code
def yX12_feed : MethodName := ⟨RX12, "feed", "(IIIII)I"⟩
abbrev cX12_put : ByteArray := prog_14_method_15_code
def yX12_put : MethodName := ⟨RX12, "put", "(I)V"⟩
abbrev cX12_end : ByteArray := prog_14_method_16_code
def yX12_end : MethodName := ⟨RX12, "end", "(I)I"⟩
abbrev cX12_fails : ByteArray := prog_14_method_17_code
def yX12_fails : MethodName := ⟨RX12, "fails", "(II)V"⟩
abbrev cX12_blanks : ByteArray := prog_14_method_18_code
def yX12_blanks : MethodName := ⟨RX12, "blanks", "()V"⟩
abbrev cX12_sign : ByteArray := prog_14_method_19_code
def yX12_sign : MethodName := ⟨RX12, "sign", "()I"⟩
abbrev cX12_isDigit : ByteArray := prog_14_method_20_code
def yX12_isDigit : MethodName := ⟨RX12, "isDigit", "(I)Z"⟩
abbrev cX12_wordEnd : ByteArray := prog_14_method_21_code
def yX12_wordEnd : MethodName := ⟨RX12, "wordEnd", "()I"⟩
abbrev cX12_is : ByteArray := prog_14_method_22_code
def yX12_is : MethodName := ⟨RX12, "is", "(Ljava/lang/String;I)Z"⟩
abbrev cX12_wordOf : ByteArray := prog_14_method_23_code
def yX12_wordOf : MethodName := ⟨RX12, "wordOf", "(I)Ljava/lang/String;"⟩
abbrev cX12_number : ByteArray := prog_14_method_24_code
def yX12_number : MethodName := ⟨RX12, "number", "()I"⟩
abbrev cX12_emits : ByteArray := prog_14_method_25_code
def yX12_emits : MethodName := ⟨RX12, "emits", "(II)V"⟩
abbrev cX12_opens : ByteArray := prog_14_method_26_code
def yX12_opens : MethodName := ⟨RX12, "opens", "(I)V"⟩
abbrev cX12_top : ByteArray := prog_14_method_27_code
def yX12_top : MethodName := ⟨RX12, "top", "()I"⟩
abbrev cX12_isSign : ByteArray := prog_14_method_28_code
def yX12_isSign : MethodName := ⟨RX12, "isSign", "(I)Z"⟩
abbrev cX12_deeper : ByteArray := prog_14_method_29_code
def yX12_deeper : MethodName := ⟨RX12, "deeper", "(I)V"⟩
abbrev cX12_sums : ByteArray := prog_14_method_30_code
def yX12_sums : MethodName := ⟨RX12, "sums", "(Z)V"⟩
abbrev cX12_counts : ByteArray := prog_14_method_31_code
def yX12_counts : MethodName := ⟨RX12, "counts", "(I)V"⟩
abbrev cX12_value : ByteArray := prog_14_method_32_code
def yX12_value : MethodName := ⟨RX12, "value", "()Z"⟩
abbrev cX12_compares : ByteArray := prog_14_method_33_code
def yX12_compares : MethodName := ⟨RX12, "compares", "()I"⟩
abbrev cX12_wantsFact : ByteArray := prog_14_method_34_code
def yX12_wantsFact : MethodName := ⟨RX12, "wantsFact", "()I"⟩
abbrev cX12_hasValue : ByteArray := prog_14_method_35_code
def yX12_hasValue : MethodName := ⟨RX12, "hasValue", "()I"⟩
abbrev cX12_ands : ByteArray := prog_14_method_36_code
def yX12_ands : MethodName := ⟨RX12, "ands", "(Z)V"⟩
abbrev cX12_hasFact : ByteArray := prog_14_method_37_code
def yX12_hasFact : MethodName := ⟨RX12, "hasFact", "()I"⟩
abbrev cX12_verb : ByteArray := prog_14_method_38_code
def yX12_verb : MethodName := ⟨RX12, "verb", "()I"⟩
abbrev cX12_clause : ByteArray := prog_14_method_39_code
def yX12_clause : MethodName := ⟨RX12, "clause", "()V"⟩
abbrev cX12_law : ByteArray := prog_14_method_40_code
def yX12_law : MethodName := ⟨RX12, "law", "(II)I"⟩
abbrev cX12_read : ByteArray := prog_14_method_41_code
def yX12_read : MethodName := ⟨RX12, "read", "(I)Z"⟩
abbrev cX12_laws : ByteArray := prog_14_method_42_code
def yX12_laws : MethodName := ⟨RX12, "laws", "(II)I"⟩
abbrev cX12_inForce : ByteArray := prog_14_method_43_code
def yX12_inForce : MethodName := ⟨RX12, "inForce", "(II)I"⟩
abbrev cX12_force : ByteArray := prog_14_method_44_code
def yX12_force : MethodName := ⟨RX12, "force", "(II)I"⟩
abbrev cX12_truth : ByteArray := prog_14_method_45_code
def yX12_truth : MethodName := ⟨RX12, "truth", "(Z)J"⟩
abbrev cX12_isTrue : ByteArray := prog_14_method_46_code
def yX12_isTrue : MethodName := ⟨RX12, "isTrue", "(I)Z"⟩
abbrev cX12_joins : ByteArray := prog_14_method_47_code
def yX12_joins : MethodName := ⟨RX12, "joins", "(IJJ)J"⟩
abbrev cX12_shut : ByteArray := prog_14_method_48_code
def yX12_shut : MethodName := ⟨RX12, "shut", "(III)I"⟩
abbrev cX12_readShut : ByteArray := prog_14_method_49_code
def yX12_readShut : MethodName := ⟨RX12, "readShut", "(I)Z"⟩
abbrev cX12_shuts : ByteArray := prog_14_method_50_code
def yX12_shuts : MethodName := ⟨RX12, "shuts", "(III)Z"⟩
abbrev cX12_isShut : ByteArray := prog_14_method_51_code
def yX12_isShut : MethodName := ⟨RX12, "isShut", "(III)I"⟩
abbrev cX12_owes : ByteArray := prog_14_method_52_code
def yX12_owes : MethodName := ⟨RX12, "owes", "(IZ)I"⟩
abbrev cX12_asked : ByteArray := prog_14_method_53_code
def yX12_asked : MethodName := ⟨RX12, "asked", "(IIIIIII)I"⟩
abbrev cX12_isShutTo : ByteArray := prog_14_method_54_code
def yX12_isShutTo : MethodName := ⟨RX12, "isShutTo", "(I)Z"⟩
abbrev cX12_weighs : ByteArray := prog_14_method_55_code
def yX12_weighs : MethodName := ⟨RX12, "weighs", "(IIIIIII)I"⟩
abbrev cX12_verdict : ByteArray := prog_14_method_56_code
def yX12_verdict : MethodName := ⟨RX12, "verdict", "(IIIIIII)I"⟩
abbrev cX12_told : ByteArray := prog_14_method_57_code
def yX12_told : MethodName := ⟨RX12, "told", "(I)I"⟩
abbrev cX12_deal : ByteArray := prog_14_method_58_code
def yX12_deal : MethodName := ⟨RX12, "deal", "(IIIIIII)I"⟩
abbrev cX12_isBargain : ByteArray := prog_14_method_59_code
def yX12_isBargain : MethodName := ⟨RX12, "isBargain", "(I)Z"⟩
abbrev cX12_bargain : ByteArray := prog_14_method_60_code
def yX12_bargain : MethodName := ⟨RX12, "bargain", "(II)I"⟩
abbrev cX12_surety : ByteArray := prog_14_method_61_code
def yX12_surety : MethodName := ⟨RX12, "surety", "(II)I"⟩
abbrev cX12_sureties : ByteArray := prog_14_method_62_code
def yX12_sureties : MethodName := ⟨RX12, "sureties", "(III)I"⟩
abbrev cX12_goes : ByteArray := prog_14_method_63_code
def yX12_goes : MethodName := ⟨RX12, "goes", "(III)V"⟩
abbrev cX12_pays : ByteArray := prog_14_method_64_code
def yX12_pays : MethodName := ⟨RX12, "pays", "(II)I"⟩
abbrev cX12_pay : ByteArray := prog_14_method_65_code
def yX12_pay : MethodName := ⟨RX12, "pay", "(II)I"⟩
abbrev cX12_call : ByteArray := prog_14_method_66_code
def yX12_call : MethodName := ⟨RX12, "call", "(I)I"⟩
abbrev cX12_claims : ByteArray := prog_14_method_67_code
def yX12_claims : MethodName := ⟨RX12, "claims", "(III)I"⟩
abbrev cX12_claim : ByteArray := prog_14_method_68_code
def yX12_claim : MethodName := ⟨RX12, "claim", "(III)I"⟩
abbrev cX12_chest : ByteArray := prog_14_method_69_code
def yX12_chest : MethodName := ⟨RX12, "chest", "(I)I"⟩
abbrev cX12_die : ByteArray := prog_14_method_70_code
def yX12_die : MethodName := ⟨RX12, "die", "(I)I"⟩
abbrev cX12_men : ByteArray := prog_14_method_71_code
def yX12_men : MethodName := ⟨RX12, "men", "(II)I"⟩
abbrev cX12_weigh : ByteArray := prog_14_method_72_code
def yX12_weigh : MethodName := ⟨RX12, "weigh", "(III)I"⟩
abbrev cX12_takeBack : ByteArray := prog_14_method_73_code
def yX12_takeBack : MethodName := ⟨RX12, "takeBack", "(I)Z"⟩
abbrev cX12_holds : ByteArray := prog_14_method_74_code
def yX12_holds : MethodName := ⟨RX12, "holds", "(III)Z"⟩
abbrev cX12_bars : ByteArray := prog_14_method_75_code
def yX12_bars : MethodName := ⟨RX12, "bars", "(II)Z"⟩
abbrev cX12_spans : ByteArray := prog_14_method_76_code
def yX12_spans : MethodName := ⟨RX12, "spans", "(II)V"⟩
abbrev cX12_span : ByteArray := prog_14_method_77_code
def yX12_span : MethodName := ⟨RX12, "span", "(III)I"⟩
abbrev cX12_theirs : ByteArray := prog_14_method_78_code
def yX12_theirs : MethodName := ⟨RX12, "theirs", "(IIII)I"⟩
abbrev cX12_order : ByteArray := prog_14_method_79_code
def yX12_order : MethodName := ⟨RX12, "order", "(IJI)Z"⟩
abbrev cX12_elder : ByteArray := prog_14_method_80_code
def yX12_elder : MethodName := ⟨RX12, "elder", "(I)I"⟩
abbrev cX12_ship : ByteArray := prog_14_method_81_code
def yX12_ship : MethodName := ⟨RX12, "ship", "(IIII)I"⟩
abbrev cX12_news : ByteArray := prog_14_method_82_code
def yX12_news : MethodName := ⟨RX12, "news", "(IIII)I"⟩
abbrev cX12_price : ByteArray := prog_14_method_83_code
def yX12_price : MethodName := ⟨RX12, "price", "(IIII)I"⟩
abbrev cX12_gathers : ByteArray := prog_14_method_84_code
def yX12_gathers : MethodName := ⟨RX12, "gathers", "()I"⟩
abbrev cX12_plan : ByteArray := prog_14_method_85_code
def yX12_plan : MethodName := ⟨RX12, "plan", "(I)J"⟩
abbrev cX12_planned : ByteArray := prog_14_method_86_code
def yX12_planned : MethodName := ⟨RX12, "planned", "(II)I"⟩
abbrev cX12_high : ByteArray := prog_14_method_87_code
def yX12_high : MethodName := ⟨RX12, "high", "()J"⟩
abbrev cX12_sail : ByteArray := prog_14_method_88_code
def yX12_sail : MethodName := ⟨RX12, "sail", "(II)I"⟩
abbrev cX12_broke : ByteArray := prog_14_method_89_code
def yX12_broke : MethodName := ⟨RX12, "broke", "(I)I"⟩
abbrev cX12_hand : ByteArray := prog_14_method_90_code
def yX12_hand : MethodName := ⟨RX12, "hand", "(IIII)Z"⟩
abbrev cX12_worth : ByteArray := prog_14_method_91_code
def yX12_worth : MethodName := ⟨RX12, "worth", "(II)I"⟩
abbrev cX12_breakers : ByteArray := prog_14_method_92_code
def yX12_breakers : MethodName := ⟨RX12, "breakers", "(I)I"⟩
abbrev cX12_holds_ : ByteArray := prog_14_method_93_code
def yX12_holds_ : MethodName := ⟨RX12, "holds", "(I)I"⟩
abbrev cX12_entry : ByteArray := prog_14_method_94_code
def yX12_entry : MethodName := ⟨RX12, "entry", "(IIII)I"⟩
abbrev cX12_clear : ByteArray := prog_14_method_95_code
def yX12_clear : MethodName := ⟨RX12, "clear", "()I"⟩
abbrev cX12_off : ByteArray := prog_14_method_96_code
def yX12_off : MethodName := ⟨RX12, "off", "(II)I"⟩
abbrev cX12_pairs : ByteArray := prog_14_method_97_code
def yX12_pairs : MethodName := ⟨RX12, "pairs", "(IIII)J"⟩
abbrev cX12_join : ByteArray := prog_14_method_98_code
def yX12_join : MethodName := ⟨RX12, "join", "(II)I"⟩
abbrev cX12_joined : ByteArray := prog_14_method_99_code
def yX12_joined : MethodName := ⟨RX12, "joined", "(I)I"⟩
abbrev cX12_count : ByteArray := prog_14_method_100_code
def yX12_count : MethodName := ⟨RX12, "count", "(I)J"⟩
def RJx145de : String := "java/io/Serializable"
def TJx145de : u_T := fun k => match k with
  | _ => ("", "", "", false)
def tyJx145de : Nat → FieldType := fun k => match k with
  | _ => .int
theorem nmJx145de : ∀ a, a < 0 → ∀ b, b < 0 → a ≠ b → (TJx145de a).2.1 ≠ (TJx145de b).2.1 := by decide +kernel
theorem tyJx145de_ok : ∀ k, k < 0 → parseFieldDescriptor (TJx145de k).2.2.1 = some (tyJx145de k) := by decide +kernel
def RJx9f9b0 : String := "java/lang/CharSequence"
def TJx9f9b0 : u_T := fun k => match k with
  | _ => ("", "", "", false)
def tyJx9f9b0 : Nat → FieldType := fun k => match k with
  | _ => .int
theorem nmJx9f9b0 : ∀ a, a < 0 → ∀ b, b < 0 → a ≠ b → (TJx9f9b0 a).2.1 ≠ (TJx9f9b0 b).2.1 := by decide +kernel
theorem tyJx9f9b0_ok : ∀ k, k < 0 → parseFieldDescriptor (TJx9f9b0 k).2.2.1 = some (tyJx9f9b0 k) := by decide +kernel
def RJx8e188 : String := "java/lang/Cloneable"
def TJx8e188 : u_T := fun k => match k with
  | _ => ("", "", "", false)
def tyJx8e188 : Nat → FieldType := fun k => match k with
  | _ => .int
theorem nmJx8e188 : ∀ a, a < 0 → ∀ b, b < 0 → a ≠ b → (TJx8e188 a).2.1 ≠ (TJx8e188 b).2.1 := by decide +kernel
theorem tyJx8e188_ok : ∀ k, k < 0 → parseFieldDescriptor (TJx8e188 k).2.2.1 = some (tyJx8e188 k) := by decide +kernel
def RJxb160c : String := "java/lang/Comparable"
def TJxb160c : u_T := fun k => match k with
  | _ => ("", "", "", false)
def tyJxb160c : Nat → FieldType := fun k => match k with
  | _ => .int
theorem nmJxb160c : ∀ a, a < 0 → ∀ b, b < 0 → a ≠ b → (TJxb160c a).2.1 ≠ (TJxb160c b).2.1 := by decide +kernel
theorem tyJxb160c_ok : ∀ k, k < 0 → parseFieldDescriptor (TJxb160c k).2.2.1 = some (tyJxb160c k) := by decide +kernel
def RJ6 : String := "java/lang/Integer"
def TJ6 : u_T := fun k => match k with
  | _ => ("", "", "", false)
def tyJ6 : Nat → FieldType := fun k => match k with
  | _ => .int
theorem nmJ6 : ∀ a, a < 0 → ∀ b, b < 0 → a ≠ b → (TJ6 a).2.1 ≠ (TJ6 b).2.1 := by decide +kernel
theorem tyJ6_ok : ∀ k, k < 0 → parseFieldDescriptor (TJ6 k).2.2.1 = some (tyJ6 k) := by decide +kernel
abbrev cJ6_bitCount_0f7a4 : ByteArray := prog_19_method_49_code
def yJ6_bitCount_0f7a4 : MethodName := ⟨RJ6, "bitCount", "(I)I"⟩
def RJxab1ab : String := "java/lang/Iterable"
def TJxab1ab : u_T := fun k => match k with
  | _ => ("", "", "", false)
def tyJxab1ab : Nat → FieldType := fun k => match k with
  | _ => .int
theorem nmJxab1ab : ∀ a, a < 0 → ∀ b, b < 0 → a ≠ b → (TJxab1ab a).2.1 ≠ (TJxab1ab b).2.1 := by decide +kernel
theorem tyJxab1ab_ok : ∀ k, k < 0 → parseFieldDescriptor (TJxab1ab k).2.2.1 = some (tyJxab1ab k) := by decide +kernel
def RJ9 : String := "java/lang/Math"
def TJ9 : u_T := fun k => match k with
  | _ => ("", "", "", false)
def tyJ9 : Nat → FieldType := fun k => match k with
  | _ => .int
theorem nmJ9 : ∀ a, a < 0 → ∀ b, b < 0 → a ≠ b → (TJ9 a).2.1 ≠ (TJ9 b).2.1 := by decide +kernel
theorem tyJ9_ok : ∀ k, k < 0 → parseFieldDescriptor (TJ9 k).2.2.1 = some (tyJ9 k) := by decide +kernel
abbrev cJ9_abs_0f7a4 : ByteArray := prog_21_method_59_code
def yJ9_abs_0f7a4 : MethodName := ⟨RJ9, "abs", "(I)I"⟩
abbrev cJ9_max_7cf53 : ByteArray := prog_21_method_65_code
def yJ9_max_7cf53 : MethodName := ⟨RJ9, "max", "(II)I"⟩
abbrev cJ9_max_f86c9 : ByteArray := prog_21_method_66_code
def yJ9_max_f86c9 : MethodName := ⟨RJ9, "max", "(JJ)J"⟩
abbrev cJ9_min_7cf53 : ByteArray := prog_21_method_69_code
def yJ9_min_7cf53 : MethodName := ⟨RJ9, "min", "(II)I"⟩
abbrev cJ9_min_f86c9 : ByteArray := prog_21_method_70_code
def yJ9_min_f86c9 : MethodName := ⟨RJ9, "min", "(JJ)J"⟩
def RJ0 : String := "java/lang/String"
def TJ0 : u_T := fun k => match k with
  | _ => ("", "", "", false)
def tyJ0 : Nat → FieldType := fun k => match k with
  | _ => .int
theorem nmJ0 : ∀ a, a < 0 → ∀ b, b < 0 → a ≠ b → (TJ0 a).2.1 ≠ (TJ0 b).2.1 := by decide +kernel
theorem tyJ0_ok : ∀ k, k < 0 → parseFieldDescriptor (TJ0 k).2.2.1 = some (tyJ0 k) := by decide +kernel
abbrev cJ0_length_8abf5 : ByteArray := prog_22_method_54_code
def yJ0_length_8abf5 : MethodName := ⟨RJ0, "length", "()I"⟩
abbrev cJ0_charAt_5068e : ByteArray := prog_22_method_56_code
def yJ0_charAt_5068e : MethodName := ⟨RJ0, "charAt", "(I)C"⟩
abbrev cJ0_coder_7d493 : ByteArray := prog_22_method_152_code
def yJ0_coder_7d493 : MethodName := ⟨RJ0, "coder", "()B"⟩
abbrev cJ0_isLatin1_aae02 : ByteArray := prog_22_method_154_code
def yJ0_isLatin1_aae02 : MethodName := ⟨RJ0, "isLatin1", "()Z"⟩
abbrev cJ0_checkIndex_df160 : ByteArray := prog_22_method_155_code
def yJ0_checkIndex_df160 : MethodName := ⟨RJ0, "checkIndex", "(II)V"⟩
def RJ1 : String := "java/lang/StringLatin1"
def TJ1 : u_T := fun k => match k with
  | _ => ("", "", "", false)
def tyJ1 : Nat → FieldType := fun k => match k with
  | _ => .int
theorem nmJ1 : ∀ a, a < 0 → ∀ b, b < 0 → a ≠ b → (TJ1 a).2.1 ≠ (TJ1 b).2.1 := by decide +kernel
theorem tyJ1_ok : ∀ k, k < 0 → parseFieldDescriptor (TJ1 k).2.2.1 = some (tyJ1 k) := by decide +kernel
abbrev cJ1_charAt_3b067 : ByteArray := prog_23_method_2_code
def yJ1_charAt_3b067 : MethodName := ⟨RJ1, "charAt", "([BI)C"⟩
def RJ2 : String := "java/lang/StringUTF16"
def TJ2 : u_T := fun k => match k with
  | _ => ("", "", "", false)
def tyJ2 : Nat → FieldType := fun k => match k with
  | _ => .int
theorem nmJ2 : ∀ a, a < 0 → ∀ b, b < 0 → a ≠ b → (TJ2 a).2.1 ≠ (TJ2 b).2.1 := by decide +kernel
theorem tyJ2_ok : ∀ k, k < 0 → parseFieldDescriptor (TJ2 k).2.2.1 = some (tyJ2 k) := by decide +kernel
abbrev cJ2_getChar_3b067 : ByteArray := prog_24_method_5_code
def yJ2_getChar_3b067 : MethodName := ⟨RJ2, "getChar", "([BI)C"⟩
abbrev cJ2_length_9d52b : ByteArray := prog_24_method_6_code
def yJ2_length_9d52b : MethodName := ⟨RJ2, "length", "([B)I"⟩
abbrev cJ2_charAt_3b067 : ByteArray := prog_24_method_83_code
def yJ2_charAt_3b067 : MethodName := ⟨RJ2, "charAt", "([BI)C"⟩
abbrev cJ2_checkIndex_2214a : ByteArray := prog_24_method_91_code
def yJ2_checkIndex_2214a : MethodName := ⟨RJ2, "checkIndex", "(I[B)V"⟩
def RJ10 : String := "java/lang/System"
def TJ10 : u_T := fun k => match k with
  | _ => ("", "", "", false)
def tyJ10 : Nat → FieldType := fun k => match k with
  | _ => .int
theorem nmJ10 : ∀ a, a < 0 → ∀ b, b < 0 → a ≠ b → (TJ10 a).2.1 ≠ (TJ10 b).2.1 := by decide +kernel
theorem tyJ10_ok : ∀ k, k < 0 → parseFieldDescriptor (TJ10 k).2.2.1 = some (tyJ10 k) := by decide +kernel
def RJxfd54e : String := "java/lang/constant/Constable"
def TJxfd54e : u_T := fun k => match k with
  | _ => ("", "", "", false)
def tyJxfd54e : Nat → FieldType := fun k => match k with
  | _ => .int
theorem nmJxfd54e : ∀ a, a < 0 → ∀ b, b < 0 → a ≠ b → (TJxfd54e a).2.1 ≠ (TJxfd54e b).2.1 := by decide +kernel
theorem tyJxfd54e_ok : ∀ k, k < 0 → parseFieldDescriptor (TJxfd54e k).2.2.1 = some (tyJxfd54e k) := by decide +kernel
def RJx3cf43 : String := "java/lang/constant/ConstantDesc"
def TJx3cf43 : u_T := fun k => match k with
  | _ => ("", "", "", false)
def tyJx3cf43 : Nat → FieldType := fun k => match k with
  | _ => .int
theorem nmJx3cf43 : ∀ a, a < 0 → ∀ b, b < 0 → a ≠ b → (TJx3cf43 a).2.1 ≠ (TJx3cf43 b).2.1 := by decide +kernel
theorem tyJx3cf43_ok : ∀ k, k < 0 → parseFieldDescriptor (TJx3cf43 k).2.2.1 = some (tyJx3cf43 k) := by decide +kernel
def RJxa1e45 : String := "java/util/AbstractCollection"
def TJxa1e45 : u_T := fun k => match k with
  | _ => ("", "", "", false)
def tyJxa1e45 : Nat → FieldType := fun k => match k with
  | _ => .int
theorem nmJxa1e45 : ∀ a, a < 0 → ∀ b, b < 0 → a ≠ b → (TJxa1e45 a).2.1 ≠ (TJxa1e45 b).2.1 := by decide +kernel
theorem tyJxa1e45_ok : ∀ k, k < 0 → parseFieldDescriptor (TJxa1e45 k).2.2.1 = some (tyJxa1e45 k) := by decide +kernel
abbrev cJxa1e45_init_da8c8 : ByteArray := prog_28_method_1_code
def yJxa1e45_init_da8c8 : MethodName := ⟨RJxa1e45, "<init>", "()V"⟩
def RJxc12de : String := "java/util/AbstractList"
def TJxc12de : u_T := fun k => match k with
  | _ => ("", "", "", false)
def tyJxc12de : Nat → FieldType := fun k => match k with
  | _ => .int
theorem nmJxc12de : ∀ a, a < 0 → ∀ b, b < 0 → a ≠ b → (TJxc12de a).2.1 ≠ (TJxc12de b).2.1 := by decide +kernel
theorem tyJxc12de_ok : ∀ k, k < 0 → parseFieldDescriptor (TJxc12de k).2.2.1 = some (tyJxc12de k) := by decide +kernel
abbrev cJxc12de_init_da8c8 : ByteArray := prog_29_method_1_code
def yJxc12de_init_da8c8 : MethodName := ⟨RJxc12de, "<init>", "()V"⟩
def RJx4a65c : String := "java/util/ArrayList"
def TJx4a65c : u_T := fun k => match k with
  | 0 => ("java/util/AbstractList", "modCount", "I", false)
  | 1 => ("java/util/ArrayList", "elementData", "[Ljava/lang/Object;", false)
  | _ => ("java/util/ArrayList", "size", "I", false)
def tyJx4a65c : Nat → FieldType := fun k => match k with
  | 0 => .int
  | 1 => .array (.object "java/lang/Object")
  | _ => .int
theorem nmJx4a65c : ∀ a, a < 3 → ∀ b, b < 3 → a ≠ b → (TJx4a65c a).2.1 ≠ (TJx4a65c b).2.1 := by decide +kernel
theorem tyJx4a65c_ok : ∀ k, k < 3 → parseFieldDescriptor (TJx4a65c k).2.2.1 = some (tyJx4a65c k) := by decide +kernel
abbrev cJx4a65c_init_da8c8 : ByteArray := prog_30_method_2_code
def yJx4a65c_init_da8c8 : MethodName := ⟨RJx4a65c, "<init>", "()V"⟩
abbrev cJx4a65c_grow_92f84 : ByteArray := prog_30_method_6_code
def yJx4a65c_grow_92f84 : MethodName := ⟨RJx4a65c, "grow", "(I)[Ljava/lang/Object;"⟩
abbrev cJx4a65c_grow_d5877 : ByteArray := prog_30_method_7_code
def yJx4a65c_grow_d5877 : MethodName := ⟨RJx4a65c, "grow", "()[Ljava/lang/Object;"⟩
abbrev cJx4a65c_size_8abf5 : ByteArray := prog_30_method_8_code
def yJx4a65c_size_8abf5 : MethodName := ⟨RJx4a65c, "size", "()I"⟩
abbrev cJx4a65c_elementData_915e3 : ByteArray := prog_30_method_18_code
def yJx4a65c_elementData_915e3 : MethodName := ⟨RJx4a65c, "elementData", "(I)Ljava/lang/Object;"⟩
abbrev cJx4a65c_get_915e3 : ByteArray := prog_30_method_20_code
def yJx4a65c_get_915e3 : MethodName := ⟨RJx4a65c, "get", "(I)Ljava/lang/Object;"⟩
abbrev cJx4a65c_add_72be8 : ByteArray := prog_30_method_24_code
def yJx4a65c_add_72be8 : MethodName := ⟨RJx4a65c, "add", "(Ljava/lang/Object;[Ljava/lang/Object;I)V"⟩
abbrev cJx4a65c_add_9ea2d : ByteArray := prog_30_method_25_code
def yJx4a65c_add_9ea2d : MethodName := ⟨RJx4a65c, "add", "(Ljava/lang/Object;)Z"⟩
def RJ7 : String := "java/util/Arrays"
def TJ7 : u_T := fun k => match k with
  | _ => ("", "", "", false)
def tyJ7 : Nat → FieldType := fun k => match k with
  | _ => .int
theorem nmJ7 : ∀ a, a < 0 → ∀ b, b < 0 → a ≠ b → (TJ7 a).2.1 ≠ (TJ7 b).2.1 := by decide +kernel
theorem tyJ7_ok : ∀ k, k < 0 → parseFieldDescriptor (TJ7 k).2.2.1 = some (tyJ7 k) := by decide +kernel
abbrev cJ7_copyOf_1904c : ByteArray := prog_31_method_119_code
def yJ7_copyOf_1904c : MethodName := ⟨RJ7, "copyOf", "([Ljava/lang/Object;I)[Ljava/lang/Object;"⟩
abbrev cJ7_copyOf_6403c : ByteArray := prog_31_method_120_code
def yJ7_copyOf_6403c : MethodName := ⟨RJ7, "copyOf", "([Ljava/lang/Object;ILjava/lang/Class;)[Ljava/lang/Object;"⟩
def RJx5ef63 : String := "java/util/Collection"
def TJx5ef63 : u_T := fun k => match k with
  | _ => ("", "", "", false)
def tyJx5ef63 : Nat → FieldType := fun k => match k with
  | _ => .int
theorem nmJx5ef63 : ∀ a, a < 0 → ∀ b, b < 0 → a ≠ b → (TJx5ef63 a).2.1 ≠ (TJx5ef63 b).2.1 := by decide +kernel
theorem tyJx5ef63_ok : ∀ k, k < 0 → parseFieldDescriptor (TJx5ef63 k).2.2.1 = some (tyJx5ef63 k) := by decide +kernel
def RJxbd725 : String := "java/util/List"
def TJxbd725 : u_T := fun k => match k with
  | _ => ("", "", "", false)
def tyJxbd725 : Nat → FieldType := fun k => match k with
  | _ => .int
theorem nmJxbd725 : ∀ a, a < 0 → ∀ b, b < 0 → a ≠ b → (TJxbd725 a).2.1 ≠ (TJxbd725 b).2.1 := by decide +kernel
theorem tyJxbd725_ok : ∀ k, k < 0 → parseFieldDescriptor (TJxbd725 k).2.2.1 = some (tyJxbd725 k) := by decide +kernel
def RJ15 : String := "java/util/Objects"
def TJ15 : u_T := fun k => match k with
  | _ => ("", "", "", false)
def tyJ15 : Nat → FieldType := fun k => match k with
  | _ => .int
theorem nmJ15 : ∀ a, a < 0 → ∀ b, b < 0 → a ≠ b → (TJ15 a).2.1 ≠ (TJ15 b).2.1 := by decide +kernel
theorem tyJ15_ok : ∀ k, k < 0 → parseFieldDescriptor (TJ15 k).2.2.1 = some (tyJ15 k) := by decide +kernel
abbrev cJ15_checkIndex_7cf53 : ByteArray := prog_34_method_17_code
def yJ15_checkIndex_7cf53 : MethodName := ⟨RJ15, "checkIndex", "(II)I"⟩
def RJxf0a74 : String := "java/util/RandomAccess"
def TJxf0a74 : u_T := fun k => match k with
  | _ => ("", "", "", false)
def tyJxf0a74 : Nat → FieldType := fun k => match k with
  | _ => .int
theorem nmJxf0a74 : ∀ a, a < 0 → ∀ b, b < 0 → a ≠ b → (TJxf0a74 a).2.1 ≠ (TJxf0a74 b).2.1 := by decide +kernel
theorem tyJxf0a74_ok : ∀ k, k < 0 → parseFieldDescriptor (TJxf0a74 k).2.2.1 = some (tyJxf0a74 k) := by decide +kernel
def RJxa66e6 : String := "java/util/SequencedCollection"
def TJxa66e6 : u_T := fun k => match k with
  | _ => ("", "", "", false)
def tyJxa66e6 : Nat → FieldType := fun k => match k with
  | _ => .int
theorem nmJxa66e6 : ∀ a, a < 0 → ∀ b, b < 0 → a ≠ b → (TJxa66e6 a).2.1 ≠ (TJxa66e6 b).2.1 := by decide +kernel
theorem tyJxa66e6_ok : ∀ k, k < 0 → parseFieldDescriptor (TJxa66e6 k).2.2.1 = some (tyJxa66e6 k) := by decide +kernel
def RJ8 : String := "jdk/internal/util/ArraysSupport"
def TJ8 : u_T := fun k => match k with
  | _ => ("", "", "", false)
def tyJ8 : Nat → FieldType := fun k => match k with
  | _ => .int
theorem nmJ8 : ∀ a, a < 0 → ∀ b, b < 0 → a ≠ b → (TJ8 a).2.1 ≠ (TJ8 b).2.1 := by decide +kernel
theorem tyJ8_ok : ∀ k, k < 0 → parseFieldDescriptor (TJ8 k).2.2.1 = some (tyJ8 k) := by decide +kernel
abbrev cJ8_newLength_cabcc : ByteArray := prog_37_method_27_code
def yJ8_newLength_cabcc : MethodName := ⟨RJ8, "newLength", "(III)I"⟩
abbrev cJ8_hugeLength_7cf53 : ByteArray := prog_37_method_28_code
def yJ8_hugeLength_7cf53 : MethodName := ⟨RJ8, "hugeLength", "(II)I"⟩
def RJ3 : String := "jdk/internal/util/Preconditions"
def TJ3 : u_T := fun k => match k with
  | _ => ("", "", "", false)
def tyJ3 : Nat → FieldType := fun k => match k with
  | _ => .int
theorem nmJ3 : ∀ a, a < 0 → ∀ b, b < 0 → a ≠ b → (TJ3 a).2.1 ≠ (TJ3 b).2.1 := by decide +kernel
theorem tyJ3_ok : ∀ k, k < 0 → parseFieldDescriptor (TJ3 k).2.2.1 = some (tyJ3 k) := by decide +kernel
abbrev cJ3_checkIndex_8e157 : ByteArray := prog_38_method_11_code
def yJ3_checkIndex_8e157 : MethodName := ⟨RJ3, "checkIndex", "(IILjava/util/function/BiFunction;)I"⟩
def RL : String := "MerchantYardLaw"
abbrev cL_law : ByteArray := code
def yL_law : MethodName := ⟨RL, "law", "([I)Z"⟩
abbrev vwCl : List vw_C := [(RJx4a65c, TJx4a65c, 3), (RX0, TX0, 13), (RX1, TX1, 10), (RX2, TX2, 5), (RX3, TX3, 6), (RX4, TX4, 6), (RX5, TX5, 14), (RX6, TX6, 5), (RX7, TX7, 7), (RX8, TX8, 6), (RX9, TX9, 14), (RX10, TX10, 16), (RX11, TX11, 15), (RX12, TX12, 117)]
