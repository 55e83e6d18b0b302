-- ===== PART A: goes FIRST, ahead of the names: the tables' words, and 'selects' of the private methods out of them =====
/-- a private method of a class that the tables say can be made, by its rows of tables_1 -/
def lw_okq (q : MethodName × Nat) : Prop := (q.1.cls ≠ "java/lang/invoke/MethodHandle" ∧ q.1.cls ≠ "java/lang/invoke/VarHandle") ∧ Cond.instantiable q.1.cls q.2 ∈ tables_1 ∧ Cond.privateMethod q.1 ∈ tables_1 ∧ Cond.instanceMethod q.1 ∈ tables_1
theorem lw_p0 : lw_okq (⟨"MorphWords$Text", "letterAt", "(I)I"⟩, 2) := ⟨⟨by decide +kernel, by decide +kernel⟩, List.mem_of_getElem? (i := 101) (by decide +kernel), List.mem_of_getElem? (i := 271) (by decide +kernel), List.mem_of_getElem? (i := 272) (by decide +kernel)⟩
theorem lw_p1 : lw_okq (⟨"MorphWords$Text", "hasAt", "(IC)Z"⟩, 2) := ⟨⟨by decide +kernel, by decide +kernel⟩, List.mem_of_getElem? (i := 101) (by decide +kernel), List.mem_of_getElem? (i := 280) (by decide +kernel), List.mem_of_getElem? (i := 281) (by decide +kernel)⟩
theorem lw_p2 : lw_okq (⟨"MorphWords", "takeNextRule", "()Z"⟩, 14) := ⟨⟨by decide +kernel, by decide +kernel⟩, List.mem_of_getElem? (i := 17) (by decide +kernel), List.mem_of_getElem? (i := 289) (by decide +kernel), List.mem_of_getElem? (i := 290) (by decide +kernel)⟩
theorem lw_p3 : lw_okq (⟨"MorphWords$History", "dropOldest", "()V"⟩, 2) := ⟨⟨by decide +kernel, by decide +kernel⟩, List.mem_of_getElem? (i := 85) (by decide +kernel), List.mem_of_getElem? (i := 313) (by decide +kernel), List.mem_of_getElem? (i := 314) (by decide +kernel)⟩
theorem lw_p4 : lw_okq (⟨"MorphWords$Rule", "endOf", "(IZ)I"⟩, 2) := ⟨⟨by decide +kernel, by decide +kernel⟩, List.mem_of_getElem? (i := 31) (by decide +kernel), List.mem_of_getElem? (i := 359) (by decide +kernel), List.mem_of_getElem? (i := 360) (by decide +kernel)⟩
theorem lw_p5 : lw_okq (⟨"MorphWords", "takeNextWord", "()Z"⟩, 14) := ⟨⟨by decide +kernel, by decide +kernel⟩, List.mem_of_getElem? (i := 17) (by decide +kernel), List.mem_of_getElem? (i := 396) (by decide +kernel), List.mem_of_getElem? (i := 397) (by decide +kernel)⟩
theorem lw_p6 : lw_okq (⟨"MorphWords$ReturnTable", "addReturn", "(LMorphWords$Letters;I)V"⟩, 6) := ⟨⟨by decide +kernel, by decide +kernel⟩, List.mem_of_getElem? (i := 175) (by decide +kernel), List.mem_of_getElem? (i := 430) (by decide +kernel), List.mem_of_getElem? (i := 431) (by decide +kernel)⟩
theorem lw_p7 : lw_okq (⟨"MorphWords$ReturnTable", "isSameReturn", "(LMorphWords$Letters;II)Z"⟩, 6) := ⟨⟨by decide +kernel, by decide +kernel⟩, List.mem_of_getElem? (i := 175) (by decide +kernel), List.mem_of_getElem? (i := 434) (by decide +kernel), List.mem_of_getElem? (i := 435) (by decide +kernel)⟩
theorem lw_p8 : lw_okq (⟨"MorphWords$ReturnTable", "spanOf", "(I)I"⟩, 6) := ⟨⟨by decide +kernel, by decide +kernel⟩, List.mem_of_getElem? (i := 175) (by decide +kernel), List.mem_of_getElem? (i := 438) (by decide +kernel), List.mem_of_getElem? (i := 439) (by decide +kernel)⟩
theorem lw_p9 : lw_okq (⟨"MorphWords$Rule", "ledToFrom", "(I)I"⟩, 2) := ⟨⟨by decide +kernel, by decide +kernel⟩, List.mem_of_getElem? (i := 31) (by decide +kernel), List.mem_of_getElem? (i := 530) (by decide +kernel), List.mem_of_getElem? (i := 531) (by decide +kernel)⟩
theorem lw_p10 : lw_okq (⟨"MorphWords$Powers", "goOn", "(LMorphWords$Rule;)V"⟩, 2) := ⟨⟨by decide +kernel, by decide +kernel⟩, List.mem_of_getElem? (i := 119) (by decide +kernel), List.mem_of_getElem? (i := 551) (by decide +kernel), List.mem_of_getElem? (i := 552) (by decide +kernel)⟩
theorem lw_p11 : lw_okq (⟨"MorphWords$Rule", "lettersBehind", "(II)I"⟩, 2) := ⟨⟨by decide +kernel, by decide +kernel⟩, List.mem_of_getElem? (i := 31) (by decide +kernel), List.mem_of_getElem? (i := 577) (by decide +kernel), List.mem_of_getElem? (i := 578) (by decide +kernel)⟩
theorem lw_p12 : lw_okq (⟨"MorphWords$PieceTable", "fill", "(LMorphWords$Letters;I)V"⟩, 2) := ⟨⟨by decide +kernel, by decide +kernel⟩, List.mem_of_getElem? (i := 132) (by decide +kernel), List.mem_of_getElem? (i := 593) (by decide +kernel), List.mem_of_getElem? (i := 594) (by decide +kernel)⟩
theorem lw_p13 : lw_okq (⟨"MorphWords$PieceTable", "isFirst", "(I)Z"⟩, 2) := ⟨⟨by decide +kernel, by decide +kernel⟩, List.mem_of_getElem? (i := 132) (by decide +kernel), List.mem_of_getElem? (i := 599) (by decide +kernel), List.mem_of_getElem? (i := 600) (by decide +kernel)⟩
theorem lw_p14 : lw_okq (⟨"MorphWords$PieceTable", "isSamePiece", "(II)Z"⟩, 2) := ⟨⟨by decide +kernel, by decide +kernel⟩, List.mem_of_getElem? (i := 132) (by decide +kernel), List.mem_of_getElem? (i := 603) (by decide +kernel), List.mem_of_getElem? (i := 604) (by decide +kernel)⟩
theorem lw_p15 : lw_okq (⟨"MorphWords$PieceTable", "isPlace", "(I)Z"⟩, 2) := ⟨⟨by decide +kernel, by decide +kernel⟩, List.mem_of_getElem? (i := 132) (by decide +kernel), List.mem_of_getElem? (i := 607) (by decide +kernel), List.mem_of_getElem? (i := 608) (by decide +kernel)⟩
def lw_privs_1 : List (MethodName × Nat) := [(⟨"MorphWords$Text", "letterAt", "(I)I"⟩, 2), (⟨"MorphWords$Text", "hasAt", "(IC)Z"⟩, 2), (⟨"MorphWords", "takeNextRule", "()Z"⟩, 14), (⟨"MorphWords$History", "dropOldest", "()V"⟩, 2), (⟨"MorphWords$Rule", "endOf", "(IZ)I"⟩, 2), (⟨"MorphWords", "takeNextWord", "()Z"⟩, 14), (⟨"MorphWords$ReturnTable", "addReturn", "(LMorphWords$Letters;I)V"⟩, 6), (⟨"MorphWords$ReturnTable", "isSameReturn", "(LMorphWords$Letters;II)Z"⟩, 6), (⟨"MorphWords$ReturnTable", "spanOf", "(I)I"⟩, 6), (⟨"MorphWords$Rule", "ledToFrom", "(I)I"⟩, 2), (⟨"MorphWords$Powers", "goOn", "(LMorphWords$Rule;)V"⟩, 2), (⟨"MorphWords$Rule", "lettersBehind", "(II)I"⟩, 2), (⟨"MorphWords$PieceTable", "fill", "(LMorphWords$Letters;I)V"⟩, 2), (⟨"MorphWords$PieceTable", "isFirst", "(I)Z"⟩, 2), (⟨"MorphWords$PieceTable", "isSamePiece", "(II)Z"⟩, 2), (⟨"MorphWords$PieceTable", "isPlace", "(I)Z"⟩, 2)]
theorem lw_r1 : ∀ q ∈ lw_privs_1, lw_okq q := List.forall_mem_cons.mpr ⟨lw_p0, List.forall_mem_cons.mpr ⟨lw_p1, List.forall_mem_cons.mpr ⟨lw_p2, List.forall_mem_cons.mpr ⟨lw_p3, List.forall_mem_cons.mpr ⟨lw_p4, List.forall_mem_cons.mpr ⟨lw_p5, List.forall_mem_cons.mpr ⟨lw_p6, List.forall_mem_cons.mpr ⟨lw_p7, List.forall_mem_cons.mpr ⟨lw_p8, List.forall_mem_cons.mpr ⟨lw_p9, List.forall_mem_cons.mpr ⟨lw_p10, List.forall_mem_cons.mpr ⟨lw_p11, List.forall_mem_cons.mpr ⟨lw_p12, List.forall_mem_cons.mpr ⟨lw_p13, List.forall_mem_cons.mpr ⟨lw_p14, List.forall_mem_cons.mpr ⟨lw_p15, fun _ h => absurd h List.not_mem_nil⟩⟩⟩⟩⟩⟩⟩⟩⟩⟩⟩⟩⟩⟩⟩⟩
theorem lw_p16 : lw_okq (⟨"MorphWords$PieceTable", "isCounted", "(LMorphWords$Letters;III)Z"⟩, 2) := ⟨⟨by decide +kernel, by decide +kernel⟩, List.mem_of_getElem? (i := 132) (by decide +kernel), List.mem_of_getElem? (i := 611) (by decide +kernel), List.mem_of_getElem? (i := 612) (by decide +kernel)⟩
theorem lw_p17 : lw_okq (⟨"MorphWords$PieceTable", "neighbours", "(LMorphWords$Letters;II)I"⟩, 2) := ⟨⟨by decide +kernel, by decide +kernel⟩, List.mem_of_getElem? (i := 132) (by decide +kernel), List.mem_of_getElem? (i := 615) (by decide +kernel), List.mem_of_getElem? (i := 616) (by decide +kernel)⟩
theorem lw_p18 : lw_okq (⟨"MorphWords$GreatestRun", "findWithPeriod", "(LMorphWords$Letters;I)V"⟩, 3) := ⟨⟨by decide +kernel, by decide +kernel⟩, List.mem_of_getElem? (i := 146) (by decide +kernel), List.mem_of_getElem? (i := 654) (by decide +kernel), List.mem_of_getElem? (i := 655) (by decide +kernel)⟩
theorem lw_p19 : lw_okq (⟨"MorphWords$LongestMirror", "findAround", "(LMorphWords$Letters;II)V"⟩, 2) := ⟨⟨by decide +kernel, by decide +kernel⟩, List.mem_of_getElem? (i := 162) (by decide +kernel), List.mem_of_getElem? (i := 680) (by decide +kernel), List.mem_of_getElem? (i := 681) (by decide +kernel)⟩
theorem lw_p20 : lw_okq (⟨"MorphWords$ReturnTable", "isReturn", "(I)Z"⟩, 6) := ⟨⟨by decide +kernel, by decide +kernel⟩, List.mem_of_getElem? (i := 175) (by decide +kernel), List.mem_of_getElem? (i := 711) (by decide +kernel), List.mem_of_getElem? (i := 712) (by decide +kernel)⟩
theorem lw_p21 : lw_okq (⟨"MorphWords", "countReturns", "(Z)I"⟩, 14) := ⟨⟨by decide +kernel, by decide +kernel⟩, List.mem_of_getElem? (i := 17) (by decide +kernel), List.mem_of_getElem? (i := 731) (by decide +kernel), List.mem_of_getElem? (i := 732) (by decide +kernel)⟩
theorem lw_p22 : lw_okq (⟨"MorphWordsModel", "takesRule", "()V"⟩, 17) := ⟨⟨by decide +kernel, by decide +kernel⟩, List.mem_of_getElem? (i := 735) (by decide +kernel), List.mem_of_getElem? (i := 797) (by decide +kernel), List.mem_of_getElem? (i := 798) (by decide +kernel)⟩
theorem lw_p23 : lw_okq (⟨"MorphWordsModel", "partsOfText", "()I"⟩, 17) := ⟨⟨by decide +kernel, by decide +kernel⟩, List.mem_of_getElem? (i := 735) (by decide +kernel), List.mem_of_getElem? (i := 801) (by decide +kernel), List.mem_of_getElem? (i := 802) (by decide +kernel)⟩
theorem lw_p24 : lw_okq (⟨"MorphWordsModel", "isLetter", "()Z"⟩, 17) := ⟨⟨by decide +kernel, by decide +kernel⟩, List.mem_of_getElem? (i := 735) (by decide +kernel), List.mem_of_getElem? (i := 805) (by decide +kernel), List.mem_of_getElem? (i := 806) (by decide +kernel)⟩
theorem lw_p25 : lw_okq (⟨"MorphWordsModel", "isSameRule", "()Z"⟩, 17) := ⟨⟨by decide +kernel, by decide +kernel⟩, List.mem_of_getElem? (i := 735) (by decide +kernel), List.mem_of_getElem? (i := 812) (by decide +kernel), List.mem_of_getElem? (i := 813) (by decide +kernel)⟩
theorem lw_p26 : lw_okq (⟨"MorphWordsModel", "size", "(I)I"⟩, 17) := ⟨⟨by decide +kernel, by decide +kernel⟩, List.mem_of_getElem? (i := 735) (by decide +kernel), List.mem_of_getElem? (i := 816) (by decide +kernel), List.mem_of_getElem? (i := 817) (by decide +kernel)⟩
theorem lw_p27 : lw_okq (⟨"MorphWordsModel", "sign", "(II)I"⟩, 17) := ⟨⟨by decide +kernel, by decide +kernel⟩, List.mem_of_getElem? (i := 735) (by decide +kernel), List.mem_of_getElem? (i := 820) (by decide +kernel), List.mem_of_getElem? (i := 821) (by decide +kernel)⟩
theorem lw_p28 : lw_okq (⟨"MorphWordsModel", "record", "()V"⟩, 17) := ⟨⟨by decide +kernel, by decide +kernel⟩, List.mem_of_getElem? (i := 735) (by decide +kernel), List.mem_of_getElem? (i := 824) (by decide +kernel), List.mem_of_getElem? (i := 825) (by decide +kernel)⟩
theorem lw_p29 : lw_okq (⟨"MorphWordsModel", "laysRule", "()V"⟩, 17) := ⟨⟨by decide +kernel, by decide +kernel⟩, List.mem_of_getElem? (i := 735) (by decide +kernel), List.mem_of_getElem? (i := 828) (by decide +kernel), List.mem_of_getElem? (i := 829) (by decide +kernel)⟩
theorem lw_p30 : lw_okq (⟨"MorphWordsModel", "allSizes", "()I"⟩, 17) := ⟨⟨by decide +kernel, by decide +kernel⟩, List.mem_of_getElem? (i := 735) (by decide +kernel), List.mem_of_getElem? (i := 836) (by decide +kernel), List.mem_of_getElem? (i := 837) (by decide +kernel)⟩
theorem lw_p31 : lw_okq (⟨"MorphWordsModel", "length", "()I"⟩, 17) := ⟨⟨by decide +kernel, by decide +kernel⟩, List.mem_of_getElem? (i := 735) (by decide +kernel), List.mem_of_getElem? (i := 854) (by decide +kernel), List.mem_of_getElem? (i := 855) (by decide +kernel)⟩
def lw_privs_2 : List (MethodName × Nat) := [(⟨"MorphWords$PieceTable", "isCounted", "(LMorphWords$Letters;III)Z"⟩, 2), (⟨"MorphWords$PieceTable", "neighbours", "(LMorphWords$Letters;II)I"⟩, 2), (⟨"MorphWords$GreatestRun", "findWithPeriod", "(LMorphWords$Letters;I)V"⟩, 3), (⟨"MorphWords$LongestMirror", "findAround", "(LMorphWords$Letters;II)V"⟩, 2), (⟨"MorphWords$ReturnTable", "isReturn", "(I)Z"⟩, 6), (⟨"MorphWords", "countReturns", "(Z)I"⟩, 14), (⟨"MorphWordsModel", "takesRule", "()V"⟩, 17), (⟨"MorphWordsModel", "partsOfText", "()I"⟩, 17), (⟨"MorphWordsModel", "isLetter", "()Z"⟩, 17), (⟨"MorphWordsModel", "isSameRule", "()Z"⟩, 17), (⟨"MorphWordsModel", "size", "(I)I"⟩, 17), (⟨"MorphWordsModel", "sign", "(II)I"⟩, 17), (⟨"MorphWordsModel", "record", "()V"⟩, 17), (⟨"MorphWordsModel", "laysRule", "()V"⟩, 17), (⟨"MorphWordsModel", "allSizes", "()I"⟩, 17), (⟨"MorphWordsModel", "length", "()I"⟩, 17)]
theorem lw_r2 : ∀ q ∈ lw_privs_2, lw_okq q := List.forall_mem_cons.mpr ⟨lw_p16, List.forall_mem_cons.mpr ⟨lw_p17, List.forall_mem_cons.mpr ⟨lw_p18, List.forall_mem_cons.mpr ⟨lw_p19, List.forall_mem_cons.mpr ⟨lw_p20, List.forall_mem_cons.mpr ⟨lw_p21, List.forall_mem_cons.mpr ⟨lw_p22, List.forall_mem_cons.mpr ⟨lw_p23, List.forall_mem_cons.mpr ⟨lw_p24, List.forall_mem_cons.mpr ⟨lw_p25, List.forall_mem_cons.mpr ⟨lw_p26, List.forall_mem_cons.mpr ⟨lw_p27, List.forall_mem_cons.mpr ⟨lw_p28, List.forall_mem_cons.mpr ⟨lw_p29, List.forall_mem_cons.mpr ⟨lw_p30, List.forall_mem_cons.mpr ⟨lw_p31, fun _ h => absurd h List.not_mem_nil⟩⟩⟩⟩⟩⟩⟩⟩⟩⟩⟩⟩⟩⟩⟩⟩
theorem lw_p32 : lw_okq (⟨"MorphWordsModel", "word", "(I)I"⟩, 17) := ⟨⟨by decide +kernel, by decide +kernel⟩, List.mem_of_getElem? (i := 735) (by decide +kernel), List.mem_of_getElem? (i := 858) (by decide +kernel), List.mem_of_getElem? (i := 859) (by decide +kernel)⟩
theorem lw_p33 : lw_okq (⟨"MorphWordsModel", "takesWord", "()V"⟩, 17) := ⟨⟨by decide +kernel, by decide +kernel⟩, List.mem_of_getElem? (i := 735) (by decide +kernel), List.mem_of_getElem? (i := 870) (by decide +kernel), List.mem_of_getElem? (i := 871) (by decide +kernel)⟩
theorem lw_p34 : lw_okq (⟨"MorphWordsModel", "grows", "()V"⟩, 17) := ⟨⟨by decide +kernel, by decide +kernel⟩, List.mem_of_getElem? (i := 735) (by decide +kernel), List.mem_of_getElem? (i := 874) (by decide +kernel), List.mem_of_getElem? (i := 875) (by decide +kernel)⟩
theorem lw_p35 : lw_okq (⟨"MorphWordsModel", "isSameWord", "()Z"⟩, 17) := ⟨⟨by decide +kernel, by decide +kernel⟩, List.mem_of_getElem? (i := 735) (by decide +kernel), List.mem_of_getElem? (i := 878) (by decide +kernel), List.mem_of_getElem? (i := 879) (by decide +kernel)⟩
theorem lw_p36 : lw_okq (⟨"MorphWordsModel", "laysWord", "()V"⟩, 17) := ⟨⟨by decide +kernel, by decide +kernel⟩, List.mem_of_getElem? (i := 735) (by decide +kernel), List.mem_of_getElem? (i := 882) (by decide +kernel), List.mem_of_getElem? (i := 883) (by decide +kernel)⟩
theorem lw_p37 : lw_okq (⟨"MorphWordsModel", "finds", "()I"⟩, 17) := ⟨⟨by decide +kernel, by decide +kernel⟩, List.mem_of_getElem? (i := 735) (by decide +kernel), List.mem_of_getElem? (i := 894) (by decide +kernel), List.mem_of_getElem? (i := 895) (by decide +kernel)⟩
theorem lw_p38 : lw_okq (⟨"MorphWordsModel", "comesAt", "(I)Z"⟩, 17) := ⟨⟨by decide +kernel, by decide +kernel⟩, List.mem_of_getElem? (i := 735) (by decide +kernel), List.mem_of_getElem? (i := 898) (by decide +kernel), List.mem_of_getElem? (i := 899) (by decide +kernel)⟩
theorem lw_p39 : lw_okq (⟨"MorphWordsModel", "areSame", "(II)Z"⟩, 17) := ⟨⟨by decide +kernel, by decide +kernel⟩, List.mem_of_getElem? (i := 735) (by decide +kernel), List.mem_of_getElem? (i := 902) (by decide +kernel), List.mem_of_getElem? (i := 903) (by decide +kernel)⟩
theorem lw_p40 : lw_okq (⟨"MorphWordsModel", "gap", "(I)I"⟩, 17) := ⟨⟨by decide +kernel, by decide +kernel⟩, List.mem_of_getElem? (i := 735) (by decide +kernel), List.mem_of_getElem? (i := 906) (by decide +kernel), List.mem_of_getElem? (i := 907) (by decide +kernel)⟩
theorem lw_p41 : lw_okq (⟨"MorphWordsModel", "pieceOfText", "()I"⟩, 17) := ⟨⟨by decide +kernel, by decide +kernel⟩, List.mem_of_getElem? (i := 735) (by decide +kernel), List.mem_of_getElem? (i := 914) (by decide +kernel), List.mem_of_getElem? (i := 915) (by decide +kernel)⟩
theorem lw_p42 : lw_okq (⟨"MorphWordsModel", "lettersIn", "(I)I"⟩, 17) := ⟨⟨by decide +kernel, by decide +kernel⟩, List.mem_of_getElem? (i := 735) (by decide +kernel), List.mem_of_getElem? (i := 946) (by decide +kernel), List.mem_of_getElem? (i := 947) (by decide +kernel)⟩
theorem lw_p43 : lw_okq (⟨"MorphWordsModel", "reached", "(I)I"⟩, 17) := ⟨⟨by decide +kernel, by decide +kernel⟩, List.mem_of_getElem? (i := 735) (by decide +kernel), List.mem_of_getElem? (i := 950) (by decide +kernel), List.mem_of_getElem? (i := 951) (by decide +kernel)⟩
theorem lw_p44 : lw_okq (⟨"MorphWordsModel", "ahead", "(I)I"⟩, 17) := ⟨⟨by decide +kernel, by decide +kernel⟩, List.mem_of_getElem? (i := 735) (by decide +kernel), List.mem_of_getElem? (i := 954) (by decide +kernel), List.mem_of_getElem? (i := 955) (by decide +kernel)⟩
theorem lw_p45 : lw_okq (⟨"MorphWordsModel", "images", "(I)V"⟩, 17) := ⟨⟨by decide +kernel, by decide +kernel⟩, List.mem_of_getElem? (i := 735) (by decide +kernel), List.mem_of_getElem? (i := 962) (by decide +kernel), List.mem_of_getElem? (i := 963) (by decide +kernel)⟩
theorem lw_p46 : lw_okq (⟨"MorphWordsModel", "sum", "(I)I"⟩, 17) := ⟨⟨by decide +kernel, by decide +kernel⟩, List.mem_of_getElem? (i := 735) (by decide +kernel), List.mem_of_getElem? (i := 968) (by decide +kernel), List.mem_of_getElem? (i := 969) (by decide +kernel)⟩
theorem lw_p47 : lw_okq (⟨"MorphWordsModel", "isSamePiece", "(III)Z"⟩, 17) := ⟨⟨by decide +kernel, by decide +kernel⟩, List.mem_of_getElem? (i := 735) (by decide +kernel), List.mem_of_getElem? (i := 988) (by decide +kernel), List.mem_of_getElem? (i := 989) (by decide +kernel)⟩
def lw_privs_3 : List (MethodName × Nat) := [(⟨"MorphWordsModel", "word", "(I)I"⟩, 17), (⟨"MorphWordsModel", "takesWord", "()V"⟩, 17), (⟨"MorphWordsModel", "grows", "()V"⟩, 17), (⟨"MorphWordsModel", "isSameWord", "()Z"⟩, 17), (⟨"MorphWordsModel", "laysWord", "()V"⟩, 17), (⟨"MorphWordsModel", "finds", "()I"⟩, 17), (⟨"MorphWordsModel", "comesAt", "(I)Z"⟩, 17), (⟨"MorphWordsModel", "areSame", "(II)Z"⟩, 17), (⟨"MorphWordsModel", "gap", "(I)I"⟩, 17), (⟨"MorphWordsModel", "pieceOfText", "()I"⟩, 17), (⟨"MorphWordsModel", "lettersIn", "(I)I"⟩, 17), (⟨"MorphWordsModel", "reached", "(I)I"⟩, 17), (⟨"MorphWordsModel", "ahead", "(I)I"⟩, 17), (⟨"MorphWordsModel", "images", "(I)V"⟩, 17), (⟨"MorphWordsModel", "sum", "(I)I"⟩, 17), (⟨"MorphWordsModel", "isSamePiece", "(III)Z"⟩, 17)]
theorem lw_r3 : ∀ q ∈ lw_privs_3, lw_okq q := List.forall_mem_cons.mpr ⟨lw_p32, List.forall_mem_cons.mpr ⟨lw_p33, List.forall_mem_cons.mpr ⟨lw_p34, List.forall_mem_cons.mpr ⟨lw_p35, List.forall_mem_cons.mpr ⟨lw_p36, List.forall_mem_cons.mpr ⟨lw_p37, List.forall_mem_cons.mpr ⟨lw_p38, List.forall_mem_cons.mpr ⟨lw_p39, List.forall_mem_cons.mpr ⟨lw_p40, List.forall_mem_cons.mpr ⟨lw_p41, List.forall_mem_cons.mpr ⟨lw_p42, List.forall_mem_cons.mpr ⟨lw_p43, List.forall_mem_cons.mpr ⟨lw_p44, List.forall_mem_cons.mpr ⟨lw_p45, List.forall_mem_cons.mpr ⟨lw_p46, List.forall_mem_cons.mpr ⟨lw_p47, fun _ h => absurd h List.not_mem_nil⟩⟩⟩⟩⟩⟩⟩⟩⟩⟩⟩⟩⟩⟩⟩⟩
theorem lw_p48 : lw_okq (⟨"MorphWordsModel", "isMirrored", "(II)Z"⟩, 17) := ⟨⟨by decide +kernel, by decide +kernel⟩, List.mem_of_getElem? (i := 735) (by decide +kernel), List.mem_of_getElem? (i := 992) (by decide +kernel), List.mem_of_getElem? (i := 993) (by decide +kernel)⟩
theorem lw_p49 : lw_okq (⟨"MorphWordsModel", "around", "(IIZ)I"⟩, 17) := ⟨⟨by decide +kernel, by decide +kernel⟩, List.mem_of_getElem? (i := 735) (by decide +kernel), List.mem_of_getElem? (i := 996) (by decide +kernel), List.mem_of_getElem? (i := 997) (by decide +kernel)⟩
theorem lw_p50 : lw_okq (⟨"MorphWordsModel", "times", "(III)I"⟩, 17) := ⟨⟨by decide +kernel, by decide +kernel⟩, List.mem_of_getElem? (i := 735) (by decide +kernel), List.mem_of_getElem? (i := 1007) (by decide +kernel), List.mem_of_getElem? (i := 1008) (by decide +kernel)⟩
theorem lw_p51 : lw_okq (⟨"MorphWordsModel", "lettersOfWord", "()I"⟩, 17) := ⟨⟨by decide +kernel, by decide +kernel⟩, List.mem_of_getElem? (i := 735) (by decide +kernel), List.mem_of_getElem? (i := 1042) (by decide +kernel), List.mem_of_getElem? (i := 1043) (by decide +kernel)⟩
def lw_privs_4 : List (MethodName × Nat) := [(⟨"MorphWordsModel", "isMirrored", "(II)Z"⟩, 17), (⟨"MorphWordsModel", "around", "(IIZ)I"⟩, 17), (⟨"MorphWordsModel", "times", "(III)I"⟩, 17), (⟨"MorphWordsModel", "lettersOfWord", "()I"⟩, 17)]
theorem lw_r4 : ∀ q ∈ lw_privs_4, lw_okq q := List.forall_mem_cons.mpr ⟨lw_p48, List.forall_mem_cons.mpr ⟨lw_p49, List.forall_mem_cons.mpr ⟨lw_p50, List.forall_mem_cons.mpr ⟨lw_p51, fun _ h => absurd h List.not_mem_nil⟩⟩⟩⟩
def lw_privs : List (MethodName × Nat) := lw_privs_1 ++ (lw_privs_2 ++ (lw_privs_3 ++ (lw_privs_4)))
def lw_tbl : List Cond := k2_sels lw_privs ++ tables_1
theorem lw_privs_ok : ∀ q ∈ lw_privs, lw_okq q := by
  show ∀ q ∈ lw_privs_1 ++ (lw_privs_2 ++ (lw_privs_3 ++ (lw_privs_4))), lw_okq q
  exact List.forall_mem_append.mpr ⟨lw_r1, List.forall_mem_append.mpr ⟨lw_r2, List.forall_mem_append.mpr ⟨lw_r3, lw_r4⟩⟩⟩
def gk : Cond → Bool
  | .methodLinkNest .. => false
  | .arrayOver .. => false
  | .privateMethod .. => false
  | _ => true
def gtbl : List Cond := lw_tbl.filter gk
theorem gtbl_good : gtbl.all goodWord = true := by decide +kernel
theorem gtbl_in {w : Cond} (h : w ∈ gtbl) : w ∈ lw_tbl := (List.mem_filter.mp h).1
theorem gtbl_good' {w : Cond} (h : w ∈ gtbl) : (w.onTables && w.keeps) = true ∨ ∃ ty, w = .arrayClass ty := good_of_word (List.all_eq_true.mp gtbl_good w h)
def R_GR : String := "MorphWords$GreatestRun"
def F_GR : u_T := fun k => match k with
  | 0 => ("MorphWords$GreatestRun", "period", "I", false)
  | 1 => ("MorphWords$GreatestRun", "place", "I", false)
  | _ => ("MorphWords$GreatestRun", "length", "I", false)
def t_GR : Nat → FieldType := fun k => match k with
  | 0 => .int
  | 1 => .int
  | _ => .int
theorem n_GR : ∀ a, a < 3 → ∀ b, b < 3 → a ≠ b → (F_GR a).2.1 ≠ (F_GR b).2.1 := by decide +kernel
theorem k_GR : ∀ k, k < 3 → parseFieldDescriptor (F_GR k).2.2.1 = some (t_GR k) := by decide +kernel
theorem i_GR : ∀ w ∈ u_ws R_GR F_GR 3, w ∈ gtbl := by
  intro w hw
  have h : u_ws R_GR F_GR 3 = [199, 201, 203].filterMap (fun i => gtbl[i]?) := by decide +kernel
  rw [h] at hw
  obtain ⟨i, -, hi⟩ := List.mem_filterMap.mp hw
  exact List.mem_of_getElem? hi
def R_HI : String := "MorphWords$History"
def F_HI : u_T := fun k => match k with
  | 0 => ("MorphWords$History", "states", "[LMorphWords$State;", true)
  | _ => ("MorphWords$History", "held", "I", false)
def t_HI : Nat → FieldType := fun k => match k with
  | 0 => .array (.object "MorphWords$State")
  | _ => .int
theorem n_HI : ∀ a, a < 2 → ∀ b, b < 2 → a ≠ b → (F_HI a).2.1 ≠ (F_HI b).2.1 := by decide +kernel
theorem k_HI : ∀ k, k < 2 → parseFieldDescriptor (F_HI k).2.2.1 = some (t_HI k) := by decide +kernel
theorem i_HI : ∀ w ∈ u_ws R_HI F_HI 2, w ∈ gtbl := by
  intro w hw
  have h : u_ws R_HI F_HI 2 = [144, 146].filterMap (fun i => gtbl[i]?) := by decide +kernel
  rw [h] at hw
  obtain ⟨i, -, hi⟩ := List.mem_filterMap.mp hw
  exact List.mem_of_getElem? hi
def R_LE : String := "MorphWords$Letters"
def F_LE : u_T := fun k => match k with
  | 0 => ("MorphWords$Letters", "numbers", "[I", true)
  | _ => ("MorphWords$Letters", "length", "I", false)
def t_LE : Nat → FieldType := fun k => match k with
  | 0 => .array .int
  | _ => .int
theorem n_LE : ∀ a, a < 2 → ∀ b, b < 2 → a ≠ b → (F_LE a).2.1 ≠ (F_LE b).2.1 := by decide +kernel
theorem k_LE : ∀ k, k < 2 → parseFieldDescriptor (F_LE k).2.2.1 = some (t_LE k) := by decide +kernel
theorem i_LE : ∀ w ∈ u_ws R_LE F_LE 2, w ∈ gtbl := by
  intro w hw
  have h : u_ws R_LE F_LE 2 = [99, 101].filterMap (fun i => gtbl[i]?) := by decide +kernel
  rw [h] at hw
  obtain ⟨i, -, hi⟩ := List.mem_filterMap.mp hw
  exact List.mem_of_getElem? hi
def R_LM : String := "MorphWords$LongestMirror"
def F_LM : u_T := fun k => match k with
  | 0 => ("MorphWords$LongestMirror", "place", "I", false)
  | _ => ("MorphWords$LongestMirror", "length", "I", false)
def t_LM : Nat → FieldType := fun k => match k with
  | 0 => .int
  | _ => .int
theorem n_LM : ∀ a, a < 2 → ∀ b, b < 2 → a ≠ b → (F_LM a).2.1 ≠ (F_LM b).2.1 := by decide +kernel
theorem k_LM : ∀ k, k < 2 → parseFieldDescriptor (F_LM k).2.2.1 = some (t_LM k) := by decide +kernel
theorem i_LM : ∀ w ∈ u_ws R_LM F_LM 2, w ∈ gtbl := by
  intro w hw
  have h : u_ws R_LM F_LM 2 = [213, 215].filterMap (fun i => gtbl[i]?) := by decide +kernel
  rw [h] at hw
  obtain ⟨i, -, hi⟩ := List.mem_filterMap.mp hw
  exact List.mem_of_getElem? hi
def R_PT : String := "MorphWords$PieceTable"
def F_PT : u_T := fun k => match k with
  | 0 => ("MorphWords$PieceTable", "codes", "[J", true)
  | _ => ("MorphWords$PieceTable", "found", "I", false)
def t_PT : Nat → FieldType := fun k => match k with
  | 0 => .array .long
  | _ => .int
theorem n_PT : ∀ a, a < 2 → ∀ b, b < 2 → a ≠ b → (F_PT a).2.1 ≠ (F_PT b).2.1 := by decide +kernel
theorem k_PT : ∀ k, k < 2 → parseFieldDescriptor (F_PT k).2.2.1 = some (t_PT k) := by decide +kernel
theorem i_PT : ∀ w ∈ u_ws R_PT F_PT 2, w ∈ gtbl := by
  intro w hw
  have h : u_ws R_PT F_PT 2 = [185, 187].filterMap (fun i => gtbl[i]?) := by decide +kernel
  rw [h] at hw
  obtain ⟨i, -, hi⟩ := List.mem_filterMap.mp hw
  exact List.mem_of_getElem? hi
def R_PW : String := "MorphWords$Powers"
def F_PW : u_T := fun k => match k with
  | 0 => ("MorphWords$Powers", "times", "[I", true)
  | _ => ("MorphWords$Powers", "timesThen", "[I", true)
def t_PW : Nat → FieldType := fun k => match k with
  | 0 => .array .int
  | _ => .array .int
theorem n_PW : ∀ a, a < 2 → ∀ b, b < 2 → a ≠ b → (F_PW a).2.1 ≠ (F_PW b).2.1 := by decide +kernel
theorem k_PW : ∀ k, k < 2 → parseFieldDescriptor (F_PW k).2.2.1 = some (t_PW k) := by decide +kernel
theorem i_PW : ∀ w ∈ u_ws R_PW F_PW 2, w ∈ gtbl := by
  intro w hw
  have h : u_ws R_PW F_PW 2 = [173, 175].filterMap (fun i => gtbl[i]?) := by decide +kernel
  rw [h] at hw
  obtain ⟨i, -, hi⟩ := List.mem_filterMap.mp hw
  exact List.mem_of_getElem? hi
def R_RT : String := "MorphWords$ReturnTable"
def F_RT : u_T := fun k => match k with
  | 0 => ("MorphWords$ReturnTable", "places", "[I", true)
  | 1 => ("MorphWords$ReturnTable", "found", "I", false)
  | 2 => ("MorphWords$ReturnTable", "numbers", "[I", true)
  | 3 => ("MorphWords$ReturnTable", "firsts", "[I", true)
  | 4 => ("MorphWords$ReturnTable", "times", "[I", true)
  | _ => ("MorphWords$ReturnTable", "different", "I", false)
def t_RT : Nat → FieldType := fun k => match k with
  | 0 => .array .int
  | 1 => .int
  | 2 => .array .int
  | 3 => .array .int
  | 4 => .array .int
  | _ => .int
theorem n_RT : ∀ a, a < 6 → ∀ b, b < 6 → a ≠ b → (F_RT a).2.1 ≠ (F_RT b).2.1 := by decide +kernel
theorem k_RT : ∀ k, k < 6 → parseFieldDescriptor (F_RT k).2.2.1 = some (t_RT k) := by decide +kernel
theorem i_RT : ∀ w ∈ u_ws R_RT F_RT 6, w ∈ gtbl := by
  intro w hw
  have h : u_ws R_RT F_RT 6 = [229, 231, 233, 235, 237, 239].filterMap (fun i => gtbl[i]?) := by decide +kernel
  rw [h] at hw
  obtain ⟨i, -, hi⟩ := List.mem_filterMap.mp hw
  exact List.mem_of_getElem? hi
def R_RU : String := "MorphWords$Rule"
def F_RU : u_T := fun k => match k with
  | 0 => ("MorphWords$Rule", "images", "[LMorphWords$Letters;", true)
  | _ => ("MorphWords$Rule", "nothing", "LMorphWords$Letters;", true)
def t_RU : Nat → FieldType := fun k => match k with
  | 0 => .array (.object "MorphWords$Letters")
  | _ => .object "MorphWords$Letters"
theorem n_RU : ∀ a, a < 2 → ∀ b, b < 2 → a ≠ b → (F_RU a).2.1 ≠ (F_RU b).2.1 := by decide +kernel
theorem k_RU : ∀ k, k < 2 → parseFieldDescriptor (F_RU k).2.2.1 = some (t_RU k) := by decide +kernel
theorem i_RU : ∀ w ∈ u_ws R_RU F_RU 2, w ∈ gtbl := by
  intro w hw
  have h : u_ws R_RU F_RU 2 = [113, 115].filterMap (fun i => gtbl[i]?) := by decide +kernel
  rw [h] at hw
  obtain ⟨i, -, hi⟩ := List.mem_filterMap.mp hw
  exact List.mem_of_getElem? hi
def R_ST : String := "MorphWords$State"
def F_ST : u_T := fun k => match k with
  | 0 => ("MorphWords$State", "images", "LMorphWords$Rule;", true)
  | 1 => ("MorphWords$State", "word", "LMorphWords$Letters;", true)
  | _ => ("MorphWords$State", "piece", "LMorphWords$Letters;", true)
def t_ST : Nat → FieldType := fun k => match k with
  | 0 => .object "MorphWords$Rule"
  | 1 => .object "MorphWords$Letters"
  | _ => .object "MorphWords$Letters"
theorem n_ST : ∀ a, a < 3 → ∀ b, b < 3 → a ≠ b → (F_ST a).2.1 ≠ (F_ST b).2.1 := by decide +kernel
theorem k_ST : ∀ k, k < 3 → parseFieldDescriptor (F_ST k).2.2.1 = some (t_ST k) := by decide +kernel
theorem i_ST : ∀ w ∈ u_ws R_ST F_ST 3, w ∈ gtbl := by
  intro w hw
  have h : u_ws R_ST F_ST 3 = [127, 129, 131].filterMap (fun i => gtbl[i]?) := by decide +kernel
  rw [h] at hw
  obtain ⟨i, -, hi⟩ := List.mem_filterMap.mp hw
  exact List.mem_of_getElem? hi
def R_TX : String := "MorphWords$Text"
def F_TX : u_T := fun k => match k with
  | 0 => ("MorphWords$Text", "characters", "[C", true)
  | _ => ("MorphWords$Text", "length", "I", false)
def t_TX : Nat → FieldType := fun k => match k with
  | 0 => .array .char
  | _ => .int
theorem n_TX : ∀ a, a < 2 → ∀ b, b < 2 → a ≠ b → (F_TX a).2.1 ≠ (F_TX b).2.1 := by decide +kernel
theorem k_TX : ∀ k, k < 2 → parseFieldDescriptor (F_TX k).2.2.1 = some (t_TX k) := by decide +kernel
theorem i_TX : ∀ w ∈ u_ws R_TX F_TX 2, w ∈ gtbl := by
  intro w hw
  have h : u_ws R_TX F_TX 2 = [156, 158].filterMap (fun i => gtbl[i]?) := by decide +kernel
  rw [h] at hw
  obtain ⟨i, -, hi⟩ := List.mem_filterMap.mp hw
  exact List.mem_of_getElem? hi
def R_MW : String := "MorphWords"
def F_MW : u_T := fun k => match k with
  | 0 => ("MorphWords", "now", "LMorphWords$State;", true)
  | 1 => ("MorphWords", "snapshot", "LMorphWords$State;", true)
  | 2 => ("MorphWords", "kept", "Z", false)
  | 3 => ("MorphWords", "history", "LMorphWords$History;", true)
  | 4 => ("MorphWords", "text", "LMorphWords$Text;", true)
  | 5 => ("MorphWords", "nextRule", "LMorphWords$Rule;", true)
  | 6 => ("MorphWords", "nextWord", "LMorphWords$Letters;", true)
  | 7 => ("MorphWords", "grownWord", "LMorphWords$Letters;", true)
  | 8 => ("MorphWords", "nextPiece", "LMorphWords$Letters;", true)
  | 9 => ("MorphWords", "powers", "LMorphWords$Powers;", true)
  | 10 => ("MorphWords", "pieceTable", "LMorphWords$PieceTable;", true)
  | 11 => ("MorphWords", "greatestRun", "LMorphWords$GreatestRun;", true)
  | 12 => ("MorphWords", "longestMirror", "LMorphWords$LongestMirror;", true)
  | _ => ("MorphWords", "returnTable", "LMorphWords$ReturnTable;", true)
def t_MW : Nat → FieldType := fun k => match k with
  | 0 => .object "MorphWords$State"
  | 1 => .object "MorphWords$State"
  | 2 => .boolean
  | 3 => .object "MorphWords$History"
  | 4 => .object "MorphWords$Text"
  | 5 => .object "MorphWords$Rule"
  | 6 => .object "MorphWords$Letters"
  | 7 => .object "MorphWords$Letters"
  | 8 => .object "MorphWords$Letters"
  | 9 => .object "MorphWords$Powers"
  | 10 => .object "MorphWords$PieceTable"
  | 11 => .object "MorphWords$GreatestRun"
  | 12 => .object "MorphWords$LongestMirror"
  | _ => .object "MorphWords$ReturnTable"
theorem n_MW : ∀ a, a < 14 → ∀ b, b < 14 → a ≠ b → (F_MW a).2.1 ≠ (F_MW b).2.1 := by decide +kernel
theorem k_MW : ∀ k, k < 14 → parseFieldDescriptor (F_MW k).2.2.1 = some (t_MW k) := by decide +kernel
theorem i_MW : ∀ w ∈ u_ws R_MW F_MW 14, w ∈ gtbl := by
  intro w hw
  have h : u_ws R_MW F_MW 14 = [256, 258, 260, 262, 264, 266, 268, 270, 272, 274, 276, 278, 280, 282].filterMap (fun i => gtbl[i]?) := by decide +kernel
  rw [h] at hw
  obtain ⟨i, -, hi⟩ := List.mem_filterMap.mp hw
  exact List.mem_of_getElem? hi
def R_MO : String := "MorphWordsModel"
def F_MO : u_T := fun k => match k with
  | 0 => ("MorphWordsModel", "now", "[I", true)
  | 1 => ("MorphWordsModel", "history", "[I", true)
  | 2 => ("MorphWordsModel", "kept", "I", false)
  | 3 => ("MorphWordsModel", "slot", "[I", true)
  | 4 => ("MorphWordsModel", "isFilled", "Z", false)
  | 5 => ("MorphWordsModel", "then", "[I", true)
  | 6 => ("MorphWordsModel", "before", "[I", true)
  | 7 => ("MorphWordsModel", "places", "[I", true)
  | 8 => ("MorphWordsModel", "found", "I", false)
  | 9 => ("MorphWordsModel", "numbers", "[I", true)
  | 10 => ("MorphWordsModel", "different", "I", false)
  | 11 => ("MorphWordsModel", "typed", "I", false)
  | 12 => ("MorphWordsModel", "text", "[C", true)
  | 13 => ("MorphWordsModel", "at", "I", false)
  | 14 => ("MorphWordsModel", "counts", "[I", true)
  | 15 => ("MorphWordsModel", "next", "[I", true)
  | _ => ("MorphWordsModel", "sets", "[I", true)
def t_MO : Nat → FieldType := fun k => match k with
  | 0 => .array .int
  | 1 => .array .int
  | 2 => .int
  | 3 => .array .int
  | 4 => .boolean
  | 5 => .array .int
  | 6 => .array .int
  | 7 => .array .int
  | 8 => .int
  | 9 => .array .int
  | 10 => .int
  | 11 => .int
  | 12 => .array .char
  | 13 => .int
  | 14 => .array .int
  | 15 => .array .int
  | _ => .array .int
theorem n_MO : ∀ a, a < 17 → ∀ b, b < 17 → a ≠ b → (F_MO a).2.1 ≠ (F_MO b).2.1 := by decide +kernel
theorem k_MO : ∀ k, k < 17 → parseFieldDescriptor (F_MO k).2.2.1 = some (t_MO k) := by decide +kernel
theorem i_MO : ∀ w ∈ u_ws R_MO F_MO 17, w ∈ gtbl := by
  intro w hw
  have h : u_ws R_MO F_MO 17 = [774, 776, 778, 780, 782, 784, 786, 788, 790, 792, 794, 796, 798, 800, 802, 804, 806].filterMap (fun i => gtbl[i]?) := by decide +kernel
  rw [h] at hw
  obtain ⟨i, -, hi⟩ := List.mem_filterMap.mp hw
  exact List.mem_of_getElem? hi
abbrev classes : List vw_C := [(R_GR, F_GR, 3), (R_HI, F_HI, 2), (R_LE, F_LE, 2), (R_LM, F_LM, 2), (R_PT, F_PT, 2), (R_PW, F_PW, 2), (R_RT, F_RT, 6), (R_RU, F_RU, 2), (R_ST, F_ST, 3), (R_TX, F_TX, 2), (R_MW, F_MW, 14), (R_MO, F_MO, 17)]
def nests : List (String × Nat × MethodName × String) := [("MorphWords$Letters", 25, ⟨"MorphWords", "isLetter", "(I)Z"⟩, "MorphWords"), ("MorphWords", 32, ⟨"MorphWords$Text", "<init>", "()V"⟩, "MorphWords"), ("MorphWords", 61, ⟨"MorphWords$Powers", "<init>", "()V"⟩, "MorphWords"), ("MorphWords", 68, ⟨"MorphWords$PieceTable", "<init>", "()V"⟩, "MorphWords"), ("MorphWords", 75, ⟨"MorphWords$GreatestRun", "<init>", "()V"⟩, "MorphWords"), ("MorphWords", 82, ⟨"MorphWords$LongestMirror", "<init>", "()V"⟩, "MorphWords"), ("MorphWords", 89, ⟨"MorphWords$ReturnTable", "<init>", "()V"⟩, "MorphWords"), ("MorphWords$Rule", 28, ⟨"MorphWords", "isLetter", "(I)Z"⟩, "MorphWords"), ("MorphWords$Text", 19, ⟨"MorphWords", "isLetter", "(I)Z"⟩, "MorphWords"), ("MorphWords$Rule", 73, ⟨"MorphWords", "hasLetter", "(II)Z"⟩, "MorphWords"), ("MorphWords$Powers", 45, ⟨"MorphWords", "isLetter", "(I)Z"⟩, "MorphWords")]
theorem nests_in : ∀ q ∈ nests, Cond.methodLinkNest q.1 q.2.1 q.2.2.1 q.2.2.2 ∈ lw_tbl := by
  intro q hq
  have h : nests.map (fun q => Cond.methodLinkNest q.1 q.2.1 q.2.2.1 q.2.2.2) = [110, 154, 172, 185, 199, 215, 228, 306, 326, 585, 618].filterMap (fun i => lw_tbl[i]?) := by decide +kernel
  have hm : Cond.methodLinkNest q.1 q.2.1 q.2.2.1 q.2.2.2 ∈ nests.map (fun q => Cond.methodLinkNest q.1 q.2.1 q.2.2.1 q.2.2.2) := List.mem_map.mpr ⟨q, hq, rfl⟩
  rw [h] at hm
  obtain ⟨i, -, hi⟩ := List.mem_filterMap.mp hm
  exact List.mem_of_getElem? hi
