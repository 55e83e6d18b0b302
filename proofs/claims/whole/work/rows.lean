section
-- ===== PART A: goes FIRST, ahead of the names: the tables' words, and 'selects' of the private methods out of them =====
/-- a private method of a class that the tables say can be made, by its rows of tables_1 -/
def lw_okq (q : MethodName × Nat) : Prop := (q.1.cls ≠ "java/lang/invoke/MethodHandle" ∧ q.1.cls ≠ "java/lang/invoke/VarHandle") ∧ Cond.instantiable q.1.cls q.2 ∈ tables_1 ∧ Cond.privateMethod q.1 ∈ tables_1 ∧ Cond.instanceMethod q.1 ∈ tables_1
theorem lw_p0 : lw_okq (⟨"MorphWords$Text", "letterAt", "(I)I"⟩, 2) := ⟨⟨by decide +kernel, by decide +kernel⟩, List.mem_of_getElem? (i := 101) (by decide +kernel), List.mem_of_getElem? (i := 271) (by decide +kernel), List.mem_of_getElem? (i := 272) (by decide +kernel)⟩
theorem lw_p1 : lw_okq (⟨"MorphWords$Text", "hasAt", "(IC)Z"⟩, 2) := ⟨⟨by decide +kernel, by decide +kernel⟩, List.mem_of_getElem? (i := 101) (by decide +kernel), List.mem_of_getElem? (i := 280) (by decide +kernel), List.mem_of_getElem? (i := 281) (by decide +kernel)⟩
theorem lw_p2 : lw_okq (⟨"MorphWords", "takeNextRule", "()Z"⟩, 14) := ⟨⟨by decide +kernel, by decide +kernel⟩, List.mem_of_getElem? (i := 17) (by decide +kernel), List.mem_of_getElem? (i := 289) (by decide +kernel), List.mem_of_getElem? (i := 290) (by decide +kernel)⟩
theorem lw_p3 : lw_okq (⟨"MorphWords$History", "dropOldest", "()V"⟩, 2) := ⟨⟨by decide +kernel, by decide +kernel⟩, List.mem_of_getElem? (i := 85) (by decide +kernel), List.mem_of_getElem? (i := 313) (by decide +kernel), List.mem_of_getElem? (i := 314) (by decide +kernel)⟩
theorem lw_p4 : lw_okq (⟨"MorphWords$Rule", "endOf", "(IZ)I"⟩, 2) := ⟨⟨by decide +kernel, by decide +kernel⟩, List.mem_of_getElem? (i := 31) (by decide +kernel), List.mem_of_getElem? (i := 359) (by decide +kernel), List.mem_of_getElem? (i := 360) (by decide +kernel)⟩
theorem lw_p5 : lw_okq (⟨"MorphWords", "takeNextWord", "()Z"⟩, 14) := ⟨⟨by decide +kernel, by decide +kernel⟩, List.mem_of_getElem? (i := 17) (by decide +kernel), List.mem_of_getElem? (i := 396) (by decide +kernel), List.mem_of_getElem? (i := 397) (by decide +kernel)⟩
theorem lw_p6 : lw_okq (⟨"MorphWords$ReturnTable", "addReturn", "(LMorphWords$Letters;I)V"⟩, 6) := ⟨⟨by decide +kernel, by decide +kernel⟩, List.mem_of_getElem? (i := 175) (by decide +kernel), List.mem_of_getElem? (i := 430) (by decide +kernel), List.mem_of_getElem? (i := 431) (by decide +kernel)⟩
theorem lw_p7 : lw_okq (⟨"MorphWords$ReturnTable", "isSameReturn", "(LMorphWords$Letters;II)Z"⟩, 6) := ⟨⟨by decide +kernel, by decide +kernel⟩, List.mem_of_getElem? (i := 175) (by decide +kernel), List.mem_of_getElem? (i := 434) (by decide +kernel), List.mem_of_getElem? (i := 435) (by decide +kernel)⟩
theorem lw_p8 : lw_okq (⟨"MorphWords$ReturnTable", "spanOf", "(I)I"⟩, 6) := ⟨⟨by decide +kernel, by decide +kernel⟩, List.mem_of_getElem? (i := 175) (by decide +kernel), List.mem_of_getElem? (i := 438) (by decide +kernel), List.mem_of_getElem? (i := 439) (by decide +kernel)⟩
theorem lw_p9 : lw_okq (⟨"MorphWords$Rule", "ledToFrom", "(I)I"⟩, 2) := ⟨⟨by decide +kernel, by decide +kernel⟩, List.mem_of_getElem? (i := 31) (by decide +kernel), List.mem_of_getElem? (i := 530) (by decide +kernel), List.mem_of_getElem? (i := 531) (by decide +kernel)⟩
theorem lw_p10 : lw_okq (⟨"MorphWords$Powers", "goOn", "(LMorphWords$Rule;)V"⟩, 2) := ⟨⟨by decide +kernel, by decide +kernel⟩, List.mem_of_getElem? (i := 119) (by decide +kernel), List.mem_of_getElem? (i := 551) (by decide +kernel), List.mem_of_getElem? (i := 552) (by decide +kernel)⟩
theorem lw_p11 : lw_okq (⟨"MorphWords$Rule", "lettersBehind", "(II)I"⟩, 2) := ⟨⟨by decide +kernel, by decide +kernel⟩, List.mem_of_getElem? (i := 31) (by decide +kernel), List.mem_of_getElem? (i := 577) (by decide +kernel), List.mem_of_getElem? (i := 578) (by decide +kernel)⟩
theorem lw_p12 : lw_okq (⟨"MorphWords$PieceTable", "fill", "(LMorphWords$Letters;I)V"⟩, 2) := ⟨⟨by decide +kernel, by decide +kernel⟩, List.mem_of_getElem? (i := 132) (by decide +kernel), List.mem_of_getElem? (i := 593) (by decide +kernel), List.mem_of_getElem? (i := 594) (by decide +kernel)⟩
theorem lw_p13 : lw_okq (⟨"MorphWords$PieceTable", "isFirst", "(I)Z"⟩, 2) := ⟨⟨by decide +kernel, by decide +kernel⟩, List.mem_of_getElem? (i := 132) (by decide +kernel), List.mem_of_getElem? (i := 599) (by decide +kernel), List.mem_of_getElem? (i := 600) (by decide +kernel)⟩
theorem lw_p14 : lw_okq (⟨"MorphWords$PieceTable", "isCounted", "(LMorphWords$Letters;III)Z"⟩, 2) := ⟨⟨by decide +kernel, by decide +kernel⟩, List.mem_of_getElem? (i := 132) (by decide +kernel), List.mem_of_getElem? (i := 603) (by decide +kernel), List.mem_of_getElem? (i := 604) (by decide +kernel)⟩
theorem lw_p15 : lw_okq (⟨"MorphWords$PieceTable", "neighbours", "(LMorphWords$Letters;II)I"⟩, 2) := ⟨⟨by decide +kernel, by decide +kernel⟩, List.mem_of_getElem? (i := 132) (by decide +kernel), List.mem_of_getElem? (i := 607) (by decide +kernel), List.mem_of_getElem? (i := 608) (by decide +kernel)⟩
def lw_privs_1 : List (MethodName × Nat) := [(⟨"MorphWords$Text", "letterAt", "(I)I"⟩, 2), (⟨"MorphWords$Text", "hasAt", "(IC)Z"⟩, 2), (⟨"MorphWords", "takeNextRule", "()Z"⟩, 14), (⟨"MorphWords$History", "dropOldest", "()V"⟩, 2), (⟨"MorphWords$Rule", "endOf", "(IZ)I"⟩, 2), (⟨"MorphWords", "takeNextWord", "()Z"⟩, 14), (⟨"MorphWords$ReturnTable", "addReturn", "(LMorphWords$Letters;I)V"⟩, 6), (⟨"MorphWords$ReturnTable", "isSameReturn", "(LMorphWords$Letters;II)Z"⟩, 6), (⟨"MorphWords$ReturnTable", "spanOf", "(I)I"⟩, 6), (⟨"MorphWords$Rule", "ledToFrom", "(I)I"⟩, 2), (⟨"MorphWords$Powers", "goOn", "(LMorphWords$Rule;)V"⟩, 2), (⟨"MorphWords$Rule", "lettersBehind", "(II)I"⟩, 2), (⟨"MorphWords$PieceTable", "fill", "(LMorphWords$Letters;I)V"⟩, 2), (⟨"MorphWords$PieceTable", "isFirst", "(I)Z"⟩, 2), (⟨"MorphWords$PieceTable", "isCounted", "(LMorphWords$Letters;III)Z"⟩, 2), (⟨"MorphWords$PieceTable", "neighbours", "(LMorphWords$Letters;II)I"⟩, 2)]
theorem lw_r1 : ∀ q ∈ lw_privs_1, lw_okq q := List.forall_mem_cons.mpr ⟨lw_p0, List.forall_mem_cons.mpr ⟨lw_p1, List.forall_mem_cons.mpr ⟨lw_p2, List.forall_mem_cons.mpr ⟨lw_p3, List.forall_mem_cons.mpr ⟨lw_p4, List.forall_mem_cons.mpr ⟨lw_p5, List.forall_mem_cons.mpr ⟨lw_p6, List.forall_mem_cons.mpr ⟨lw_p7, List.forall_mem_cons.mpr ⟨lw_p8, List.forall_mem_cons.mpr ⟨lw_p9, List.forall_mem_cons.mpr ⟨lw_p10, List.forall_mem_cons.mpr ⟨lw_p11, List.forall_mem_cons.mpr ⟨lw_p12, List.forall_mem_cons.mpr ⟨lw_p13, List.forall_mem_cons.mpr ⟨lw_p14, List.forall_mem_cons.mpr ⟨lw_p15, fun _ h => absurd h List.not_mem_nil⟩⟩⟩⟩⟩⟩⟩⟩⟩⟩⟩⟩⟩⟩⟩⟩
theorem lw_p16 : lw_okq (⟨"MorphWords$GreatestRun", "findWithPeriod", "(LMorphWords$Letters;I)V"⟩, 3) := ⟨⟨by decide +kernel, by decide +kernel⟩, List.mem_of_getElem? (i := 146) (by decide +kernel), List.mem_of_getElem? (i := 646) (by decide +kernel), List.mem_of_getElem? (i := 647) (by decide +kernel)⟩
theorem lw_p17 : lw_okq (⟨"MorphWords$LongestMirror", "findAround", "(LMorphWords$Letters;II)V"⟩, 2) := ⟨⟨by decide +kernel, by decide +kernel⟩, List.mem_of_getElem? (i := 162) (by decide +kernel), List.mem_of_getElem? (i := 672) (by decide +kernel), List.mem_of_getElem? (i := 673) (by decide +kernel)⟩
theorem lw_p18 : lw_okq (⟨"MorphWords$ReturnTable", "isReturn", "(I)Z"⟩, 6) := ⟨⟨by decide +kernel, by decide +kernel⟩, List.mem_of_getElem? (i := 175) (by decide +kernel), List.mem_of_getElem? (i := 703) (by decide +kernel), List.mem_of_getElem? (i := 704) (by decide +kernel)⟩
theorem lw_p19 : lw_okq (⟨"MorphWords", "countReturns", "(Z)I"⟩, 14) := ⟨⟨by decide +kernel, by decide +kernel⟩, List.mem_of_getElem? (i := 17) (by decide +kernel), List.mem_of_getElem? (i := 723) (by decide +kernel), List.mem_of_getElem? (i := 724) (by decide +kernel)⟩
theorem lw_p20 : lw_okq (⟨"MorphWordsModel", "takesRule", "()V"⟩, 17) := ⟨⟨by decide +kernel, by decide +kernel⟩, List.mem_of_getElem? (i := 727) (by decide +kernel), List.mem_of_getElem? (i := 789) (by decide +kernel), List.mem_of_getElem? (i := 790) (by decide +kernel)⟩
theorem lw_p21 : lw_okq (⟨"MorphWordsModel", "partsOfText", "()I"⟩, 17) := ⟨⟨by decide +kernel, by decide +kernel⟩, List.mem_of_getElem? (i := 727) (by decide +kernel), List.mem_of_getElem? (i := 793) (by decide +kernel), List.mem_of_getElem? (i := 794) (by decide +kernel)⟩
theorem lw_p22 : lw_okq (⟨"MorphWordsModel", "isLetter", "()Z"⟩, 17) := ⟨⟨by decide +kernel, by decide +kernel⟩, List.mem_of_getElem? (i := 727) (by decide +kernel), List.mem_of_getElem? (i := 797) (by decide +kernel), List.mem_of_getElem? (i := 798) (by decide +kernel)⟩
theorem lw_p23 : lw_okq (⟨"MorphWordsModel", "isSameRule", "()Z"⟩, 17) := ⟨⟨by decide +kernel, by decide +kernel⟩, List.mem_of_getElem? (i := 727) (by decide +kernel), List.mem_of_getElem? (i := 804) (by decide +kernel), List.mem_of_getElem? (i := 805) (by decide +kernel)⟩
theorem lw_p24 : lw_okq (⟨"MorphWordsModel", "size", "(I)I"⟩, 17) := ⟨⟨by decide +kernel, by decide +kernel⟩, List.mem_of_getElem? (i := 727) (by decide +kernel), List.mem_of_getElem? (i := 808) (by decide +kernel), List.mem_of_getElem? (i := 809) (by decide +kernel)⟩
theorem lw_p25 : lw_okq (⟨"MorphWordsModel", "sign", "(II)I"⟩, 17) := ⟨⟨by decide +kernel, by decide +kernel⟩, List.mem_of_getElem? (i := 727) (by decide +kernel), List.mem_of_getElem? (i := 812) (by decide +kernel), List.mem_of_getElem? (i := 813) (by decide +kernel)⟩
theorem lw_p26 : lw_okq (⟨"MorphWordsModel", "record", "()V"⟩, 17) := ⟨⟨by decide +kernel, by decide +kernel⟩, List.mem_of_getElem? (i := 727) (by decide +kernel), List.mem_of_getElem? (i := 816) (by decide +kernel), List.mem_of_getElem? (i := 817) (by decide +kernel)⟩
theorem lw_p27 : lw_okq (⟨"MorphWordsModel", "laysRule", "()V"⟩, 17) := ⟨⟨by decide +kernel, by decide +kernel⟩, List.mem_of_getElem? (i := 727) (by decide +kernel), List.mem_of_getElem? (i := 820) (by decide +kernel), List.mem_of_getElem? (i := 821) (by decide +kernel)⟩
theorem lw_p28 : lw_okq (⟨"MorphWordsModel", "allSizes", "()I"⟩, 17) := ⟨⟨by decide +kernel, by decide +kernel⟩, List.mem_of_getElem? (i := 727) (by decide +kernel), List.mem_of_getElem? (i := 828) (by decide +kernel), List.mem_of_getElem? (i := 829) (by decide +kernel)⟩
theorem lw_p29 : lw_okq (⟨"MorphWordsModel", "length", "()I"⟩, 17) := ⟨⟨by decide +kernel, by decide +kernel⟩, List.mem_of_getElem? (i := 727) (by decide +kernel), List.mem_of_getElem? (i := 846) (by decide +kernel), List.mem_of_getElem? (i := 847) (by decide +kernel)⟩
theorem lw_p30 : lw_okq (⟨"MorphWordsModel", "word", "(I)I"⟩, 17) := ⟨⟨by decide +kernel, by decide +kernel⟩, List.mem_of_getElem? (i := 727) (by decide +kernel), List.mem_of_getElem? (i := 850) (by decide +kernel), List.mem_of_getElem? (i := 851) (by decide +kernel)⟩
theorem lw_p31 : lw_okq (⟨"MorphWordsModel", "takesWord", "()V"⟩, 17) := ⟨⟨by decide +kernel, by decide +kernel⟩, List.mem_of_getElem? (i := 727) (by decide +kernel), List.mem_of_getElem? (i := 862) (by decide +kernel), List.mem_of_getElem? (i := 863) (by decide +kernel)⟩
def lw_privs_2 : List (MethodName × Nat) := [(⟨"MorphWords$GreatestRun", "findWithPeriod", "(LMorphWords$Letters;I)V"⟩, 3), (⟨"MorphWords$LongestMirror", "findAround", "(LMorphWords$Letters;II)V"⟩, 2), (⟨"MorphWords$ReturnTable", "isReturn", "(I)Z"⟩, 6), (⟨"MorphWords", "countReturns", "(Z)I"⟩, 14), (⟨"MorphWordsModel", "takesRule", "()V"⟩, 17), (⟨"MorphWordsModel", "partsOfText", "()I"⟩, 17), (⟨"MorphWordsModel", "isLetter", "()Z"⟩, 17), (⟨"MorphWordsModel", "isSameRule", "()Z"⟩, 17), (⟨"MorphWordsModel", "size", "(I)I"⟩, 17), (⟨"MorphWordsModel", "sign", "(II)I"⟩, 17), (⟨"MorphWordsModel", "record", "()V"⟩, 17), (⟨"MorphWordsModel", "laysRule", "()V"⟩, 17), (⟨"MorphWordsModel", "allSizes", "()I"⟩, 17), (⟨"MorphWordsModel", "length", "()I"⟩, 17), (⟨"MorphWordsModel", "word", "(I)I"⟩, 17), (⟨"MorphWordsModel", "takesWord", "()V"⟩, 17)]
theorem lw_r2 : ∀ q ∈ lw_privs_2, lw_okq q := List.forall_mem_cons.mpr ⟨lw_p16, List.forall_mem_cons.mpr ⟨lw_p17, List.forall_mem_cons.mpr ⟨lw_p18, List.forall_mem_cons.mpr ⟨lw_p19, List.forall_mem_cons.mpr ⟨lw_p20, List.forall_mem_cons.mpr ⟨lw_p21, List.forall_mem_cons.mpr ⟨lw_p22, List.forall_mem_cons.mpr ⟨lw_p23, List.forall_mem_cons.mpr ⟨lw_p24, List.forall_mem_cons.mpr ⟨lw_p25, List.forall_mem_cons.mpr ⟨lw_p26, List.forall_mem_cons.mpr ⟨lw_p27, List.forall_mem_cons.mpr ⟨lw_p28, List.forall_mem_cons.mpr ⟨lw_p29, List.forall_mem_cons.mpr ⟨lw_p30, List.forall_mem_cons.mpr ⟨lw_p31, fun _ h => absurd h List.not_mem_nil⟩⟩⟩⟩⟩⟩⟩⟩⟩⟩⟩⟩⟩⟩⟩⟩
theorem lw_p32 : lw_okq (⟨"MorphWordsModel", "grows", "()V"⟩, 17) := ⟨⟨by decide +kernel, by decide +kernel⟩, List.mem_of_getElem? (i := 727) (by decide +kernel), List.mem_of_getElem? (i := 866) (by decide +kernel), List.mem_of_getElem? (i := 867) (by decide +kernel)⟩
theorem lw_p33 : lw_okq (⟨"MorphWordsModel", "isSameWord", "()Z"⟩, 17) := ⟨⟨by decide +kernel, by decide +kernel⟩, List.mem_of_getElem? (i := 727) (by decide +kernel), List.mem_of_getElem? (i := 870) (by decide +kernel), List.mem_of_getElem? (i := 871) (by decide +kernel)⟩
theorem lw_p34 : lw_okq (⟨"MorphWordsModel", "laysWord", "()V"⟩, 17) := ⟨⟨by decide +kernel, by decide +kernel⟩, List.mem_of_getElem? (i := 727) (by decide +kernel), List.mem_of_getElem? (i := 874) (by decide +kernel), List.mem_of_getElem? (i := 875) (by decide +kernel)⟩
theorem lw_p35 : lw_okq (⟨"MorphWordsModel", "finds", "()I"⟩, 17) := ⟨⟨by decide +kernel, by decide +kernel⟩, List.mem_of_getElem? (i := 727) (by decide +kernel), List.mem_of_getElem? (i := 886) (by decide +kernel), List.mem_of_getElem? (i := 887) (by decide +kernel)⟩
theorem lw_p36 : lw_okq (⟨"MorphWordsModel", "comesAt", "(I)Z"⟩, 17) := ⟨⟨by decide +kernel, by decide +kernel⟩, List.mem_of_getElem? (i := 727) (by decide +kernel), List.mem_of_getElem? (i := 890) (by decide +kernel), List.mem_of_getElem? (i := 891) (by decide +kernel)⟩
theorem lw_p37 : lw_okq (⟨"MorphWordsModel", "areSame", "(II)Z"⟩, 17) := ⟨⟨by decide +kernel, by decide +kernel⟩, List.mem_of_getElem? (i := 727) (by decide +kernel), List.mem_of_getElem? (i := 894) (by decide +kernel), List.mem_of_getElem? (i := 895) (by decide +kernel)⟩
theorem lw_p38 : lw_okq (⟨"MorphWordsModel", "gap", "(I)I"⟩, 17) := ⟨⟨by decide +kernel, by decide +kernel⟩, List.mem_of_getElem? (i := 727) (by decide +kernel), List.mem_of_getElem? (i := 898) (by decide +kernel), List.mem_of_getElem? (i := 899) (by decide +kernel)⟩
theorem lw_p39 : lw_okq (⟨"MorphWordsModel", "pieceOfText", "()I"⟩, 17) := ⟨⟨by decide +kernel, by decide +kernel⟩, List.mem_of_getElem? (i := 727) (by decide +kernel), List.mem_of_getElem? (i := 906) (by decide +kernel), List.mem_of_getElem? (i := 907) (by decide +kernel)⟩
theorem lw_p40 : lw_okq (⟨"MorphWordsModel", "lettersIn", "(I)I"⟩, 17) := ⟨⟨by decide +kernel, by decide +kernel⟩, List.mem_of_getElem? (i := 727) (by decide +kernel), List.mem_of_getElem? (i := 938) (by decide +kernel), List.mem_of_getElem? (i := 939) (by decide +kernel)⟩
theorem lw_p41 : lw_okq (⟨"MorphWordsModel", "reached", "(I)I"⟩, 17) := ⟨⟨by decide +kernel, by decide +kernel⟩, List.mem_of_getElem? (i := 727) (by decide +kernel), List.mem_of_getElem? (i := 942) (by decide +kernel), List.mem_of_getElem? (i := 943) (by decide +kernel)⟩
theorem lw_p42 : lw_okq (⟨"MorphWordsModel", "ahead", "(I)I"⟩, 17) := ⟨⟨by decide +kernel, by decide +kernel⟩, List.mem_of_getElem? (i := 727) (by decide +kernel), List.mem_of_getElem? (i := 946) (by decide +kernel), List.mem_of_getElem? (i := 947) (by decide +kernel)⟩
theorem lw_p43 : lw_okq (⟨"MorphWordsModel", "images", "(I)V"⟩, 17) := ⟨⟨by decide +kernel, by decide +kernel⟩, List.mem_of_getElem? (i := 727) (by decide +kernel), List.mem_of_getElem? (i := 954) (by decide +kernel), List.mem_of_getElem? (i := 955) (by decide +kernel)⟩
theorem lw_p44 : lw_okq (⟨"MorphWordsModel", "sum", "(I)I"⟩, 17) := ⟨⟨by decide +kernel, by decide +kernel⟩, List.mem_of_getElem? (i := 727) (by decide +kernel), List.mem_of_getElem? (i := 960) (by decide +kernel), List.mem_of_getElem? (i := 961) (by decide +kernel)⟩
theorem lw_p45 : lw_okq (⟨"MorphWordsModel", "isSamePiece", "(III)Z"⟩, 17) := ⟨⟨by decide +kernel, by decide +kernel⟩, List.mem_of_getElem? (i := 727) (by decide +kernel), List.mem_of_getElem? (i := 980) (by decide +kernel), List.mem_of_getElem? (i := 981) (by decide +kernel)⟩
theorem lw_p46 : lw_okq (⟨"MorphWordsModel", "isMirrored", "(II)Z"⟩, 17) := ⟨⟨by decide +kernel, by decide +kernel⟩, List.mem_of_getElem? (i := 727) (by decide +kernel), List.mem_of_getElem? (i := 984) (by decide +kernel), List.mem_of_getElem? (i := 985) (by decide +kernel)⟩
theorem lw_p47 : lw_okq (⟨"MorphWordsModel", "around", "(IIZ)I"⟩, 17) := ⟨⟨by decide +kernel, by decide +kernel⟩, List.mem_of_getElem? (i := 727) (by decide +kernel), List.mem_of_getElem? (i := 988) (by decide +kernel), List.mem_of_getElem? (i := 989) (by decide +kernel)⟩
def lw_privs_3 : List (MethodName × Nat) := [(⟨"MorphWordsModel", "grows", "()V"⟩, 17), (⟨"MorphWordsModel", "isSameWord", "()Z"⟩, 17), (⟨"MorphWordsModel", "laysWord", "()V"⟩, 17), (⟨"MorphWordsModel", "finds", "()I"⟩, 17), (⟨"MorphWordsModel", "comesAt", "(I)Z"⟩, 17), (⟨"MorphWordsModel", "areSame", "(II)Z"⟩, 17), (⟨"MorphWordsModel", "gap", "(I)I"⟩, 17), (⟨"MorphWordsModel", "pieceOfText", "()I"⟩, 17), (⟨"MorphWordsModel", "lettersIn", "(I)I"⟩, 17), (⟨"MorphWordsModel", "reached", "(I)I"⟩, 17), (⟨"MorphWordsModel", "ahead", "(I)I"⟩, 17), (⟨"MorphWordsModel", "images", "(I)V"⟩, 17), (⟨"MorphWordsModel", "sum", "(I)I"⟩, 17), (⟨"MorphWordsModel", "isSamePiece", "(III)Z"⟩, 17), (⟨"MorphWordsModel", "isMirrored", "(II)Z"⟩, 17), (⟨"MorphWordsModel", "around", "(IIZ)I"⟩, 17)]
theorem lw_r3 : ∀ q ∈ lw_privs_3, lw_okq q := List.forall_mem_cons.mpr ⟨lw_p32, List.forall_mem_cons.mpr ⟨lw_p33, List.forall_mem_cons.mpr ⟨lw_p34, List.forall_mem_cons.mpr ⟨lw_p35, List.forall_mem_cons.mpr ⟨lw_p36, List.forall_mem_cons.mpr ⟨lw_p37, List.forall_mem_cons.mpr ⟨lw_p38, List.forall_mem_cons.mpr ⟨lw_p39, List.forall_mem_cons.mpr ⟨lw_p40, List.forall_mem_cons.mpr ⟨lw_p41, List.forall_mem_cons.mpr ⟨lw_p42, List.forall_mem_cons.mpr ⟨lw_p43, List.forall_mem_cons.mpr ⟨lw_p44, List.forall_mem_cons.mpr ⟨lw_p45, List.forall_mem_cons.mpr ⟨lw_p46, List.forall_mem_cons.mpr ⟨lw_p47, fun _ h => absurd h List.not_mem_nil⟩⟩⟩⟩⟩⟩⟩⟩⟩⟩⟩⟩⟩⟩⟩⟩
theorem lw_p48 : lw_okq (⟨"MorphWordsModel", "times", "(III)I"⟩, 17) := ⟨⟨by decide +kernel, by decide +kernel⟩, List.mem_of_getElem? (i := 727) (by decide +kernel), List.mem_of_getElem? (i := 999) (by decide +kernel), List.mem_of_getElem? (i := 1000) (by decide +kernel)⟩
theorem lw_p49 : lw_okq (⟨"MorphWordsModel", "lettersOfWord", "()I"⟩, 17) := ⟨⟨by decide +kernel, by decide +kernel⟩, List.mem_of_getElem? (i := 727) (by decide +kernel), List.mem_of_getElem? (i := 1034) (by decide +kernel), List.mem_of_getElem? (i := 1035) (by decide +kernel)⟩
def lw_privs_4 : List (MethodName × Nat) := [(⟨"MorphWordsModel", "times", "(III)I"⟩, 17), (⟨"MorphWordsModel", "lettersOfWord", "()I"⟩, 17)]
theorem lw_r4 : ∀ q ∈ lw_privs_4, lw_okq q := List.forall_mem_cons.mpr ⟨lw_p48, List.forall_mem_cons.mpr ⟨lw_p49, fun _ h => absurd h List.not_mem_nil⟩⟩
def lw_privs : List (MethodName × Nat) := lw_privs_1 ++ (lw_privs_2 ++ (lw_privs_3 ++ (lw_privs_4)))
def lw_tbl : List Cond := k2_sels lw_privs ++ tables_1
theorem lw_privs_ok : ∀ q ∈ lw_privs, lw_okq q := by
  show ∀ q ∈ lw_privs_1 ++ (lw_privs_2 ++ (lw_privs_3 ++ (lw_privs_4))), lw_okq q
  exact List.forall_mem_append.mpr ⟨lw_r1, List.forall_mem_append.mpr ⟨lw_r2, List.forall_mem_append.mpr ⟨lw_r3, lw_r4⟩⟩⟩
def gk : Cond → Bool
  | .methodLinkNest .. => false
  | .arrayOver .. => false
  | .privateMethod .. => false
  | _ => true
def gtbl : List Cond := lw_tbl.filter gk
theorem gtbl_good : gtbl.all goodWord = true := by decide +kernel
theorem gtbl_in {w : Cond} (h : w ∈ gtbl) : w ∈ lw_tbl := (List.mem_filter.mp h).1
theorem gtbl_good' {w : Cond} (h : w ∈ gtbl) : (w.onTables && w.keeps) = true ∨ ∃ ty, w = .arrayClass ty := good_of_word (List.all_eq_true.mp gtbl_good w h)
def R_GR : String := "MorphWords$GreatestRun"
def F_GR : u_T := fun k => match k with
  | 0 => ("MorphWords$GreatestRun", "period", "I", false)
  | 1 => ("MorphWords$GreatestRun", "place", "I", false)
  | _ => ("MorphWords$GreatestRun", "length", "I", false)
def t_GR : Nat → FieldType := fun k => match k with
  | 0 => .int
  | 1 => .int
  | _ => .int
theorem n_GR : ∀ a, a < 3 → ∀ b, b < 3 → a ≠ b → (F_GR a).2.1 ≠ (F_GR b).2.1 := by decide +kernel
theorem k_GR : ∀ k, k < 3 → parseFieldDescriptor (F_GR k).2.2.1 = some (t_GR k) := by decide +kernel
theorem i_GR : ∀ w ∈ u_ws R_GR F_GR 3, w ∈ gtbl := by
  intro w hw
  have h : u_ws R_GR F_GR 3 = [197, 199, 201].filterMap (fun i => gtbl[i]?) := by decide +kernel
  rw [h] at hw
  obtain ⟨i, -, hi⟩ := List.mem_filterMap.mp hw
  exact List.mem_of_getElem? hi
def R_HI : String := "MorphWords$History"
def F_HI : u_T := fun k => match k with
  | 0 => ("MorphWords$History", "states", "[LMorphWords$State;", true)
  | _ => ("MorphWords$History", "held", "I", false)
def t_HI : Nat → FieldType := fun k => match k with
  | 0 => .array (.object "MorphWords$State")
  | _ => .int
theorem n_HI : ∀ a, a < 2 → ∀ b, b < 2 → a ≠ b → (F_HI a).2.1 ≠ (F_HI b).2.1 := by decide +kernel
theorem k_HI : ∀ k, k < 2 → parseFieldDescriptor (F_HI k).2.2.1 = some (t_HI k) := by decide +kernel
theorem i_HI : ∀ w ∈ u_ws R_HI F_HI 2, w ∈ gtbl := by
  intro w hw
  have h : u_ws R_HI F_HI 2 = [142, 144].filterMap (fun i => gtbl[i]?) := by decide +kernel
  rw [h] at hw
  obtain ⟨i, -, hi⟩ := List.mem_filterMap.mp hw
  exact List.mem_of_getElem? hi
def R_LE : String := "MorphWords$Letters"
def F_LE : u_T := fun k => match k with
  | 0 => ("MorphWords$Letters", "numbers", "[I", true)
  | _ => ("MorphWords$Letters", "length", "I", false)
def t_LE : Nat → FieldType := fun k => match k with
  | 0 => .array .int
  | _ => .int
theorem n_LE : ∀ a, a < 2 → ∀ b, b < 2 → a ≠ b → (F_LE a).2.1 ≠ (F_LE b).2.1 := by decide +kernel
theorem k_LE : ∀ k, k < 2 → parseFieldDescriptor (F_LE k).2.2.1 = some (t_LE k) := by decide +kernel
theorem i_LE : ∀ w ∈ u_ws R_LE F_LE 2, w ∈ gtbl := by
  intro w hw
  have h : u_ws R_LE F_LE 2 = [97, 99].filterMap (fun i => gtbl[i]?) := by decide +kernel
  rw [h] at hw
  obtain ⟨i, -, hi⟩ := List.mem_filterMap.mp hw
  exact List.mem_of_getElem? hi
def R_LM : String := "MorphWords$LongestMirror"
def F_LM : u_T := fun k => match k with
  | 0 => ("MorphWords$LongestMirror", "place", "I", false)
  | _ => ("MorphWords$LongestMirror", "length", "I", false)
def t_LM : Nat → FieldType := fun k => match k with
  | 0 => .int
  | _ => .int
theorem n_LM : ∀ a, a < 2 → ∀ b, b < 2 → a ≠ b → (F_LM a).2.1 ≠ (F_LM b).2.1 := by decide +kernel
theorem k_LM : ∀ k, k < 2 → parseFieldDescriptor (F_LM k).2.2.1 = some (t_LM k) := by decide +kernel
theorem i_LM : ∀ w ∈ u_ws R_LM F_LM 2, w ∈ gtbl := by
  intro w hw
  have h : u_ws R_LM F_LM 2 = [211, 213].filterMap (fun i => gtbl[i]?) := by decide +kernel
  rw [h] at hw
  obtain ⟨i, -, hi⟩ := List.mem_filterMap.mp hw
  exact List.mem_of_getElem? hi
def R_PT : String := "MorphWords$PieceTable"
def F_PT : u_T := fun k => match k with
  | 0 => ("MorphWords$PieceTable", "codes", "[J", true)
  | _ => ("MorphWords$PieceTable", "found", "I", false)
def t_PT : Nat → FieldType := fun k => match k with
  | 0 => .array .long
  | _ => .int
theorem n_PT : ∀ a, a < 2 → ∀ b, b < 2 → a ≠ b → (F_PT a).2.1 ≠ (F_PT b).2.1 := by decide +kernel
theorem k_PT : ∀ k, k < 2 → parseFieldDescriptor (F_PT k).2.2.1 = some (t_PT k) := by decide +kernel
theorem i_PT : ∀ w ∈ u_ws R_PT F_PT 2, w ∈ gtbl := by
  intro w hw
  have h : u_ws R_PT F_PT 2 = [183, 185].filterMap (fun i => gtbl[i]?) := by decide +kernel
  rw [h] at hw
  obtain ⟨i, -, hi⟩ := List.mem_filterMap.mp hw
  exact List.mem_of_getElem? hi
def R_PW : String := "MorphWords$Powers"
def F_PW : u_T := fun k => match k with
  | 0 => ("MorphWords$Powers", "times", "[I", true)
  | _ => ("MorphWords$Powers", "timesThen", "[I", true)
def t_PW : Nat → FieldType := fun k => match k with
  | 0 => .array .int
  | _ => .array .int
theorem n_PW : ∀ a, a < 2 → ∀ b, b < 2 → a ≠ b → (F_PW a).2.1 ≠ (F_PW b).2.1 := by decide +kernel
theorem k_PW : ∀ k, k < 2 → parseFieldDescriptor (F_PW k).2.2.1 = some (t_PW k) := by decide +kernel
theorem i_PW : ∀ w ∈ u_ws R_PW F_PW 2, w ∈ gtbl := by
  intro w hw
  have h : u_ws R_PW F_PW 2 = [171, 173].filterMap (fun i => gtbl[i]?) := by decide +kernel
  rw [h] at hw
  obtain ⟨i, -, hi⟩ := List.mem_filterMap.mp hw
  exact List.mem_of_getElem? hi
def R_RT : String := "MorphWords$ReturnTable"
def F_RT : u_T := fun k => match k with
  | 0 => ("MorphWords$ReturnTable", "places", "[I", true)
  | 1 => ("MorphWords$ReturnTable", "found", "I", false)
  | 2 => ("MorphWords$ReturnTable", "numbers", "[I", true)
  | 3 => ("MorphWords$ReturnTable", "firsts", "[I", true)
  | 4 => ("MorphWords$ReturnTable", "times", "[I", true)
  | _ => ("MorphWords$ReturnTable", "different", "I", false)
def t_RT : Nat → FieldType := fun k => match k with
  | 0 => .array .int
  | 1 => .int
  | 2 => .array .int
  | 3 => .array .int
  | 4 => .array .int
  | _ => .int
theorem n_RT : ∀ a, a < 6 → ∀ b, b < 6 → a ≠ b → (F_RT a).2.1 ≠ (F_RT b).2.1 := by decide +kernel
theorem k_RT : ∀ k, k < 6 → parseFieldDescriptor (F_RT k).2.2.1 = some (t_RT k) := by decide +kernel
theorem i_RT : ∀ w ∈ u_ws R_RT F_RT 6, w ∈ gtbl := by
  intro w hw
  have h : u_ws R_RT F_RT 6 = [227, 229, 231, 233, 235, 237].filterMap (fun i => gtbl[i]?) := by decide +kernel
  rw [h] at hw
  obtain ⟨i, -, hi⟩ := List.mem_filterMap.mp hw
  exact List.mem_of_getElem? hi
def R_RU : String := "MorphWords$Rule"
def F_RU : u_T := fun k => match k with
  | 0 => ("MorphWords$Rule", "images", "[LMorphWords$Letters;", true)
  | _ => ("MorphWords$Rule", "nothing", "LMorphWords$Letters;", true)
def t_RU : Nat → FieldType := fun k => match k with
  | 0 => .array (.object "MorphWords$Letters")
  | _ => .object "MorphWords$Letters"
theorem n_RU : ∀ a, a < 2 → ∀ b, b < 2 → a ≠ b → (F_RU a).2.1 ≠ (F_RU b).2.1 := by decide +kernel
theorem k_RU : ∀ k, k < 2 → parseFieldDescriptor (F_RU k).2.2.1 = some (t_RU k) := by decide +kernel
theorem i_RU : ∀ w ∈ u_ws R_RU F_RU 2, w ∈ gtbl := by
  intro w hw
  have h : u_ws R_RU F_RU 2 = [111, 113].filterMap (fun i => gtbl[i]?) := by decide +kernel
  rw [h] at hw
  obtain ⟨i, -, hi⟩ := List.mem_filterMap.mp hw
  exact List.mem_of_getElem? hi
def R_ST : String := "MorphWords$State"
def F_ST : u_T := fun k => match k with
  | 0 => ("MorphWords$State", "images", "LMorphWords$Rule;", true)
  | 1 => ("MorphWords$State", "word", "LMorphWords$Letters;", true)
  | _ => ("MorphWords$State", "piece", "LMorphWords$Letters;", true)
def t_ST : Nat → FieldType := fun k => match k with
  | 0 => .object "MorphWords$Rule"
  | 1 => .object "MorphWords$Letters"
  | _ => .object "MorphWords$Letters"
theorem n_ST : ∀ a, a < 3 → ∀ b, b < 3 → a ≠ b → (F_ST a).2.1 ≠ (F_ST b).2.1 := by decide +kernel
theorem k_ST : ∀ k, k < 3 → parseFieldDescriptor (F_ST k).2.2.1 = some (t_ST k) := by decide +kernel
theorem i_ST : ∀ w ∈ u_ws R_ST F_ST 3, w ∈ gtbl := by
  intro w hw
  have h : u_ws R_ST F_ST 3 = [125, 127, 129].filterMap (fun i => gtbl[i]?) := by decide +kernel
  rw [h] at hw
  obtain ⟨i, -, hi⟩ := List.mem_filterMap.mp hw
  exact List.mem_of_getElem? hi
def R_TX : String := "MorphWords$Text"
def F_TX : u_T := fun k => match k with
  | 0 => ("MorphWords$Text", "characters", "[C", true)
  | _ => ("MorphWords$Text", "length", "I", false)
def t_TX : Nat → FieldType := fun k => match k with
  | 0 => .array .char
  | _ => .int
theorem n_TX : ∀ a, a < 2 → ∀ b, b < 2 → a ≠ b → (F_TX a).2.1 ≠ (F_TX b).2.1 := by decide +kernel
theorem k_TX : ∀ k, k < 2 → parseFieldDescriptor (F_TX k).2.2.1 = some (t_TX k) := by decide +kernel
theorem i_TX : ∀ w ∈ u_ws R_TX F_TX 2, w ∈ gtbl := by
  intro w hw
  have h : u_ws R_TX F_TX 2 = [154, 156].filterMap (fun i => gtbl[i]?) := by decide +kernel
  rw [h] at hw
  obtain ⟨i, -, hi⟩ := List.mem_filterMap.mp hw
  exact List.mem_of_getElem? hi
def R_MW : String := "MorphWords"
def F_MW : u_T := fun k => match k with
  | 0 => ("MorphWords", "now", "LMorphWords$State;", true)
  | 1 => ("MorphWords", "snapshot", "LMorphWords$State;", true)
  | 2 => ("MorphWords", "kept", "Z", false)
  | 3 => ("MorphWords", "history", "LMorphWords$History;", true)
  | 4 => ("MorphWords", "text", "LMorphWords$Text;", true)
  | 5 => ("MorphWords", "nextRule", "LMorphWords$Rule;", true)
  | 6 => ("MorphWords", "nextWord", "LMorphWords$Letters;", true)
  | 7 => ("MorphWords", "grownWord", "LMorphWords$Letters;", true)
  | 8 => ("MorphWords", "nextPiece", "LMorphWords$Letters;", true)
  | 9 => ("MorphWords", "powers", "LMorphWords$Powers;", true)
  | 10 => ("MorphWords", "pieceTable", "LMorphWords$PieceTable;", true)
  | 11 => ("MorphWords", "greatestRun", "LMorphWords$GreatestRun;", true)
  | 12 => ("MorphWords", "longestMirror", "LMorphWords$LongestMirror;", true)
  | _ => ("MorphWords", "returnTable", "LMorphWords$ReturnTable;", true)
def t_MW : Nat → FieldType := fun k => match k with
  | 0 => .object "MorphWords$State"
  | 1 => .object "MorphWords$State"
  | 2 => .boolean
  | 3 => .object "MorphWords$History"
  | 4 => .object "MorphWords$Text"
  | 5 => .object "MorphWords$Rule"
  | 6 => .object "MorphWords$Letters"
  | 7 => .object "MorphWords$Letters"
  | 8 => .object "MorphWords$Letters"
  | 9 => .object "MorphWords$Powers"
  | 10 => .object "MorphWords$PieceTable"
  | 11 => .object "MorphWords$GreatestRun"
  | 12 => .object "MorphWords$LongestMirror"
  | _ => .object "MorphWords$ReturnTable"
theorem n_MW : ∀ a, a < 14 → ∀ b, b < 14 → a ≠ b → (F_MW a).2.1 ≠ (F_MW b).2.1 := by decide +kernel
theorem k_MW : ∀ k, k < 14 → parseFieldDescriptor (F_MW k).2.2.1 = some (t_MW k) := by decide +kernel
theorem i_MW : ∀ w ∈ u_ws R_MW F_MW 14, w ∈ gtbl := by
  intro w hw
  have h : u_ws R_MW F_MW 14 = [254, 256, 258, 260, 262, 264, 266, 268, 270, 272, 274, 276, 278, 280].filterMap (fun i => gtbl[i]?) := by decide +kernel
  rw [h] at hw
  obtain ⟨i, -, hi⟩ := List.mem_filterMap.mp hw
  exact List.mem_of_getElem? hi
def R_MO : String := "MorphWordsModel"
def F_MO : u_T := fun k => match k with
  | 0 => ("MorphWordsModel", "now", "[I", true)
  | 1 => ("MorphWordsModel", "history", "[I", true)
  | 2 => ("MorphWordsModel", "kept", "I", false)
  | 3 => ("MorphWordsModel", "slot", "[I", true)
  | 4 => ("MorphWordsModel", "isFilled", "Z", false)
  | 5 => ("MorphWordsModel", "then", "[I", true)
  | 6 => ("MorphWordsModel", "before", "[I", true)
  | 7 => ("MorphWordsModel", "places", "[I", true)
  | 8 => ("MorphWordsModel", "found", "I", false)
  | 9 => ("MorphWordsModel", "numbers", "[I", true)
  | 10 => ("MorphWordsModel", "different", "I", false)
  | 11 => ("MorphWordsModel", "typed", "I", false)
  | 12 => ("MorphWordsModel", "text", "[C", true)
  | 13 => ("MorphWordsModel", "at", "I", false)
  | 14 => ("MorphWordsModel", "counts", "[I", true)
  | 15 => ("MorphWordsModel", "next", "[I", true)
  | _ => ("MorphWordsModel", "sets", "[I", true)
def t_MO : Nat → FieldType := fun k => match k with
  | 0 => .array .int
  | 1 => .array .int
  | 2 => .int
  | 3 => .array .int
  | 4 => .boolean
  | 5 => .array .int
  | 6 => .array .int
  | 7 => .array .int
  | 8 => .int
  | 9 => .array .int
  | 10 => .int
  | 11 => .int
  | 12 => .array .char
  | 13 => .int
  | 14 => .array .int
  | 15 => .array .int
  | _ => .array .int
theorem n_MO : ∀ a, a < 17 → ∀ b, b < 17 → a ≠ b → (F_MO a).2.1 ≠ (F_MO b).2.1 := by decide +kernel
theorem k_MO : ∀ k, k < 17 → parseFieldDescriptor (F_MO k).2.2.1 = some (t_MO k) := by decide +kernel
theorem i_MO : ∀ w ∈ u_ws R_MO F_MO 17, w ∈ gtbl := by
  intro w hw
  have h : u_ws R_MO F_MO 17 = [766, 768, 770, 772, 774, 776, 778, 780, 782, 784, 786, 788, 790, 792, 794, 796, 798].filterMap (fun i => gtbl[i]?) := by decide +kernel
  rw [h] at hw
  obtain ⟨i, -, hi⟩ := List.mem_filterMap.mp hw
  exact List.mem_of_getElem? hi
abbrev classes : List vw_C := [(R_GR, F_GR, 3), (R_HI, F_HI, 2), (R_LE, F_LE, 2), (R_LM, F_LM, 2), (R_PT, F_PT, 2), (R_PW, F_PW, 2), (R_RT, F_RT, 6), (R_RU, F_RU, 2), (R_ST, F_ST, 3), (R_TX, F_TX, 2), (R_MW, F_MW, 14), (R_MO, F_MO, 17)]
def nests : List (String × Nat × MethodName × String) := [("MorphWords$Letters", 25, ⟨"MorphWords", "isLetter", "(I)Z"⟩, "MorphWords"), ("MorphWords", 32, ⟨"MorphWords$Text", "<init>", "()V"⟩, "MorphWords"), ("MorphWords", 61, ⟨"MorphWords$Powers", "<init>", "()V"⟩, "MorphWords"), ("MorphWords", 68, ⟨"MorphWords$PieceTable", "<init>", "()V"⟩, "MorphWords"), ("MorphWords", 75, ⟨"MorphWords$GreatestRun", "<init>", "()V"⟩, "MorphWords"), ("MorphWords", 82, ⟨"MorphWords$LongestMirror", "<init>", "()V"⟩, "MorphWords"), ("MorphWords", 89, ⟨"MorphWords$ReturnTable", "<init>", "()V"⟩, "MorphWords"), ("MorphWords$Rule", 28, ⟨"MorphWords", "isLetter", "(I)Z"⟩, "MorphWords"), ("MorphWords$Text", 19, ⟨"MorphWords", "isLetter", "(I)Z"⟩, "MorphWords"), ("MorphWords$Rule", 73, ⟨"MorphWords", "hasLetter", "(II)Z"⟩, "MorphWords"), ("MorphWords$Powers", 45, ⟨"MorphWords", "isLetter", "(I)Z"⟩, "MorphWords")]
theorem nests_in : ∀ q ∈ nests, Cond.methodLinkNest q.1 q.2.1 q.2.2.1 q.2.2.2 ∈ lw_tbl := by
  intro q hq
  have h : nests.map (fun q => Cond.methodLinkNest q.1 q.2.1 q.2.2.1 q.2.2.2) = [108, 152, 170, 183, 197, 213, 226, 304, 324, 583, 616].filterMap (fun i => lw_tbl[i]?) := by decide +kernel
  have hm : Cond.methodLinkNest q.1 q.2.1 q.2.2.1 q.2.2.2 ∈ nests.map (fun q => Cond.methodLinkNest q.1 q.2.1 q.2.2.1 q.2.2.2) := List.mem_map.mpr ⟨q, hq, rfl⟩
  rw [h] at hm
  obtain ⟨i, -, hi⟩ := List.mem_filterMap.mp hm
  exact List.mem_of_getElem? hi
end
section
abbrev b_GR_init : ByteArray := prog_2_method_1_code
def y_GR_init : MethodName := ⟨"MorphWords$GreatestRun", "<init>", "()V"⟩
abbrev b_GR_find : ByteArray := prog_2_method_2_code
def y_GR_find : MethodName := ⟨"MorphWords$GreatestRun", "find", "(LMorphWords$Letters;)V"⟩
abbrev b_GR_findWithPeriod : ByteArray := prog_2_method_3_code
def y_GR_findWithPeriod : MethodName := ⟨"MorphWords$GreatestRun", "findWithPeriod", "(LMorphWords$Letters;I)V"⟩
abbrev b_GR_period : ByteArray := prog_2_method_4_code
def y_GR_period : MethodName := ⟨"MorphWords$GreatestRun", "period", "()I"⟩
abbrev b_GR_place : ByteArray := prog_2_method_5_code
def y_GR_place : MethodName := ⟨"MorphWords$GreatestRun", "place", "()I"⟩
abbrev b_GR_length : ByteArray := prog_2_method_6_code
def y_GR_length : MethodName := ⟨"MorphWords$GreatestRun", "length", "()I"⟩
abbrev b_HI_init : ByteArray := prog_3_method_1_code
def y_HI_init : MethodName := ⟨"MorphWords$History", "<init>", "()V"⟩
abbrev b_HI_held : ByteArray := prog_3_method_2_code
def y_HI_held : MethodName := ⟨"MorphWords$History", "held", "()I"⟩
abbrev b_HI_record : ByteArray := prog_3_method_3_code
def y_HI_record : MethodName := ⟨"MorphWords$History", "record", "(LMorphWords$State;)V"⟩
abbrev b_HI_dropOldest : ByteArray := prog_3_method_4_code
def y_HI_dropOldest : MethodName := ⟨"MorphWords$History", "dropOldest", "()V"⟩
abbrev b_HI_takeBack : ByteArray := prog_3_method_5_code
def y_HI_takeBack : MethodName := ⟨"MorphWords$History", "takeBack", "(LMorphWords$State;)Z"⟩
abbrev b_LE_init : ByteArray := prog_4_method_1_code
def y_LE_init : MethodName := ⟨"MorphWords$Letters", "<init>", "(I)V"⟩
abbrev b_LE_length : ByteArray := prog_4_method_2_code
def y_LE_length : MethodName := ⟨"MorphWords$Letters", "length", "()I"⟩
abbrev b_LE_letterAt : ByteArray := prog_4_method_3_code
def y_LE_letterAt : MethodName := ⟨"MorphWords$Letters", "letterAt", "(I)I"⟩
abbrev b_LE_clear : ByteArray := prog_4_method_4_code
def y_LE_clear : MethodName := ⟨"MorphWords$Letters", "clear", "()V"⟩
abbrev b_LE_add : ByteArray := prog_4_method_5_code
def y_LE_add : MethodName := ⟨"MorphWords$Letters", "add", "(I)Z"⟩
abbrev b_LE_addAll : ByteArray := prog_4_method_6_code
def y_LE_addAll : MethodName := ⟨"MorphWords$Letters", "addAll", "(LMorphWords$Letters;)Z"⟩
abbrev b_LE_shorten : ByteArray := prog_4_method_7_code
def y_LE_shorten : MethodName := ⟨"MorphWords$Letters", "shorten", "(I)V"⟩
abbrev b_LE_become : ByteArray := prog_4_method_8_code
def y_LE_become : MethodName := ⟨"MorphWords$Letters", "become", "(LMorphWords$Letters;)V"⟩
abbrev b_LE_same : ByteArray := prog_4_method_9_code
def y_LE_same : MethodName := ⟨"MorphWords$Letters", "same", "(LMorphWords$Letters;)Z"⟩
abbrev b_LE_hasFrom : ByteArray := prog_4_method_10_code
def y_LE_hasFrom : MethodName := ⟨"MorphWords$Letters", "hasFrom", "(ILMorphWords$Letters;)Z"⟩
abbrev b_LE_repeats : ByteArray := prog_4_method_11_code
def y_LE_repeats : MethodName := ⟨"MorphWords$Letters", "repeats", "(III)Z"⟩
abbrev b_LE_isMirrored : ByteArray := prog_4_method_12_code
def y_LE_isMirrored : MethodName := ⟨"MorphWords$Letters", "isMirrored", "(II)Z"⟩
abbrev b_LE_bits : ByteArray := prog_4_method_13_code
def y_LE_bits : MethodName := ⟨"MorphWords$Letters", "bits", "()I"⟩
abbrev b_LE_countOf : ByteArray := prog_4_method_14_code
def y_LE_countOf : MethodName := ⟨"MorphWords$Letters", "countOf", "(I)I"⟩
abbrev b_LE_exchange : ByteArray := prog_4_method_15_code
def y_LE_exchange : MethodName := ⟨"MorphWords$Letters", "exchange", "(II)V"⟩
abbrev b_LE_rotate : ByteArray := prog_4_method_16_code
def y_LE_rotate : MethodName := ⟨"MorphWords$Letters", "rotate", "(Z)V"⟩
abbrev b_LE_imbalance : ByteArray := prog_4_method_17_code
def y_LE_imbalance : MethodName := ⟨"MorphWords$Letters", "imbalance", "(II)I"⟩
abbrev b_LM_init : ByteArray := prog_5_method_1_code
def y_LM_init : MethodName := ⟨"MorphWords$LongestMirror", "<init>", "()V"⟩
abbrev b_LM_find : ByteArray := prog_5_method_2_code
def y_LM_find : MethodName := ⟨"MorphWords$LongestMirror", "find", "(LMorphWords$Letters;)V"⟩
abbrev b_LM_findAround : ByteArray := prog_5_method_3_code
def y_LM_findAround : MethodName := ⟨"MorphWords$LongestMirror", "findAround", "(LMorphWords$Letters;II)V"⟩
abbrev b_LM_place : ByteArray := prog_5_method_4_code
def y_LM_place : MethodName := ⟨"MorphWords$LongestMirror", "place", "()I"⟩
abbrev b_LM_length : ByteArray := prog_5_method_5_code
def y_LM_length : MethodName := ⟨"MorphWords$LongestMirror", "length", "()I"⟩
abbrev b_PT_init : ByteArray := prog_6_method_1_code
def y_PT_init : MethodName := ⟨"MorphWords$PieceTable", "<init>", "()V"⟩
abbrev b_PT_tell : ByteArray := prog_6_method_2_code
def y_PT_tell : MethodName := ⟨"MorphWords$PieceTable", "tell", "(LMorphWords$Letters;II)I"⟩
abbrev b_PT_fill : ByteArray := prog_6_method_3_code
def y_PT_fill : MethodName := ⟨"MorphWords$PieceTable", "fill", "(LMorphWords$Letters;I)V"⟩
abbrev b_PT_isFirst : ByteArray := prog_6_method_4_code
def y_PT_isFirst : MethodName := ⟨"MorphWords$PieceTable", "isFirst", "(I)Z"⟩
abbrev b_PT_isCounted : ByteArray := prog_6_method_5_code
def y_PT_isCounted : MethodName := ⟨"MorphWords$PieceTable", "isCounted", "(LMorphWords$Letters;III)Z"⟩
abbrev b_PT_neighbours : ByteArray := prog_6_method_6_code
def y_PT_neighbours : MethodName := ⟨"MorphWords$PieceTable", "neighbours", "(LMorphWords$Letters;II)I"⟩
abbrev b_PW_init : ByteArray := prog_7_method_1_code
def y_PW_init : MethodName := ⟨"MorphWords$Powers", "<init>", "()V"⟩
abbrev b_PW_find : ByteArray := prog_7_method_2_code
def y_PW_find : MethodName := ⟨"MorphWords$Powers", "find", "(LMorphWords$Rule;II)Z"⟩
abbrev b_PW_goOn : ByteArray := prog_7_method_3_code
def y_PW_goOn : MethodName := ⟨"MorphWords$Powers", "goOn", "(LMorphWords$Rule;)V"⟩
abbrev b_PW_total : ByteArray := prog_7_method_4_code
def y_PW_total : MethodName := ⟨"MorphWords$Powers", "total", "()I"⟩
abbrev b_PW_countOf : ByteArray := prog_7_method_5_code
def y_PW_countOf : MethodName := ⟨"MorphWords$Powers", "countOf", "(I)I"⟩
abbrev b_RT_init : ByteArray := prog_8_method_1_code
def y_RT_init : MethodName := ⟨"MorphWords$ReturnTable", "<init>", "()V"⟩
abbrev b_RT_find : ByteArray := prog_8_method_2_code
def y_RT_find : MethodName := ⟨"MorphWords$ReturnTable", "find", "(LMorphWords$Letters;LMorphWords$Letters;)V"⟩
abbrev b_RT_addReturn : ByteArray := prog_8_method_3_code
def y_RT_addReturn : MethodName := ⟨"MorphWords$ReturnTable", "addReturn", "(LMorphWords$Letters;I)V"⟩
abbrev b_RT_isSameReturn : ByteArray := prog_8_method_4_code
def y_RT_isSameReturn : MethodName := ⟨"MorphWords$ReturnTable", "isSameReturn", "(LMorphWords$Letters;II)Z"⟩
abbrev b_RT_spanOf : ByteArray := prog_8_method_5_code
def y_RT_spanOf : MethodName := ⟨"MorphWords$ReturnTable", "spanOf", "(I)I"⟩
abbrev b_RT_found : ByteArray := prog_8_method_6_code
def y_RT_found : MethodName := ⟨"MorphWords$ReturnTable", "found", "()I"⟩
abbrev b_RT_placeOf : ByteArray := prog_8_method_7_code
def y_RT_placeOf : MethodName := ⟨"MorphWords$ReturnTable", "placeOf", "(I)I"⟩
abbrev b_RT_rowLength : ByteArray := prog_8_method_8_code
def y_RT_rowLength : MethodName := ⟨"MorphWords$ReturnTable", "rowLength", "()I"⟩
abbrev b_RT_numberAt : ByteArray := prog_8_method_9_code
def y_RT_numberAt : MethodName := ⟨"MorphWords$ReturnTable", "numberAt", "(I)I"⟩
abbrev b_RT_different : ByteArray := prog_8_method_10_code
def y_RT_different : MethodName := ⟨"MorphWords$ReturnTable", "different", "()I"⟩
abbrev b_RT_lengthOf : ByteArray := prog_8_method_11_code
def y_RT_lengthOf : MethodName := ⟨"MorphWords$ReturnTable", "lengthOf", "(I)I"⟩
abbrev b_RT_firstPlaceOf : ByteArray := prog_8_method_12_code
def y_RT_firstPlaceOf : MethodName := ⟨"MorphWords$ReturnTable", "firstPlaceOf", "(I)I"⟩
abbrev b_RT_timesOf : ByteArray := prog_8_method_13_code
def y_RT_timesOf : MethodName := ⟨"MorphWords$ReturnTable", "timesOf", "(I)I"⟩
abbrev b_RT_isReturn : ByteArray := prog_8_method_14_code
def y_RT_isReturn : MethodName := ⟨"MorphWords$ReturnTable", "isReturn", "(I)Z"⟩
abbrev b_RU_init : ByteArray := prog_9_method_1_code
def y_RU_init : MethodName := ⟨"MorphWords$Rule", "<init>", "()V"⟩
abbrev b_RU_imageOf : ByteArray := prog_9_method_2_code
def y_RU_imageOf : MethodName := ⟨"MorphWords$Rule", "imageOf", "(I)LMorphWords$Letters;"⟩
abbrev b_RU_become : ByteArray := prog_9_method_3_code
def y_RU_become : MethodName := ⟨"MorphWords$Rule", "become", "(LMorphWords$Rule;)V"⟩
abbrev b_RU_same : ByteArray := prog_9_method_4_code
def y_RU_same : MethodName := ⟨"MorphWords$Rule", "same", "(LMorphWords$Rule;)Z"⟩
abbrev b_RU_total : ByteArray := prog_9_method_5_code
def y_RU_total : MethodName := ⟨"MorphWords$Rule", "total", "()I"⟩
abbrev b_RU_addImage : ByteArray := prog_9_method_6_code
def y_RU_addImage : MethodName := ⟨"MorphWords$Rule", "addImage", "(LMorphWords$Letters;LMorphWords$Letters;)Z"⟩
abbrev b_RU_becomeSquareOf : ByteArray := prog_9_method_7_code
def y_RU_becomeSquareOf : MethodName := ⟨"MorphWords$Rule", "becomeSquareOf", "(LMorphWords$Rule;)Z"⟩
abbrev b_RU_commonEnd : ByteArray := prog_9_method_8_code
def y_RU_commonEnd : MethodName := ⟨"MorphWords$Rule", "commonEnd", "(Z)I"⟩
abbrev b_RU_endOf : ByteArray := prog_9_method_9_code
def y_RU_endOf : MethodName := ⟨"MorphWords$Rule", "endOf", "(IZ)I"⟩
abbrev b_RU_rotate : ByteArray := prog_9_method_10_code
def y_RU_rotate : MethodName := ⟨"MorphWords$Rule", "rotate", "(Z)V"⟩
abbrev b_RU_exchange : ByteArray := prog_9_method_11_code
def y_RU_exchange : MethodName := ⟨"MorphWords$Rule", "exchange", "(II)V"⟩
abbrev b_RU_ledToFrom : ByteArray := prog_9_method_12_code
def y_RU_ledToFrom : MethodName := ⟨"MorphWords$Rule", "ledToFrom", "(I)I"⟩
abbrev b_RU_reachedFrom : ByteArray := prog_9_method_13_code
def y_RU_reachedFrom : MethodName := ⟨"MorphWords$Rule", "reachedFrom", "(I)I"⟩
abbrev b_RU_mixesBy : ByteArray := prog_9_method_14_code
def y_RU_mixesBy : MethodName := ⟨"MorphWords$Rule", "mixesBy", "(I)Z"⟩
abbrev b_RU_lettersBehind : ByteArray := prog_9_method_15_code
def y_RU_lettersBehind : MethodName := ⟨"MorphWords$Rule", "lettersBehind", "(II)I"⟩
abbrev b_ST_init : ByteArray := prog_10_method_1_code
def y_ST_init : MethodName := ⟨"MorphWords$State", "<init>", "()V"⟩
abbrev b_ST_hasPiece : ByteArray := prog_10_method_2_code
def y_ST_hasPiece : MethodName := ⟨"MorphWords$State", "hasPiece", "()Z"⟩
abbrev b_ST_become : ByteArray := prog_10_method_3_code
def y_ST_become : MethodName := ⟨"MorphWords$State", "become", "(LMorphWords$State;)V"⟩
abbrev b_TX_init : ByteArray := prog_11_method_1_code
def y_TX_init : MethodName := ⟨"MorphWords$Text", "<init>", "()V"⟩
abbrev b_TX_length : ByteArray := prog_11_method_2_code
def y_TX_length : MethodName := ⟨"MorphWords$Text", "length", "()I"⟩
abbrev b_TX_clear : ByteArray := prog_11_method_3_code
def y_TX_clear : MethodName := ⟨"MorphWords$Text", "clear", "()V"⟩
abbrev b_TX_add : ByteArray := prog_11_method_4_code
def y_TX_add : MethodName := ⟨"MorphWords$Text", "add", "(C)Z"⟩
abbrev b_TX_hasAt : ByteArray := prog_11_method_5_code
def y_TX_hasAt : MethodName := ⟨"MorphWords$Text", "hasAt", "(IC)Z"⟩
abbrev b_TX_letterAt : ByteArray := prog_11_method_6_code
def y_TX_letterAt : MethodName := ⟨"MorphWords$Text", "letterAt", "(I)I"⟩
abbrev b_TX_parts : ByteArray := prog_11_method_7_code
def y_TX_parts : MethodName := ⟨"MorphWords$Text", "parts", "()I"⟩
abbrev b_TX_readInto : ByteArray := prog_11_method_8_code
def y_TX_readInto : MethodName := ⟨"MorphWords$Text", "readInto", "(LMorphWords$Rule;)I"⟩
abbrev b_TX_readInto2 : ByteArray := prog_11_method_9_code
def y_TX_readInto2 : MethodName := ⟨"MorphWords$Text", "readInto", "(LMorphWords$Letters;)I"⟩
abbrev b_MW_init : ByteArray := prog_1_method_1_code
def y_MW_init : MethodName := ⟨"MorphWords", "<init>", "()V"⟩
abbrev b_MW_readRule : ByteArray := prog_1_method_2_code
def y_MW_readRule : MethodName := ⟨"MorphWords", "readRule", "()I"⟩
abbrev b_MW_square : ByteArray := prog_1_method_3_code
def y_MW_square : MethodName := ⟨"MorphWords", "square", "()I"⟩
abbrev b_MW_shift : ByteArray := prog_1_method_4_code
def y_MW_shift : MethodName := ⟨"MorphWords", "shift", "(Z)I"⟩
abbrev b_MW_swap : ByteArray := prog_1_method_5_code
def y_MW_swap : MethodName := ⟨"MorphWords", "swap", "(II)I"⟩
abbrev b_MW_start : ByteArray := prog_1_method_6_code
def y_MW_start : MethodName := ⟨"MorphWords", "start", "(I)I"⟩
abbrev b_MW_grow : ByteArray := prog_1_method_7_code
def y_MW_grow : MethodName := ⟨"MorphWords", "grow", "(I)I"⟩
abbrev b_MW_cut : ByteArray := prog_1_method_8_code
def y_MW_cut : MethodName := ⟨"MorphWords", "cut", "(I)I"⟩
abbrev b_MW_derive : ByteArray := prog_1_method_9_code
def y_MW_derive : MethodName := ⟨"MorphWords", "derive", "()I"⟩
abbrev b_MW_look : ByteArray := prog_1_method_10_code
def y_MW_look : MethodName := ⟨"MorphWords", "look", "()I"⟩
abbrev b_MW_type : ByteArray := prog_1_method_11_code
def y_MW_type : MethodName := ⟨"MorphWords", "type", "(C)I"⟩
abbrev b_MW_clearText : ByteArray := prog_1_method_12_code
def y_MW_clearText : MethodName := ⟨"MorphWords", "clearText", "()I"⟩
abbrev b_MW_undo : ByteArray := prog_1_method_13_code
def y_MW_undo : MethodName := ⟨"MorphWords", "undo", "()I"⟩
abbrev b_MW_keep : ByteArray := prog_1_method_14_code
def y_MW_keep : MethodName := ⟨"MorphWords", "keep", "()I"⟩
abbrev b_MW_restore : ByteArray := prog_1_method_15_code
def y_MW_restore : MethodName := ⟨"MorphWords", "restore", "()I"⟩
abbrev b_MW_image : ByteArray := prog_1_method_16_code
def y_MW_image : MethodName := ⟨"MorphWords", "image", "(II)I"⟩
abbrev b_MW_rule : ByteArray := prog_1_method_17_code
def y_MW_rule : MethodName := ⟨"MorphWords", "rule", "(II)I"⟩
abbrev b_MW_lengthBehind : ByteArray := prog_1_method_18_code
def y_MW_lengthBehind : MethodName := ⟨"MorphWords", "lengthBehind", "(II)I"⟩
abbrev b_MW_countBehind : ByteArray := prog_1_method_19_code
def y_MW_countBehind : MethodName := ⟨"MorphWords", "countBehind", "(III)I"⟩
abbrev b_MW_mixing : ByteArray := prog_1_method_20_code
def y_MW_mixing : MethodName := ⟨"MorphWords", "mixing", "()I"⟩
abbrev b_MW_at : ByteArray := prog_1_method_21_code
def y_MW_at : MethodName := ⟨"MorphWords", "at", "(I)I"⟩
abbrev b_MW_pieces : ByteArray := prog_1_method_22_code
def y_MW_pieces : MethodName := ⟨"MorphWords", "pieces", "(II)I"⟩
abbrev b_MW_balance : ByteArray := prog_1_method_23_code
def y_MW_balance : MethodName := ⟨"MorphWords", "balance", "(II)I"⟩
abbrev b_MW_share : ByteArray := prog_1_method_24_code
def y_MW_share : MethodName := ⟨"MorphWords", "share", "(II)I"⟩
abbrev b_MW_run : ByteArray := prog_1_method_25_code
def y_MW_run : MethodName := ⟨"MorphWords", "run", "(I)I"⟩
abbrev b_MW_mirrored : ByteArray := prog_1_method_26_code
def y_MW_mirrored : MethodName := ⟨"MorphWords", "mirrored", "(I)I"⟩
abbrev b_MW_comes : ByteArray := prog_1_method_27_code
def y_MW_comes : MethodName := ⟨"MorphWords", "comes", "(I)I"⟩
abbrev b_MW_returns : ByteArray := prog_1_method_28_code
def y_MW_returns : MethodName := ⟨"MorphWords", "returns", "(II)I"⟩
abbrev b_MW_row : ByteArray := prog_1_method_29_code
def y_MW_row : MethodName := ⟨"MorphWords", "row", "(I)I"⟩
abbrev b_MW_count : ByteArray := prog_1_method_30_code
def y_MW_count : MethodName := ⟨"MorphWords", "count", "(I)I"⟩
abbrev b_MW_countReturns : ByteArray := prog_1_method_31_code
def y_MW_countReturns : MethodName := ⟨"MorphWords", "countReturns", "(Z)I"⟩
abbrev b_MW_takeNextRule : ByteArray := prog_1_method_32_code
def y_MW_takeNextRule : MethodName := ⟨"MorphWords", "takeNextRule", "()Z"⟩
abbrev b_MW_takeNextWord : ByteArray := prog_1_method_33_code
def y_MW_takeNextWord : MethodName := ⟨"MorphWords", "takeNextWord", "()Z"⟩
abbrev b_MW_isLetter : ByteArray := prog_1_method_34_code
def y_MW_isLetter : MethodName := ⟨"MorphWords", "isLetter", "(I)Z"⟩
abbrev b_MW_hasLetter : ByteArray := prog_1_method_35_code
def y_MW_hasLetter : MethodName := ⟨"MorphWords", "hasLetter", "(II)Z"⟩
abbrev b_MW_commonDivisor : ByteArray := prog_1_method_36_code
def y_MW_commonDivisor : MethodName := ⟨"MorphWords", "commonDivisor", "(II)I"⟩
abbrev b_MO_init : ByteArray := prog_13_method_1_code
def y_MO_init : MethodName := ⟨"MorphWordsModel", "<init>", "()V"⟩
abbrev b_MO_in : ByteArray := prog_13_method_2_code
def y_MO_in : MethodName := ⟨"MorphWordsModel", "in", "(III)Z"⟩
abbrev b_MO_no : ByteArray := prog_13_method_3_code
def y_MO_no : MethodName := ⟨"MorphWordsModel", "no", "(I)Z"⟩
abbrev b_MO_size : ByteArray := prog_13_method_4_code
def y_MO_size : MethodName := ⟨"MorphWordsModel", "size", "(I)I"⟩
abbrev b_MO_sign : ByteArray := prog_13_method_5_code
def y_MO_sign : MethodName := ⟨"MorphWordsModel", "sign", "(II)I"⟩
abbrev b_MO_length : ByteArray := prog_13_method_6_code
def y_MO_length : MethodName := ⟨"MorphWordsModel", "length", "()I"⟩
abbrev b_MO_word : ByteArray := prog_13_method_7_code
def y_MO_word : MethodName := ⟨"MorphWordsModel", "word", "(I)I"⟩
abbrev b_MO_record : ByteArray := prog_13_method_8_code
def y_MO_record : MethodName := ⟨"MorphWordsModel", "record", "()V"⟩
abbrev b_MO_isSameRule : ByteArray := prog_13_method_9_code
def y_MO_isSameRule : MethodName := ⟨"MorphWordsModel", "isSameRule", "()Z"⟩
abbrev b_MO_laysRule : ByteArray := prog_13_method_10_code
def y_MO_laysRule : MethodName := ⟨"MorphWordsModel", "laysRule", "()V"⟩
abbrev b_MO_isSameWord : ByteArray := prog_13_method_11_code
def y_MO_isSameWord : MethodName := ⟨"MorphWordsModel", "isSameWord", "()Z"⟩
abbrev b_MO_laysWord : ByteArray := prog_13_method_12_code
def y_MO_laysWord : MethodName := ⟨"MorphWordsModel", "laysWord", "()V"⟩
abbrev b_MO_takesRule : ByteArray := prog_13_method_13_code
def y_MO_takesRule : MethodName := ⟨"MorphWordsModel", "takesRule", "()V"⟩
abbrev b_MO_allSizes : ByteArray := prog_13_method_14_code
def y_MO_allSizes : MethodName := ⟨"MorphWordsModel", "allSizes", "()I"⟩
abbrev b_MO_readRule : ByteArray := prog_13_method_15_code
def y_MO_readRule : MethodName := ⟨"MorphWordsModel", "readRule", "()I"⟩
abbrev b_MO_square : ByteArray := prog_13_method_16_code
def y_MO_square : MethodName := ⟨"MorphWordsModel", "square", "()I"⟩
abbrev b_MO_shift : ByteArray := prog_13_method_17_code
def y_MO_shift : MethodName := ⟨"MorphWordsModel", "shift", "(Z)I"⟩
abbrev b_MO_swapped : ByteArray := prog_13_method_18_code
def y_MO_swapped : MethodName := ⟨"MorphWordsModel", "swapped", "(III)I"⟩
abbrev b_MO_swap : ByteArray := prog_13_method_19_code
def y_MO_swap : MethodName := ⟨"MorphWordsModel", "swap", "(II)I"⟩
abbrev b_MO_takesWord : ByteArray := prog_13_method_20_code
def y_MO_takesWord : MethodName := ⟨"MorphWordsModel", "takesWord", "()V"⟩
abbrev b_MO_start : ByteArray := prog_13_method_21_code
def y_MO_start : MethodName := ⟨"MorphWordsModel", "start", "(I)I"⟩
abbrev b_MO_grows : ByteArray := prog_13_method_22_code
def y_MO_grows : MethodName := ⟨"MorphWordsModel", "grows", "()V"⟩
abbrev b_MO_grow : ByteArray := prog_13_method_23_code
def y_MO_grow : MethodName := ⟨"MorphWordsModel", "grow", "(I)I"⟩
abbrev b_MO_cut : ByteArray := prog_13_method_24_code
def y_MO_cut : MethodName := ⟨"MorphWordsModel", "cut", "(I)I"⟩
abbrev b_MO_derive : ByteArray := prog_13_method_25_code
def y_MO_derive : MethodName := ⟨"MorphWordsModel", "derive", "()I"⟩
abbrev b_MO_comesAt : ByteArray := prog_13_method_26_code
def y_MO_comesAt : MethodName := ⟨"MorphWordsModel", "comesAt", "(I)Z"⟩
abbrev b_MO_gap : ByteArray := prog_13_method_27_code
def y_MO_gap : MethodName := ⟨"MorphWordsModel", "gap", "(I)I"⟩
abbrev b_MO_areSame : ByteArray := prog_13_method_28_code
def y_MO_areSame : MethodName := ⟨"MorphWordsModel", "areSame", "(II)Z"⟩
abbrev b_MO_finds : ByteArray := prog_13_method_29_code
def y_MO_finds : MethodName := ⟨"MorphWordsModel", "finds", "()I"⟩
abbrev b_MO_look : ByteArray := prog_13_method_30_code
def y_MO_look : MethodName := ⟨"MorphWordsModel", "look", "()I"⟩
abbrev b_MO_type : ByteArray := prog_13_method_31_code
def y_MO_type : MethodName := ⟨"MorphWordsModel", "type", "(C)I"⟩
abbrev b_MO_clearText : ByteArray := prog_13_method_32_code
def y_MO_clearText : MethodName := ⟨"MorphWordsModel", "clearText", "()I"⟩
abbrev b_MO_isLetter : ByteArray := prog_13_method_33_code
def y_MO_isLetter : MethodName := ⟨"MorphWordsModel", "isLetter", "()Z"⟩
abbrev b_MO_partsOfText : ByteArray := prog_13_method_34_code
def y_MO_partsOfText : MethodName := ⟨"MorphWordsModel", "partsOfText", "()I"⟩
abbrev b_MO_pieceOfText : ByteArray := prog_13_method_35_code
def y_MO_pieceOfText : MethodName := ⟨"MorphWordsModel", "pieceOfText", "()I"⟩
abbrev b_MO_undo : ByteArray := prog_13_method_36_code
def y_MO_undo : MethodName := ⟨"MorphWordsModel", "undo", "()I"⟩
abbrev b_MO_keep : ByteArray := prog_13_method_37_code
def y_MO_keep : MethodName := ⟨"MorphWordsModel", "keep", "()I"⟩
abbrev b_MO_restore : ByteArray := prog_13_method_38_code
def y_MO_restore : MethodName := ⟨"MorphWordsModel", "restore", "()I"⟩
abbrev b_MO_image : ByteArray := prog_13_method_39_code
def y_MO_image : MethodName := ⟨"MorphWordsModel", "image", "(II)I"⟩
abbrev b_MO_lettersIn : ByteArray := prog_13_method_40_code
def y_MO_lettersIn : MethodName := ⟨"MorphWordsModel", "lettersIn", "(I)I"⟩
abbrev b_MO_ahead : ByteArray := prog_13_method_41_code
def y_MO_ahead : MethodName := ⟨"MorphWordsModel", "ahead", "(I)I"⟩
abbrev b_MO_reached : ByteArray := prog_13_method_42_code
def y_MO_reached : MethodName := ⟨"MorphWordsModel", "reached", "(I)I"⟩
abbrev b_MO_rule : ByteArray := prog_13_method_43_code
def y_MO_rule : MethodName := ⟨"MorphWordsModel", "rule", "(II)I"⟩
abbrev b_MO_sum : ByteArray := prog_13_method_44_code
def y_MO_sum : MethodName := ⟨"MorphWordsModel", "sum", "(I)I"⟩
abbrev b_MO_images : ByteArray := prog_13_method_45_code
def y_MO_images : MethodName := ⟨"MorphWordsModel", "images", "(I)V"⟩
abbrev b_MO_lengthBehind : ByteArray := prog_13_method_46_code
def y_MO_lengthBehind : MethodName := ⟨"MorphWordsModel", "lengthBehind", "(II)I"⟩
abbrev b_MO_countBehind : ByteArray := prog_13_method_47_code
def y_MO_countBehind : MethodName := ⟨"MorphWordsModel", "countBehind", "(III)I"⟩
abbrev b_MO_mixing : ByteArray := prog_13_method_48_code
def y_MO_mixing : MethodName := ⟨"MorphWordsModel", "mixing", "()I"⟩
abbrev b_MO_at : ByteArray := prog_13_method_49_code
def y_MO_at : MethodName := ⟨"MorphWordsModel", "at", "(I)I"⟩
abbrev b_MO_isSamePiece : ByteArray := prog_13_method_50_code
def y_MO_isSamePiece : MethodName := ⟨"MorphWordsModel", "isSamePiece", "(III)Z"⟩
abbrev b_MO_isMirrored : ByteArray := prog_13_method_51_code
def y_MO_isMirrored : MethodName := ⟨"MorphWordsModel", "isMirrored", "(II)Z"⟩
abbrev b_MO_around : ByteArray := prog_13_method_52_code
def y_MO_around : MethodName := ⟨"MorphWordsModel", "around", "(IIZ)I"⟩
abbrev b_MO_isMany : ByteArray := prog_13_method_53_code
def y_MO_isMany : MethodName := ⟨"MorphWordsModel", "isMany", "(I)Z"⟩
abbrev b_MO_pieces : ByteArray := prog_13_method_54_code
def y_MO_pieces : MethodName := ⟨"MorphWordsModel", "pieces", "(II)I"⟩
abbrev b_MO_times : ByteArray := prog_13_method_55_code
def y_MO_times : MethodName := ⟨"MorphWordsModel", "times", "(III)I"⟩
abbrev b_MO_balance : ByteArray := prog_13_method_56_code
def y_MO_balance : MethodName := ⟨"MorphWordsModel", "balance", "(II)I"⟩
abbrev b_MO_divisor : ByteArray := prog_13_method_57_code
def y_MO_divisor : MethodName := ⟨"MorphWordsModel", "divisor", "(II)I"⟩
abbrev b_MO_share : ByteArray := prog_13_method_58_code
def y_MO_share : MethodName := ⟨"MorphWordsModel", "share", "(II)I"⟩
abbrev b_MO_run : ByteArray := prog_13_method_59_code
def y_MO_run : MethodName := ⟨"MorphWordsModel", "run", "(I)I"⟩
abbrev b_MO_mirrored : ByteArray := prog_13_method_60_code
def y_MO_mirrored : MethodName := ⟨"MorphWordsModel", "mirrored", "(I)I"⟩
abbrev b_MO_comes : ByteArray := prog_13_method_61_code
def y_MO_comes : MethodName := ⟨"MorphWordsModel", "comes", "(I)I"⟩
abbrev b_MO_returns : ByteArray := prog_13_method_62_code
def y_MO_returns : MethodName := ⟨"MorphWordsModel", "returns", "(II)I"⟩
abbrev b_MO_row : ByteArray := prog_13_method_63_code
def y_MO_row : MethodName := ⟨"MorphWordsModel", "row", "(I)I"⟩
abbrev b_MO_lettersOfWord : ByteArray := prog_13_method_64_code
def y_MO_lettersOfWord : MethodName := ⟨"MorphWordsModel", "lettersOfWord", "()I"⟩
abbrev b_MO_count : ByteArray := prog_13_method_65_code
def y_MO_count : MethodName := ⟨"MorphWordsModel", "count", "(I)I"⟩
theorem g_0 : Cond.selects "MorphWords$Text" ⟨"MorphWords$Text", "letterAt", "(I)I"⟩ ⟨"MorphWords$Text", "letterAt", "(I)I"⟩ ∈ gtbl := List.mem_of_getElem? (i := 0) (by decide +kernel)
theorem g_1 : Cond.selects "MorphWords$Text" ⟨"MorphWords$Text", "hasAt", "(IC)Z"⟩ ⟨"MorphWords$Text", "hasAt", "(IC)Z"⟩ ∈ gtbl := List.mem_of_getElem? (i := 1) (by decide +kernel)
theorem g_2 : Cond.selects "MorphWords" ⟨"MorphWords", "takeNextRule", "()Z"⟩ ⟨"MorphWords", "takeNextRule", "()Z"⟩ ∈ gtbl := List.mem_of_getElem? (i := 2) (by decide +kernel)
theorem g_3 : Cond.selects "MorphWords$History" ⟨"MorphWords$History", "dropOldest", "()V"⟩ ⟨"MorphWords$History", "dropOldest", "()V"⟩ ∈ gtbl := List.mem_of_getElem? (i := 3) (by decide +kernel)
theorem g_4 : Cond.selects "MorphWords$Rule" ⟨"MorphWords$Rule", "endOf", "(IZ)I"⟩ ⟨"MorphWords$Rule", "endOf", "(IZ)I"⟩ ∈ gtbl := List.mem_of_getElem? (i := 4) (by decide +kernel)
theorem g_5 : Cond.selects "MorphWords" ⟨"MorphWords", "takeNextWord", "()Z"⟩ ⟨"MorphWords", "takeNextWord", "()Z"⟩ ∈ gtbl := List.mem_of_getElem? (i := 5) (by decide +kernel)
theorem g_6 : Cond.selects "MorphWords$ReturnTable" ⟨"MorphWords$ReturnTable", "addReturn", "(LMorphWords$Letters;I)V"⟩ ⟨"MorphWords$ReturnTable", "addReturn", "(LMorphWords$Letters;I)V"⟩ ∈ gtbl := List.mem_of_getElem? (i := 6) (by decide +kernel)
theorem g_7 : Cond.selects "MorphWords$ReturnTable" ⟨"MorphWords$ReturnTable", "isSameReturn", "(LMorphWords$Letters;II)Z"⟩ ⟨"MorphWords$ReturnTable", "isSameReturn", "(LMorphWords$Letters;II)Z"⟩ ∈ gtbl := List.mem_of_getElem? (i := 7) (by decide +kernel)
theorem g_8 : Cond.selects "MorphWords$ReturnTable" ⟨"MorphWords$ReturnTable", "spanOf", "(I)I"⟩ ⟨"MorphWords$ReturnTable", "spanOf", "(I)I"⟩ ∈ gtbl := List.mem_of_getElem? (i := 8) (by decide +kernel)
theorem g_9 : Cond.selects "MorphWords$Rule" ⟨"MorphWords$Rule", "ledToFrom", "(I)I"⟩ ⟨"MorphWords$Rule", "ledToFrom", "(I)I"⟩ ∈ gtbl := List.mem_of_getElem? (i := 9) (by decide +kernel)
theorem g_10 : Cond.selects "MorphWords$Powers" ⟨"MorphWords$Powers", "goOn", "(LMorphWords$Rule;)V"⟩ ⟨"MorphWords$Powers", "goOn", "(LMorphWords$Rule;)V"⟩ ∈ gtbl := List.mem_of_getElem? (i := 10) (by decide +kernel)
theorem g_11 : Cond.selects "MorphWords$Rule" ⟨"MorphWords$Rule", "lettersBehind", "(II)I"⟩ ⟨"MorphWords$Rule", "lettersBehind", "(II)I"⟩ ∈ gtbl := List.mem_of_getElem? (i := 11) (by decide +kernel)
theorem g_12 : Cond.selects "MorphWords$PieceTable" ⟨"MorphWords$PieceTable", "fill", "(LMorphWords$Letters;I)V"⟩ ⟨"MorphWords$PieceTable", "fill", "(LMorphWords$Letters;I)V"⟩ ∈ gtbl := List.mem_of_getElem? (i := 12) (by decide +kernel)
theorem g_13 : Cond.selects "MorphWords$PieceTable" ⟨"MorphWords$PieceTable", "isFirst", "(I)Z"⟩ ⟨"MorphWords$PieceTable", "isFirst", "(I)Z"⟩ ∈ gtbl := List.mem_of_getElem? (i := 13) (by decide +kernel)
theorem g_14 : Cond.selects "MorphWords$PieceTable" ⟨"MorphWords$PieceTable", "isCounted", "(LMorphWords$Letters;III)Z"⟩ ⟨"MorphWords$PieceTable", "isCounted", "(LMorphWords$Letters;III)Z"⟩ ∈ gtbl := List.mem_of_getElem? (i := 14) (by decide +kernel)
theorem g_15 : Cond.selects "MorphWords$PieceTable" ⟨"MorphWords$PieceTable", "neighbours", "(LMorphWords$Letters;II)I"⟩ ⟨"MorphWords$PieceTable", "neighbours", "(LMorphWords$Letters;II)I"⟩ ∈ gtbl := List.mem_of_getElem? (i := 15) (by decide +kernel)
theorem g_16 : Cond.selects "MorphWords$GreatestRun" ⟨"MorphWords$GreatestRun", "findWithPeriod", "(LMorphWords$Letters;I)V"⟩ ⟨"MorphWords$GreatestRun", "findWithPeriod", "(LMorphWords$Letters;I)V"⟩ ∈ gtbl := List.mem_of_getElem? (i := 16) (by decide +kernel)
theorem g_17 : Cond.selects "MorphWords$LongestMirror" ⟨"MorphWords$LongestMirror", "findAround", "(LMorphWords$Letters;II)V"⟩ ⟨"MorphWords$LongestMirror", "findAround", "(LMorphWords$Letters;II)V"⟩ ∈ gtbl := List.mem_of_getElem? (i := 17) (by decide +kernel)
theorem g_18 : Cond.selects "MorphWords$ReturnTable" ⟨"MorphWords$ReturnTable", "isReturn", "(I)Z"⟩ ⟨"MorphWords$ReturnTable", "isReturn", "(I)Z"⟩ ∈ gtbl := List.mem_of_getElem? (i := 18) (by decide +kernel)
theorem g_19 : Cond.selects "MorphWords" ⟨"MorphWords", "countReturns", "(Z)I"⟩ ⟨"MorphWords", "countReturns", "(Z)I"⟩ ∈ gtbl := List.mem_of_getElem? (i := 19) (by decide +kernel)
theorem g_20 : Cond.selects "MorphWordsModel" ⟨"MorphWordsModel", "takesRule", "()V"⟩ ⟨"MorphWordsModel", "takesRule", "()V"⟩ ∈ gtbl := List.mem_of_getElem? (i := 20) (by decide +kernel)
theorem g_21 : Cond.selects "MorphWordsModel" ⟨"MorphWordsModel", "partsOfText", "()I"⟩ ⟨"MorphWordsModel", "partsOfText", "()I"⟩ ∈ gtbl := List.mem_of_getElem? (i := 21) (by decide +kernel)
theorem g_22 : Cond.selects "MorphWordsModel" ⟨"MorphWordsModel", "isLetter", "()Z"⟩ ⟨"MorphWordsModel", "isLetter", "()Z"⟩ ∈ gtbl := List.mem_of_getElem? (i := 22) (by decide +kernel)
theorem g_23 : Cond.selects "MorphWordsModel" ⟨"MorphWordsModel", "isSameRule", "()Z"⟩ ⟨"MorphWordsModel", "isSameRule", "()Z"⟩ ∈ gtbl := List.mem_of_getElem? (i := 23) (by decide +kernel)
theorem g_24 : Cond.selects "MorphWordsModel" ⟨"MorphWordsModel", "size", "(I)I"⟩ ⟨"MorphWordsModel", "size", "(I)I"⟩ ∈ gtbl := List.mem_of_getElem? (i := 24) (by decide +kernel)
theorem g_25 : Cond.selects "MorphWordsModel" ⟨"MorphWordsModel", "sign", "(II)I"⟩ ⟨"MorphWordsModel", "sign", "(II)I"⟩ ∈ gtbl := List.mem_of_getElem? (i := 25) (by decide +kernel)
theorem g_26 : Cond.selects "MorphWordsModel" ⟨"MorphWordsModel", "record", "()V"⟩ ⟨"MorphWordsModel", "record", "()V"⟩ ∈ gtbl := List.mem_of_getElem? (i := 26) (by decide +kernel)
theorem g_27 : Cond.selects "MorphWordsModel" ⟨"MorphWordsModel", "laysRule", "()V"⟩ ⟨"MorphWordsModel", "laysRule", "()V"⟩ ∈ gtbl := List.mem_of_getElem? (i := 27) (by decide +kernel)
theorem g_28 : Cond.selects "MorphWordsModel" ⟨"MorphWordsModel", "allSizes", "()I"⟩ ⟨"MorphWordsModel", "allSizes", "()I"⟩ ∈ gtbl := List.mem_of_getElem? (i := 28) (by decide +kernel)
theorem g_29 : Cond.selects "MorphWordsModel" ⟨"MorphWordsModel", "length", "()I"⟩ ⟨"MorphWordsModel", "length", "()I"⟩ ∈ gtbl := List.mem_of_getElem? (i := 29) (by decide +kernel)
theorem g_30 : Cond.selects "MorphWordsModel" ⟨"MorphWordsModel", "word", "(I)I"⟩ ⟨"MorphWordsModel", "word", "(I)I"⟩ ∈ gtbl := List.mem_of_getElem? (i := 30) (by decide +kernel)
theorem g_31 : Cond.selects "MorphWordsModel" ⟨"MorphWordsModel", "takesWord", "()V"⟩ ⟨"MorphWordsModel", "takesWord", "()V"⟩ ∈ gtbl := List.mem_of_getElem? (i := 31) (by decide +kernel)
theorem g_32 : Cond.selects "MorphWordsModel" ⟨"MorphWordsModel", "grows", "()V"⟩ ⟨"MorphWordsModel", "grows", "()V"⟩ ∈ gtbl := List.mem_of_getElem? (i := 32) (by decide +kernel)
theorem g_33 : Cond.selects "MorphWordsModel" ⟨"MorphWordsModel", "isSameWord", "()Z"⟩ ⟨"MorphWordsModel", "isSameWord", "()Z"⟩ ∈ gtbl := List.mem_of_getElem? (i := 33) (by decide +kernel)
theorem g_34 : Cond.selects "MorphWordsModel" ⟨"MorphWordsModel", "laysWord", "()V"⟩ ⟨"MorphWordsModel", "laysWord", "()V"⟩ ∈ gtbl := List.mem_of_getElem? (i := 34) (by decide +kernel)
theorem g_35 : Cond.selects "MorphWordsModel" ⟨"MorphWordsModel", "finds", "()I"⟩ ⟨"MorphWordsModel", "finds", "()I"⟩ ∈ gtbl := List.mem_of_getElem? (i := 35) (by decide +kernel)
theorem g_36 : Cond.selects "MorphWordsModel" ⟨"MorphWordsModel", "comesAt", "(I)Z"⟩ ⟨"MorphWordsModel", "comesAt", "(I)Z"⟩ ∈ gtbl := List.mem_of_getElem? (i := 36) (by decide +kernel)
theorem g_37 : Cond.selects "MorphWordsModel" ⟨"MorphWordsModel", "areSame", "(II)Z"⟩ ⟨"MorphWordsModel", "areSame", "(II)Z"⟩ ∈ gtbl := List.mem_of_getElem? (i := 37) (by decide +kernel)
theorem g_38 : Cond.selects "MorphWordsModel" ⟨"MorphWordsModel", "gap", "(I)I"⟩ ⟨"MorphWordsModel", "gap", "(I)I"⟩ ∈ gtbl := List.mem_of_getElem? (i := 38) (by decide +kernel)
theorem g_39 : Cond.selects "MorphWordsModel" ⟨"MorphWordsModel", "pieceOfText", "()I"⟩ ⟨"MorphWordsModel", "pieceOfText", "()I"⟩ ∈ gtbl := List.mem_of_getElem? (i := 39) (by decide +kernel)
theorem g_40 : Cond.selects "MorphWordsModel" ⟨"MorphWordsModel", "lettersIn", "(I)I"⟩ ⟨"MorphWordsModel", "lettersIn", "(I)I"⟩ ∈ gtbl := List.mem_of_getElem? (i := 40) (by decide +kernel)
theorem g_41 : Cond.selects "MorphWordsModel" ⟨"MorphWordsModel", "reached", "(I)I"⟩ ⟨"MorphWordsModel", "reached", "(I)I"⟩ ∈ gtbl := List.mem_of_getElem? (i := 41) (by decide +kernel)
theorem g_42 : Cond.selects "MorphWordsModel" ⟨"MorphWordsModel", "ahead", "(I)I"⟩ ⟨"MorphWordsModel", "ahead", "(I)I"⟩ ∈ gtbl := List.mem_of_getElem? (i := 42) (by decide +kernel)
theorem g_43 : Cond.selects "MorphWordsModel" ⟨"MorphWordsModel", "images", "(I)V"⟩ ⟨"MorphWordsModel", "images", "(I)V"⟩ ∈ gtbl := List.mem_of_getElem? (i := 43) (by decide +kernel)
theorem g_44 : Cond.selects "MorphWordsModel" ⟨"MorphWordsModel", "sum", "(I)I"⟩ ⟨"MorphWordsModel", "sum", "(I)I"⟩ ∈ gtbl := List.mem_of_getElem? (i := 44) (by decide +kernel)
theorem g_45 : Cond.selects "MorphWordsModel" ⟨"MorphWordsModel", "isSamePiece", "(III)Z"⟩ ⟨"MorphWordsModel", "isSamePiece", "(III)Z"⟩ ∈ gtbl := List.mem_of_getElem? (i := 45) (by decide +kernel)
theorem g_46 : Cond.selects "MorphWordsModel" ⟨"MorphWordsModel", "isMirrored", "(II)Z"⟩ ⟨"MorphWordsModel", "isMirrored", "(II)Z"⟩ ∈ gtbl := List.mem_of_getElem? (i := 46) (by decide +kernel)
theorem g_47 : Cond.selects "MorphWordsModel" ⟨"MorphWordsModel", "around", "(IIZ)I"⟩ ⟨"MorphWordsModel", "around", "(IIZ)I"⟩ ∈ gtbl := List.mem_of_getElem? (i := 47) (by decide +kernel)
theorem g_48 : Cond.selects "MorphWordsModel" ⟨"MorphWordsModel", "times", "(III)I"⟩ ⟨"MorphWordsModel", "times", "(III)I"⟩ ∈ gtbl := List.mem_of_getElem? (i := 48) (by decide +kernel)
theorem g_49 : Cond.selects "MorphWordsModel" ⟨"MorphWordsModel", "lettersOfWord", "()I"⟩ ⟨"MorphWordsModel", "lettersOfWord", "()I"⟩ ∈ gtbl := List.mem_of_getElem? (i := 49) (by decide +kernel)
theorem g_50 : Cond.initialized "MorphWordsLaw" ∈ gtbl := List.mem_of_getElem? (i := 50) (by decide +kernel)
theorem g_51 : Cond.initialized "MorphWords" ∈ gtbl := List.mem_of_getElem? (i := 51) (by decide +kernel)
theorem g_52 : Cond.initialized "MorphWords$State" ∈ gtbl := List.mem_of_getElem? (i := 52) (by decide +kernel)
theorem g_53 : Cond.initialized "MorphWords$Rule" ∈ gtbl := List.mem_of_getElem? (i := 53) (by decide +kernel)
theorem g_54 : Cond.initialized "MorphWords$Letters" ∈ gtbl := List.mem_of_getElem? (i := 54) (by decide +kernel)
theorem g_55 : Cond.initialized "java/lang/Math" ∈ gtbl := List.mem_of_getElem? (i := 55) (by decide +kernel)
theorem g_56 : Cond.initialized "MorphWords$History" ∈ gtbl := List.mem_of_getElem? (i := 56) (by decide +kernel)
theorem g_57 : Cond.initialized "MorphWords$Text" ∈ gtbl := List.mem_of_getElem? (i := 57) (by decide +kernel)
theorem g_58 : Cond.initialized "MorphWords$Powers" ∈ gtbl := List.mem_of_getElem? (i := 58) (by decide +kernel)
theorem g_59 : Cond.initialized "MorphWords$PieceTable" ∈ gtbl := List.mem_of_getElem? (i := 59) (by decide +kernel)
theorem g_60 : Cond.initialized "MorphWords$GreatestRun" ∈ gtbl := List.mem_of_getElem? (i := 60) (by decide +kernel)
theorem g_61 : Cond.initialized "MorphWords$LongestMirror" ∈ gtbl := List.mem_of_getElem? (i := 61) (by decide +kernel)
theorem g_62 : Cond.initialized "MorphWords$ReturnTable" ∈ gtbl := List.mem_of_getElem? (i := 62) (by decide +kernel)
theorem g_63 : Cond.initialized "MorphWordsModel" ∈ gtbl := List.mem_of_getElem? (i := 63) (by decide +kernel)
theorem g_64 : Cond.initialized "java/lang/System" ∈ gtbl := List.mem_of_getElem? (i := 64) (by decide +kernel)
theorem g_65 : Cond.initialized "java/lang/Integer" ∈ gtbl := List.mem_of_getElem? (i := 65) (by decide +kernel)
theorem g_66 : Cond.classLink "MorphWordsLaw" (7 : Nat) "MorphWords" ∈ gtbl := List.mem_of_getElem? (i := 66) (by decide +kernel)
theorem g_67 : Cond.instantiable "MorphWords" (14 : Nat) ∈ gtbl := List.mem_of_getElem? (i := 67) (by decide +kernel)
theorem g_68 : Cond.methodLink "MorphWordsLaw" (9 : Nat) ⟨"MorphWords", "<init>", "()V"⟩ ∈ gtbl := List.mem_of_getElem? (i := 68) (by decide +kernel)
theorem g_69 : Cond.instanceMethod ⟨"MorphWords", "<init>", "()V"⟩ ∈ gtbl := List.mem_of_getElem? (i := 69) (by decide +kernel)
theorem g_70 : Cond.code ⟨"MorphWords", "<init>", "()V"⟩ prog_1_method_1_code (1 : Nat) (Option.none : Option FieldType) ∈ gtbl := List.mem_of_getElem? (i := 70) (by decide +kernel)
theorem g_71 : Cond.methodLink "MorphWords" (1 : Nat) ⟨"java/lang/Object", "<init>", "()V"⟩ ∈ gtbl := List.mem_of_getElem? (i := 71) (by decide +kernel)
theorem g_72 : Cond.instanceMethod ⟨"java/lang/Object", "<init>", "()V"⟩ ∈ gtbl := List.mem_of_getElem? (i := 72) (by decide +kernel)
theorem g_73 : Cond.code ⟨"java/lang/Object", "<init>", "()V"⟩ object_method_1_code (1 : Nat) (Option.none : Option FieldType) ∈ gtbl := List.mem_of_getElem? (i := 73) (by decide +kernel)
theorem g_74 : Cond.classLink "MorphWords" (7 : Nat) "MorphWords$State" ∈ gtbl := List.mem_of_getElem? (i := 74) (by decide +kernel)
theorem g_75 : Cond.instantiable "MorphWords$State" (3 : Nat) ∈ gtbl := List.mem_of_getElem? (i := 75) (by decide +kernel)
theorem g_76 : Cond.methodLink "MorphWords" (9 : Nat) ⟨"MorphWords$State", "<init>", "()V"⟩ ∈ gtbl := List.mem_of_getElem? (i := 76) (by decide +kernel)
theorem g_77 : Cond.instanceMethod ⟨"MorphWords$State", "<init>", "()V"⟩ ∈ gtbl := List.mem_of_getElem? (i := 77) (by decide +kernel)
theorem g_78 : Cond.code ⟨"MorphWords$State", "<init>", "()V"⟩ prog_10_method_1_code (1 : Nat) (Option.none : Option FieldType) ∈ gtbl := List.mem_of_getElem? (i := 78) (by decide +kernel)
theorem g_79 : Cond.methodLink "MorphWords$State" (3 : Nat) ⟨"java/lang/Object", "<init>", "()V"⟩ ∈ gtbl := List.mem_of_getElem? (i := 79) (by decide +kernel)
theorem g_80 : Cond.classLink "MorphWords$State" (9 : Nat) "MorphWords$Rule" ∈ gtbl := List.mem_of_getElem? (i := 80) (by decide +kernel)
theorem g_81 : Cond.instantiable "MorphWords$Rule" (2 : Nat) ∈ gtbl := List.mem_of_getElem? (i := 81) (by decide +kernel)
theorem g_82 : Cond.methodLink "MorphWords$State" (11 : Nat) ⟨"MorphWords$Rule", "<init>", "()V"⟩ ∈ gtbl := List.mem_of_getElem? (i := 82) (by decide +kernel)
theorem g_83 : Cond.instanceMethod ⟨"MorphWords$Rule", "<init>", "()V"⟩ ∈ gtbl := List.mem_of_getElem? (i := 83) (by decide +kernel)
theorem g_84 : Cond.code ⟨"MorphWords$Rule", "<init>", "()V"⟩ prog_9_method_1_code (3 : Nat) (Option.none : Option FieldType) ∈ gtbl := List.mem_of_getElem? (i := 84) (by decide +kernel)
theorem g_85 : Cond.methodLink "MorphWords$Rule" (3 : Nat) ⟨"java/lang/Object", "<init>", "()V"⟩ ∈ gtbl := List.mem_of_getElem? (i := 85) (by decide +kernel)
theorem g_86 : Cond.classLink "MorphWords$Rule" (9 : Nat) "MorphWords$Letters" ∈ gtbl := List.mem_of_getElem? (i := 86) (by decide +kernel)
theorem g_87 : Cond.instantiable "MorphWords$Letters" (2 : Nat) ∈ gtbl := List.mem_of_getElem? (i := 87) (by decide +kernel)
theorem g_88 : Cond.methodLink "MorphWords$Rule" (17 : Nat) ⟨"MorphWords$Letters", "<init>", "(I)V"⟩ ∈ gtbl := List.mem_of_getElem? (i := 88) (by decide +kernel)
theorem g_89 : Cond.instanceMethod ⟨"MorphWords$Letters", "<init>", "(I)V"⟩ ∈ gtbl := List.mem_of_getElem? (i := 89) (by decide +kernel)
theorem g_90 : Cond.code ⟨"MorphWords$Letters", "<init>", "(I)V"⟩ prog_4_method_1_code (2 : Nat) (Option.none : Option FieldType) ∈ gtbl := List.mem_of_getElem? (i := 90) (by decide +kernel)
theorem g_91 : Cond.methodLink "MorphWords$Letters" (3 : Nat) ⟨"java/lang/Object", "<init>", "()V"⟩ ∈ gtbl := List.mem_of_getElem? (i := 91) (by decide +kernel)
theorem g_92 : Cond.methodLink "MorphWords$Letters" (15 : Nat) ⟨"java/lang/Math", "max", "(II)I"⟩ ∈ gtbl := List.mem_of_getElem? (i := 92) (by decide +kernel)
theorem g_93 : Cond.static ⟨"java/lang/Math", "max", "(II)I"⟩ ∈ gtbl := List.mem_of_getElem? (i := 93) (by decide +kernel)
theorem g_94 : Cond.code ⟨"java/lang/Math", "max", "(II)I"⟩ prog_15_method_65_code (2 : Nat) (Option.some FieldType.int) ∈ gtbl := List.mem_of_getElem? (i := 94) (by decide +kernel)
theorem g_95 : Cond.fieldLink "MorphWords$Letters" (21 : Nat) "MorphWords$Letters" "numbers" "[I" ∈ gtbl := List.mem_of_getElem? (i := 95) (by decide +kernel)
theorem g_96 : Cond.fieldLink "MorphWords$Letters" (9 : Nat) "MorphWords$Letters" "length" "I" ∈ gtbl := List.mem_of_getElem? (i := 96) (by decide +kernel)
theorem g_102 : Cond.arrayClass FieldType.int ∈ gtbl := List.mem_of_getElem? (i := 102) (by decide +kernel)
theorem g_103 : Cond.methodLink "MorphWords$Rule" (24 : Nat) ⟨"MorphWords$Letters", "add", "(I)Z"⟩ ∈ gtbl := List.mem_of_getElem? (i := 103) (by decide +kernel)
theorem g_104 : Cond.instanceMethod ⟨"MorphWords$Letters", "add", "(I)Z"⟩ ∈ gtbl := List.mem_of_getElem? (i := 104) (by decide +kernel)
theorem g_105 : Cond.selects "MorphWords$Letters" ⟨"MorphWords$Letters", "add", "(I)Z"⟩ ⟨"MorphWords$Letters", "add", "(I)Z"⟩ ∈ gtbl := List.mem_of_getElem? (i := 105) (by decide +kernel)
theorem g_106 : Cond.code ⟨"MorphWords$Letters", "add", "(I)Z"⟩ prog_4_method_5_code (2 : Nat) (Option.some FieldType.boolean) ∈ gtbl := List.mem_of_getElem? (i := 106) (by decide +kernel)
theorem g_107 : Cond.static ⟨"MorphWords", "isLetter", "(I)Z"⟩ ∈ gtbl := List.mem_of_getElem? (i := 107) (by decide +kernel)
theorem g_108 : Cond.code ⟨"MorphWords", "isLetter", "(I)Z"⟩ prog_1_method_34_code (1 : Nat) (Option.some FieldType.boolean) ∈ gtbl := List.mem_of_getElem? (i := 108) (by decide +kernel)
theorem g_109 : Cond.fieldLink "MorphWords$Rule" (11 : Nat) "MorphWords$Rule" "images" "[LMorphWords$Letters;" ∈ gtbl := List.mem_of_getElem? (i := 109) (by decide +kernel)
theorem g_110 : Cond.fieldLink "MorphWords$Rule" (20 : Nat) "MorphWords$Rule" "nothing" "LMorphWords$Letters;" ∈ gtbl := List.mem_of_getElem? (i := 110) (by decide +kernel)
theorem g_116 : Cond.classLink "MorphWords$State" (18 : Nat) "MorphWords$Letters" ∈ gtbl := List.mem_of_getElem? (i := 116) (by decide +kernel)
theorem g_117 : Cond.methodLink "MorphWords$State" (20 : Nat) ⟨"MorphWords$Letters", "<init>", "(I)V"⟩ ∈ gtbl := List.mem_of_getElem? (i := 117) (by decide +kernel)
theorem g_118 : Cond.methodLink "MorphWords$State" (30 : Nat) ⟨"MorphWords$Letters", "add", "(I)Z"⟩ ∈ gtbl := List.mem_of_getElem? (i := 118) (by decide +kernel)
theorem g_119 : Cond.fieldLink "MorphWords$State" (12 : Nat) "MorphWords$State" "images" "LMorphWords$Rule;" ∈ gtbl := List.mem_of_getElem? (i := 119) (by decide +kernel)
theorem g_120 : Cond.fieldLink "MorphWords" (94 : Nat) "MorphWords$State" "images" "LMorphWords$Rule;" ∈ gtbl := List.mem_of_getElem? (i := 120) (by decide +kernel)
theorem g_121 : Cond.fieldLink "MorphWords$State" (23 : Nat) "MorphWords$State" "word" "LMorphWords$Letters;" ∈ gtbl := List.mem_of_getElem? (i := 121) (by decide +kernel)
theorem g_122 : Cond.fieldLink "MorphWords" (132 : Nat) "MorphWords$State" "word" "LMorphWords$Letters;" ∈ gtbl := List.mem_of_getElem? (i := 122) (by decide +kernel)
theorem g_123 : Cond.fieldLink "MorphWords$State" (27 : Nat) "MorphWords$State" "piece" "LMorphWords$Letters;" ∈ gtbl := List.mem_of_getElem? (i := 123) (by decide +kernel)
theorem g_124 : Cond.fieldLink "MorphWords" (170 : Nat) "MorphWords$State" "piece" "LMorphWords$Letters;" ∈ gtbl := List.mem_of_getElem? (i := 124) (by decide +kernel)
theorem g_132 : Cond.classLink "MorphWords" (23 : Nat) "MorphWords$History" ∈ gtbl := List.mem_of_getElem? (i := 132) (by decide +kernel)
theorem g_133 : Cond.instantiable "MorphWords$History" (2 : Nat) ∈ gtbl := List.mem_of_getElem? (i := 133) (by decide +kernel)
theorem g_134 : Cond.methodLink "MorphWords" (25 : Nat) ⟨"MorphWords$History", "<init>", "()V"⟩ ∈ gtbl := List.mem_of_getElem? (i := 134) (by decide +kernel)
theorem g_135 : Cond.instanceMethod ⟨"MorphWords$History", "<init>", "()V"⟩ ∈ gtbl := List.mem_of_getElem? (i := 135) (by decide +kernel)
theorem g_136 : Cond.code ⟨"MorphWords$History", "<init>", "()V"⟩ prog_3_method_1_code (2 : Nat) (Option.none : Option FieldType) ∈ gtbl := List.mem_of_getElem? (i := 136) (by decide +kernel)
theorem g_137 : Cond.methodLink "MorphWords$History" (3 : Nat) ⟨"java/lang/Object", "<init>", "()V"⟩ ∈ gtbl := List.mem_of_getElem? (i := 137) (by decide +kernel)
theorem g_138 : Cond.classLink "MorphWords$History" (9 : Nat) "MorphWords$State" ∈ gtbl := List.mem_of_getElem? (i := 138) (by decide +kernel)
theorem g_139 : Cond.methodLink "MorphWords$History" (21 : Nat) ⟨"MorphWords$State", "<init>", "()V"⟩ ∈ gtbl := List.mem_of_getElem? (i := 139) (by decide +kernel)
theorem g_140 : Cond.fieldLink "MorphWords$History" (11 : Nat) "MorphWords$History" "states" "[LMorphWords$State;" ∈ gtbl := List.mem_of_getElem? (i := 140) (by decide +kernel)
theorem g_141 : Cond.fieldLink "MorphWords$History" (17 : Nat) "MorphWords$History" "held" "I" ∈ gtbl := List.mem_of_getElem? (i := 141) (by decide +kernel)
theorem g_147 : Cond.classLink "MorphWords" (30 : Nat) "MorphWords$Text" ∈ gtbl := List.mem_of_getElem? (i := 147) (by decide +kernel)
theorem g_148 : Cond.instantiable "MorphWords$Text" (2 : Nat) ∈ gtbl := List.mem_of_getElem? (i := 148) (by decide +kernel)
theorem g_149 : Cond.instanceMethod ⟨"MorphWords$Text", "<init>", "()V"⟩ ∈ gtbl := List.mem_of_getElem? (i := 149) (by decide +kernel)
theorem g_150 : Cond.code ⟨"MorphWords$Text", "<init>", "()V"⟩ prog_11_method_1_code (1 : Nat) (Option.none : Option FieldType) ∈ gtbl := List.mem_of_getElem? (i := 150) (by decide +kernel)
theorem g_151 : Cond.methodLink "MorphWords$Text" (3 : Nat) ⟨"java/lang/Object", "<init>", "()V"⟩ ∈ gtbl := List.mem_of_getElem? (i := 151) (by decide +kernel)
theorem g_152 : Cond.fieldLink "MorphWords$Text" (9 : Nat) "MorphWords$Text" "characters" "[C" ∈ gtbl := List.mem_of_getElem? (i := 152) (by decide +kernel)
theorem g_153 : Cond.fieldLink "MorphWords$Text" (15 : Nat) "MorphWords$Text" "length" "I" ∈ gtbl := List.mem_of_getElem? (i := 153) (by decide +kernel)
theorem g_159 : Cond.arrayClass FieldType.char ∈ gtbl := List.mem_of_getElem? (i := 159) (by decide +kernel)
theorem g_160 : Cond.classLink "MorphWords" (37 : Nat) "MorphWords$Rule" ∈ gtbl := List.mem_of_getElem? (i := 160) (by decide +kernel)
theorem g_161 : Cond.methodLink "MorphWords" (39 : Nat) ⟨"MorphWords$Rule", "<init>", "()V"⟩ ∈ gtbl := List.mem_of_getElem? (i := 161) (by decide +kernel)
theorem g_162 : Cond.classLink "MorphWords" (44 : Nat) "MorphWords$Letters" ∈ gtbl := List.mem_of_getElem? (i := 162) (by decide +kernel)
theorem g_163 : Cond.methodLink "MorphWords" (46 : Nat) ⟨"MorphWords$Letters", "<init>", "(I)V"⟩ ∈ gtbl := List.mem_of_getElem? (i := 163) (by decide +kernel)
theorem g_164 : Cond.classLink "MorphWords" (59 : Nat) "MorphWords$Powers" ∈ gtbl := List.mem_of_getElem? (i := 164) (by decide +kernel)
theorem g_165 : Cond.instantiable "MorphWords$Powers" (2 : Nat) ∈ gtbl := List.mem_of_getElem? (i := 165) (by decide +kernel)
theorem g_166 : Cond.instanceMethod ⟨"MorphWords$Powers", "<init>", "()V"⟩ ∈ gtbl := List.mem_of_getElem? (i := 166) (by decide +kernel)
theorem g_167 : Cond.code ⟨"MorphWords$Powers", "<init>", "()V"⟩ prog_7_method_1_code (1 : Nat) (Option.none : Option FieldType) ∈ gtbl := List.mem_of_getElem? (i := 167) (by decide +kernel)
theorem g_168 : Cond.methodLink "MorphWords$Powers" (3 : Nat) ⟨"java/lang/Object", "<init>", "()V"⟩ ∈ gtbl := List.mem_of_getElem? (i := 168) (by decide +kernel)
theorem g_169 : Cond.fieldLink "MorphWords$Powers" (9 : Nat) "MorphWords$Powers" "times" "[I" ∈ gtbl := List.mem_of_getElem? (i := 169) (by decide +kernel)
theorem g_170 : Cond.fieldLink "MorphWords$Powers" (15 : Nat) "MorphWords$Powers" "timesThen" "[I" ∈ gtbl := List.mem_of_getElem? (i := 170) (by decide +kernel)
theorem g_176 : Cond.classLink "MorphWords" (66 : Nat) "MorphWords$PieceTable" ∈ gtbl := List.mem_of_getElem? (i := 176) (by decide +kernel)
theorem g_177 : Cond.instantiable "MorphWords$PieceTable" (2 : Nat) ∈ gtbl := List.mem_of_getElem? (i := 177) (by decide +kernel)
theorem g_178 : Cond.instanceMethod ⟨"MorphWords$PieceTable", "<init>", "()V"⟩ ∈ gtbl := List.mem_of_getElem? (i := 178) (by decide +kernel)
theorem g_179 : Cond.code ⟨"MorphWords$PieceTable", "<init>", "()V"⟩ prog_6_method_1_code (1 : Nat) (Option.none : Option FieldType) ∈ gtbl := List.mem_of_getElem? (i := 179) (by decide +kernel)
theorem g_180 : Cond.methodLink "MorphWords$PieceTable" (3 : Nat) ⟨"java/lang/Object", "<init>", "()V"⟩ ∈ gtbl := List.mem_of_getElem? (i := 180) (by decide +kernel)
theorem g_181 : Cond.fieldLink "MorphWords$PieceTable" (9 : Nat) "MorphWords$PieceTable" "codes" "[J" ∈ gtbl := List.mem_of_getElem? (i := 181) (by decide +kernel)
theorem g_182 : Cond.fieldLink "MorphWords$PieceTable" (15 : Nat) "MorphWords$PieceTable" "found" "I" ∈ gtbl := List.mem_of_getElem? (i := 182) (by decide +kernel)
theorem g_188 : Cond.arrayClass FieldType.long ∈ gtbl := List.mem_of_getElem? (i := 188) (by decide +kernel)
theorem g_189 : Cond.classLink "MorphWords" (73 : Nat) "MorphWords$GreatestRun" ∈ gtbl := List.mem_of_getElem? (i := 189) (by decide +kernel)
theorem g_190 : Cond.instantiable "MorphWords$GreatestRun" (3 : Nat) ∈ gtbl := List.mem_of_getElem? (i := 190) (by decide +kernel)
theorem g_191 : Cond.instanceMethod ⟨"MorphWords$GreatestRun", "<init>", "()V"⟩ ∈ gtbl := List.mem_of_getElem? (i := 191) (by decide +kernel)
theorem g_192 : Cond.code ⟨"MorphWords$GreatestRun", "<init>", "()V"⟩ prog_2_method_1_code (1 : Nat) (Option.none : Option FieldType) ∈ gtbl := List.mem_of_getElem? (i := 192) (by decide +kernel)
theorem g_193 : Cond.methodLink "MorphWords$GreatestRun" (1 : Nat) ⟨"java/lang/Object", "<init>", "()V"⟩ ∈ gtbl := List.mem_of_getElem? (i := 193) (by decide +kernel)
theorem g_194 : Cond.fieldLink "MorphWords$GreatestRun" (7 : Nat) "MorphWords$GreatestRun" "period" "I" ∈ gtbl := List.mem_of_getElem? (i := 194) (by decide +kernel)
theorem g_195 : Cond.fieldLink "MorphWords$GreatestRun" (13 : Nat) "MorphWords$GreatestRun" "place" "I" ∈ gtbl := List.mem_of_getElem? (i := 195) (by decide +kernel)
theorem g_196 : Cond.fieldLink "MorphWords$GreatestRun" (16 : Nat) "MorphWords$GreatestRun" "length" "I" ∈ gtbl := List.mem_of_getElem? (i := 196) (by decide +kernel)
theorem g_204 : Cond.classLink "MorphWords" (80 : Nat) "MorphWords$LongestMirror" ∈ gtbl := List.mem_of_getElem? (i := 204) (by decide +kernel)
theorem g_205 : Cond.instantiable "MorphWords$LongestMirror" (2 : Nat) ∈ gtbl := List.mem_of_getElem? (i := 205) (by decide +kernel)
theorem g_206 : Cond.instanceMethod ⟨"MorphWords$LongestMirror", "<init>", "()V"⟩ ∈ gtbl := List.mem_of_getElem? (i := 206) (by decide +kernel)
theorem g_207 : Cond.code ⟨"MorphWords$LongestMirror", "<init>", "()V"⟩ prog_5_method_1_code (1 : Nat) (Option.none : Option FieldType) ∈ gtbl := List.mem_of_getElem? (i := 207) (by decide +kernel)
theorem g_208 : Cond.methodLink "MorphWords$LongestMirror" (1 : Nat) ⟨"java/lang/Object", "<init>", "()V"⟩ ∈ gtbl := List.mem_of_getElem? (i := 208) (by decide +kernel)
theorem g_209 : Cond.fieldLink "MorphWords$LongestMirror" (7 : Nat) "MorphWords$LongestMirror" "place" "I" ∈ gtbl := List.mem_of_getElem? (i := 209) (by decide +kernel)
theorem g_210 : Cond.fieldLink "MorphWords$LongestMirror" (13 : Nat) "MorphWords$LongestMirror" "length" "I" ∈ gtbl := List.mem_of_getElem? (i := 210) (by decide +kernel)
theorem g_216 : Cond.classLink "MorphWords" (87 : Nat) "MorphWords$ReturnTable" ∈ gtbl := List.mem_of_getElem? (i := 216) (by decide +kernel)
theorem g_217 : Cond.instantiable "MorphWords$ReturnTable" (6 : Nat) ∈ gtbl := List.mem_of_getElem? (i := 217) (by decide +kernel)
theorem g_218 : Cond.instanceMethod ⟨"MorphWords$ReturnTable", "<init>", "()V"⟩ ∈ gtbl := List.mem_of_getElem? (i := 218) (by decide +kernel)
theorem g_219 : Cond.code ⟨"MorphWords$ReturnTable", "<init>", "()V"⟩ prog_8_method_1_code (1 : Nat) (Option.none : Option FieldType) ∈ gtbl := List.mem_of_getElem? (i := 219) (by decide +kernel)
theorem g_220 : Cond.methodLink "MorphWords$ReturnTable" (3 : Nat) ⟨"java/lang/Object", "<init>", "()V"⟩ ∈ gtbl := List.mem_of_getElem? (i := 220) (by decide +kernel)
theorem g_221 : Cond.fieldLink "MorphWords$ReturnTable" (9 : Nat) "MorphWords$ReturnTable" "places" "[I" ∈ gtbl := List.mem_of_getElem? (i := 221) (by decide +kernel)
theorem g_222 : Cond.fieldLink "MorphWords$ReturnTable" (15 : Nat) "MorphWords$ReturnTable" "found" "I" ∈ gtbl := List.mem_of_getElem? (i := 222) (by decide +kernel)
theorem g_223 : Cond.fieldLink "MorphWords$ReturnTable" (19 : Nat) "MorphWords$ReturnTable" "numbers" "[I" ∈ gtbl := List.mem_of_getElem? (i := 223) (by decide +kernel)
theorem g_224 : Cond.fieldLink "MorphWords$ReturnTable" (22 : Nat) "MorphWords$ReturnTable" "firsts" "[I" ∈ gtbl := List.mem_of_getElem? (i := 224) (by decide +kernel)
theorem g_225 : Cond.fieldLink "MorphWords$ReturnTable" (25 : Nat) "MorphWords$ReturnTable" "times" "[I" ∈ gtbl := List.mem_of_getElem? (i := 225) (by decide +kernel)
theorem g_226 : Cond.fieldLink "MorphWords$ReturnTable" (28 : Nat) "MorphWords$ReturnTable" "different" "I" ∈ gtbl := List.mem_of_getElem? (i := 226) (by decide +kernel)
theorem g_240 : Cond.fieldLink "MorphWords" (10 : Nat) "MorphWords" "now" "LMorphWords$State;" ∈ gtbl := List.mem_of_getElem? (i := 240) (by decide +kernel)
theorem g_241 : Cond.fieldLink "MorphWords" (16 : Nat) "MorphWords" "snapshot" "LMorphWords$State;" ∈ gtbl := List.mem_of_getElem? (i := 241) (by decide +kernel)
theorem g_242 : Cond.fieldLink "MorphWords" (19 : Nat) "MorphWords" "kept" "Z" ∈ gtbl := List.mem_of_getElem? (i := 242) (by decide +kernel)
theorem g_243 : Cond.fieldLink "MorphWords" (26 : Nat) "MorphWords" "history" "LMorphWords$History;" ∈ gtbl := List.mem_of_getElem? (i := 243) (by decide +kernel)
theorem g_244 : Cond.fieldLink "MorphWords" (33 : Nat) "MorphWords" "text" "LMorphWords$Text;" ∈ gtbl := List.mem_of_getElem? (i := 244) (by decide +kernel)
theorem g_245 : Cond.fieldLink "MorphWords" (40 : Nat) "MorphWords" "nextRule" "LMorphWords$Rule;" ∈ gtbl := List.mem_of_getElem? (i := 245) (by decide +kernel)
theorem g_246 : Cond.fieldLink "MorphWords" (49 : Nat) "MorphWords" "nextWord" "LMorphWords$Letters;" ∈ gtbl := List.mem_of_getElem? (i := 246) (by decide +kernel)
theorem g_247 : Cond.fieldLink "MorphWords" (53 : Nat) "MorphWords" "grownWord" "LMorphWords$Letters;" ∈ gtbl := List.mem_of_getElem? (i := 247) (by decide +kernel)
theorem g_248 : Cond.fieldLink "MorphWords" (56 : Nat) "MorphWords" "nextPiece" "LMorphWords$Letters;" ∈ gtbl := List.mem_of_getElem? (i := 248) (by decide +kernel)
theorem g_249 : Cond.fieldLink "MorphWords" (62 : Nat) "MorphWords" "powers" "LMorphWords$Powers;" ∈ gtbl := List.mem_of_getElem? (i := 249) (by decide +kernel)
theorem g_250 : Cond.fieldLink "MorphWords" (69 : Nat) "MorphWords" "pieceTable" "LMorphWords$PieceTable;" ∈ gtbl := List.mem_of_getElem? (i := 250) (by decide +kernel)
theorem g_251 : Cond.fieldLink "MorphWords" (76 : Nat) "MorphWords" "greatestRun" "LMorphWords$GreatestRun;" ∈ gtbl := List.mem_of_getElem? (i := 251) (by decide +kernel)
theorem g_252 : Cond.fieldLink "MorphWords" (83 : Nat) "MorphWords" "longestMirror" "LMorphWords$LongestMirror;" ∈ gtbl := List.mem_of_getElem? (i := 252) (by decide +kernel)
theorem g_253 : Cond.fieldLink "MorphWords" (90 : Nat) "MorphWords" "returnTable" "LMorphWords$ReturnTable;" ∈ gtbl := List.mem_of_getElem? (i := 253) (by decide +kernel)
theorem g_283 : Cond.methodLink "MorphWordsLaw" (13 : Nat) ⟨"MorphWords", "readRule", "()I"⟩ ∈ gtbl := List.mem_of_getElem? (i := 283) (by decide +kernel)
theorem g_284 : Cond.instanceMethod ⟨"MorphWords", "readRule", "()I"⟩ ∈ gtbl := List.mem_of_getElem? (i := 284) (by decide +kernel)
theorem g_285 : Cond.selects "MorphWords" ⟨"MorphWords", "readRule", "()I"⟩ ⟨"MorphWords", "readRule", "()I"⟩ ∈ gtbl := List.mem_of_getElem? (i := 285) (by decide +kernel)
theorem g_286 : Cond.code ⟨"MorphWords", "readRule", "()I"⟩ prog_1_method_2_code (2 : Nat) (Option.some FieldType.int) ∈ gtbl := List.mem_of_getElem? (i := 286) (by decide +kernel)
theorem g_287 : Cond.methodLink "MorphWords" (97 : Nat) ⟨"MorphWords$Rule", "become", "(LMorphWords$Rule;)V"⟩ ∈ gtbl := List.mem_of_getElem? (i := 287) (by decide +kernel)
theorem g_288 : Cond.instanceMethod ⟨"MorphWords$Rule", "become", "(LMorphWords$Rule;)V"⟩ ∈ gtbl := List.mem_of_getElem? (i := 288) (by decide +kernel)
theorem g_289 : Cond.selects "MorphWords$Rule" ⟨"MorphWords$Rule", "become", "(LMorphWords$Rule;)V"⟩ ⟨"MorphWords$Rule", "become", "(LMorphWords$Rule;)V"⟩ ∈ gtbl := List.mem_of_getElem? (i := 289) (by decide +kernel)
theorem g_290 : Cond.code ⟨"MorphWords$Rule", "become", "(LMorphWords$Rule;)V"⟩ prog_9_method_3_code (3 : Nat) (Option.none : Option FieldType) ∈ gtbl := List.mem_of_getElem? (i := 290) (by decide +kernel)
theorem g_291 : Cond.methodLink "MorphWords$Rule" (31 : Nat) ⟨"MorphWords$Rule", "imageOf", "(I)LMorphWords$Letters;"⟩ ∈ gtbl := List.mem_of_getElem? (i := 291) (by decide +kernel)
theorem g_292 : Cond.instanceMethod ⟨"MorphWords$Rule", "imageOf", "(I)LMorphWords$Letters;"⟩ ∈ gtbl := List.mem_of_getElem? (i := 292) (by decide +kernel)
theorem g_293 : Cond.selects "MorphWords$Rule" ⟨"MorphWords$Rule", "imageOf", "(I)LMorphWords$Letters;"⟩ ⟨"MorphWords$Rule", "imageOf", "(I)LMorphWords$Letters;"⟩ ∈ gtbl := List.mem_of_getElem? (i := 293) (by decide +kernel)
theorem g_294 : Cond.code ⟨"MorphWords$Rule", "imageOf", "(I)LMorphWords$Letters;"⟩ prog_9_method_2_code (2 : Nat) (Option.some (FieldType.object "MorphWords$Letters")) ∈ gtbl := List.mem_of_getElem? (i := 294) (by decide +kernel)
theorem g_295 : Cond.methodLink "MorphWords$Rule" (35 : Nat) ⟨"MorphWords$Letters", "become", "(LMorphWords$Letters;)V"⟩ ∈ gtbl := List.mem_of_getElem? (i := 295) (by decide +kernel)
theorem g_296 : Cond.instanceMethod ⟨"MorphWords$Letters", "become", "(LMorphWords$Letters;)V"⟩ ∈ gtbl := List.mem_of_getElem? (i := 296) (by decide +kernel)
theorem g_297 : Cond.selects "MorphWords$Letters" ⟨"MorphWords$Letters", "become", "(LMorphWords$Letters;)V"⟩ ⟨"MorphWords$Letters", "become", "(LMorphWords$Letters;)V"⟩ ∈ gtbl := List.mem_of_getElem? (i := 297) (by decide +kernel)
theorem g_298 : Cond.code ⟨"MorphWords$Letters", "become", "(LMorphWords$Letters;)V"⟩ prog_4_method_8_code (3 : Nat) (Option.none : Option FieldType) ∈ gtbl := List.mem_of_getElem? (i := 298) (by decide +kernel)
theorem g_299 : Cond.methodLink "MorphWords$Letters" (36 : Nat) ⟨"java/lang/Math", "min", "(II)I"⟩ ∈ gtbl := List.mem_of_getElem? (i := 299) (by decide +kernel)
theorem g_300 : Cond.static ⟨"java/lang/Math", "min", "(II)I"⟩ ∈ gtbl := List.mem_of_getElem? (i := 300) (by decide +kernel)
theorem g_301 : Cond.code ⟨"java/lang/Math", "min", "(II)I"⟩ prog_15_method_69_code (2 : Nat) (Option.some FieldType.int) ∈ gtbl := List.mem_of_getElem? (i := 301) (by decide +kernel)
theorem g_302 : Cond.methodLink "MorphWords$Letters" (39 : Nat) ⟨"java/lang/System", "arraycopy", "(Ljava/lang/Object;ILjava/lang/Object;II)V"⟩ ∈ gtbl := List.mem_of_getElem? (i := 302) (by decide +kernel)
theorem g_303 : Cond.static ⟨"java/lang/System", "arraycopy", "(Ljava/lang/Object;ILjava/lang/Object;II)V"⟩ ∈ gtbl := List.mem_of_getElem? (i := 303) (by decide +kernel)
theorem g_304 : Cond.native ⟨"java/lang/System", "arraycopy", "(Ljava/lang/Object;ILjava/lang/Object;II)V"⟩ ∈ gtbl := List.mem_of_getElem? (i := 304) (by decide +kernel)
theorem g_305 : Cond.methodLink "MorphWords" (101 : Nat) ⟨"MorphWords$Text", "readInto", "(LMorphWords$Rule;)I"⟩ ∈ gtbl := List.mem_of_getElem? (i := 305) (by decide +kernel)
theorem g_306 : Cond.instanceMethod ⟨"MorphWords$Text", "readInto", "(LMorphWords$Rule;)I"⟩ ∈ gtbl := List.mem_of_getElem? (i := 306) (by decide +kernel)
theorem g_307 : Cond.selects "MorphWords$Text" ⟨"MorphWords$Text", "readInto", "(LMorphWords$Rule;)I"⟩ ⟨"MorphWords$Text", "readInto", "(LMorphWords$Rule;)I"⟩ ∈ gtbl := List.mem_of_getElem? (i := 307) (by decide +kernel)
theorem g_308 : Cond.code ⟨"MorphWords$Text", "readInto", "(LMorphWords$Rule;)I"⟩ prog_11_method_8_code (6 : Nat) (Option.some FieldType.int) ∈ gtbl := List.mem_of_getElem? (i := 308) (by decide +kernel)
theorem g_309 : Cond.methodLink "MorphWords$Text" (27 : Nat) ⟨"MorphWords$Rule", "imageOf", "(I)LMorphWords$Letters;"⟩ ∈ gtbl := List.mem_of_getElem? (i := 309) (by decide +kernel)
theorem g_310 : Cond.methodLink "MorphWords$Text" (33 : Nat) ⟨"MorphWords$Text", "letterAt", "(I)I"⟩ ∈ gtbl := List.mem_of_getElem? (i := 310) (by decide +kernel)
theorem g_311 : Cond.instanceMethod ⟨"MorphWords$Text", "letterAt", "(I)I"⟩ ∈ gtbl := List.mem_of_getElem? (i := 311) (by decide +kernel)
theorem g_312 : Cond.code ⟨"MorphWords$Text", "letterAt", "(I)I"⟩ prog_11_method_6_code (3 : Nat) (Option.some FieldType.int) ∈ gtbl := List.mem_of_getElem? (i := 312) (by decide +kernel)
theorem g_313 : Cond.methodLink "MorphWords$Text" (37 : Nat) ⟨"MorphWords$Letters", "clear", "()V"⟩ ∈ gtbl := List.mem_of_getElem? (i := 313) (by decide +kernel)
theorem g_314 : Cond.instanceMethod ⟨"MorphWords$Letters", "clear", "()V"⟩ ∈ gtbl := List.mem_of_getElem? (i := 314) (by decide +kernel)
theorem g_315 : Cond.selects "MorphWords$Letters" ⟨"MorphWords$Letters", "clear", "()V"⟩ ⟨"MorphWords$Letters", "clear", "()V"⟩ ∈ gtbl := List.mem_of_getElem? (i := 315) (by decide +kernel)
theorem g_316 : Cond.code ⟨"MorphWords$Letters", "clear", "()V"⟩ prog_4_method_4_code (1 : Nat) (Option.none : Option FieldType) ∈ gtbl := List.mem_of_getElem? (i := 316) (by decide +kernel)
theorem g_317 : Cond.methodLink "MorphWords$Text" (23 : Nat) ⟨"MorphWords$Text", "hasAt", "(IC)Z"⟩ ∈ gtbl := List.mem_of_getElem? (i := 317) (by decide +kernel)
theorem g_318 : Cond.instanceMethod ⟨"MorphWords$Text", "hasAt", "(IC)Z"⟩ ∈ gtbl := List.mem_of_getElem? (i := 318) (by decide +kernel)
theorem g_319 : Cond.code ⟨"MorphWords$Text", "hasAt", "(IC)Z"⟩ prog_11_method_5_code (3 : Nat) (Option.some FieldType.boolean) ∈ gtbl := List.mem_of_getElem? (i := 319) (by decide +kernel)
theorem g_320 : Cond.methodLink "MorphWords$Text" (42 : Nat) ⟨"MorphWords$Letters", "length", "()I"⟩ ∈ gtbl := List.mem_of_getElem? (i := 320) (by decide +kernel)
theorem g_321 : Cond.instanceMethod ⟨"MorphWords$Letters", "length", "()I"⟩ ∈ gtbl := List.mem_of_getElem? (i := 321) (by decide +kernel)
theorem g_322 : Cond.selects "MorphWords$Letters" ⟨"MorphWords$Letters", "length", "()I"⟩ ⟨"MorphWords$Letters", "length", "()I"⟩ ∈ gtbl := List.mem_of_getElem? (i := 322) (by decide +kernel)
theorem g_323 : Cond.code ⟨"MorphWords$Letters", "length", "()I"⟩ prog_4_method_2_code (1 : Nat) (Option.some FieldType.int) ∈ gtbl := List.mem_of_getElem? (i := 323) (by decide +kernel)
theorem g_324 : Cond.methodLink "MorphWords$Text" (45 : Nat) ⟨"MorphWords$Letters", "add", "(I)Z"⟩ ∈ gtbl := List.mem_of_getElem? (i := 324) (by decide +kernel)
theorem g_325 : Cond.methodLink "MorphWords" (105 : Nat) ⟨"MorphWords", "takeNextRule", "()Z"⟩ ∈ gtbl := List.mem_of_getElem? (i := 325) (by decide +kernel)
theorem g_326 : Cond.instanceMethod ⟨"MorphWords", "takeNextRule", "()Z"⟩ ∈ gtbl := List.mem_of_getElem? (i := 326) (by decide +kernel)
theorem g_327 : Cond.code ⟨"MorphWords", "takeNextRule", "()Z"⟩ prog_1_method_32_code (1 : Nat) (Option.some FieldType.boolean) ∈ gtbl := List.mem_of_getElem? (i := 327) (by decide +kernel)
theorem g_328 : Cond.methodLink "MorphWords" (272 : Nat) ⟨"MorphWords$Rule", "same", "(LMorphWords$Rule;)Z"⟩ ∈ gtbl := List.mem_of_getElem? (i := 328) (by decide +kernel)
theorem g_329 : Cond.instanceMethod ⟨"MorphWords$Rule", "same", "(LMorphWords$Rule;)Z"⟩ ∈ gtbl := List.mem_of_getElem? (i := 329) (by decide +kernel)
theorem g_330 : Cond.selects "MorphWords$Rule" ⟨"MorphWords$Rule", "same", "(LMorphWords$Rule;)Z"⟩ ⟨"MorphWords$Rule", "same", "(LMorphWords$Rule;)Z"⟩ ∈ gtbl := List.mem_of_getElem? (i := 330) (by decide +kernel)
theorem g_331 : Cond.code ⟨"MorphWords$Rule", "same", "(LMorphWords$Rule;)Z"⟩ prog_9_method_4_code (3 : Nat) (Option.some FieldType.boolean) ∈ gtbl := List.mem_of_getElem? (i := 331) (by decide +kernel)
theorem g_332 : Cond.methodLink "MorphWords$Rule" (39 : Nat) ⟨"MorphWords$Letters", "same", "(LMorphWords$Letters;)Z"⟩ ∈ gtbl := List.mem_of_getElem? (i := 332) (by decide +kernel)
theorem g_333 : Cond.instanceMethod ⟨"MorphWords$Letters", "same", "(LMorphWords$Letters;)Z"⟩ ∈ gtbl := List.mem_of_getElem? (i := 333) (by decide +kernel)
theorem g_334 : Cond.selects "MorphWords$Letters" ⟨"MorphWords$Letters", "same", "(LMorphWords$Letters;)Z"⟩ ⟨"MorphWords$Letters", "same", "(LMorphWords$Letters;)Z"⟩ ∈ gtbl := List.mem_of_getElem? (i := 334) (by decide +kernel)
theorem g_335 : Cond.code ⟨"MorphWords$Letters", "same", "(LMorphWords$Letters;)Z"⟩ prog_4_method_9_code (2 : Nat) (Option.some FieldType.boolean) ∈ gtbl := List.mem_of_getElem? (i := 335) (by decide +kernel)
theorem g_336 : Cond.methodLink "MorphWords$Letters" (45 : Nat) ⟨"MorphWords$Letters", "hasFrom", "(ILMorphWords$Letters;)Z"⟩ ∈ gtbl := List.mem_of_getElem? (i := 336) (by decide +kernel)
theorem g_337 : Cond.instanceMethod ⟨"MorphWords$Letters", "hasFrom", "(ILMorphWords$Letters;)Z"⟩ ∈ gtbl := List.mem_of_getElem? (i := 337) (by decide +kernel)
theorem g_338 : Cond.selects "MorphWords$Letters" ⟨"MorphWords$Letters", "hasFrom", "(ILMorphWords$Letters;)Z"⟩ ⟨"MorphWords$Letters", "hasFrom", "(ILMorphWords$Letters;)Z"⟩ ∈ gtbl := List.mem_of_getElem? (i := 338) (by decide +kernel)
theorem g_339 : Cond.code ⟨"MorphWords$Letters", "hasFrom", "(ILMorphWords$Letters;)Z"⟩ prog_4_method_10_code (4 : Nat) (Option.some FieldType.boolean) ∈ gtbl := List.mem_of_getElem? (i := 339) (by decide +kernel)
theorem g_340 : Cond.methodLink "MorphWords$Letters" (29 : Nat) ⟨"MorphWords$Letters", "letterAt", "(I)I"⟩ ∈ gtbl := List.mem_of_getElem? (i := 340) (by decide +kernel)
theorem g_341 : Cond.instanceMethod ⟨"MorphWords$Letters", "letterAt", "(I)I"⟩ ∈ gtbl := List.mem_of_getElem? (i := 341) (by decide +kernel)
theorem g_342 : Cond.selects "MorphWords$Letters" ⟨"MorphWords$Letters", "letterAt", "(I)I"⟩ ⟨"MorphWords$Letters", "letterAt", "(I)I"⟩ ∈ gtbl := List.mem_of_getElem? (i := 342) (by decide +kernel)
theorem g_343 : Cond.code ⟨"MorphWords$Letters", "letterAt", "(I)I"⟩ prog_4_method_3_code (2 : Nat) (Option.some FieldType.int) ∈ gtbl := List.mem_of_getElem? (i := 343) (by decide +kernel)
theorem g_344 : Cond.methodLink "MorphWords" (139 : Nat) ⟨"MorphWords$History", "record", "(LMorphWords$State;)V"⟩ ∈ gtbl := List.mem_of_getElem? (i := 344) (by decide +kernel)
theorem g_345 : Cond.instanceMethod ⟨"MorphWords$History", "record", "(LMorphWords$State;)V"⟩ ∈ gtbl := List.mem_of_getElem? (i := 345) (by decide +kernel)
theorem g_346 : Cond.selects "MorphWords$History" ⟨"MorphWords$History", "record", "(LMorphWords$State;)V"⟩ ⟨"MorphWords$History", "record", "(LMorphWords$State;)V"⟩ ∈ gtbl := List.mem_of_getElem? (i := 346) (by decide +kernel)
theorem g_347 : Cond.code ⟨"MorphWords$History", "record", "(LMorphWords$State;)V"⟩ prog_3_method_3_code (2 : Nat) (Option.none : Option FieldType) ∈ gtbl := List.mem_of_getElem? (i := 347) (by decide +kernel)
theorem g_348 : Cond.methodLink "MorphWords$History" (22 : Nat) ⟨"MorphWords$History", "dropOldest", "()V"⟩ ∈ gtbl := List.mem_of_getElem? (i := 348) (by decide +kernel)
theorem g_349 : Cond.instanceMethod ⟨"MorphWords$History", "dropOldest", "()V"⟩ ∈ gtbl := List.mem_of_getElem? (i := 349) (by decide +kernel)
theorem g_350 : Cond.code ⟨"MorphWords$History", "dropOldest", "()V"⟩ prog_3_method_4_code (3 : Nat) (Option.none : Option FieldType) ∈ gtbl := List.mem_of_getElem? (i := 350) (by decide +kernel)
theorem g_351 : Cond.methodLink "MorphWords$History" (25 : Nat) ⟨"MorphWords$State", "become", "(LMorphWords$State;)V"⟩ ∈ gtbl := List.mem_of_getElem? (i := 351) (by decide +kernel)
theorem g_352 : Cond.instanceMethod ⟨"MorphWords$State", "become", "(LMorphWords$State;)V"⟩ ∈ gtbl := List.mem_of_getElem? (i := 352) (by decide +kernel)
theorem g_353 : Cond.selects "MorphWords$State" ⟨"MorphWords$State", "become", "(LMorphWords$State;)V"⟩ ⟨"MorphWords$State", "become", "(LMorphWords$State;)V"⟩ ∈ gtbl := List.mem_of_getElem? (i := 353) (by decide +kernel)
theorem g_354 : Cond.code ⟨"MorphWords$State", "become", "(LMorphWords$State;)V"⟩ prog_10_method_3_code (2 : Nat) (Option.none : Option FieldType) ∈ gtbl := List.mem_of_getElem? (i := 354) (by decide +kernel)
theorem g_355 : Cond.methodLink "MorphWords$State" (38 : Nat) ⟨"MorphWords$Rule", "become", "(LMorphWords$Rule;)V"⟩ ∈ gtbl := List.mem_of_getElem? (i := 355) (by decide +kernel)
theorem g_356 : Cond.methodLink "MorphWords$State" (42 : Nat) ⟨"MorphWords$Letters", "become", "(LMorphWords$Letters;)V"⟩ ∈ gtbl := List.mem_of_getElem? (i := 356) (by decide +kernel)
theorem g_357 : Cond.methodLink "MorphWords" (109 : Nat) ⟨"MorphWords$Text", "parts", "()I"⟩ ∈ gtbl := List.mem_of_getElem? (i := 357) (by decide +kernel)
theorem g_358 : Cond.instanceMethod ⟨"MorphWords$Text", "parts", "()I"⟩ ∈ gtbl := List.mem_of_getElem? (i := 358) (by decide +kernel)
theorem g_359 : Cond.selects "MorphWords$Text" ⟨"MorphWords$Text", "parts", "()I"⟩ ⟨"MorphWords$Text", "parts", "()I"⟩ ∈ gtbl := List.mem_of_getElem? (i := 359) (by decide +kernel)
theorem g_360 : Cond.code ⟨"MorphWords$Text", "parts", "()I"⟩ prog_11_method_7_code (3 : Nat) (Option.some FieldType.int) ∈ gtbl := List.mem_of_getElem? (i := 360) (by decide +kernel)
theorem g_361 : Cond.methodLink "MorphWordsLaw" (18 : Nat) ⟨"MorphWords", "square", "()I"⟩ ∈ gtbl := List.mem_of_getElem? (i := 361) (by decide +kernel)
theorem g_362 : Cond.instanceMethod ⟨"MorphWords", "square", "()I"⟩ ∈ gtbl := List.mem_of_getElem? (i := 362) (by decide +kernel)
theorem g_363 : Cond.selects "MorphWords" ⟨"MorphWords", "square", "()I"⟩ ⟨"MorphWords", "square", "()I"⟩ ∈ gtbl := List.mem_of_getElem? (i := 363) (by decide +kernel)
theorem g_364 : Cond.code ⟨"MorphWords", "square", "()I"⟩ prog_1_method_3_code (1 : Nat) (Option.some FieldType.int) ∈ gtbl := List.mem_of_getElem? (i := 364) (by decide +kernel)
theorem g_365 : Cond.methodLink "MorphWords" (113 : Nat) ⟨"MorphWords$Rule", "becomeSquareOf", "(LMorphWords$Rule;)Z"⟩ ∈ gtbl := List.mem_of_getElem? (i := 365) (by decide +kernel)
theorem g_366 : Cond.instanceMethod ⟨"MorphWords$Rule", "becomeSquareOf", "(LMorphWords$Rule;)Z"⟩ ∈ gtbl := List.mem_of_getElem? (i := 366) (by decide +kernel)
theorem g_367 : Cond.selects "MorphWords$Rule" ⟨"MorphWords$Rule", "becomeSquareOf", "(LMorphWords$Rule;)Z"⟩ ⟨"MorphWords$Rule", "becomeSquareOf", "(LMorphWords$Rule;)Z"⟩ ∈ gtbl := List.mem_of_getElem? (i := 367) (by decide +kernel)
theorem g_368 : Cond.code ⟨"MorphWords$Rule", "becomeSquareOf", "(LMorphWords$Rule;)Z"⟩ prog_9_method_7_code (4 : Nat) (Option.some FieldType.boolean) ∈ gtbl := List.mem_of_getElem? (i := 368) (by decide +kernel)
theorem g_369 : Cond.methodLink "MorphWords$Rule" (54 : Nat) ⟨"MorphWords$Letters", "clear", "()V"⟩ ∈ gtbl := List.mem_of_getElem? (i := 369) (by decide +kernel)
theorem g_370 : Cond.methodLink "MorphWords$Rule" (57 : Nat) ⟨"MorphWords$Rule", "addImage", "(LMorphWords$Letters;LMorphWords$Letters;)Z"⟩ ∈ gtbl := List.mem_of_getElem? (i := 370) (by decide +kernel)
theorem g_371 : Cond.instanceMethod ⟨"MorphWords$Rule", "addImage", "(LMorphWords$Letters;LMorphWords$Letters;)Z"⟩ ∈ gtbl := List.mem_of_getElem? (i := 371) (by decide +kernel)
theorem g_372 : Cond.selects "MorphWords$Rule" ⟨"MorphWords$Rule", "addImage", "(LMorphWords$Letters;LMorphWords$Letters;)Z"⟩ ⟨"MorphWords$Rule", "addImage", "(LMorphWords$Letters;LMorphWords$Letters;)Z"⟩ ∈ gtbl := List.mem_of_getElem? (i := 372) (by decide +kernel)
theorem g_373 : Cond.code ⟨"MorphWords$Rule", "addImage", "(LMorphWords$Letters;LMorphWords$Letters;)Z"⟩ prog_9_method_6_code (4 : Nat) (Option.some FieldType.boolean) ∈ gtbl := List.mem_of_getElem? (i := 373) (by decide +kernel)
theorem g_374 : Cond.methodLink "MorphWords$Rule" (43 : Nat) ⟨"MorphWords$Letters", "length", "()I"⟩ ∈ gtbl := List.mem_of_getElem? (i := 374) (by decide +kernel)
theorem g_375 : Cond.methodLink "MorphWords$Rule" (47 : Nat) ⟨"MorphWords$Letters", "letterAt", "(I)I"⟩ ∈ gtbl := List.mem_of_getElem? (i := 375) (by decide +kernel)
theorem g_376 : Cond.methodLink "MorphWords$Rule" (51 : Nat) ⟨"MorphWords$Letters", "addAll", "(LMorphWords$Letters;)Z"⟩ ∈ gtbl := List.mem_of_getElem? (i := 376) (by decide +kernel)
theorem g_377 : Cond.instanceMethod ⟨"MorphWords$Letters", "addAll", "(LMorphWords$Letters;)Z"⟩ ∈ gtbl := List.mem_of_getElem? (i := 377) (by decide +kernel)
theorem g_378 : Cond.selects "MorphWords$Letters" ⟨"MorphWords$Letters", "addAll", "(LMorphWords$Letters;)Z"⟩ ⟨"MorphWords$Letters", "addAll", "(LMorphWords$Letters;)Z"⟩ ∈ gtbl := List.mem_of_getElem? (i := 378) (by decide +kernel)
theorem g_379 : Cond.code ⟨"MorphWords$Letters", "addAll", "(LMorphWords$Letters;)Z"⟩ prog_4_method_6_code (3 : Nat) (Option.some FieldType.boolean) ∈ gtbl := List.mem_of_getElem? (i := 379) (by decide +kernel)
theorem g_380 : Cond.methodLink "MorphWords$Letters" (33 : Nat) ⟨"MorphWords$Letters", "add", "(I)Z"⟩ ∈ gtbl := List.mem_of_getElem? (i := 380) (by decide +kernel)
theorem g_381 : Cond.methodLink "MorphWords" (117 : Nat) ⟨"MorphWords$Rule", "total", "()I"⟩ ∈ gtbl := List.mem_of_getElem? (i := 381) (by decide +kernel)
theorem g_382 : Cond.instanceMethod ⟨"MorphWords$Rule", "total", "()I"⟩ ∈ gtbl := List.mem_of_getElem? (i := 382) (by decide +kernel)
theorem g_383 : Cond.selects "MorphWords$Rule" ⟨"MorphWords$Rule", "total", "()I"⟩ ⟨"MorphWords$Rule", "total", "()I"⟩ ∈ gtbl := List.mem_of_getElem? (i := 383) (by decide +kernel)
theorem g_384 : Cond.code ⟨"MorphWords$Rule", "total", "()I"⟩ prog_9_method_5_code (3 : Nat) (Option.some FieldType.int) ∈ gtbl := List.mem_of_getElem? (i := 384) (by decide +kernel)
theorem g_385 : Cond.methodLink "MorphWordsLaw" (22 : Nat) ⟨"MorphWords", "shift", "(Z)I"⟩ ∈ gtbl := List.mem_of_getElem? (i := 385) (by decide +kernel)
theorem g_386 : Cond.instanceMethod ⟨"MorphWords", "shift", "(Z)I"⟩ ∈ gtbl := List.mem_of_getElem? (i := 386) (by decide +kernel)
theorem g_387 : Cond.selects "MorphWords" ⟨"MorphWords", "shift", "(Z)I"⟩ ⟨"MorphWords", "shift", "(Z)I"⟩ ∈ gtbl := List.mem_of_getElem? (i := 387) (by decide +kernel)
theorem g_388 : Cond.code ⟨"MorphWords", "shift", "(Z)I"⟩ prog_1_method_4_code (3 : Nat) (Option.some FieldType.int) ∈ gtbl := List.mem_of_getElem? (i := 388) (by decide +kernel)
theorem g_389 : Cond.methodLink "MorphWords" (120 : Nat) ⟨"MorphWords$Rule", "commonEnd", "(Z)I"⟩ ∈ gtbl := List.mem_of_getElem? (i := 389) (by decide +kernel)
theorem g_390 : Cond.instanceMethod ⟨"MorphWords$Rule", "commonEnd", "(Z)I"⟩ ∈ gtbl := List.mem_of_getElem? (i := 390) (by decide +kernel)
theorem g_391 : Cond.selects "MorphWords$Rule" ⟨"MorphWords$Rule", "commonEnd", "(Z)I"⟩ ⟨"MorphWords$Rule", "commonEnd", "(Z)I"⟩ ∈ gtbl := List.mem_of_getElem? (i := 391) (by decide +kernel)
theorem g_392 : Cond.code ⟨"MorphWords$Rule", "commonEnd", "(Z)I"⟩ prog_9_method_8_code (4 : Nat) (Option.some FieldType.int) ∈ gtbl := List.mem_of_getElem? (i := 392) (by decide +kernel)
theorem g_393 : Cond.methodLink "MorphWords$Rule" (61 : Nat) ⟨"MorphWords$Rule", "endOf", "(IZ)I"⟩ ∈ gtbl := List.mem_of_getElem? (i := 393) (by decide +kernel)
theorem g_394 : Cond.instanceMethod ⟨"MorphWords$Rule", "endOf", "(IZ)I"⟩ ∈ gtbl := List.mem_of_getElem? (i := 394) (by decide +kernel)
theorem g_395 : Cond.code ⟨"MorphWords$Rule", "endOf", "(IZ)I"⟩ prog_9_method_9_code (4 : Nat) (Option.some FieldType.int) ∈ gtbl := List.mem_of_getElem? (i := 395) (by decide +kernel)
theorem g_396 : Cond.methodLink "MorphWords" (124 : Nat) ⟨"MorphWords$Rule", "rotate", "(Z)V"⟩ ∈ gtbl := List.mem_of_getElem? (i := 396) (by decide +kernel)
theorem g_397 : Cond.instanceMethod ⟨"MorphWords$Rule", "rotate", "(Z)V"⟩ ∈ gtbl := List.mem_of_getElem? (i := 397) (by decide +kernel)
theorem g_398 : Cond.selects "MorphWords$Rule" ⟨"MorphWords$Rule", "rotate", "(Z)V"⟩ ⟨"MorphWords$Rule", "rotate", "(Z)V"⟩ ∈ gtbl := List.mem_of_getElem? (i := 398) (by decide +kernel)
theorem g_399 : Cond.code ⟨"MorphWords$Rule", "rotate", "(Z)V"⟩ prog_9_method_10_code (3 : Nat) (Option.none : Option FieldType) ∈ gtbl := List.mem_of_getElem? (i := 399) (by decide +kernel)
theorem g_400 : Cond.methodLink "MorphWords$Rule" (65 : Nat) ⟨"MorphWords$Letters", "rotate", "(Z)V"⟩ ∈ gtbl := List.mem_of_getElem? (i := 400) (by decide +kernel)
theorem g_401 : Cond.instanceMethod ⟨"MorphWords$Letters", "rotate", "(Z)V"⟩ ∈ gtbl := List.mem_of_getElem? (i := 401) (by decide +kernel)
theorem g_402 : Cond.selects "MorphWords$Letters" ⟨"MorphWords$Letters", "rotate", "(Z)V"⟩ ⟨"MorphWords$Letters", "rotate", "(Z)V"⟩ ∈ gtbl := List.mem_of_getElem? (i := 402) (by decide +kernel)
theorem g_403 : Cond.code ⟨"MorphWords$Letters", "rotate", "(Z)V"⟩ prog_4_method_16_code (3 : Nat) (Option.none : Option FieldType) ∈ gtbl := List.mem_of_getElem? (i := 403) (by decide +kernel)
theorem g_404 : Cond.methodLink "MorphWordsLaw" (27 : Nat) ⟨"MorphWords", "swap", "(II)I"⟩ ∈ gtbl := List.mem_of_getElem? (i := 404) (by decide +kernel)
theorem g_405 : Cond.instanceMethod ⟨"MorphWords", "swap", "(II)I"⟩ ∈ gtbl := List.mem_of_getElem? (i := 405) (by decide +kernel)
theorem g_406 : Cond.selects "MorphWords" ⟨"MorphWords", "swap", "(II)I"⟩ ⟨"MorphWords", "swap", "(II)I"⟩ ∈ gtbl := List.mem_of_getElem? (i := 406) (by decide +kernel)
theorem g_407 : Cond.code ⟨"MorphWords", "swap", "(II)I"⟩ prog_1_method_5_code (4 : Nat) (Option.some FieldType.int) ∈ gtbl := List.mem_of_getElem? (i := 407) (by decide +kernel)
theorem g_408 : Cond.methodLink "MorphWords" (128 : Nat) ⟨"MorphWords", "isLetter", "(I)Z"⟩ ∈ gtbl := List.mem_of_getElem? (i := 408) (by decide +kernel)
theorem g_409 : Cond.methodLink "MorphWords" (135 : Nat) ⟨"MorphWords$Letters", "countOf", "(I)I"⟩ ∈ gtbl := List.mem_of_getElem? (i := 409) (by decide +kernel)
theorem g_410 : Cond.instanceMethod ⟨"MorphWords$Letters", "countOf", "(I)I"⟩ ∈ gtbl := List.mem_of_getElem? (i := 410) (by decide +kernel)
theorem g_411 : Cond.selects "MorphWords$Letters" ⟨"MorphWords$Letters", "countOf", "(I)I"⟩ ⟨"MorphWords$Letters", "countOf", "(I)I"⟩ ∈ gtbl := List.mem_of_getElem? (i := 411) (by decide +kernel)
theorem g_412 : Cond.code ⟨"MorphWords$Letters", "countOf", "(I)I"⟩ prog_4_method_14_code (4 : Nat) (Option.some FieldType.int) ∈ gtbl := List.mem_of_getElem? (i := 412) (by decide +kernel)
theorem g_413 : Cond.methodLink "MorphWords" (143 : Nat) ⟨"MorphWords$Rule", "exchange", "(II)V"⟩ ∈ gtbl := List.mem_of_getElem? (i := 413) (by decide +kernel)
theorem g_414 : Cond.instanceMethod ⟨"MorphWords$Rule", "exchange", "(II)V"⟩ ∈ gtbl := List.mem_of_getElem? (i := 414) (by decide +kernel)
theorem g_415 : Cond.selects "MorphWords$Rule" ⟨"MorphWords$Rule", "exchange", "(II)V"⟩ ⟨"MorphWords$Rule", "exchange", "(II)V"⟩ ∈ gtbl := List.mem_of_getElem? (i := 415) (by decide +kernel)
theorem g_416 : Cond.code ⟨"MorphWords$Rule", "exchange", "(II)V"⟩ prog_9_method_11_code (4 : Nat) (Option.none : Option FieldType) ∈ gtbl := List.mem_of_getElem? (i := 416) (by decide +kernel)
theorem g_417 : Cond.methodLink "MorphWords$Rule" (69 : Nat) ⟨"MorphWords$Letters", "exchange", "(II)V"⟩ ∈ gtbl := List.mem_of_getElem? (i := 417) (by decide +kernel)
theorem g_418 : Cond.instanceMethod ⟨"MorphWords$Letters", "exchange", "(II)V"⟩ ∈ gtbl := List.mem_of_getElem? (i := 418) (by decide +kernel)
theorem g_419 : Cond.selects "MorphWords$Letters" ⟨"MorphWords$Letters", "exchange", "(II)V"⟩ ⟨"MorphWords$Letters", "exchange", "(II)V"⟩ ∈ gtbl := List.mem_of_getElem? (i := 419) (by decide +kernel)
theorem g_420 : Cond.code ⟨"MorphWords$Letters", "exchange", "(II)V"⟩ prog_4_method_15_code (4 : Nat) (Option.none : Option FieldType) ∈ gtbl := List.mem_of_getElem? (i := 420) (by decide +kernel)
theorem g_421 : Cond.methodLink "MorphWords" (147 : Nat) ⟨"MorphWords$Letters", "exchange", "(II)V"⟩ ∈ gtbl := List.mem_of_getElem? (i := 421) (by decide +kernel)
theorem g_422 : Cond.methodLink "MorphWordsLaw" (32 : Nat) ⟨"MorphWords", "start", "(I)I"⟩ ∈ gtbl := List.mem_of_getElem? (i := 422) (by decide +kernel)
theorem g_423 : Cond.instanceMethod ⟨"MorphWords", "start", "(I)I"⟩ ∈ gtbl := List.mem_of_getElem? (i := 423) (by decide +kernel)
theorem g_424 : Cond.selects "MorphWords" ⟨"MorphWords", "start", "(I)I"⟩ ⟨"MorphWords", "start", "(I)I"⟩ ∈ gtbl := List.mem_of_getElem? (i := 424) (by decide +kernel)
theorem g_425 : Cond.code ⟨"MorphWords", "start", "(I)I"⟩ prog_1_method_6_code (3 : Nat) (Option.some FieldType.int) ∈ gtbl := List.mem_of_getElem? (i := 425) (by decide +kernel)
theorem g_426 : Cond.methodLink "MorphWords" (148 : Nat) ⟨"MorphWords$Letters", "length", "()I"⟩ ∈ gtbl := List.mem_of_getElem? (i := 426) (by decide +kernel)
theorem g_427 : Cond.methodLink "MorphWords" (151 : Nat) ⟨"MorphWords$Letters", "clear", "()V"⟩ ∈ gtbl := List.mem_of_getElem? (i := 427) (by decide +kernel)
theorem g_428 : Cond.methodLink "MorphWords" (154 : Nat) ⟨"MorphWords$Letters", "add", "(I)Z"⟩ ∈ gtbl := List.mem_of_getElem? (i := 428) (by decide +kernel)
theorem g_429 : Cond.methodLink "MorphWords" (157 : Nat) ⟨"MorphWords", "takeNextWord", "()Z"⟩ ∈ gtbl := List.mem_of_getElem? (i := 429) (by decide +kernel)
theorem g_430 : Cond.instanceMethod ⟨"MorphWords", "takeNextWord", "()Z"⟩ ∈ gtbl := List.mem_of_getElem? (i := 430) (by decide +kernel)
theorem g_431 : Cond.code ⟨"MorphWords", "takeNextWord", "()Z"⟩ prog_1_method_33_code (1 : Nat) (Option.some FieldType.boolean) ∈ gtbl := List.mem_of_getElem? (i := 431) (by decide +kernel)
theorem g_432 : Cond.methodLink "MorphWords" (189 : Nat) ⟨"MorphWords$Letters", "same", "(LMorphWords$Letters;)Z"⟩ ∈ gtbl := List.mem_of_getElem? (i := 432) (by decide +kernel)
theorem g_433 : Cond.methodLink "MorphWords" (160 : Nat) ⟨"MorphWords$Letters", "become", "(LMorphWords$Letters;)V"⟩ ∈ gtbl := List.mem_of_getElem? (i := 433) (by decide +kernel)
theorem g_434 : Cond.methodLink "MorphWordsLaw" (37 : Nat) ⟨"MorphWords", "grow", "(I)I"⟩ ∈ gtbl := List.mem_of_getElem? (i := 434) (by decide +kernel)
theorem g_435 : Cond.instanceMethod ⟨"MorphWords", "grow", "(I)I"⟩ ∈ gtbl := List.mem_of_getElem? (i := 435) (by decide +kernel)
theorem g_436 : Cond.selects "MorphWords" ⟨"MorphWords", "grow", "(I)I"⟩ ⟨"MorphWords", "grow", "(I)I"⟩ ∈ gtbl := List.mem_of_getElem? (i := 436) (by decide +kernel)
theorem g_437 : Cond.code ⟨"MorphWords", "grow", "(I)I"⟩ prog_1_method_7_code (3 : Nat) (Option.some FieldType.int) ∈ gtbl := List.mem_of_getElem? (i := 437) (by decide +kernel)
theorem g_438 : Cond.methodLink "MorphWords" (163 : Nat) ⟨"MorphWords$Rule", "addImage", "(LMorphWords$Letters;LMorphWords$Letters;)Z"⟩ ∈ gtbl := List.mem_of_getElem? (i := 438) (by decide +kernel)
theorem g_439 : Cond.methodLink "MorphWordsLaw" (41 : Nat) ⟨"MorphWords", "cut", "(I)I"⟩ ∈ gtbl := List.mem_of_getElem? (i := 439) (by decide +kernel)
theorem g_440 : Cond.instanceMethod ⟨"MorphWords", "cut", "(I)I"⟩ ∈ gtbl := List.mem_of_getElem? (i := 440) (by decide +kernel)
theorem g_441 : Cond.selects "MorphWords" ⟨"MorphWords", "cut", "(I)I"⟩ ⟨"MorphWords", "cut", "(I)I"⟩ ∈ gtbl := List.mem_of_getElem? (i := 441) (by decide +kernel)
theorem g_442 : Cond.code ⟨"MorphWords", "cut", "(I)I"⟩ prog_1_method_8_code (3 : Nat) (Option.some FieldType.int) ∈ gtbl := List.mem_of_getElem? (i := 442) (by decide +kernel)
theorem g_443 : Cond.methodLink "MorphWords" (167 : Nat) ⟨"MorphWords$Letters", "shorten", "(I)V"⟩ ∈ gtbl := List.mem_of_getElem? (i := 443) (by decide +kernel)
theorem g_444 : Cond.instanceMethod ⟨"MorphWords$Letters", "shorten", "(I)V"⟩ ∈ gtbl := List.mem_of_getElem? (i := 444) (by decide +kernel)
theorem g_445 : Cond.selects "MorphWords$Letters" ⟨"MorphWords$Letters", "shorten", "(I)V"⟩ ⟨"MorphWords$Letters", "shorten", "(I)V"⟩ ∈ gtbl := List.mem_of_getElem? (i := 445) (by decide +kernel)
theorem g_446 : Cond.code ⟨"MorphWords$Letters", "shorten", "(I)V"⟩ prog_4_method_7_code (2 : Nat) (Option.none : Option FieldType) ∈ gtbl := List.mem_of_getElem? (i := 446) (by decide +kernel)
theorem g_447 : Cond.methodLink "MorphWordsLaw" (45 : Nat) ⟨"MorphWords", "derive", "()I"⟩ ∈ gtbl := List.mem_of_getElem? (i := 447) (by decide +kernel)
theorem g_448 : Cond.instanceMethod ⟨"MorphWords", "derive", "()I"⟩ ∈ gtbl := List.mem_of_getElem? (i := 448) (by decide +kernel)
theorem g_449 : Cond.selects "MorphWords" ⟨"MorphWords", "derive", "()I"⟩ ⟨"MorphWords", "derive", "()I"⟩ ∈ gtbl := List.mem_of_getElem? (i := 449) (by decide +kernel)
theorem g_450 : Cond.code ⟨"MorphWords", "derive", "()I"⟩ prog_1_method_9_code (2 : Nat) (Option.some FieldType.int) ∈ gtbl := List.mem_of_getElem? (i := 450) (by decide +kernel)
theorem g_451 : Cond.methodLink "MorphWords" (173 : Nat) ⟨"MorphWords$ReturnTable", "find", "(LMorphWords$Letters;LMorphWords$Letters;)V"⟩ ∈ gtbl := List.mem_of_getElem? (i := 451) (by decide +kernel)
theorem g_452 : Cond.instanceMethod ⟨"MorphWords$ReturnTable", "find", "(LMorphWords$Letters;LMorphWords$Letters;)V"⟩ ∈ gtbl := List.mem_of_getElem? (i := 452) (by decide +kernel)
theorem g_453 : Cond.selects "MorphWords$ReturnTable" ⟨"MorphWords$ReturnTable", "find", "(LMorphWords$Letters;LMorphWords$Letters;)V"⟩ ⟨"MorphWords$ReturnTable", "find", "(LMorphWords$Letters;LMorphWords$Letters;)V"⟩ ∈ gtbl := List.mem_of_getElem? (i := 453) (by decide +kernel)
theorem g_454 : Cond.code ⟨"MorphWords$ReturnTable", "find", "(LMorphWords$Letters;LMorphWords$Letters;)V"⟩ prog_8_method_2_code (4 : Nat) (Option.none : Option FieldType) ∈ gtbl := List.mem_of_getElem? (i := 454) (by decide +kernel)
theorem g_455 : Cond.methodLink "MorphWords$ReturnTable" (31 : Nat) ⟨"MorphWords$Letters", "length", "()I"⟩ ∈ gtbl := List.mem_of_getElem? (i := 455) (by decide +kernel)
theorem g_456 : Cond.methodLink "MorphWords$ReturnTable" (37 : Nat) ⟨"MorphWords$Letters", "hasFrom", "(ILMorphWords$Letters;)Z"⟩ ∈ gtbl := List.mem_of_getElem? (i := 456) (by decide +kernel)
theorem g_457 : Cond.methodLink "MorphWords$ReturnTable" (41 : Nat) ⟨"MorphWords$ReturnTable", "rowLength", "()I"⟩ ∈ gtbl := List.mem_of_getElem? (i := 457) (by decide +kernel)
theorem g_458 : Cond.instanceMethod ⟨"MorphWords$ReturnTable", "rowLength", "()I"⟩ ∈ gtbl := List.mem_of_getElem? (i := 458) (by decide +kernel)
theorem g_459 : Cond.selects "MorphWords$ReturnTable" ⟨"MorphWords$ReturnTable", "rowLength", "()I"⟩ ⟨"MorphWords$ReturnTable", "rowLength", "()I"⟩ ∈ gtbl := List.mem_of_getElem? (i := 459) (by decide +kernel)
theorem g_460 : Cond.code ⟨"MorphWords$ReturnTable", "rowLength", "()I"⟩ prog_8_method_8_code (1 : Nat) (Option.some FieldType.int) ∈ gtbl := List.mem_of_getElem? (i := 460) (by decide +kernel)
theorem g_461 : Cond.methodLink "MorphWords$ReturnTable" (63 : Nat) ⟨"java/lang/Math", "max", "(II)I"⟩ ∈ gtbl := List.mem_of_getElem? (i := 461) (by decide +kernel)
theorem g_462 : Cond.methodLink "MorphWords$ReturnTable" (44 : Nat) ⟨"MorphWords$ReturnTable", "addReturn", "(LMorphWords$Letters;I)V"⟩ ∈ gtbl := List.mem_of_getElem? (i := 462) (by decide +kernel)
theorem g_463 : Cond.instanceMethod ⟨"MorphWords$ReturnTable", "addReturn", "(LMorphWords$Letters;I)V"⟩ ∈ gtbl := List.mem_of_getElem? (i := 463) (by decide +kernel)
theorem g_464 : Cond.code ⟨"MorphWords$ReturnTable", "addReturn", "(LMorphWords$Letters;I)V"⟩ prog_8_method_3_code (4 : Nat) (Option.none : Option FieldType) ∈ gtbl := List.mem_of_getElem? (i := 464) (by decide +kernel)
theorem g_465 : Cond.methodLink "MorphWords$ReturnTable" (48 : Nat) ⟨"MorphWords$ReturnTable", "isSameReturn", "(LMorphWords$Letters;II)Z"⟩ ∈ gtbl := List.mem_of_getElem? (i := 465) (by decide +kernel)
theorem g_466 : Cond.instanceMethod ⟨"MorphWords$ReturnTable", "isSameReturn", "(LMorphWords$Letters;II)Z"⟩ ∈ gtbl := List.mem_of_getElem? (i := 466) (by decide +kernel)
theorem g_467 : Cond.code ⟨"MorphWords$ReturnTable", "isSameReturn", "(LMorphWords$Letters;II)Z"⟩ prog_8_method_4_code (5 : Nat) (Option.some FieldType.boolean) ∈ gtbl := List.mem_of_getElem? (i := 467) (by decide +kernel)
theorem g_468 : Cond.methodLink "MorphWords$ReturnTable" (52 : Nat) ⟨"MorphWords$ReturnTable", "spanOf", "(I)I"⟩ ∈ gtbl := List.mem_of_getElem? (i := 468) (by decide +kernel)
theorem g_469 : Cond.instanceMethod ⟨"MorphWords$ReturnTable", "spanOf", "(I)I"⟩ ∈ gtbl := List.mem_of_getElem? (i := 469) (by decide +kernel)
theorem g_470 : Cond.code ⟨"MorphWords$ReturnTable", "spanOf", "(I)I"⟩ prog_8_method_5_code (2 : Nat) (Option.some FieldType.int) ∈ gtbl := List.mem_of_getElem? (i := 470) (by decide +kernel)
theorem g_471 : Cond.methodLink "MorphWords$ReturnTable" (56 : Nat) ⟨"MorphWords$ReturnTable", "placeOf", "(I)I"⟩ ∈ gtbl := List.mem_of_getElem? (i := 471) (by decide +kernel)
theorem g_472 : Cond.instanceMethod ⟨"MorphWords$ReturnTable", "placeOf", "(I)I"⟩ ∈ gtbl := List.mem_of_getElem? (i := 472) (by decide +kernel)
theorem g_473 : Cond.selects "MorphWords$ReturnTable" ⟨"MorphWords$ReturnTable", "placeOf", "(I)I"⟩ ⟨"MorphWords$ReturnTable", "placeOf", "(I)I"⟩ ∈ gtbl := List.mem_of_getElem? (i := 473) (by decide +kernel)
theorem g_474 : Cond.code ⟨"MorphWords$ReturnTable", "placeOf", "(I)I"⟩ prog_8_method_7_code (2 : Nat) (Option.some FieldType.int) ∈ gtbl := List.mem_of_getElem? (i := 474) (by decide +kernel)
theorem g_475 : Cond.methodLink "MorphWords$ReturnTable" (59 : Nat) ⟨"MorphWords$Letters", "repeats", "(III)Z"⟩ ∈ gtbl := List.mem_of_getElem? (i := 475) (by decide +kernel)
theorem g_476 : Cond.instanceMethod ⟨"MorphWords$Letters", "repeats", "(III)Z"⟩ ∈ gtbl := List.mem_of_getElem? (i := 476) (by decide +kernel)
theorem g_477 : Cond.selects "MorphWords$Letters" ⟨"MorphWords$Letters", "repeats", "(III)Z"⟩ ⟨"MorphWords$Letters", "repeats", "(III)Z"⟩ ∈ gtbl := List.mem_of_getElem? (i := 477) (by decide +kernel)
theorem g_478 : Cond.code ⟨"MorphWords$Letters", "repeats", "(III)Z"⟩ prog_4_method_11_code (5 : Nat) (Option.some FieldType.boolean) ∈ gtbl := List.mem_of_getElem? (i := 478) (by decide +kernel)
theorem g_479 : Cond.methodLink "MorphWords" (177 : Nat) ⟨"MorphWords$ReturnTable", "rowLength", "()I"⟩ ∈ gtbl := List.mem_of_getElem? (i := 479) (by decide +kernel)
theorem g_480 : Cond.methodLink "MorphWords" (180 : Nat) ⟨"MorphWords$ReturnTable", "different", "()I"⟩ ∈ gtbl := List.mem_of_getElem? (i := 480) (by decide +kernel)
theorem g_481 : Cond.instanceMethod ⟨"MorphWords$ReturnTable", "different", "()I"⟩ ∈ gtbl := List.mem_of_getElem? (i := 481) (by decide +kernel)
theorem g_482 : Cond.selects "MorphWords$ReturnTable" ⟨"MorphWords$ReturnTable", "different", "()I"⟩ ⟨"MorphWords$ReturnTable", "different", "()I"⟩ ∈ gtbl := List.mem_of_getElem? (i := 482) (by decide +kernel)
theorem g_483 : Cond.code ⟨"MorphWords$ReturnTable", "different", "()I"⟩ prog_8_method_10_code (1 : Nat) (Option.some FieldType.int) ∈ gtbl := List.mem_of_getElem? (i := 483) (by decide +kernel)
theorem g_484 : Cond.methodLink "MorphWords" (183 : Nat) ⟨"MorphWords$ReturnTable", "numberAt", "(I)I"⟩ ∈ gtbl := List.mem_of_getElem? (i := 484) (by decide +kernel)
theorem g_485 : Cond.instanceMethod ⟨"MorphWords$ReturnTable", "numberAt", "(I)I"⟩ ∈ gtbl := List.mem_of_getElem? (i := 485) (by decide +kernel)
theorem g_486 : Cond.selects "MorphWords$ReturnTable" ⟨"MorphWords$ReturnTable", "numberAt", "(I)I"⟩ ⟨"MorphWords$ReturnTable", "numberAt", "(I)I"⟩ ∈ gtbl := List.mem_of_getElem? (i := 486) (by decide +kernel)
theorem g_487 : Cond.code ⟨"MorphWords$ReturnTable", "numberAt", "(I)I"⟩ prog_8_method_9_code (2 : Nat) (Option.some FieldType.int) ∈ gtbl := List.mem_of_getElem? (i := 487) (by decide +kernel)
theorem g_488 : Cond.methodLink "MorphWordsLaw" (49 : Nat) ⟨"MorphWords", "look", "()I"⟩ ∈ gtbl := List.mem_of_getElem? (i := 488) (by decide +kernel)
theorem g_489 : Cond.instanceMethod ⟨"MorphWords", "look", "()I"⟩ ∈ gtbl := List.mem_of_getElem? (i := 489) (by decide +kernel)
theorem g_490 : Cond.selects "MorphWords" ⟨"MorphWords", "look", "()I"⟩ ⟨"MorphWords", "look", "()I"⟩ ∈ gtbl := List.mem_of_getElem? (i := 490) (by decide +kernel)
theorem g_491 : Cond.code ⟨"MorphWords", "look", "()I"⟩ prog_1_method_10_code (2 : Nat) (Option.some FieldType.int) ∈ gtbl := List.mem_of_getElem? (i := 491) (by decide +kernel)
theorem g_492 : Cond.methodLink "MorphWords" (186 : Nat) ⟨"MorphWords$Text", "readInto", "(LMorphWords$Letters;)I"⟩ ∈ gtbl := List.mem_of_getElem? (i := 492) (by decide +kernel)
theorem g_493 : Cond.instanceMethod ⟨"MorphWords$Text", "readInto", "(LMorphWords$Letters;)I"⟩ ∈ gtbl := List.mem_of_getElem? (i := 493) (by decide +kernel)
theorem g_494 : Cond.selects "MorphWords$Text" ⟨"MorphWords$Text", "readInto", "(LMorphWords$Letters;)I"⟩ ⟨"MorphWords$Text", "readInto", "(LMorphWords$Letters;)I"⟩ ∈ gtbl := List.mem_of_getElem? (i := 494) (by decide +kernel)
theorem g_495 : Cond.code ⟨"MorphWords$Text", "readInto", "(LMorphWords$Letters;)I"⟩ prog_11_method_9_code (3 : Nat) (Option.some FieldType.int) ∈ gtbl := List.mem_of_getElem? (i := 495) (by decide +kernel)
theorem g_496 : Cond.methodLink "MorphWords" (193 : Nat) ⟨"MorphWords$ReturnTable", "found", "()I"⟩ ∈ gtbl := List.mem_of_getElem? (i := 496) (by decide +kernel)
theorem g_497 : Cond.instanceMethod ⟨"MorphWords$ReturnTable", "found", "()I"⟩ ∈ gtbl := List.mem_of_getElem? (i := 497) (by decide +kernel)
theorem g_498 : Cond.selects "MorphWords$ReturnTable" ⟨"MorphWords$ReturnTable", "found", "()I"⟩ ⟨"MorphWords$ReturnTable", "found", "()I"⟩ ∈ gtbl := List.mem_of_getElem? (i := 498) (by decide +kernel)
theorem g_499 : Cond.code ⟨"MorphWords$ReturnTable", "found", "()I"⟩ prog_8_method_6_code (1 : Nat) (Option.some FieldType.int) ∈ gtbl := List.mem_of_getElem? (i := 499) (by decide +kernel)
theorem g_500 : Cond.methodLink "MorphWordsLaw" (53 : Nat) ⟨"MorphWords", "type", "(C)I"⟩ ∈ gtbl := List.mem_of_getElem? (i := 500) (by decide +kernel)
theorem g_501 : Cond.instanceMethod ⟨"MorphWords", "type", "(C)I"⟩ ∈ gtbl := List.mem_of_getElem? (i := 501) (by decide +kernel)
theorem g_502 : Cond.selects "MorphWords" ⟨"MorphWords", "type", "(C)I"⟩ ⟨"MorphWords", "type", "(C)I"⟩ ∈ gtbl := List.mem_of_getElem? (i := 502) (by decide +kernel)
theorem g_503 : Cond.code ⟨"MorphWords", "type", "(C)I"⟩ prog_1_method_11_code (2 : Nat) (Option.some FieldType.int) ∈ gtbl := List.mem_of_getElem? (i := 503) (by decide +kernel)
theorem g_504 : Cond.methodLink "MorphWords" (196 : Nat) ⟨"MorphWords$Text", "add", "(C)Z"⟩ ∈ gtbl := List.mem_of_getElem? (i := 504) (by decide +kernel)
theorem g_505 : Cond.instanceMethod ⟨"MorphWords$Text", "add", "(C)Z"⟩ ∈ gtbl := List.mem_of_getElem? (i := 505) (by decide +kernel)
theorem g_506 : Cond.selects "MorphWords$Text" ⟨"MorphWords$Text", "add", "(C)Z"⟩ ⟨"MorphWords$Text", "add", "(C)Z"⟩ ∈ gtbl := List.mem_of_getElem? (i := 506) (by decide +kernel)
theorem g_507 : Cond.code ⟨"MorphWords$Text", "add", "(C)Z"⟩ prog_11_method_4_code (2 : Nat) (Option.some FieldType.boolean) ∈ gtbl := List.mem_of_getElem? (i := 507) (by decide +kernel)
theorem g_508 : Cond.methodLink "MorphWords" (199 : Nat) ⟨"MorphWords$Text", "length", "()I"⟩ ∈ gtbl := List.mem_of_getElem? (i := 508) (by decide +kernel)
theorem g_509 : Cond.instanceMethod ⟨"MorphWords$Text", "length", "()I"⟩ ∈ gtbl := List.mem_of_getElem? (i := 509) (by decide +kernel)
theorem g_510 : Cond.selects "MorphWords$Text" ⟨"MorphWords$Text", "length", "()I"⟩ ⟨"MorphWords$Text", "length", "()I"⟩ ∈ gtbl := List.mem_of_getElem? (i := 510) (by decide +kernel)
theorem g_511 : Cond.code ⟨"MorphWords$Text", "length", "()I"⟩ prog_11_method_2_code (1 : Nat) (Option.some FieldType.int) ∈ gtbl := List.mem_of_getElem? (i := 511) (by decide +kernel)
theorem g_512 : Cond.methodLink "MorphWordsLaw" (58 : Nat) ⟨"MorphWords", "clearText", "()I"⟩ ∈ gtbl := List.mem_of_getElem? (i := 512) (by decide +kernel)
theorem g_513 : Cond.instanceMethod ⟨"MorphWords", "clearText", "()I"⟩ ∈ gtbl := List.mem_of_getElem? (i := 513) (by decide +kernel)
theorem g_514 : Cond.selects "MorphWords" ⟨"MorphWords", "clearText", "()I"⟩ ⟨"MorphWords", "clearText", "()I"⟩ ∈ gtbl := List.mem_of_getElem? (i := 514) (by decide +kernel)
theorem g_515 : Cond.code ⟨"MorphWords", "clearText", "()I"⟩ prog_1_method_12_code (2 : Nat) (Option.some FieldType.int) ∈ gtbl := List.mem_of_getElem? (i := 515) (by decide +kernel)
theorem g_516 : Cond.methodLink "MorphWords" (200 : Nat) ⟨"MorphWords$Text", "clear", "()V"⟩ ∈ gtbl := List.mem_of_getElem? (i := 516) (by decide +kernel)
theorem g_517 : Cond.instanceMethod ⟨"MorphWords$Text", "clear", "()V"⟩ ∈ gtbl := List.mem_of_getElem? (i := 517) (by decide +kernel)
theorem g_518 : Cond.selects "MorphWords$Text" ⟨"MorphWords$Text", "clear", "()V"⟩ ⟨"MorphWords$Text", "clear", "()V"⟩ ∈ gtbl := List.mem_of_getElem? (i := 518) (by decide +kernel)
theorem g_519 : Cond.code ⟨"MorphWords$Text", "clear", "()V"⟩ prog_11_method_3_code (1 : Nat) (Option.none : Option FieldType) ∈ gtbl := List.mem_of_getElem? (i := 519) (by decide +kernel)
theorem g_520 : Cond.methodLink "MorphWordsLaw" (62 : Nat) ⟨"MorphWords", "undo", "()I"⟩ ∈ gtbl := List.mem_of_getElem? (i := 520) (by decide +kernel)
theorem g_521 : Cond.instanceMethod ⟨"MorphWords", "undo", "()I"⟩ ∈ gtbl := List.mem_of_getElem? (i := 521) (by decide +kernel)
theorem g_522 : Cond.selects "MorphWords" ⟨"MorphWords", "undo", "()I"⟩ ⟨"MorphWords", "undo", "()I"⟩ ∈ gtbl := List.mem_of_getElem? (i := 522) (by decide +kernel)
theorem g_523 : Cond.code ⟨"MorphWords", "undo", "()I"⟩ prog_1_method_13_code (1 : Nat) (Option.some FieldType.int) ∈ gtbl := List.mem_of_getElem? (i := 523) (by decide +kernel)
theorem g_524 : Cond.methodLink "MorphWords" (201 : Nat) ⟨"MorphWords$History", "takeBack", "(LMorphWords$State;)Z"⟩ ∈ gtbl := List.mem_of_getElem? (i := 524) (by decide +kernel)
theorem g_525 : Cond.instanceMethod ⟨"MorphWords$History", "takeBack", "(LMorphWords$State;)Z"⟩ ∈ gtbl := List.mem_of_getElem? (i := 525) (by decide +kernel)
theorem g_526 : Cond.selects "MorphWords$History" ⟨"MorphWords$History", "takeBack", "(LMorphWords$State;)Z"⟩ ⟨"MorphWords$History", "takeBack", "(LMorphWords$State;)Z"⟩ ∈ gtbl := List.mem_of_getElem? (i := 526) (by decide +kernel)
theorem g_527 : Cond.code ⟨"MorphWords$History", "takeBack", "(LMorphWords$State;)Z"⟩ prog_3_method_5_code (2 : Nat) (Option.some FieldType.boolean) ∈ gtbl := List.mem_of_getElem? (i := 527) (by decide +kernel)
theorem g_528 : Cond.methodLink "MorphWords" (205 : Nat) ⟨"MorphWords$History", "held", "()I"⟩ ∈ gtbl := List.mem_of_getElem? (i := 528) (by decide +kernel)
theorem g_529 : Cond.instanceMethod ⟨"MorphWords$History", "held", "()I"⟩ ∈ gtbl := List.mem_of_getElem? (i := 529) (by decide +kernel)
theorem g_530 : Cond.selects "MorphWords$History" ⟨"MorphWords$History", "held", "()I"⟩ ⟨"MorphWords$History", "held", "()I"⟩ ∈ gtbl := List.mem_of_getElem? (i := 530) (by decide +kernel)
theorem g_531 : Cond.code ⟨"MorphWords$History", "held", "()I"⟩ prog_3_method_2_code (1 : Nat) (Option.some FieldType.int) ∈ gtbl := List.mem_of_getElem? (i := 531) (by decide +kernel)
theorem g_532 : Cond.methodLink "MorphWordsLaw" (66 : Nat) ⟨"MorphWords", "keep", "()I"⟩ ∈ gtbl := List.mem_of_getElem? (i := 532) (by decide +kernel)
theorem g_533 : Cond.instanceMethod ⟨"MorphWords", "keep", "()I"⟩ ∈ gtbl := List.mem_of_getElem? (i := 533) (by decide +kernel)
theorem g_534 : Cond.selects "MorphWords" ⟨"MorphWords", "keep", "()I"⟩ ⟨"MorphWords", "keep", "()I"⟩ ∈ gtbl := List.mem_of_getElem? (i := 534) (by decide +kernel)
theorem g_535 : Cond.code ⟨"MorphWords", "keep", "()I"⟩ prog_1_method_14_code (1 : Nat) (Option.some FieldType.int) ∈ gtbl := List.mem_of_getElem? (i := 535) (by decide +kernel)
theorem g_536 : Cond.methodLink "MorphWords" (208 : Nat) ⟨"MorphWords$State", "become", "(LMorphWords$State;)V"⟩ ∈ gtbl := List.mem_of_getElem? (i := 536) (by decide +kernel)
theorem g_537 : Cond.methodLink "MorphWordsLaw" (70 : Nat) ⟨"MorphWords", "restore", "()I"⟩ ∈ gtbl := List.mem_of_getElem? (i := 537) (by decide +kernel)
theorem g_538 : Cond.instanceMethod ⟨"MorphWords", "restore", "()I"⟩ ∈ gtbl := List.mem_of_getElem? (i := 538) (by decide +kernel)
theorem g_539 : Cond.selects "MorphWords" ⟨"MorphWords", "restore", "()I"⟩ ⟨"MorphWords", "restore", "()I"⟩ ∈ gtbl := List.mem_of_getElem? (i := 539) (by decide +kernel)
theorem g_540 : Cond.code ⟨"MorphWords", "restore", "()I"⟩ prog_1_method_15_code (1 : Nat) (Option.some FieldType.int) ∈ gtbl := List.mem_of_getElem? (i := 540) (by decide +kernel)
theorem g_541 : Cond.methodLink "MorphWordsLaw" (74 : Nat) ⟨"MorphWords", "image", "(II)I"⟩ ∈ gtbl := List.mem_of_getElem? (i := 541) (by decide +kernel)
theorem g_542 : Cond.instanceMethod ⟨"MorphWords", "image", "(II)I"⟩ ∈ gtbl := List.mem_of_getElem? (i := 542) (by decide +kernel)
theorem g_543 : Cond.selects "MorphWords" ⟨"MorphWords", "image", "(II)I"⟩ ⟨"MorphWords", "image", "(II)I"⟩ ∈ gtbl := List.mem_of_getElem? (i := 543) (by decide +kernel)
theorem g_544 : Cond.code ⟨"MorphWords", "image", "(II)I"⟩ prog_1_method_16_code (4 : Nat) (Option.some FieldType.int) ∈ gtbl := List.mem_of_getElem? (i := 544) (by decide +kernel)
theorem g_545 : Cond.methodLink "MorphWords" (210 : Nat) ⟨"MorphWords$Rule", "imageOf", "(I)LMorphWords$Letters;"⟩ ∈ gtbl := List.mem_of_getElem? (i := 545) (by decide +kernel)
theorem g_546 : Cond.methodLink "MorphWords" (214 : Nat) ⟨"MorphWords$Letters", "letterAt", "(I)I"⟩ ∈ gtbl := List.mem_of_getElem? (i := 546) (by decide +kernel)
theorem g_547 : Cond.methodLink "MorphWordsLaw" (78 : Nat) ⟨"MorphWords", "rule", "(II)I"⟩ ∈ gtbl := List.mem_of_getElem? (i := 547) (by decide +kernel)
theorem g_548 : Cond.instanceMethod ⟨"MorphWords", "rule", "(II)I"⟩ ∈ gtbl := List.mem_of_getElem? (i := 548) (by decide +kernel)
theorem g_549 : Cond.selects "MorphWords" ⟨"MorphWords", "rule", "(II)I"⟩ ⟨"MorphWords", "rule", "(II)I"⟩ ∈ gtbl := List.mem_of_getElem? (i := 549) (by decide +kernel)
theorem g_550 : Cond.code ⟨"MorphWords", "rule", "(II)I"⟩ prog_1_method_17_code (4 : Nat) (Option.some FieldType.int) ∈ gtbl := List.mem_of_getElem? (i := 550) (by decide +kernel)
theorem g_551 : Cond.methodLink "MorphWords" (217 : Nat) ⟨"MorphWords$Letters", "bits", "()I"⟩ ∈ gtbl := List.mem_of_getElem? (i := 551) (by decide +kernel)
theorem g_552 : Cond.instanceMethod ⟨"MorphWords$Letters", "bits", "()I"⟩ ∈ gtbl := List.mem_of_getElem? (i := 552) (by decide +kernel)
theorem g_553 : Cond.selects "MorphWords$Letters" ⟨"MorphWords$Letters", "bits", "()I"⟩ ⟨"MorphWords$Letters", "bits", "()I"⟩ ∈ gtbl := List.mem_of_getElem? (i := 553) (by decide +kernel)
theorem g_554 : Cond.code ⟨"MorphWords$Letters", "bits", "()I"⟩ prog_4_method_13_code (3 : Nat) (Option.some FieldType.int) ∈ gtbl := List.mem_of_getElem? (i := 554) (by decide +kernel)
theorem g_555 : Cond.methodLink "MorphWords" (220 : Nat) ⟨"MorphWords$Rule", "reachedFrom", "(I)I"⟩ ∈ gtbl := List.mem_of_getElem? (i := 555) (by decide +kernel)
theorem g_556 : Cond.instanceMethod ⟨"MorphWords$Rule", "reachedFrom", "(I)I"⟩ ∈ gtbl := List.mem_of_getElem? (i := 556) (by decide +kernel)
theorem g_557 : Cond.selects "MorphWords$Rule" ⟨"MorphWords$Rule", "reachedFrom", "(I)I"⟩ ⟨"MorphWords$Rule", "reachedFrom", "(I)I"⟩ ∈ gtbl := List.mem_of_getElem? (i := 557) (by decide +kernel)
theorem g_558 : Cond.code ⟨"MorphWords$Rule", "reachedFrom", "(I)I"⟩ prog_9_method_13_code (4 : Nat) (Option.some FieldType.int) ∈ gtbl := List.mem_of_getElem? (i := 558) (by decide +kernel)
theorem g_559 : Cond.methodLink "MorphWords$Rule" (80 : Nat) ⟨"MorphWords$Rule", "ledToFrom", "(I)I"⟩ ∈ gtbl := List.mem_of_getElem? (i := 559) (by decide +kernel)
theorem g_560 : Cond.instanceMethod ⟨"MorphWords$Rule", "ledToFrom", "(I)I"⟩ ∈ gtbl := List.mem_of_getElem? (i := 560) (by decide +kernel)
theorem g_561 : Cond.code ⟨"MorphWords$Rule", "ledToFrom", "(I)I"⟩ prog_9_method_12_code (4 : Nat) (Option.some FieldType.int) ∈ gtbl := List.mem_of_getElem? (i := 561) (by decide +kernel)
theorem g_562 : Cond.static ⟨"MorphWords", "hasLetter", "(II)Z"⟩ ∈ gtbl := List.mem_of_getElem? (i := 562) (by decide +kernel)
theorem g_563 : Cond.code ⟨"MorphWords", "hasLetter", "(II)Z"⟩ prog_1_method_35_code (2 : Nat) (Option.some FieldType.boolean) ∈ gtbl := List.mem_of_getElem? (i := 563) (by decide +kernel)
theorem g_564 : Cond.methodLink "MorphWords$Rule" (77 : Nat) ⟨"MorphWords$Letters", "bits", "()I"⟩ ∈ gtbl := List.mem_of_getElem? (i := 564) (by decide +kernel)
theorem g_565 : Cond.methodLink "MorphWordsLaw" (82 : Nat) ⟨"MorphWords", "lengthBehind", "(II)I"⟩ ∈ gtbl := List.mem_of_getElem? (i := 565) (by decide +kernel)
theorem g_566 : Cond.instanceMethod ⟨"MorphWords", "lengthBehind", "(II)I"⟩ ∈ gtbl := List.mem_of_getElem? (i := 566) (by decide +kernel)
theorem g_567 : Cond.selects "MorphWords" ⟨"MorphWords", "lengthBehind", "(II)I"⟩ ⟨"MorphWords", "lengthBehind", "(II)I"⟩ ∈ gtbl := List.mem_of_getElem? (i := 567) (by decide +kernel)
theorem g_568 : Cond.code ⟨"MorphWords", "lengthBehind", "(II)I"⟩ prog_1_method_18_code (3 : Nat) (Option.some FieldType.int) ∈ gtbl := List.mem_of_getElem? (i := 568) (by decide +kernel)
theorem g_569 : Cond.methodLink "MorphWords" (223 : Nat) ⟨"MorphWords$Powers", "find", "(LMorphWords$Rule;II)Z"⟩ ∈ gtbl := List.mem_of_getElem? (i := 569) (by decide +kernel)
theorem g_570 : Cond.instanceMethod ⟨"MorphWords$Powers", "find", "(LMorphWords$Rule;II)Z"⟩ ∈ gtbl := List.mem_of_getElem? (i := 570) (by decide +kernel)
theorem g_571 : Cond.selects "MorphWords$Powers" ⟨"MorphWords$Powers", "find", "(LMorphWords$Rule;II)Z"⟩ ⟨"MorphWords$Powers", "find", "(LMorphWords$Rule;II)Z"⟩ ∈ gtbl := List.mem_of_getElem? (i := 571) (by decide +kernel)
theorem g_572 : Cond.code ⟨"MorphWords$Powers", "find", "(LMorphWords$Rule;II)Z"⟩ prog_7_method_2_code (5 : Nat) (Option.some FieldType.boolean) ∈ gtbl := List.mem_of_getElem? (i := 572) (by decide +kernel)
theorem g_573 : Cond.methodLink "MorphWords$Powers" (18 : Nat) ⟨"MorphWords$Powers", "total", "()I"⟩ ∈ gtbl := List.mem_of_getElem? (i := 573) (by decide +kernel)
theorem g_574 : Cond.instanceMethod ⟨"MorphWords$Powers", "total", "()I"⟩ ∈ gtbl := List.mem_of_getElem? (i := 574) (by decide +kernel)
theorem g_575 : Cond.selects "MorphWords$Powers" ⟨"MorphWords$Powers", "total", "()I"⟩ ⟨"MorphWords$Powers", "total", "()I"⟩ ∈ gtbl := List.mem_of_getElem? (i := 575) (by decide +kernel)
theorem g_576 : Cond.code ⟨"MorphWords$Powers", "total", "()I"⟩ prog_7_method_4_code (3 : Nat) (Option.some FieldType.int) ∈ gtbl := List.mem_of_getElem? (i := 576) (by decide +kernel)
theorem g_577 : Cond.constant "MorphWords$Powers" (22 : Nat) (1000000 : Int32) ∈ gtbl := List.mem_of_getElem? (i := 577) (by decide +kernel)
theorem g_578 : Cond.methodLink "MorphWords$Powers" (23 : Nat) ⟨"MorphWords$Powers", "goOn", "(LMorphWords$Rule;)V"⟩ ∈ gtbl := List.mem_of_getElem? (i := 578) (by decide +kernel)
theorem g_579 : Cond.instanceMethod ⟨"MorphWords$Powers", "goOn", "(LMorphWords$Rule;)V"⟩ ∈ gtbl := List.mem_of_getElem? (i := 579) (by decide +kernel)
theorem g_580 : Cond.code ⟨"MorphWords$Powers", "goOn", "(LMorphWords$Rule;)V"⟩ prog_7_method_3_code (4 : Nat) (Option.none : Option FieldType) ∈ gtbl := List.mem_of_getElem? (i := 580) (by decide +kernel)
theorem g_581 : Cond.methodLink "MorphWords$Powers" (27 : Nat) ⟨"MorphWords$Rule", "imageOf", "(I)LMorphWords$Letters;"⟩ ∈ gtbl := List.mem_of_getElem? (i := 581) (by decide +kernel)
theorem g_582 : Cond.methodLink "MorphWords$Powers" (33 : Nat) ⟨"MorphWords$Letters", "countOf", "(I)I"⟩ ∈ gtbl := List.mem_of_getElem? (i := 582) (by decide +kernel)
theorem g_583 : Cond.methodLink "MorphWords$Powers" (39 : Nat) ⟨"java/lang/System", "arraycopy", "(Ljava/lang/Object;ILjava/lang/Object;II)V"⟩ ∈ gtbl := List.mem_of_getElem? (i := 583) (by decide +kernel)
theorem g_584 : Cond.methodLink "MorphWords" (226 : Nat) ⟨"MorphWords$Powers", "total", "()I"⟩ ∈ gtbl := List.mem_of_getElem? (i := 584) (by decide +kernel)
theorem g_585 : Cond.methodLink "MorphWordsLaw" (86 : Nat) ⟨"MorphWords", "countBehind", "(III)I"⟩ ∈ gtbl := List.mem_of_getElem? (i := 585) (by decide +kernel)
theorem g_586 : Cond.instanceMethod ⟨"MorphWords", "countBehind", "(III)I"⟩ ∈ gtbl := List.mem_of_getElem? (i := 586) (by decide +kernel)
theorem g_587 : Cond.selects "MorphWords" ⟨"MorphWords", "countBehind", "(III)I"⟩ ⟨"MorphWords", "countBehind", "(III)I"⟩ ∈ gtbl := List.mem_of_getElem? (i := 587) (by decide +kernel)
theorem g_588 : Cond.code ⟨"MorphWords", "countBehind", "(III)I"⟩ prog_1_method_19_code (4 : Nat) (Option.some FieldType.int) ∈ gtbl := List.mem_of_getElem? (i := 588) (by decide +kernel)
theorem g_589 : Cond.methodLink "MorphWords" (227 : Nat) ⟨"MorphWords$Powers", "countOf", "(I)I"⟩ ∈ gtbl := List.mem_of_getElem? (i := 589) (by decide +kernel)
theorem g_590 : Cond.instanceMethod ⟨"MorphWords$Powers", "countOf", "(I)I"⟩ ∈ gtbl := List.mem_of_getElem? (i := 590) (by decide +kernel)
theorem g_591 : Cond.selects "MorphWords$Powers" ⟨"MorphWords$Powers", "countOf", "(I)I"⟩ ⟨"MorphWords$Powers", "countOf", "(I)I"⟩ ∈ gtbl := List.mem_of_getElem? (i := 591) (by decide +kernel)
theorem g_592 : Cond.code ⟨"MorphWords$Powers", "countOf", "(I)I"⟩ prog_7_method_5_code (2 : Nat) (Option.some FieldType.int) ∈ gtbl := List.mem_of_getElem? (i := 592) (by decide +kernel)
theorem g_593 : Cond.methodLink "MorphWordsLaw" (91 : Nat) ⟨"MorphWords", "mixing", "()I"⟩ ∈ gtbl := List.mem_of_getElem? (i := 593) (by decide +kernel)
theorem g_594 : Cond.instanceMethod ⟨"MorphWords", "mixing", "()I"⟩ ∈ gtbl := List.mem_of_getElem? (i := 594) (by decide +kernel)
theorem g_595 : Cond.selects "MorphWords" ⟨"MorphWords", "mixing", "()I"⟩ ⟨"MorphWords", "mixing", "()I"⟩ ∈ gtbl := List.mem_of_getElem? (i := 595) (by decide +kernel)
theorem g_596 : Cond.code ⟨"MorphWords", "mixing", "()I"⟩ prog_1_method_20_code (2 : Nat) (Option.some FieldType.int) ∈ gtbl := List.mem_of_getElem? (i := 596) (by decide +kernel)
theorem g_597 : Cond.methodLink "MorphWords" (228 : Nat) ⟨"MorphWords$Rule", "mixesBy", "(I)Z"⟩ ∈ gtbl := List.mem_of_getElem? (i := 597) (by decide +kernel)
theorem g_598 : Cond.instanceMethod ⟨"MorphWords$Rule", "mixesBy", "(I)Z"⟩ ∈ gtbl := List.mem_of_getElem? (i := 598) (by decide +kernel)
theorem g_599 : Cond.selects "MorphWords$Rule" ⟨"MorphWords$Rule", "mixesBy", "(I)Z"⟩ ⟨"MorphWords$Rule", "mixesBy", "(I)Z"⟩ ∈ gtbl := List.mem_of_getElem? (i := 599) (by decide +kernel)
theorem g_600 : Cond.code ⟨"MorphWords$Rule", "mixesBy", "(I)Z"⟩ prog_9_method_14_code (5 : Nat) (Option.some FieldType.boolean) ∈ gtbl := List.mem_of_getElem? (i := 600) (by decide +kernel)
theorem g_601 : Cond.methodLink "MorphWords$Rule" (83 : Nat) ⟨"MorphWords$Rule", "reachedFrom", "(I)I"⟩ ∈ gtbl := List.mem_of_getElem? (i := 601) (by decide +kernel)
theorem g_602 : Cond.methodLink "MorphWords$Rule" (86 : Nat) ⟨"MorphWords$Rule", "lettersBehind", "(II)I"⟩ ∈ gtbl := List.mem_of_getElem? (i := 602) (by decide +kernel)
theorem g_603 : Cond.instanceMethod ⟨"MorphWords$Rule", "lettersBehind", "(II)I"⟩ ∈ gtbl := List.mem_of_getElem? (i := 603) (by decide +kernel)
theorem g_604 : Cond.code ⟨"MorphWords$Rule", "lettersBehind", "(II)I"⟩ prog_9_method_15_code (5 : Nat) (Option.some FieldType.int) ∈ gtbl := List.mem_of_getElem? (i := 604) (by decide +kernel)
theorem g_605 : Cond.methodLink "MorphWordsLaw" (95 : Nat) ⟨"MorphWords", "at", "(I)I"⟩ ∈ gtbl := List.mem_of_getElem? (i := 605) (by decide +kernel)
theorem g_606 : Cond.instanceMethod ⟨"MorphWords", "at", "(I)I"⟩ ∈ gtbl := List.mem_of_getElem? (i := 606) (by decide +kernel)
theorem g_607 : Cond.selects "MorphWords" ⟨"MorphWords", "at", "(I)I"⟩ ⟨"MorphWords", "at", "(I)I"⟩ ∈ gtbl := List.mem_of_getElem? (i := 607) (by decide +kernel)
theorem g_608 : Cond.code ⟨"MorphWords", "at", "(I)I"⟩ prog_1_method_21_code (3 : Nat) (Option.some FieldType.int) ∈ gtbl := List.mem_of_getElem? (i := 608) (by decide +kernel)
theorem g_609 : Cond.methodLink "MorphWordsLaw" (99 : Nat) ⟨"MorphWords", "pieces", "(II)I"⟩ ∈ gtbl := List.mem_of_getElem? (i := 609) (by decide +kernel)
theorem g_610 : Cond.instanceMethod ⟨"MorphWords", "pieces", "(II)I"⟩ ∈ gtbl := List.mem_of_getElem? (i := 610) (by decide +kernel)
theorem g_611 : Cond.selects "MorphWords" ⟨"MorphWords", "pieces", "(II)I"⟩ ⟨"MorphWords", "pieces", "(II)I"⟩ ∈ gtbl := List.mem_of_getElem? (i := 611) (by decide +kernel)
theorem g_612 : Cond.code ⟨"MorphWords", "pieces", "(II)I"⟩ prog_1_method_22_code (3 : Nat) (Option.some FieldType.int) ∈ gtbl := List.mem_of_getElem? (i := 612) (by decide +kernel)
theorem g_613 : Cond.methodLink "MorphWords" (231 : Nat) ⟨"MorphWords$PieceTable", "tell", "(LMorphWords$Letters;II)I"⟩ ∈ gtbl := List.mem_of_getElem? (i := 613) (by decide +kernel)
theorem g_614 : Cond.instanceMethod ⟨"MorphWords$PieceTable", "tell", "(LMorphWords$Letters;II)I"⟩ ∈ gtbl := List.mem_of_getElem? (i := 614) (by decide +kernel)
theorem g_615 : Cond.selects "MorphWords$PieceTable" ⟨"MorphWords$PieceTable", "tell", "(LMorphWords$Letters;II)I"⟩ ⟨"MorphWords$PieceTable", "tell", "(LMorphWords$Letters;II)I"⟩ ∈ gtbl := List.mem_of_getElem? (i := 615) (by decide +kernel)
theorem g_616 : Cond.code ⟨"MorphWords$PieceTable", "tell", "(LMorphWords$Letters;II)I"⟩ prog_6_method_2_code (6 : Nat) (Option.some FieldType.int) ∈ gtbl := List.mem_of_getElem? (i := 616) (by decide +kernel)
theorem g_617 : Cond.methodLink "MorphWords$PieceTable" (19 : Nat) ⟨"MorphWords$PieceTable", "fill", "(LMorphWords$Letters;I)V"⟩ ∈ gtbl := List.mem_of_getElem? (i := 617) (by decide +kernel)
theorem g_618 : Cond.instanceMethod ⟨"MorphWords$PieceTable", "fill", "(LMorphWords$Letters;I)V"⟩ ∈ gtbl := List.mem_of_getElem? (i := 618) (by decide +kernel)
theorem g_619 : Cond.code ⟨"MorphWords$PieceTable", "fill", "(LMorphWords$Letters;I)V"⟩ prog_6_method_3_code (8 : Nat) (Option.none : Option FieldType) ∈ gtbl := List.mem_of_getElem? (i := 619) (by decide +kernel)
theorem g_620 : Cond.methodLink "MorphWords$PieceTable" (31 : Nat) ⟨"MorphWords$Letters", "length", "()I"⟩ ∈ gtbl := List.mem_of_getElem? (i := 620) (by decide +kernel)
theorem g_621 : Cond.methodLink "MorphWords$PieceTable" (37 : Nat) ⟨"MorphWords$Letters", "letterAt", "(I)I"⟩ ∈ gtbl := List.mem_of_getElem? (i := 621) (by decide +kernel)
theorem g_622 : Cond.methodLink "MorphWords$PieceTable" (23 : Nat) ⟨"MorphWords$PieceTable", "isFirst", "(I)Z"⟩ ∈ gtbl := List.mem_of_getElem? (i := 622) (by decide +kernel)
theorem g_623 : Cond.instanceMethod ⟨"MorphWords$PieceTable", "isFirst", "(I)Z"⟩ ∈ gtbl := List.mem_of_getElem? (i := 623) (by decide +kernel)
theorem g_624 : Cond.code ⟨"MorphWords$PieceTable", "isFirst", "(I)Z"⟩ prog_6_method_4_code (3 : Nat) (Option.some FieldType.boolean) ∈ gtbl := List.mem_of_getElem? (i := 624) (by decide +kernel)
theorem g_625 : Cond.methodLink "MorphWords$PieceTable" (27 : Nat) ⟨"MorphWords$PieceTable", "isCounted", "(LMorphWords$Letters;III)Z"⟩ ∈ gtbl := List.mem_of_getElem? (i := 625) (by decide +kernel)
theorem g_626 : Cond.instanceMethod ⟨"MorphWords$PieceTable", "isCounted", "(LMorphWords$Letters;III)Z"⟩ ∈ gtbl := List.mem_of_getElem? (i := 626) (by decide +kernel)
theorem g_627 : Cond.code ⟨"MorphWords$PieceTable", "isCounted", "(LMorphWords$Letters;III)Z"⟩ prog_6_method_5_code (5 : Nat) (Option.some FieldType.boolean) ∈ gtbl := List.mem_of_getElem? (i := 627) (by decide +kernel)
theorem g_628 : Cond.methodLink "MorphWords$PieceTable" (41 : Nat) ⟨"MorphWords$PieceTable", "neighbours", "(LMorphWords$Letters;II)I"⟩ ∈ gtbl := List.mem_of_getElem? (i := 628) (by decide +kernel)
theorem g_629 : Cond.instanceMethod ⟨"MorphWords$PieceTable", "neighbours", "(LMorphWords$Letters;II)I"⟩ ∈ gtbl := List.mem_of_getElem? (i := 629) (by decide +kernel)
theorem g_630 : Cond.code ⟨"MorphWords$PieceTable", "neighbours", "(LMorphWords$Letters;II)I"⟩ prog_6_method_6_code (7 : Nat) (Option.some FieldType.int) ∈ gtbl := List.mem_of_getElem? (i := 630) (by decide +kernel)
theorem g_631 : Cond.methodLink "MorphWords$PieceTable" (45 : Nat) ⟨"java/lang/Integer", "bitCount", "(I)I"⟩ ∈ gtbl := List.mem_of_getElem? (i := 631) (by decide +kernel)
theorem g_632 : Cond.static ⟨"java/lang/Integer", "bitCount", "(I)I"⟩ ∈ gtbl := List.mem_of_getElem? (i := 632) (by decide +kernel)
theorem g_633 : Cond.code ⟨"java/lang/Integer", "bitCount", "(I)I"⟩ prog_14_method_49_code (1 : Nat) (Option.some FieldType.int) ∈ gtbl := List.mem_of_getElem? (i := 633) (by decide +kernel)
theorem g_634 : Cond.constant "java/lang/Integer" (265 : Nat) (1431655765 : Int32) ∈ gtbl := List.mem_of_getElem? (i := 634) (by decide +kernel)
theorem g_635 : Cond.constant "java/lang/Integer" (266 : Nat) (858993459 : Int32) ∈ gtbl := List.mem_of_getElem? (i := 635) (by decide +kernel)
theorem g_636 : Cond.constant "java/lang/Integer" (267 : Nat) (252645135 : Int32) ∈ gtbl := List.mem_of_getElem? (i := 636) (by decide +kernel)
theorem g_637 : Cond.methodLink "MorphWords$PieceTable" (50 : Nat) ⟨"MorphWords$Letters", "isMirrored", "(II)Z"⟩ ∈ gtbl := List.mem_of_getElem? (i := 637) (by decide +kernel)
theorem g_638 : Cond.instanceMethod ⟨"MorphWords$Letters", "isMirrored", "(II)Z"⟩ ∈ gtbl := List.mem_of_getElem? (i := 638) (by decide +kernel)
theorem g_639 : Cond.selects "MorphWords$Letters" ⟨"MorphWords$Letters", "isMirrored", "(II)Z"⟩ ⟨"MorphWords$Letters", "isMirrored", "(II)Z"⟩ ∈ gtbl := List.mem_of_getElem? (i := 639) (by decide +kernel)
theorem g_640 : Cond.code ⟨"MorphWords$Letters", "isMirrored", "(II)Z"⟩ prog_4_method_12_code (4 : Nat) (Option.some FieldType.boolean) ∈ gtbl := List.mem_of_getElem? (i := 640) (by decide +kernel)
theorem g_641 : Cond.methodLink "MorphWordsLaw" (103 : Nat) ⟨"MorphWords", "balance", "(II)I"⟩ ∈ gtbl := List.mem_of_getElem? (i := 641) (by decide +kernel)
theorem g_642 : Cond.instanceMethod ⟨"MorphWords", "balance", "(II)I"⟩ ∈ gtbl := List.mem_of_getElem? (i := 642) (by decide +kernel)
theorem g_643 : Cond.selects "MorphWords" ⟨"MorphWords", "balance", "(II)I"⟩ ⟨"MorphWords", "balance", "(II)I"⟩ ∈ gtbl := List.mem_of_getElem? (i := 643) (by decide +kernel)
theorem g_644 : Cond.code ⟨"MorphWords", "balance", "(II)I"⟩ prog_1_method_23_code (3 : Nat) (Option.some FieldType.int) ∈ gtbl := List.mem_of_getElem? (i := 644) (by decide +kernel)
theorem g_645 : Cond.methodLink "MorphWords" (235 : Nat) ⟨"MorphWords$Letters", "imbalance", "(II)I"⟩ ∈ gtbl := List.mem_of_getElem? (i := 645) (by decide +kernel)
theorem g_646 : Cond.instanceMethod ⟨"MorphWords$Letters", "imbalance", "(II)I"⟩ ∈ gtbl := List.mem_of_getElem? (i := 646) (by decide +kernel)
theorem g_647 : Cond.selects "MorphWords$Letters" ⟨"MorphWords$Letters", "imbalance", "(II)I"⟩ ⟨"MorphWords$Letters", "imbalance", "(II)I"⟩ ∈ gtbl := List.mem_of_getElem? (i := 647) (by decide +kernel)
theorem g_648 : Cond.code ⟨"MorphWords$Letters", "imbalance", "(II)I"⟩ prog_4_method_17_code (7 : Nat) (Option.some FieldType.int) ∈ gtbl := List.mem_of_getElem? (i := 648) (by decide +kernel)
theorem g_649 : Cond.methodLink "MorphWordsLaw" (107 : Nat) ⟨"MorphWords", "share", "(II)I"⟩ ∈ gtbl := List.mem_of_getElem? (i := 649) (by decide +kernel)
theorem g_650 : Cond.instanceMethod ⟨"MorphWords", "share", "(II)I"⟩ ∈ gtbl := List.mem_of_getElem? (i := 650) (by decide +kernel)
theorem g_651 : Cond.selects "MorphWords" ⟨"MorphWords", "share", "(II)I"⟩ ⟨"MorphWords", "share", "(II)I"⟩ ∈ gtbl := List.mem_of_getElem? (i := 651) (by decide +kernel)
theorem g_652 : Cond.code ⟨"MorphWords", "share", "(II)I"⟩ prog_1_method_24_code (5 : Nat) (Option.some FieldType.int) ∈ gtbl := List.mem_of_getElem? (i := 652) (by decide +kernel)
theorem g_653 : Cond.methodLink "MorphWords" (239 : Nat) ⟨"MorphWords", "commonDivisor", "(II)I"⟩ ∈ gtbl := List.mem_of_getElem? (i := 653) (by decide +kernel)
theorem g_654 : Cond.static ⟨"MorphWords", "commonDivisor", "(II)I"⟩ ∈ gtbl := List.mem_of_getElem? (i := 654) (by decide +kernel)
theorem g_655 : Cond.code ⟨"MorphWords", "commonDivisor", "(II)I"⟩ prog_1_method_36_code (6 : Nat) (Option.some FieldType.int) ∈ gtbl := List.mem_of_getElem? (i := 655) (by decide +kernel)
theorem g_656 : Cond.methodLink "MorphWords" (274 : Nat) ⟨"java/lang/Math", "max", "(II)I"⟩ ∈ gtbl := List.mem_of_getElem? (i := 656) (by decide +kernel)
theorem g_657 : Cond.methodLink "MorphWordsLaw" (111 : Nat) ⟨"MorphWords", "run", "(I)I"⟩ ∈ gtbl := List.mem_of_getElem? (i := 657) (by decide +kernel)
theorem g_658 : Cond.instanceMethod ⟨"MorphWords", "run", "(I)I"⟩ ∈ gtbl := List.mem_of_getElem? (i := 658) (by decide +kernel)
theorem g_659 : Cond.selects "MorphWords" ⟨"MorphWords", "run", "(I)I"⟩ ⟨"MorphWords", "run", "(I)I"⟩ ∈ gtbl := List.mem_of_getElem? (i := 659) (by decide +kernel)
theorem g_660 : Cond.code ⟨"MorphWords", "run", "(I)I"⟩ prog_1_method_25_code (4 : Nat) (Option.some FieldType.int) ∈ gtbl := List.mem_of_getElem? (i := 660) (by decide +kernel)
theorem g_661 : Cond.methodLink "MorphWords" (242 : Nat) ⟨"MorphWords$GreatestRun", "find", "(LMorphWords$Letters;)V"⟩ ∈ gtbl := List.mem_of_getElem? (i := 661) (by decide +kernel)
theorem g_662 : Cond.instanceMethod ⟨"MorphWords$GreatestRun", "find", "(LMorphWords$Letters;)V"⟩ ∈ gtbl := List.mem_of_getElem? (i := 662) (by decide +kernel)
theorem g_663 : Cond.selects "MorphWords$GreatestRun" ⟨"MorphWords$GreatestRun", "find", "(LMorphWords$Letters;)V"⟩ ⟨"MorphWords$GreatestRun", "find", "(LMorphWords$Letters;)V"⟩ ∈ gtbl := List.mem_of_getElem? (i := 663) (by decide +kernel)
theorem g_664 : Cond.code ⟨"MorphWords$GreatestRun", "find", "(LMorphWords$Letters;)V"⟩ prog_2_method_2_code (3 : Nat) (Option.none : Option FieldType) ∈ gtbl := List.mem_of_getElem? (i := 664) (by decide +kernel)
theorem g_665 : Cond.methodLink "MorphWords$GreatestRun" (19 : Nat) ⟨"MorphWords$Letters", "length", "()I"⟩ ∈ gtbl := List.mem_of_getElem? (i := 665) (by decide +kernel)
theorem g_666 : Cond.methodLink "MorphWords$GreatestRun" (24 : Nat) ⟨"MorphWords$GreatestRun", "findWithPeriod", "(LMorphWords$Letters;I)V"⟩ ∈ gtbl := List.mem_of_getElem? (i := 666) (by decide +kernel)
theorem g_667 : Cond.instanceMethod ⟨"MorphWords$GreatestRun", "findWithPeriod", "(LMorphWords$Letters;I)V"⟩ ∈ gtbl := List.mem_of_getElem? (i := 667) (by decide +kernel)
theorem g_668 : Cond.code ⟨"MorphWords$GreatestRun", "findWithPeriod", "(LMorphWords$Letters;I)V"⟩ prog_2_method_3_code (6 : Nat) (Option.none : Option FieldType) ∈ gtbl := List.mem_of_getElem? (i := 668) (by decide +kernel)
theorem g_669 : Cond.methodLink "MorphWords$GreatestRun" (28 : Nat) ⟨"MorphWords$Letters", "letterAt", "(I)I"⟩ ∈ gtbl := List.mem_of_getElem? (i := 669) (by decide +kernel)
theorem g_670 : Cond.methodLink "MorphWords" (244 : Nat) ⟨"MorphWords$GreatestRun", "period", "()I"⟩ ∈ gtbl := List.mem_of_getElem? (i := 670) (by decide +kernel)
theorem g_671 : Cond.instanceMethod ⟨"MorphWords$GreatestRun", "period", "()I"⟩ ∈ gtbl := List.mem_of_getElem? (i := 671) (by decide +kernel)
theorem g_672 : Cond.selects "MorphWords$GreatestRun" ⟨"MorphWords$GreatestRun", "period", "()I"⟩ ⟨"MorphWords$GreatestRun", "period", "()I"⟩ ∈ gtbl := List.mem_of_getElem? (i := 672) (by decide +kernel)
theorem g_673 : Cond.code ⟨"MorphWords$GreatestRun", "period", "()I"⟩ prog_2_method_4_code (1 : Nat) (Option.some FieldType.int) ∈ gtbl := List.mem_of_getElem? (i := 673) (by decide +kernel)
theorem g_674 : Cond.methodLink "MorphWords" (247 : Nat) ⟨"MorphWords$GreatestRun", "length", "()I"⟩ ∈ gtbl := List.mem_of_getElem? (i := 674) (by decide +kernel)
theorem g_675 : Cond.instanceMethod ⟨"MorphWords$GreatestRun", "length", "()I"⟩ ∈ gtbl := List.mem_of_getElem? (i := 675) (by decide +kernel)
theorem g_676 : Cond.selects "MorphWords$GreatestRun" ⟨"MorphWords$GreatestRun", "length", "()I"⟩ ⟨"MorphWords$GreatestRun", "length", "()I"⟩ ∈ gtbl := List.mem_of_getElem? (i := 676) (by decide +kernel)
theorem g_677 : Cond.code ⟨"MorphWords$GreatestRun", "length", "()I"⟩ prog_2_method_6_code (1 : Nat) (Option.some FieldType.int) ∈ gtbl := List.mem_of_getElem? (i := 677) (by decide +kernel)
theorem g_678 : Cond.methodLink "MorphWords" (248 : Nat) ⟨"MorphWords$GreatestRun", "place", "()I"⟩ ∈ gtbl := List.mem_of_getElem? (i := 678) (by decide +kernel)
theorem g_679 : Cond.instanceMethod ⟨"MorphWords$GreatestRun", "place", "()I"⟩ ∈ gtbl := List.mem_of_getElem? (i := 679) (by decide +kernel)
theorem g_680 : Cond.selects "MorphWords$GreatestRun" ⟨"MorphWords$GreatestRun", "place", "()I"⟩ ⟨"MorphWords$GreatestRun", "place", "()I"⟩ ∈ gtbl := List.mem_of_getElem? (i := 680) (by decide +kernel)
theorem g_681 : Cond.code ⟨"MorphWords$GreatestRun", "place", "()I"⟩ prog_2_method_5_code (1 : Nat) (Option.some FieldType.int) ∈ gtbl := List.mem_of_getElem? (i := 681) (by decide +kernel)
theorem g_682 : Cond.methodLink "MorphWordsLaw" (115 : Nat) ⟨"MorphWords", "mirrored", "(I)I"⟩ ∈ gtbl := List.mem_of_getElem? (i := 682) (by decide +kernel)
theorem g_683 : Cond.instanceMethod ⟨"MorphWords", "mirrored", "(I)I"⟩ ∈ gtbl := List.mem_of_getElem? (i := 683) (by decide +kernel)
theorem g_684 : Cond.selects "MorphWords" ⟨"MorphWords", "mirrored", "(I)I"⟩ ⟨"MorphWords", "mirrored", "(I)I"⟩ ∈ gtbl := List.mem_of_getElem? (i := 684) (by decide +kernel)
theorem g_685 : Cond.code ⟨"MorphWords", "mirrored", "(I)I"⟩ prog_1_method_26_code (2 : Nat) (Option.some FieldType.int) ∈ gtbl := List.mem_of_getElem? (i := 685) (by decide +kernel)
theorem g_686 : Cond.methodLink "MorphWords" (251 : Nat) ⟨"MorphWords$LongestMirror", "find", "(LMorphWords$Letters;)V"⟩ ∈ gtbl := List.mem_of_getElem? (i := 686) (by decide +kernel)
theorem g_687 : Cond.instanceMethod ⟨"MorphWords$LongestMirror", "find", "(LMorphWords$Letters;)V"⟩ ∈ gtbl := List.mem_of_getElem? (i := 687) (by decide +kernel)
theorem g_688 : Cond.selects "MorphWords$LongestMirror" ⟨"MorphWords$LongestMirror", "find", "(LMorphWords$Letters;)V"⟩ ⟨"MorphWords$LongestMirror", "find", "(LMorphWords$Letters;)V"⟩ ∈ gtbl := List.mem_of_getElem? (i := 688) (by decide +kernel)
theorem g_689 : Cond.code ⟨"MorphWords$LongestMirror", "find", "(LMorphWords$Letters;)V"⟩ prog_5_method_2_code (3 : Nat) (Option.none : Option FieldType) ∈ gtbl := List.mem_of_getElem? (i := 689) (by decide +kernel)
theorem g_690 : Cond.methodLink "MorphWords$LongestMirror" (16 : Nat) ⟨"MorphWords$Letters", "length", "()I"⟩ ∈ gtbl := List.mem_of_getElem? (i := 690) (by decide +kernel)
theorem g_691 : Cond.methodLink "MorphWords$LongestMirror" (21 : Nat) ⟨"MorphWords$LongestMirror", "findAround", "(LMorphWords$Letters;II)V"⟩ ∈ gtbl := List.mem_of_getElem? (i := 691) (by decide +kernel)
theorem g_692 : Cond.instanceMethod ⟨"MorphWords$LongestMirror", "findAround", "(LMorphWords$Letters;II)V"⟩ ∈ gtbl := List.mem_of_getElem? (i := 692) (by decide +kernel)
theorem g_693 : Cond.code ⟨"MorphWords$LongestMirror", "findAround", "(LMorphWords$Letters;II)V"⟩ prog_5_method_3_code (6 : Nat) (Option.none : Option FieldType) ∈ gtbl := List.mem_of_getElem? (i := 693) (by decide +kernel)
theorem g_694 : Cond.methodLink "MorphWords$LongestMirror" (25 : Nat) ⟨"MorphWords$Letters", "letterAt", "(I)I"⟩ ∈ gtbl := List.mem_of_getElem? (i := 694) (by decide +kernel)
theorem g_695 : Cond.methodLink "MorphWords" (252 : Nat) ⟨"MorphWords$LongestMirror", "place", "()I"⟩ ∈ gtbl := List.mem_of_getElem? (i := 695) (by decide +kernel)
theorem g_696 : Cond.instanceMethod ⟨"MorphWords$LongestMirror", "place", "()I"⟩ ∈ gtbl := List.mem_of_getElem? (i := 696) (by decide +kernel)
theorem g_697 : Cond.selects "MorphWords$LongestMirror" ⟨"MorphWords$LongestMirror", "place", "()I"⟩ ⟨"MorphWords$LongestMirror", "place", "()I"⟩ ∈ gtbl := List.mem_of_getElem? (i := 697) (by decide +kernel)
theorem g_698 : Cond.code ⟨"MorphWords$LongestMirror", "place", "()I"⟩ prog_5_method_4_code (1 : Nat) (Option.some FieldType.int) ∈ gtbl := List.mem_of_getElem? (i := 698) (by decide +kernel)
theorem g_699 : Cond.methodLink "MorphWords" (253 : Nat) ⟨"MorphWords$LongestMirror", "length", "()I"⟩ ∈ gtbl := List.mem_of_getElem? (i := 699) (by decide +kernel)
theorem g_700 : Cond.instanceMethod ⟨"MorphWords$LongestMirror", "length", "()I"⟩ ∈ gtbl := List.mem_of_getElem? (i := 700) (by decide +kernel)
theorem g_701 : Cond.selects "MorphWords$LongestMirror" ⟨"MorphWords$LongestMirror", "length", "()I"⟩ ⟨"MorphWords$LongestMirror", "length", "()I"⟩ ∈ gtbl := List.mem_of_getElem? (i := 701) (by decide +kernel)
theorem g_702 : Cond.code ⟨"MorphWords$LongestMirror", "length", "()I"⟩ prog_5_method_5_code (1 : Nat) (Option.some FieldType.int) ∈ gtbl := List.mem_of_getElem? (i := 702) (by decide +kernel)
theorem g_703 : Cond.methodLink "MorphWordsLaw" (119 : Nat) ⟨"MorphWords", "comes", "(I)I"⟩ ∈ gtbl := List.mem_of_getElem? (i := 703) (by decide +kernel)
theorem g_704 : Cond.instanceMethod ⟨"MorphWords", "comes", "(I)I"⟩ ∈ gtbl := List.mem_of_getElem? (i := 704) (by decide +kernel)
theorem g_705 : Cond.selects "MorphWords" ⟨"MorphWords", "comes", "(I)I"⟩ ⟨"MorphWords", "comes", "(I)I"⟩ ∈ gtbl := List.mem_of_getElem? (i := 705) (by decide +kernel)
theorem g_706 : Cond.code ⟨"MorphWords", "comes", "(I)I"⟩ prog_1_method_27_code (2 : Nat) (Option.some FieldType.int) ∈ gtbl := List.mem_of_getElem? (i := 706) (by decide +kernel)
theorem g_707 : Cond.methodLink "MorphWords" (254 : Nat) ⟨"MorphWords$State", "hasPiece", "()Z"⟩ ∈ gtbl := List.mem_of_getElem? (i := 707) (by decide +kernel)
theorem g_708 : Cond.instanceMethod ⟨"MorphWords$State", "hasPiece", "()Z"⟩ ∈ gtbl := List.mem_of_getElem? (i := 708) (by decide +kernel)
theorem g_709 : Cond.selects "MorphWords$State" ⟨"MorphWords$State", "hasPiece", "()Z"⟩ ⟨"MorphWords$State", "hasPiece", "()Z"⟩ ∈ gtbl := List.mem_of_getElem? (i := 709) (by decide +kernel)
theorem g_710 : Cond.code ⟨"MorphWords$State", "hasPiece", "()Z"⟩ prog_10_method_2_code (1 : Nat) (Option.some FieldType.boolean) ∈ gtbl := List.mem_of_getElem? (i := 710) (by decide +kernel)
theorem g_711 : Cond.methodLink "MorphWords$State" (34 : Nat) ⟨"MorphWords$Letters", "length", "()I"⟩ ∈ gtbl := List.mem_of_getElem? (i := 711) (by decide +kernel)
theorem g_712 : Cond.methodLink "MorphWords" (257 : Nat) ⟨"MorphWords$ReturnTable", "placeOf", "(I)I"⟩ ∈ gtbl := List.mem_of_getElem? (i := 712) (by decide +kernel)
theorem g_713 : Cond.methodLink "MorphWordsLaw" (123 : Nat) ⟨"MorphWords", "returns", "(II)I"⟩ ∈ gtbl := List.mem_of_getElem? (i := 713) (by decide +kernel)
theorem g_714 : Cond.instanceMethod ⟨"MorphWords", "returns", "(II)I"⟩ ∈ gtbl := List.mem_of_getElem? (i := 714) (by decide +kernel)
theorem g_715 : Cond.selects "MorphWords" ⟨"MorphWords", "returns", "(II)I"⟩ ⟨"MorphWords", "returns", "(II)I"⟩ ∈ gtbl := List.mem_of_getElem? (i := 715) (by decide +kernel)
theorem g_716 : Cond.code ⟨"MorphWords", "returns", "(II)I"⟩ prog_1_method_28_code (3 : Nat) (Option.some FieldType.int) ∈ gtbl := List.mem_of_getElem? (i := 716) (by decide +kernel)
theorem g_717 : Cond.methodLink "MorphWords" (260 : Nat) ⟨"MorphWords$ReturnTable", "lengthOf", "(I)I"⟩ ∈ gtbl := List.mem_of_getElem? (i := 717) (by decide +kernel)
theorem g_718 : Cond.instanceMethod ⟨"MorphWords$ReturnTable", "lengthOf", "(I)I"⟩ ∈ gtbl := List.mem_of_getElem? (i := 718) (by decide +kernel)
theorem g_719 : Cond.selects "MorphWords$ReturnTable" ⟨"MorphWords$ReturnTable", "lengthOf", "(I)I"⟩ ⟨"MorphWords$ReturnTable", "lengthOf", "(I)I"⟩ ∈ gtbl := List.mem_of_getElem? (i := 719) (by decide +kernel)
theorem g_720 : Cond.code ⟨"MorphWords$ReturnTable", "lengthOf", "(I)I"⟩ prog_8_method_11_code (2 : Nat) (Option.some FieldType.int) ∈ gtbl := List.mem_of_getElem? (i := 720) (by decide +kernel)
theorem g_721 : Cond.methodLink "MorphWords$ReturnTable" (69 : Nat) ⟨"MorphWords$ReturnTable", "isReturn", "(I)Z"⟩ ∈ gtbl := List.mem_of_getElem? (i := 721) (by decide +kernel)
theorem g_722 : Cond.instanceMethod ⟨"MorphWords$ReturnTable", "isReturn", "(I)Z"⟩ ∈ gtbl := List.mem_of_getElem? (i := 722) (by decide +kernel)
theorem g_723 : Cond.code ⟨"MorphWords$ReturnTable", "isReturn", "(I)Z"⟩ prog_8_method_14_code (2 : Nat) (Option.some FieldType.boolean) ∈ gtbl := List.mem_of_getElem? (i := 723) (by decide +kernel)
theorem g_724 : Cond.methodLink "MorphWords" (263 : Nat) ⟨"MorphWords$ReturnTable", "firstPlaceOf", "(I)I"⟩ ∈ gtbl := List.mem_of_getElem? (i := 724) (by decide +kernel)
theorem g_725 : Cond.instanceMethod ⟨"MorphWords$ReturnTable", "firstPlaceOf", "(I)I"⟩ ∈ gtbl := List.mem_of_getElem? (i := 725) (by decide +kernel)
theorem g_726 : Cond.selects "MorphWords$ReturnTable" ⟨"MorphWords$ReturnTable", "firstPlaceOf", "(I)I"⟩ ⟨"MorphWords$ReturnTable", "firstPlaceOf", "(I)I"⟩ ∈ gtbl := List.mem_of_getElem? (i := 726) (by decide +kernel)
theorem g_727 : Cond.code ⟨"MorphWords$ReturnTable", "firstPlaceOf", "(I)I"⟩ prog_8_method_12_code (2 : Nat) (Option.some FieldType.int) ∈ gtbl := List.mem_of_getElem? (i := 727) (by decide +kernel)
theorem g_728 : Cond.methodLink "MorphWords" (266 : Nat) ⟨"MorphWords$ReturnTable", "timesOf", "(I)I"⟩ ∈ gtbl := List.mem_of_getElem? (i := 728) (by decide +kernel)
theorem g_729 : Cond.instanceMethod ⟨"MorphWords$ReturnTable", "timesOf", "(I)I"⟩ ∈ gtbl := List.mem_of_getElem? (i := 729) (by decide +kernel)
theorem g_730 : Cond.selects "MorphWords$ReturnTable" ⟨"MorphWords$ReturnTable", "timesOf", "(I)I"⟩ ⟨"MorphWords$ReturnTable", "timesOf", "(I)I"⟩ ∈ gtbl := List.mem_of_getElem? (i := 730) (by decide +kernel)
theorem g_731 : Cond.code ⟨"MorphWords$ReturnTable", "timesOf", "(I)I"⟩ prog_8_method_13_code (2 : Nat) (Option.some FieldType.int) ∈ gtbl := List.mem_of_getElem? (i := 731) (by decide +kernel)
theorem g_732 : Cond.methodLink "MorphWordsLaw" (127 : Nat) ⟨"MorphWords", "row", "(I)I"⟩ ∈ gtbl := List.mem_of_getElem? (i := 732) (by decide +kernel)
theorem g_733 : Cond.instanceMethod ⟨"MorphWords", "row", "(I)I"⟩ ∈ gtbl := List.mem_of_getElem? (i := 733) (by decide +kernel)
theorem g_734 : Cond.selects "MorphWords" ⟨"MorphWords", "row", "(I)I"⟩ ⟨"MorphWords", "row", "(I)I"⟩ ∈ gtbl := List.mem_of_getElem? (i := 734) (by decide +kernel)
theorem g_735 : Cond.code ⟨"MorphWords", "row", "(I)I"⟩ prog_1_method_29_code (2 : Nat) (Option.some FieldType.int) ∈ gtbl := List.mem_of_getElem? (i := 735) (by decide +kernel)
theorem g_736 : Cond.methodLink "MorphWordsLaw" (131 : Nat) ⟨"MorphWords", "count", "(I)I"⟩ ∈ gtbl := List.mem_of_getElem? (i := 736) (by decide +kernel)
theorem g_737 : Cond.instanceMethod ⟨"MorphWords", "count", "(I)I"⟩ ∈ gtbl := List.mem_of_getElem? (i := 737) (by decide +kernel)
theorem g_738 : Cond.selects "MorphWords" ⟨"MorphWords", "count", "(I)I"⟩ ⟨"MorphWords", "count", "(I)I"⟩ ∈ gtbl := List.mem_of_getElem? (i := 738) (by decide +kernel)
theorem g_739 : Cond.code ⟨"MorphWords", "count", "(I)I"⟩ prog_1_method_30_code (2 : Nat) (Option.some FieldType.int) ∈ gtbl := List.mem_of_getElem? (i := 739) (by decide +kernel)
theorem g_740 : Cond.methodLink "MorphWords" (269 : Nat) ⟨"MorphWords", "countReturns", "(Z)I"⟩ ∈ gtbl := List.mem_of_getElem? (i := 740) (by decide +kernel)
theorem g_741 : Cond.instanceMethod ⟨"MorphWords", "countReturns", "(Z)I"⟩ ∈ gtbl := List.mem_of_getElem? (i := 741) (by decide +kernel)
theorem g_742 : Cond.code ⟨"MorphWords", "countReturns", "(Z)I"⟩ prog_1_method_31_code (2 : Nat) (Option.some FieldType.int) ∈ gtbl := List.mem_of_getElem? (i := 742) (by decide +kernel)
theorem g_743 : Cond.classLink "MorphWordsLaw" (10 : Nat) "MorphWordsModel" ∈ gtbl := List.mem_of_getElem? (i := 743) (by decide +kernel)
theorem g_744 : Cond.instantiable "MorphWordsModel" (17 : Nat) ∈ gtbl := List.mem_of_getElem? (i := 744) (by decide +kernel)
theorem g_745 : Cond.methodLink "MorphWordsLaw" (12 : Nat) ⟨"MorphWordsModel", "<init>", "()V"⟩ ∈ gtbl := List.mem_of_getElem? (i := 745) (by decide +kernel)
theorem g_746 : Cond.instanceMethod ⟨"MorphWordsModel", "<init>", "()V"⟩ ∈ gtbl := List.mem_of_getElem? (i := 746) (by decide +kernel)
theorem g_747 : Cond.code ⟨"MorphWordsModel", "<init>", "()V"⟩ prog_13_method_1_code (2 : Nat) (Option.none : Option FieldType) ∈ gtbl := List.mem_of_getElem? (i := 747) (by decide +kernel)
theorem g_748 : Cond.methodLink "MorphWordsModel" (1 : Nat) ⟨"java/lang/Object", "<init>", "()V"⟩ ∈ gtbl := List.mem_of_getElem? (i := 748) (by decide +kernel)
theorem g_749 : Cond.fieldLink "MorphWordsModel" (7 : Nat) "MorphWordsModel" "now" "[I" ∈ gtbl := List.mem_of_getElem? (i := 749) (by decide +kernel)
theorem g_750 : Cond.fieldLink "MorphWordsModel" (13 : Nat) "MorphWordsModel" "history" "[I" ∈ gtbl := List.mem_of_getElem? (i := 750) (by decide +kernel)
theorem g_751 : Cond.fieldLink "MorphWordsModel" (48 : Nat) "MorphWordsModel" "kept" "I" ∈ gtbl := List.mem_of_getElem? (i := 751) (by decide +kernel)
theorem g_752 : Cond.fieldLink "MorphWordsModel" (16 : Nat) "MorphWordsModel" "slot" "[I" ∈ gtbl := List.mem_of_getElem? (i := 752) (by decide +kernel)
theorem g_753 : Cond.fieldLink "MorphWordsModel" (137 : Nat) "MorphWordsModel" "isFilled" "Z" ∈ gtbl := List.mem_of_getElem? (i := 753) (by decide +kernel)
theorem g_754 : Cond.fieldLink "MorphWordsModel" (19 : Nat) "MorphWordsModel" "then" "[I" ∈ gtbl := List.mem_of_getElem? (i := 754) (by decide +kernel)
theorem g_755 : Cond.fieldLink "MorphWordsModel" (22 : Nat) "MorphWordsModel" "before" "[I" ∈ gtbl := List.mem_of_getElem? (i := 755) (by decide +kernel)
theorem g_756 : Cond.fieldLink "MorphWordsModel" (25 : Nat) "MorphWordsModel" "places" "[I" ∈ gtbl := List.mem_of_getElem? (i := 756) (by decide +kernel)
theorem g_757 : Cond.fieldLink "MorphWordsModel" (115 : Nat) "MorphWordsModel" "found" "I" ∈ gtbl := List.mem_of_getElem? (i := 757) (by decide +kernel)
theorem g_758 : Cond.fieldLink "MorphWordsModel" (28 : Nat) "MorphWordsModel" "numbers" "[I" ∈ gtbl := List.mem_of_getElem? (i := 758) (by decide +kernel)
theorem g_759 : Cond.fieldLink "MorphWordsModel" (112 : Nat) "MorphWordsModel" "different" "I" ∈ gtbl := List.mem_of_getElem? (i := 759) (by decide +kernel)
theorem g_760 : Cond.fieldLink "MorphWordsModel" (131 : Nat) "MorphWordsModel" "typed" "I" ∈ gtbl := List.mem_of_getElem? (i := 760) (by decide +kernel)
theorem g_761 : Cond.fieldLink "MorphWordsModel" (31 : Nat) "MorphWordsModel" "text" "[C" ∈ gtbl := List.mem_of_getElem? (i := 761) (by decide +kernel)
theorem g_762 : Cond.fieldLink "MorphWordsModel" (73 : Nat) "MorphWordsModel" "at" "I" ∈ gtbl := List.mem_of_getElem? (i := 762) (by decide +kernel)
theorem g_763 : Cond.fieldLink "MorphWordsModel" (35 : Nat) "MorphWordsModel" "counts" "[I" ∈ gtbl := List.mem_of_getElem? (i := 763) (by decide +kernel)
theorem g_764 : Cond.fieldLink "MorphWordsModel" (38 : Nat) "MorphWordsModel" "next" "[I" ∈ gtbl := List.mem_of_getElem? (i := 764) (by decide +kernel)
theorem g_765 : Cond.fieldLink "MorphWordsModel" (41 : Nat) "MorphWordsModel" "sets" "[I" ∈ gtbl := List.mem_of_getElem? (i := 765) (by decide +kernel)
theorem g_801 : Cond.methodLink "MorphWordsLaw" (17 : Nat) ⟨"MorphWordsModel", "readRule", "()I"⟩ ∈ gtbl := List.mem_of_getElem? (i := 801) (by decide +kernel)
theorem g_802 : Cond.instanceMethod ⟨"MorphWordsModel", "readRule", "()I"⟩ ∈ gtbl := List.mem_of_getElem? (i := 802) (by decide +kernel)
theorem g_803 : Cond.selects "MorphWordsModel" ⟨"MorphWordsModel", "readRule", "()I"⟩ ⟨"MorphWordsModel", "readRule", "()I"⟩ ∈ gtbl := List.mem_of_getElem? (i := 803) (by decide +kernel)
theorem g_804 : Cond.code ⟨"MorphWordsModel", "readRule", "()I"⟩ prog_13_method_15_code (2 : Nat) (Option.some FieldType.int) ∈ gtbl := List.mem_of_getElem? (i := 804) (by decide +kernel)
theorem g_805 : Cond.methodLink "MorphWordsModel" (67 : Nat) ⟨"MorphWordsModel", "takesRule", "()V"⟩ ∈ gtbl := List.mem_of_getElem? (i := 805) (by decide +kernel)
theorem g_806 : Cond.instanceMethod ⟨"MorphWordsModel", "takesRule", "()V"⟩ ∈ gtbl := List.mem_of_getElem? (i := 806) (by decide +kernel)
theorem g_807 : Cond.code ⟨"MorphWordsModel", "takesRule", "()V"⟩ prog_13_method_13_code (2 : Nat) (Option.none : Option FieldType) ∈ gtbl := List.mem_of_getElem? (i := 807) (by decide +kernel)
theorem g_808 : Cond.methodLink "MorphWordsModel" (70 : Nat) ⟨"MorphWordsModel", "partsOfText", "()I"⟩ ∈ gtbl := List.mem_of_getElem? (i := 808) (by decide +kernel)
theorem g_809 : Cond.instanceMethod ⟨"MorphWordsModel", "partsOfText", "()I"⟩ ∈ gtbl := List.mem_of_getElem? (i := 809) (by decide +kernel)
theorem g_810 : Cond.code ⟨"MorphWordsModel", "partsOfText", "()I"⟩ prog_13_method_34_code (5 : Nat) (Option.some FieldType.int) ∈ gtbl := List.mem_of_getElem? (i := 810) (by decide +kernel)
theorem g_811 : Cond.methodLink "MorphWordsModel" (134 : Nat) ⟨"MorphWordsModel", "isLetter", "()Z"⟩ ∈ gtbl := List.mem_of_getElem? (i := 811) (by decide +kernel)
theorem g_812 : Cond.instanceMethod ⟨"MorphWordsModel", "isLetter", "()Z"⟩ ∈ gtbl := List.mem_of_getElem? (i := 812) (by decide +kernel)
theorem g_813 : Cond.code ⟨"MorphWordsModel", "isLetter", "()Z"⟩ prog_13_method_33_code (1 : Nat) (Option.some FieldType.boolean) ∈ gtbl := List.mem_of_getElem? (i := 813) (by decide +kernel)
theorem g_814 : Cond.methodLink "MorphWordsModel" (44 : Nat) ⟨"MorphWordsModel", "in", "(III)Z"⟩ ∈ gtbl := List.mem_of_getElem? (i := 814) (by decide +kernel)
theorem g_815 : Cond.static ⟨"MorphWordsModel", "in", "(III)Z"⟩ ∈ gtbl := List.mem_of_getElem? (i := 815) (by decide +kernel)
theorem g_816 : Cond.code ⟨"MorphWordsModel", "in", "(III)Z"⟩ prog_13_method_2_code (3 : Nat) (Option.some FieldType.boolean) ∈ gtbl := List.mem_of_getElem? (i := 816) (by decide +kernel)
theorem g_817 : Cond.methodLink "MorphWordsModel" (76 : Nat) ⟨"MorphWordsModel", "isSameRule", "()Z"⟩ ∈ gtbl := List.mem_of_getElem? (i := 817) (by decide +kernel)
theorem g_818 : Cond.instanceMethod ⟨"MorphWordsModel", "isSameRule", "()Z"⟩ ∈ gtbl := List.mem_of_getElem? (i := 818) (by decide +kernel)
theorem g_819 : Cond.code ⟨"MorphWordsModel", "isSameRule", "()Z"⟩ prog_13_method_9_code (4 : Nat) (Option.some FieldType.boolean) ∈ gtbl := List.mem_of_getElem? (i := 819) (by decide +kernel)
theorem g_820 : Cond.methodLink "MorphWordsModel" (52 : Nat) ⟨"MorphWordsModel", "size", "(I)I"⟩ ∈ gtbl := List.mem_of_getElem? (i := 820) (by decide +kernel)
theorem g_821 : Cond.instanceMethod ⟨"MorphWordsModel", "size", "(I)I"⟩ ∈ gtbl := List.mem_of_getElem? (i := 821) (by decide +kernel)
theorem g_822 : Cond.code ⟨"MorphWordsModel", "size", "(I)I"⟩ prog_13_method_4_code (2 : Nat) (Option.some FieldType.int) ∈ gtbl := List.mem_of_getElem? (i := 822) (by decide +kernel)
theorem g_823 : Cond.methodLink "MorphWordsModel" (56 : Nat) ⟨"MorphWordsModel", "sign", "(II)I"⟩ ∈ gtbl := List.mem_of_getElem? (i := 823) (by decide +kernel)
theorem g_824 : Cond.instanceMethod ⟨"MorphWordsModel", "sign", "(II)I"⟩ ∈ gtbl := List.mem_of_getElem? (i := 824) (by decide +kernel)
theorem g_825 : Cond.code ⟨"MorphWordsModel", "sign", "(II)I"⟩ prog_13_method_5_code (3 : Nat) (Option.some FieldType.int) ∈ gtbl := List.mem_of_getElem? (i := 825) (by decide +kernel)
theorem g_826 : Cond.methodLink "MorphWordsModel" (80 : Nat) ⟨"MorphWordsModel", "record", "()V"⟩ ∈ gtbl := List.mem_of_getElem? (i := 826) (by decide +kernel)
theorem g_827 : Cond.instanceMethod ⟨"MorphWordsModel", "record", "()V"⟩ ∈ gtbl := List.mem_of_getElem? (i := 827) (by decide +kernel)
theorem g_828 : Cond.code ⟨"MorphWordsModel", "record", "()V"⟩ prog_13_method_8_code (2 : Nat) (Option.none : Option FieldType) ∈ gtbl := List.mem_of_getElem? (i := 828) (by decide +kernel)
theorem g_829 : Cond.methodLink "MorphWordsModel" (83 : Nat) ⟨"MorphWordsModel", "laysRule", "()V"⟩ ∈ gtbl := List.mem_of_getElem? (i := 829) (by decide +kernel)
theorem g_830 : Cond.instanceMethod ⟨"MorphWordsModel", "laysRule", "()V"⟩ ∈ gtbl := List.mem_of_getElem? (i := 830) (by decide +kernel)
theorem g_831 : Cond.code ⟨"MorphWordsModel", "laysRule", "()V"⟩ prog_13_method_10_code (2 : Nat) (Option.none : Option FieldType) ∈ gtbl := List.mem_of_getElem? (i := 831) (by decide +kernel)
theorem g_832 : Cond.methodLink "MorphWordsLaw" (21 : Nat) ⟨"MorphWordsModel", "square", "()I"⟩ ∈ gtbl := List.mem_of_getElem? (i := 832) (by decide +kernel)
theorem g_833 : Cond.instanceMethod ⟨"MorphWordsModel", "square", "()I"⟩ ∈ gtbl := List.mem_of_getElem? (i := 833) (by decide +kernel)
theorem g_834 : Cond.selects "MorphWordsModel" ⟨"MorphWordsModel", "square", "()I"⟩ ⟨"MorphWordsModel", "square", "()I"⟩ ∈ gtbl := List.mem_of_getElem? (i := 834) (by decide +kernel)
theorem g_835 : Cond.code ⟨"MorphWordsModel", "square", "()I"⟩ prog_13_method_16_code (6 : Nat) (Option.some FieldType.int) ∈ gtbl := List.mem_of_getElem? (i := 835) (by decide +kernel)
theorem g_836 : Cond.methodLink "MorphWordsModel" (86 : Nat) ⟨"MorphWordsModel", "allSizes", "()I"⟩ ∈ gtbl := List.mem_of_getElem? (i := 836) (by decide +kernel)
theorem g_837 : Cond.instanceMethod ⟨"MorphWordsModel", "allSizes", "()I"⟩ ∈ gtbl := List.mem_of_getElem? (i := 837) (by decide +kernel)
theorem g_838 : Cond.code ⟨"MorphWordsModel", "allSizes", "()I"⟩ prog_13_method_14_code (1 : Nat) (Option.some FieldType.int) ∈ gtbl := List.mem_of_getElem? (i := 838) (by decide +kernel)
theorem g_839 : Cond.methodLink "MorphWordsLaw" (26 : Nat) ⟨"MorphWordsModel", "shift", "(Z)I"⟩ ∈ gtbl := List.mem_of_getElem? (i := 839) (by decide +kernel)
theorem g_840 : Cond.instanceMethod ⟨"MorphWordsModel", "shift", "(Z)I"⟩ ∈ gtbl := List.mem_of_getElem? (i := 840) (by decide +kernel)
theorem g_841 : Cond.selects "MorphWordsModel" ⟨"MorphWordsModel", "shift", "(Z)I"⟩ ⟨"MorphWordsModel", "shift", "(Z)I"⟩ ∈ gtbl := List.mem_of_getElem? (i := 841) (by decide +kernel)
theorem g_842 : Cond.code ⟨"MorphWordsModel", "shift", "(Z)I"⟩ prog_13_method_17_code (6 : Nat) (Option.some FieldType.int) ∈ gtbl := List.mem_of_getElem? (i := 842) (by decide +kernel)
theorem g_843 : Cond.methodLink "MorphWordsLaw" (31 : Nat) ⟨"MorphWordsModel", "swap", "(II)I"⟩ ∈ gtbl := List.mem_of_getElem? (i := 843) (by decide +kernel)
theorem g_844 : Cond.instanceMethod ⟨"MorphWordsModel", "swap", "(II)I"⟩ ∈ gtbl := List.mem_of_getElem? (i := 844) (by decide +kernel)
theorem g_845 : Cond.selects "MorphWordsModel" ⟨"MorphWordsModel", "swap", "(II)I"⟩ ⟨"MorphWordsModel", "swap", "(II)I"⟩ ∈ gtbl := List.mem_of_getElem? (i := 845) (by decide +kernel)
theorem g_846 : Cond.code ⟨"MorphWordsModel", "swap", "(II)I"⟩ prog_13_method_19_code (6 : Nat) (Option.some FieldType.int) ∈ gtbl := List.mem_of_getElem? (i := 846) (by decide +kernel)
theorem g_847 : Cond.methodLink "MorphWordsModel" (89 : Nat) ⟨"MorphWordsModel", "no", "(I)Z"⟩ ∈ gtbl := List.mem_of_getElem? (i := 847) (by decide +kernel)
theorem g_848 : Cond.static ⟨"MorphWordsModel", "no", "(I)Z"⟩ ∈ gtbl := List.mem_of_getElem? (i := 848) (by decide +kernel)
theorem g_849 : Cond.code ⟨"MorphWordsModel", "no", "(I)Z"⟩ prog_13_method_3_code (1 : Nat) (Option.some FieldType.boolean) ∈ gtbl := List.mem_of_getElem? (i := 849) (by decide +kernel)
theorem g_850 : Cond.methodLink "MorphWordsModel" (93 : Nat) ⟨"MorphWordsModel", "swapped", "(III)I"⟩ ∈ gtbl := List.mem_of_getElem? (i := 850) (by decide +kernel)
theorem g_851 : Cond.static ⟨"MorphWordsModel", "swapped", "(III)I"⟩ ∈ gtbl := List.mem_of_getElem? (i := 851) (by decide +kernel)
theorem g_852 : Cond.code ⟨"MorphWordsModel", "swapped", "(III)I"⟩ prog_13_method_18_code (3 : Nat) (Option.some FieldType.int) ∈ gtbl := List.mem_of_getElem? (i := 852) (by decide +kernel)
theorem g_853 : Cond.methodLink "MorphWordsModel" (60 : Nat) ⟨"MorphWordsModel", "length", "()I"⟩ ∈ gtbl := List.mem_of_getElem? (i := 853) (by decide +kernel)
theorem g_854 : Cond.instanceMethod ⟨"MorphWordsModel", "length", "()I"⟩ ∈ gtbl := List.mem_of_getElem? (i := 854) (by decide +kernel)
theorem g_855 : Cond.code ⟨"MorphWordsModel", "length", "()I"⟩ prog_13_method_6_code (1 : Nat) (Option.some FieldType.int) ∈ gtbl := List.mem_of_getElem? (i := 855) (by decide +kernel)
theorem g_856 : Cond.methodLink "MorphWordsModel" (64 : Nat) ⟨"MorphWordsModel", "word", "(I)I"⟩ ∈ gtbl := List.mem_of_getElem? (i := 856) (by decide +kernel)
theorem g_857 : Cond.instanceMethod ⟨"MorphWordsModel", "word", "(I)I"⟩ ∈ gtbl := List.mem_of_getElem? (i := 857) (by decide +kernel)
theorem g_858 : Cond.code ⟨"MorphWordsModel", "word", "(I)I"⟩ prog_13_method_7_code (2 : Nat) (Option.some FieldType.int) ∈ gtbl := List.mem_of_getElem? (i := 858) (by decide +kernel)
theorem g_859 : Cond.methodLink "MorphWordsLaw" (36 : Nat) ⟨"MorphWordsModel", "start", "(I)I"⟩ ∈ gtbl := List.mem_of_getElem? (i := 859) (by decide +kernel)
theorem g_860 : Cond.instanceMethod ⟨"MorphWordsModel", "start", "(I)I"⟩ ∈ gtbl := List.mem_of_getElem? (i := 860) (by decide +kernel)
theorem g_861 : Cond.selects "MorphWordsModel" ⟨"MorphWordsModel", "start", "(I)I"⟩ ⟨"MorphWordsModel", "start", "(I)I"⟩ ∈ gtbl := List.mem_of_getElem? (i := 861) (by decide +kernel)
theorem g_862 : Cond.code ⟨"MorphWordsModel", "start", "(I)I"⟩ prog_13_method_21_code (3 : Nat) (Option.some FieldType.int) ∈ gtbl := List.mem_of_getElem? (i := 862) (by decide +kernel)
theorem g_863 : Cond.methodLink "MorphWordsLaw" (40 : Nat) ⟨"MorphWordsModel", "grow", "(I)I"⟩ ∈ gtbl := List.mem_of_getElem? (i := 863) (by decide +kernel)
theorem g_864 : Cond.instanceMethod ⟨"MorphWordsModel", "grow", "(I)I"⟩ ∈ gtbl := List.mem_of_getElem? (i := 864) (by decide +kernel)
theorem g_865 : Cond.selects "MorphWordsModel" ⟨"MorphWordsModel", "grow", "(I)I"⟩ ⟨"MorphWordsModel", "grow", "(I)I"⟩ ∈ gtbl := List.mem_of_getElem? (i := 865) (by decide +kernel)
theorem g_866 : Cond.code ⟨"MorphWordsModel", "grow", "(I)I"⟩ prog_13_method_23_code (3 : Nat) (Option.some FieldType.int) ∈ gtbl := List.mem_of_getElem? (i := 866) (by decide +kernel)
theorem g_867 : Cond.methodLink "MorphWordsModel" (97 : Nat) ⟨"MorphWordsModel", "takesWord", "()V"⟩ ∈ gtbl := List.mem_of_getElem? (i := 867) (by decide +kernel)
theorem g_868 : Cond.instanceMethod ⟨"MorphWordsModel", "takesWord", "()V"⟩ ∈ gtbl := List.mem_of_getElem? (i := 868) (by decide +kernel)
theorem g_869 : Cond.code ⟨"MorphWordsModel", "takesWord", "()V"⟩ prog_13_method_20_code (2 : Nat) (Option.none : Option FieldType) ∈ gtbl := List.mem_of_getElem? (i := 869) (by decide +kernel)
theorem g_870 : Cond.methodLink "MorphWordsModel" (100 : Nat) ⟨"MorphWordsModel", "grows", "()V"⟩ ∈ gtbl := List.mem_of_getElem? (i := 870) (by decide +kernel)
theorem g_871 : Cond.instanceMethod ⟨"MorphWordsModel", "grows", "()V"⟩ ∈ gtbl := List.mem_of_getElem? (i := 871) (by decide +kernel)
theorem g_872 : Cond.code ⟨"MorphWordsModel", "grows", "()V"⟩ prog_13_method_22_code (4 : Nat) (Option.none : Option FieldType) ∈ gtbl := List.mem_of_getElem? (i := 872) (by decide +kernel)
theorem g_873 : Cond.methodLink "MorphWordsModel" (103 : Nat) ⟨"MorphWordsModel", "isSameWord", "()Z"⟩ ∈ gtbl := List.mem_of_getElem? (i := 873) (by decide +kernel)
theorem g_874 : Cond.instanceMethod ⟨"MorphWordsModel", "isSameWord", "()Z"⟩ ∈ gtbl := List.mem_of_getElem? (i := 874) (by decide +kernel)
theorem g_875 : Cond.code ⟨"MorphWordsModel", "isSameWord", "()Z"⟩ prog_13_method_11_code (3 : Nat) (Option.some FieldType.boolean) ∈ gtbl := List.mem_of_getElem? (i := 875) (by decide +kernel)
theorem g_876 : Cond.methodLink "MorphWordsModel" (106 : Nat) ⟨"MorphWordsModel", "laysWord", "()V"⟩ ∈ gtbl := List.mem_of_getElem? (i := 876) (by decide +kernel)
theorem g_877 : Cond.instanceMethod ⟨"MorphWordsModel", "laysWord", "()V"⟩ ∈ gtbl := List.mem_of_getElem? (i := 877) (by decide +kernel)
theorem g_878 : Cond.code ⟨"MorphWordsModel", "laysWord", "()V"⟩ prog_13_method_12_code (2 : Nat) (Option.none : Option FieldType) ∈ gtbl := List.mem_of_getElem? (i := 878) (by decide +kernel)
theorem g_879 : Cond.methodLink "MorphWordsLaw" (44 : Nat) ⟨"MorphWordsModel", "cut", "(I)I"⟩ ∈ gtbl := List.mem_of_getElem? (i := 879) (by decide +kernel)
theorem g_880 : Cond.instanceMethod ⟨"MorphWordsModel", "cut", "(I)I"⟩ ∈ gtbl := List.mem_of_getElem? (i := 880) (by decide +kernel)
theorem g_881 : Cond.selects "MorphWordsModel" ⟨"MorphWordsModel", "cut", "(I)I"⟩ ⟨"MorphWordsModel", "cut", "(I)I"⟩ ∈ gtbl := List.mem_of_getElem? (i := 881) (by decide +kernel)
theorem g_882 : Cond.code ⟨"MorphWordsModel", "cut", "(I)I"⟩ prog_13_method_24_code (3 : Nat) (Option.some FieldType.int) ∈ gtbl := List.mem_of_getElem? (i := 882) (by decide +kernel)
theorem g_883 : Cond.methodLink "MorphWordsLaw" (48 : Nat) ⟨"MorphWordsModel", "derive", "()I"⟩ ∈ gtbl := List.mem_of_getElem? (i := 883) (by decide +kernel)
theorem g_884 : Cond.instanceMethod ⟨"MorphWordsModel", "derive", "()I"⟩ ∈ gtbl := List.mem_of_getElem? (i := 884) (by decide +kernel)
theorem g_885 : Cond.selects "MorphWordsModel" ⟨"MorphWordsModel", "derive", "()I"⟩ ⟨"MorphWordsModel", "derive", "()I"⟩ ∈ gtbl := List.mem_of_getElem? (i := 885) (by decide +kernel)
theorem g_886 : Cond.code ⟨"MorphWordsModel", "derive", "()I"⟩ prog_13_method_25_code (2 : Nat) (Option.some FieldType.int) ∈ gtbl := List.mem_of_getElem? (i := 886) (by decide +kernel)
theorem g_887 : Cond.methodLink "MorphWordsModel" (109 : Nat) ⟨"MorphWordsModel", "finds", "()I"⟩ ∈ gtbl := List.mem_of_getElem? (i := 887) (by decide +kernel)
theorem g_888 : Cond.instanceMethod ⟨"MorphWordsModel", "finds", "()I"⟩ ∈ gtbl := List.mem_of_getElem? (i := 888) (by decide +kernel)
theorem g_889 : Cond.code ⟨"MorphWordsModel", "finds", "()I"⟩ prog_13_method_29_code (3 : Nat) (Option.some FieldType.int) ∈ gtbl := List.mem_of_getElem? (i := 889) (by decide +kernel)
theorem g_890 : Cond.methodLink "MorphWordsModel" (121 : Nat) ⟨"MorphWordsModel", "comesAt", "(I)Z"⟩ ∈ gtbl := List.mem_of_getElem? (i := 890) (by decide +kernel)
theorem g_891 : Cond.instanceMethod ⟨"MorphWordsModel", "comesAt", "(I)Z"⟩ ∈ gtbl := List.mem_of_getElem? (i := 891) (by decide +kernel)
theorem g_892 : Cond.code ⟨"MorphWordsModel", "comesAt", "(I)Z"⟩ prog_13_method_26_code (4 : Nat) (Option.some FieldType.boolean) ∈ gtbl := List.mem_of_getElem? (i := 892) (by decide +kernel)
theorem g_893 : Cond.methodLink "MorphWordsModel" (124 : Nat) ⟨"MorphWordsModel", "areSame", "(II)Z"⟩ ∈ gtbl := List.mem_of_getElem? (i := 893) (by decide +kernel)
theorem g_894 : Cond.instanceMethod ⟨"MorphWordsModel", "areSame", "(II)Z"⟩ ∈ gtbl := List.mem_of_getElem? (i := 894) (by decide +kernel)
theorem g_895 : Cond.code ⟨"MorphWordsModel", "areSame", "(II)Z"⟩ prog_13_method_28_code (5 : Nat) (Option.some FieldType.boolean) ∈ gtbl := List.mem_of_getElem? (i := 895) (by decide +kernel)
theorem g_896 : Cond.methodLink "MorphWordsModel" (118 : Nat) ⟨"MorphWordsModel", "gap", "(I)I"⟩ ∈ gtbl := List.mem_of_getElem? (i := 896) (by decide +kernel)
theorem g_897 : Cond.instanceMethod ⟨"MorphWordsModel", "gap", "(I)I"⟩ ∈ gtbl := List.mem_of_getElem? (i := 897) (by decide +kernel)
theorem g_898 : Cond.code ⟨"MorphWordsModel", "gap", "(I)I"⟩ prog_13_method_27_code (2 : Nat) (Option.some FieldType.int) ∈ gtbl := List.mem_of_getElem? (i := 898) (by decide +kernel)
theorem g_899 : Cond.methodLink "MorphWordsLaw" (52 : Nat) ⟨"MorphWordsModel", "look", "()I"⟩ ∈ gtbl := List.mem_of_getElem? (i := 899) (by decide +kernel)
theorem g_900 : Cond.instanceMethod ⟨"MorphWordsModel", "look", "()I"⟩ ∈ gtbl := List.mem_of_getElem? (i := 900) (by decide +kernel)
theorem g_901 : Cond.selects "MorphWordsModel" ⟨"MorphWordsModel", "look", "()I"⟩ ⟨"MorphWordsModel", "look", "()I"⟩ ∈ gtbl := List.mem_of_getElem? (i := 901) (by decide +kernel)
theorem g_902 : Cond.code ⟨"MorphWordsModel", "look", "()I"⟩ prog_13_method_30_code (4 : Nat) (Option.some FieldType.int) ∈ gtbl := List.mem_of_getElem? (i := 902) (by decide +kernel)
theorem g_903 : Cond.methodLink "MorphWordsModel" (128 : Nat) ⟨"MorphWordsModel", "pieceOfText", "()I"⟩ ∈ gtbl := List.mem_of_getElem? (i := 903) (by decide +kernel)
theorem g_904 : Cond.instanceMethod ⟨"MorphWordsModel", "pieceOfText", "()I"⟩ ∈ gtbl := List.mem_of_getElem? (i := 904) (by decide +kernel)
theorem g_905 : Cond.code ⟨"MorphWordsModel", "pieceOfText", "()I"⟩ prog_13_method_35_code (1 : Nat) (Option.some FieldType.int) ∈ gtbl := List.mem_of_getElem? (i := 905) (by decide +kernel)
theorem g_906 : Cond.methodLink "MorphWordsLaw" (57 : Nat) ⟨"MorphWordsModel", "type", "(C)I"⟩ ∈ gtbl := List.mem_of_getElem? (i := 906) (by decide +kernel)
theorem g_907 : Cond.instanceMethod ⟨"MorphWordsModel", "type", "(C)I"⟩ ∈ gtbl := List.mem_of_getElem? (i := 907) (by decide +kernel)
theorem g_908 : Cond.selects "MorphWordsModel" ⟨"MorphWordsModel", "type", "(C)I"⟩ ⟨"MorphWordsModel", "type", "(C)I"⟩ ∈ gtbl := List.mem_of_getElem? (i := 908) (by decide +kernel)
theorem g_909 : Cond.code ⟨"MorphWordsModel", "type", "(C)I"⟩ prog_13_method_31_code (2 : Nat) (Option.some FieldType.int) ∈ gtbl := List.mem_of_getElem? (i := 909) (by decide +kernel)
theorem g_910 : Cond.methodLink "MorphWordsLaw" (61 : Nat) ⟨"MorphWordsModel", "clearText", "()I"⟩ ∈ gtbl := List.mem_of_getElem? (i := 910) (by decide +kernel)
theorem g_911 : Cond.instanceMethod ⟨"MorphWordsModel", "clearText", "()I"⟩ ∈ gtbl := List.mem_of_getElem? (i := 911) (by decide +kernel)
theorem g_912 : Cond.selects "MorphWordsModel" ⟨"MorphWordsModel", "clearText", "()I"⟩ ⟨"MorphWordsModel", "clearText", "()I"⟩ ∈ gtbl := List.mem_of_getElem? (i := 912) (by decide +kernel)
theorem g_913 : Cond.code ⟨"MorphWordsModel", "clearText", "()I"⟩ prog_13_method_32_code (2 : Nat) (Option.some FieldType.int) ∈ gtbl := List.mem_of_getElem? (i := 913) (by decide +kernel)
theorem g_914 : Cond.methodLink "MorphWordsLaw" (65 : Nat) ⟨"MorphWordsModel", "undo", "()I"⟩ ∈ gtbl := List.mem_of_getElem? (i := 914) (by decide +kernel)
theorem g_915 : Cond.instanceMethod ⟨"MorphWordsModel", "undo", "()I"⟩ ∈ gtbl := List.mem_of_getElem? (i := 915) (by decide +kernel)
theorem g_916 : Cond.selects "MorphWordsModel" ⟨"MorphWordsModel", "undo", "()I"⟩ ⟨"MorphWordsModel", "undo", "()I"⟩ ∈ gtbl := List.mem_of_getElem? (i := 916) (by decide +kernel)
theorem g_917 : Cond.code ⟨"MorphWordsModel", "undo", "()I"⟩ prog_13_method_36_code (2 : Nat) (Option.some FieldType.int) ∈ gtbl := List.mem_of_getElem? (i := 917) (by decide +kernel)
theorem g_918 : Cond.methodLink "MorphWordsLaw" (69 : Nat) ⟨"MorphWordsModel", "keep", "()I"⟩ ∈ gtbl := List.mem_of_getElem? (i := 918) (by decide +kernel)
theorem g_919 : Cond.instanceMethod ⟨"MorphWordsModel", "keep", "()I"⟩ ∈ gtbl := List.mem_of_getElem? (i := 919) (by decide +kernel)
theorem g_920 : Cond.selects "MorphWordsModel" ⟨"MorphWordsModel", "keep", "()I"⟩ ⟨"MorphWordsModel", "keep", "()I"⟩ ∈ gtbl := List.mem_of_getElem? (i := 920) (by decide +kernel)
theorem g_921 : Cond.code ⟨"MorphWordsModel", "keep", "()I"⟩ prog_13_method_37_code (2 : Nat) (Option.some FieldType.int) ∈ gtbl := List.mem_of_getElem? (i := 921) (by decide +kernel)
theorem g_922 : Cond.methodLink "MorphWordsLaw" (73 : Nat) ⟨"MorphWordsModel", "restore", "()I"⟩ ∈ gtbl := List.mem_of_getElem? (i := 922) (by decide +kernel)
theorem g_923 : Cond.instanceMethod ⟨"MorphWordsModel", "restore", "()I"⟩ ∈ gtbl := List.mem_of_getElem? (i := 923) (by decide +kernel)
theorem g_924 : Cond.selects "MorphWordsModel" ⟨"MorphWordsModel", "restore", "()I"⟩ ⟨"MorphWordsModel", "restore", "()I"⟩ ∈ gtbl := List.mem_of_getElem? (i := 924) (by decide +kernel)
theorem g_925 : Cond.code ⟨"MorphWordsModel", "restore", "()I"⟩ prog_13_method_38_code (2 : Nat) (Option.some FieldType.int) ∈ gtbl := List.mem_of_getElem? (i := 925) (by decide +kernel)
theorem g_926 : Cond.methodLink "MorphWordsLaw" (77 : Nat) ⟨"MorphWordsModel", "image", "(II)I"⟩ ∈ gtbl := List.mem_of_getElem? (i := 926) (by decide +kernel)
theorem g_927 : Cond.instanceMethod ⟨"MorphWordsModel", "image", "(II)I"⟩ ∈ gtbl := List.mem_of_getElem? (i := 927) (by decide +kernel)
theorem g_928 : Cond.selects "MorphWordsModel" ⟨"MorphWordsModel", "image", "(II)I"⟩ ⟨"MorphWordsModel", "image", "(II)I"⟩ ∈ gtbl := List.mem_of_getElem? (i := 928) (by decide +kernel)
theorem g_929 : Cond.code ⟨"MorphWordsModel", "image", "(II)I"⟩ prog_13_method_39_code (3 : Nat) (Option.some FieldType.int) ∈ gtbl := List.mem_of_getElem? (i := 929) (by decide +kernel)
theorem g_930 : Cond.methodLink "MorphWordsLaw" (81 : Nat) ⟨"MorphWordsModel", "rule", "(II)I"⟩ ∈ gtbl := List.mem_of_getElem? (i := 930) (by decide +kernel)
theorem g_931 : Cond.instanceMethod ⟨"MorphWordsModel", "rule", "(II)I"⟩ ∈ gtbl := List.mem_of_getElem? (i := 931) (by decide +kernel)
theorem g_932 : Cond.selects "MorphWordsModel" ⟨"MorphWordsModel", "rule", "(II)I"⟩ ⟨"MorphWordsModel", "rule", "(II)I"⟩ ∈ gtbl := List.mem_of_getElem? (i := 932) (by decide +kernel)
theorem g_933 : Cond.code ⟨"MorphWordsModel", "rule", "(II)I"⟩ prog_13_method_43_code (3 : Nat) (Option.some FieldType.int) ∈ gtbl := List.mem_of_getElem? (i := 933) (by decide +kernel)
theorem g_934 : Cond.methodLink "MorphWordsModel" (141 : Nat) ⟨"MorphWordsModel", "lettersIn", "(I)I"⟩ ∈ gtbl := List.mem_of_getElem? (i := 934) (by decide +kernel)
theorem g_935 : Cond.instanceMethod ⟨"MorphWordsModel", "lettersIn", "(I)I"⟩ ∈ gtbl := List.mem_of_getElem? (i := 935) (by decide +kernel)
theorem g_936 : Cond.code ⟨"MorphWordsModel", "lettersIn", "(I)I"⟩ prog_13_method_40_code (4 : Nat) (Option.some FieldType.int) ∈ gtbl := List.mem_of_getElem? (i := 936) (by decide +kernel)
theorem g_937 : Cond.methodLink "MorphWordsModel" (147 : Nat) ⟨"MorphWordsModel", "reached", "(I)I"⟩ ∈ gtbl := List.mem_of_getElem? (i := 937) (by decide +kernel)
theorem g_938 : Cond.instanceMethod ⟨"MorphWordsModel", "reached", "(I)I"⟩ ∈ gtbl := List.mem_of_getElem? (i := 938) (by decide +kernel)
theorem g_939 : Cond.code ⟨"MorphWordsModel", "reached", "(I)I"⟩ prog_13_method_42_code (4 : Nat) (Option.some FieldType.int) ∈ gtbl := List.mem_of_getElem? (i := 939) (by decide +kernel)
theorem g_940 : Cond.methodLink "MorphWordsModel" (144 : Nat) ⟨"MorphWordsModel", "ahead", "(I)I"⟩ ∈ gtbl := List.mem_of_getElem? (i := 940) (by decide +kernel)
theorem g_941 : Cond.instanceMethod ⟨"MorphWordsModel", "ahead", "(I)I"⟩ ∈ gtbl := List.mem_of_getElem? (i := 941) (by decide +kernel)
theorem g_942 : Cond.code ⟨"MorphWordsModel", "ahead", "(I)I"⟩ prog_13_method_41_code (4 : Nat) (Option.some FieldType.int) ∈ gtbl := List.mem_of_getElem? (i := 942) (by decide +kernel)
theorem g_943 : Cond.methodLink "MorphWordsLaw" (85 : Nat) ⟨"MorphWordsModel", "lengthBehind", "(II)I"⟩ ∈ gtbl := List.mem_of_getElem? (i := 943) (by decide +kernel)
theorem g_944 : Cond.instanceMethod ⟨"MorphWordsModel", "lengthBehind", "(II)I"⟩ ∈ gtbl := List.mem_of_getElem? (i := 944) (by decide +kernel)
theorem g_945 : Cond.selects "MorphWordsModel" ⟨"MorphWordsModel", "lengthBehind", "(II)I"⟩ ⟨"MorphWordsModel", "lengthBehind", "(II)I"⟩ ∈ gtbl := List.mem_of_getElem? (i := 945) (by decide +kernel)
theorem g_946 : Cond.code ⟨"MorphWordsModel", "lengthBehind", "(II)I"⟩ prog_13_method_46_code (3 : Nat) (Option.some FieldType.int) ∈ gtbl := List.mem_of_getElem? (i := 946) (by decide +kernel)
theorem g_947 : Cond.methodLink "MorphWordsModel" (152 : Nat) ⟨"MorphWordsModel", "images", "(I)V"⟩ ∈ gtbl := List.mem_of_getElem? (i := 947) (by decide +kernel)
theorem g_948 : Cond.instanceMethod ⟨"MorphWordsModel", "images", "(I)V"⟩ ∈ gtbl := List.mem_of_getElem? (i := 948) (by decide +kernel)
theorem g_949 : Cond.code ⟨"MorphWordsModel", "images", "(I)V"⟩ prog_13_method_45_code (6 : Nat) (Option.none : Option FieldType) ∈ gtbl := List.mem_of_getElem? (i := 949) (by decide +kernel)
theorem g_950 : Cond.constant "MorphWordsModel" (150 : Nat) (1000000 : Int32) ∈ gtbl := List.mem_of_getElem? (i := 950) (by decide +kernel)
theorem g_951 : Cond.constant "MorphWordsModel" (151 : Nat) (1000001 : Int32) ∈ gtbl := List.mem_of_getElem? (i := 951) (by decide +kernel)
theorem g_952 : Cond.methodLink "MorphWordsModel" (156 : Nat) ⟨"MorphWordsModel", "sum", "(I)I"⟩ ∈ gtbl := List.mem_of_getElem? (i := 952) (by decide +kernel)
theorem g_953 : Cond.instanceMethod ⟨"MorphWordsModel", "sum", "(I)I"⟩ ∈ gtbl := List.mem_of_getElem? (i := 953) (by decide +kernel)
theorem g_954 : Cond.code ⟨"MorphWordsModel", "sum", "(I)I"⟩ prog_13_method_44_code (3 : Nat) (Option.some FieldType.int) ∈ gtbl := List.mem_of_getElem? (i := 954) (by decide +kernel)
theorem g_955 : Cond.methodLink "MorphWordsLaw" (90 : Nat) ⟨"MorphWordsModel", "countBehind", "(III)I"⟩ ∈ gtbl := List.mem_of_getElem? (i := 955) (by decide +kernel)
theorem g_956 : Cond.instanceMethod ⟨"MorphWordsModel", "countBehind", "(III)I"⟩ ∈ gtbl := List.mem_of_getElem? (i := 956) (by decide +kernel)
theorem g_957 : Cond.selects "MorphWordsModel" ⟨"MorphWordsModel", "countBehind", "(III)I"⟩ ⟨"MorphWordsModel", "countBehind", "(III)I"⟩ ∈ gtbl := List.mem_of_getElem? (i := 957) (by decide +kernel)
theorem g_958 : Cond.code ⟨"MorphWordsModel", "countBehind", "(III)I"⟩ prog_13_method_47_code (4 : Nat) (Option.some FieldType.int) ∈ gtbl := List.mem_of_getElem? (i := 958) (by decide +kernel)
theorem g_959 : Cond.methodLink "MorphWordsLaw" (94 : Nat) ⟨"MorphWordsModel", "mixing", "()I"⟩ ∈ gtbl := List.mem_of_getElem? (i := 959) (by decide +kernel)
theorem g_960 : Cond.instanceMethod ⟨"MorphWordsModel", "mixing", "()I"⟩ ∈ gtbl := List.mem_of_getElem? (i := 960) (by decide +kernel)
theorem g_961 : Cond.selects "MorphWordsModel" ⟨"MorphWordsModel", "mixing", "()I"⟩ ⟨"MorphWordsModel", "mixing", "()I"⟩ ∈ gtbl := List.mem_of_getElem? (i := 961) (by decide +kernel)
theorem g_962 : Cond.code ⟨"MorphWordsModel", "mixing", "()I"⟩ prog_13_method_48_code (5 : Nat) (Option.some FieldType.int) ∈ gtbl := List.mem_of_getElem? (i := 962) (by decide +kernel)
theorem g_963 : Cond.methodLink "MorphWordsLaw" (98 : Nat) ⟨"MorphWordsModel", "at", "(I)I"⟩ ∈ gtbl := List.mem_of_getElem? (i := 963) (by decide +kernel)
theorem g_964 : Cond.instanceMethod ⟨"MorphWordsModel", "at", "(I)I"⟩ ∈ gtbl := List.mem_of_getElem? (i := 964) (by decide +kernel)
theorem g_965 : Cond.selects "MorphWordsModel" ⟨"MorphWordsModel", "at", "(I)I"⟩ ⟨"MorphWordsModel", "at", "(I)I"⟩ ∈ gtbl := List.mem_of_getElem? (i := 965) (by decide +kernel)
theorem g_966 : Cond.code ⟨"MorphWordsModel", "at", "(I)I"⟩ prog_13_method_49_code (2 : Nat) (Option.some FieldType.int) ∈ gtbl := List.mem_of_getElem? (i := 966) (by decide +kernel)
theorem g_967 : Cond.methodLink "MorphWordsLaw" (102 : Nat) ⟨"MorphWordsModel", "pieces", "(II)I"⟩ ∈ gtbl := List.mem_of_getElem? (i := 967) (by decide +kernel)
theorem g_968 : Cond.instanceMethod ⟨"MorphWordsModel", "pieces", "(II)I"⟩ ∈ gtbl := List.mem_of_getElem? (i := 968) (by decide +kernel)
theorem g_969 : Cond.selects "MorphWordsModel" ⟨"MorphWordsModel", "pieces", "(II)I"⟩ ⟨"MorphWordsModel", "pieces", "(II)I"⟩ ∈ gtbl := List.mem_of_getElem? (i := 969) (by decide +kernel)
theorem g_970 : Cond.code ⟨"MorphWordsModel", "pieces", "(II)I"⟩ prog_13_method_54_code (7 : Nat) (Option.some FieldType.int) ∈ gtbl := List.mem_of_getElem? (i := 970) (by decide +kernel)
theorem g_971 : Cond.methodLink "MorphWordsModel" (159 : Nat) ⟨"MorphWordsModel", "isSamePiece", "(III)Z"⟩ ∈ gtbl := List.mem_of_getElem? (i := 971) (by decide +kernel)
theorem g_972 : Cond.instanceMethod ⟨"MorphWordsModel", "isSamePiece", "(III)Z"⟩ ∈ gtbl := List.mem_of_getElem? (i := 972) (by decide +kernel)
theorem g_973 : Cond.code ⟨"MorphWordsModel", "isSamePiece", "(III)Z"⟩ prog_13_method_50_code (6 : Nat) (Option.some FieldType.boolean) ∈ gtbl := List.mem_of_getElem? (i := 973) (by decide +kernel)
theorem g_974 : Cond.methodLink "MorphWordsModel" (162 : Nat) ⟨"MorphWordsModel", "isMirrored", "(II)Z"⟩ ∈ gtbl := List.mem_of_getElem? (i := 974) (by decide +kernel)
theorem g_975 : Cond.instanceMethod ⟨"MorphWordsModel", "isMirrored", "(II)Z"⟩ ∈ gtbl := List.mem_of_getElem? (i := 975) (by decide +kernel)
theorem g_976 : Cond.code ⟨"MorphWordsModel", "isMirrored", "(II)Z"⟩ prog_13_method_51_code (5 : Nat) (Option.some FieldType.boolean) ∈ gtbl := List.mem_of_getElem? (i := 976) (by decide +kernel)
theorem g_977 : Cond.methodLink "MorphWordsModel" (165 : Nat) ⟨"MorphWordsModel", "around", "(IIZ)I"⟩ ∈ gtbl := List.mem_of_getElem? (i := 977) (by decide +kernel)
theorem g_978 : Cond.instanceMethod ⟨"MorphWordsModel", "around", "(IIZ)I"⟩ ∈ gtbl := List.mem_of_getElem? (i := 978) (by decide +kernel)
theorem g_979 : Cond.code ⟨"MorphWordsModel", "around", "(IIZ)I"⟩ prog_13_method_52_code (7 : Nat) (Option.some FieldType.int) ∈ gtbl := List.mem_of_getElem? (i := 979) (by decide +kernel)
theorem g_980 : Cond.methodLink "MorphWordsModel" (169 : Nat) ⟨"MorphWordsModel", "isMany", "(I)Z"⟩ ∈ gtbl := List.mem_of_getElem? (i := 980) (by decide +kernel)
theorem g_981 : Cond.static ⟨"MorphWordsModel", "isMany", "(I)Z"⟩ ∈ gtbl := List.mem_of_getElem? (i := 981) (by decide +kernel)
theorem g_982 : Cond.code ⟨"MorphWordsModel", "isMany", "(I)Z"⟩ prog_13_method_53_code (1 : Nat) (Option.some FieldType.boolean) ∈ gtbl := List.mem_of_getElem? (i := 982) (by decide +kernel)
theorem g_983 : Cond.methodLink "MorphWordsLaw" (106 : Nat) ⟨"MorphWordsModel", "balance", "(II)I"⟩ ∈ gtbl := List.mem_of_getElem? (i := 983) (by decide +kernel)
theorem g_984 : Cond.instanceMethod ⟨"MorphWordsModel", "balance", "(II)I"⟩ ∈ gtbl := List.mem_of_getElem? (i := 984) (by decide +kernel)
theorem g_985 : Cond.selects "MorphWordsModel" ⟨"MorphWordsModel", "balance", "(II)I"⟩ ⟨"MorphWordsModel", "balance", "(II)I"⟩ ∈ gtbl := List.mem_of_getElem? (i := 985) (by decide +kernel)
theorem g_986 : Cond.code ⟨"MorphWordsModel", "balance", "(II)I"⟩ prog_13_method_56_code (7 : Nat) (Option.some FieldType.int) ∈ gtbl := List.mem_of_getElem? (i := 986) (by decide +kernel)
theorem g_987 : Cond.methodLink "MorphWordsModel" (172 : Nat) ⟨"MorphWordsModel", "times", "(III)I"⟩ ∈ gtbl := List.mem_of_getElem? (i := 987) (by decide +kernel)
theorem g_988 : Cond.instanceMethod ⟨"MorphWordsModel", "times", "(III)I"⟩ ∈ gtbl := List.mem_of_getElem? (i := 988) (by decide +kernel)
theorem g_989 : Cond.code ⟨"MorphWordsModel", "times", "(III)I"⟩ prog_13_method_55_code (6 : Nat) (Option.some FieldType.int) ∈ gtbl := List.mem_of_getElem? (i := 989) (by decide +kernel)
theorem g_990 : Cond.methodLink "MorphWordsLaw" (110 : Nat) ⟨"MorphWordsModel", "share", "(II)I"⟩ ∈ gtbl := List.mem_of_getElem? (i := 990) (by decide +kernel)
theorem g_991 : Cond.instanceMethod ⟨"MorphWordsModel", "share", "(II)I"⟩ ∈ gtbl := List.mem_of_getElem? (i := 991) (by decide +kernel)
theorem g_992 : Cond.selects "MorphWordsModel" ⟨"MorphWordsModel", "share", "(II)I"⟩ ⟨"MorphWordsModel", "share", "(II)I"⟩ ∈ gtbl := List.mem_of_getElem? (i := 992) (by decide +kernel)
theorem g_993 : Cond.code ⟨"MorphWordsModel", "share", "(II)I"⟩ prog_13_method_58_code (4 : Nat) (Option.some FieldType.int) ∈ gtbl := List.mem_of_getElem? (i := 993) (by decide +kernel)
theorem g_994 : Cond.methodLink "MorphWordsModel" (175 : Nat) ⟨"MorphWordsModel", "divisor", "(II)I"⟩ ∈ gtbl := List.mem_of_getElem? (i := 994) (by decide +kernel)
theorem g_995 : Cond.static ⟨"MorphWordsModel", "divisor", "(II)I"⟩ ∈ gtbl := List.mem_of_getElem? (i := 995) (by decide +kernel)
theorem g_996 : Cond.code ⟨"MorphWordsModel", "divisor", "(II)I"⟩ prog_13_method_57_code (5 : Nat) (Option.some FieldType.int) ∈ gtbl := List.mem_of_getElem? (i := 996) (by decide +kernel)
theorem g_997 : Cond.methodLink "MorphWordsLaw" (114 : Nat) ⟨"MorphWordsModel", "run", "(I)I"⟩ ∈ gtbl := List.mem_of_getElem? (i := 997) (by decide +kernel)
theorem g_998 : Cond.instanceMethod ⟨"MorphWordsModel", "run", "(I)I"⟩ ∈ gtbl := List.mem_of_getElem? (i := 998) (by decide +kernel)
theorem g_999 : Cond.selects "MorphWordsModel" ⟨"MorphWordsModel", "run", "(I)I"⟩ ⟨"MorphWordsModel", "run", "(I)I"⟩ ∈ gtbl := List.mem_of_getElem? (i := 999) (by decide +kernel)
theorem g_1000 : Cond.code ⟨"MorphWordsModel", "run", "(I)I"⟩ prog_13_method_59_code (8 : Nat) (Option.some FieldType.int) ∈ gtbl := List.mem_of_getElem? (i := 1000) (by decide +kernel)
theorem g_1001 : Cond.methodLink "MorphWordsLaw" (118 : Nat) ⟨"MorphWordsModel", "mirrored", "(I)I"⟩ ∈ gtbl := List.mem_of_getElem? (i := 1001) (by decide +kernel)
theorem g_1002 : Cond.instanceMethod ⟨"MorphWordsModel", "mirrored", "(I)I"⟩ ∈ gtbl := List.mem_of_getElem? (i := 1002) (by decide +kernel)
theorem g_1003 : Cond.selects "MorphWordsModel" ⟨"MorphWordsModel", "mirrored", "(I)I"⟩ ⟨"MorphWordsModel", "mirrored", "(I)I"⟩ ∈ gtbl := List.mem_of_getElem? (i := 1003) (by decide +kernel)
theorem g_1004 : Cond.code ⟨"MorphWordsModel", "mirrored", "(I)I"⟩ prog_13_method_60_code (6 : Nat) (Option.some FieldType.int) ∈ gtbl := List.mem_of_getElem? (i := 1004) (by decide +kernel)
theorem g_1005 : Cond.methodLink "MorphWordsLaw" (122 : Nat) ⟨"MorphWordsModel", "comes", "(I)I"⟩ ∈ gtbl := List.mem_of_getElem? (i := 1005) (by decide +kernel)
theorem g_1006 : Cond.instanceMethod ⟨"MorphWordsModel", "comes", "(I)I"⟩ ∈ gtbl := List.mem_of_getElem? (i := 1006) (by decide +kernel)
theorem g_1007 : Cond.selects "MorphWordsModel" ⟨"MorphWordsModel", "comes", "(I)I"⟩ ⟨"MorphWordsModel", "comes", "(I)I"⟩ ∈ gtbl := List.mem_of_getElem? (i := 1007) (by decide +kernel)
theorem g_1008 : Cond.code ⟨"MorphWordsModel", "comes", "(I)I"⟩ prog_13_method_61_code (2 : Nat) (Option.some FieldType.int) ∈ gtbl := List.mem_of_getElem? (i := 1008) (by decide +kernel)
theorem g_1009 : Cond.methodLink "MorphWordsLaw" (126 : Nat) ⟨"MorphWordsModel", "returns", "(II)I"⟩ ∈ gtbl := List.mem_of_getElem? (i := 1009) (by decide +kernel)
theorem g_1010 : Cond.instanceMethod ⟨"MorphWordsModel", "returns", "(II)I"⟩ ∈ gtbl := List.mem_of_getElem? (i := 1010) (by decide +kernel)
theorem g_1011 : Cond.selects "MorphWordsModel" ⟨"MorphWordsModel", "returns", "(II)I"⟩ ⟨"MorphWordsModel", "returns", "(II)I"⟩ ∈ gtbl := List.mem_of_getElem? (i := 1011) (by decide +kernel)
theorem g_1012 : Cond.code ⟨"MorphWordsModel", "returns", "(II)I"⟩ prog_13_method_62_code (6 : Nat) (Option.some FieldType.int) ∈ gtbl := List.mem_of_getElem? (i := 1012) (by decide +kernel)
theorem g_1013 : Cond.methodLink "MorphWordsLaw" (130 : Nat) ⟨"MorphWordsModel", "row", "(I)I"⟩ ∈ gtbl := List.mem_of_getElem? (i := 1013) (by decide +kernel)
theorem g_1014 : Cond.instanceMethod ⟨"MorphWordsModel", "row", "(I)I"⟩ ∈ gtbl := List.mem_of_getElem? (i := 1014) (by decide +kernel)
theorem g_1015 : Cond.selects "MorphWordsModel" ⟨"MorphWordsModel", "row", "(I)I"⟩ ⟨"MorphWordsModel", "row", "(I)I"⟩ ∈ gtbl := List.mem_of_getElem? (i := 1015) (by decide +kernel)
theorem g_1016 : Cond.code ⟨"MorphWordsModel", "row", "(I)I"⟩ prog_13_method_63_code (2 : Nat) (Option.some FieldType.int) ∈ gtbl := List.mem_of_getElem? (i := 1016) (by decide +kernel)
theorem g_1017 : Cond.methodLink "MorphWordsLaw" (134 : Nat) ⟨"MorphWordsModel", "count", "(I)I"⟩ ∈ gtbl := List.mem_of_getElem? (i := 1017) (by decide +kernel)
theorem g_1018 : Cond.instanceMethod ⟨"MorphWordsModel", "count", "(I)I"⟩ ∈ gtbl := List.mem_of_getElem? (i := 1018) (by decide +kernel)
theorem g_1019 : Cond.selects "MorphWordsModel" ⟨"MorphWordsModel", "count", "(I)I"⟩ ⟨"MorphWordsModel", "count", "(I)I"⟩ ∈ gtbl := List.mem_of_getElem? (i := 1019) (by decide +kernel)
theorem g_1020 : Cond.code ⟨"MorphWordsModel", "count", "(I)I"⟩ prog_13_method_65_code (2 : Nat) (Option.some FieldType.int) ∈ gtbl := List.mem_of_getElem? (i := 1020) (by decide +kernel)
theorem g_1021 : Cond.methodLink "MorphWordsModel" (178 : Nat) ⟨"MorphWordsModel", "lettersOfWord", "()I"⟩ ∈ gtbl := List.mem_of_getElem? (i := 1021) (by decide +kernel)
theorem g_1022 : Cond.instanceMethod ⟨"MorphWordsModel", "lettersOfWord", "()I"⟩ ∈ gtbl := List.mem_of_getElem? (i := 1022) (by decide +kernel)
theorem g_1023 : Cond.code ⟨"MorphWordsModel", "lettersOfWord", "()I"⟩ prog_13_method_64_code (3 : Nat) (Option.some FieldType.int) ∈ gtbl := List.mem_of_getElem? (i := 1023) (by decide +kernel)
end
section
theorem d_GR_init_0 : decode b_GR_init 0 = .ok (.aload_n 0, 1) := by decide +kernel
theorem d_GR_init_1 : decode b_GR_init 1 = .ok (.invokespecial 1, 3) := by decide +kernel
theorem d_GR_init_4 : decode b_GR_init 4 = .ok (.aload_n 0, 1) := by decide +kernel
theorem d_GR_init_5 : decode b_GR_init 5 = .ok (.iconst 1, 1) := by decide +kernel
theorem d_GR_init_6 : decode b_GR_init 6 = .ok (.putfield 7, 3) := by decide +kernel
theorem d_GR_init_9 : decode b_GR_init 9 = .ok (.aload_n 0, 1) := by decide +kernel
theorem d_GR_init_10 : decode b_GR_init 10 = .ok (.iconst 0, 1) := by decide +kernel
theorem d_GR_init_11 : decode b_GR_init 11 = .ok (.putfield 13, 3) := by decide +kernel
theorem d_GR_init_14 : decode b_GR_init 14 = .ok (.aload_n 0, 1) := by decide +kernel
theorem d_GR_init_15 : decode b_GR_init 15 = .ok (.iconst 1, 1) := by decide +kernel
theorem d_GR_init_16 : decode b_GR_init 16 = .ok (.putfield 16, 3) := by decide +kernel
theorem d_GR_init_19 : decode b_GR_init 19 = .ok (.return_, 1) := by decide +kernel
theorem d_GR_find_0 : decode b_GR_find 0 = .ok (.aload_n 0, 1) := by decide +kernel
theorem d_GR_find_1 : decode b_GR_find 1 = .ok (.iconst 1, 1) := by decide +kernel
theorem d_GR_find_2 : decode b_GR_find 2 = .ok (.putfield 7, 3) := by decide +kernel
theorem d_GR_find_5 : decode b_GR_find 5 = .ok (.aload_n 0, 1) := by decide +kernel
theorem d_GR_find_6 : decode b_GR_find 6 = .ok (.iconst 0, 1) := by decide +kernel
theorem d_GR_find_7 : decode b_GR_find 7 = .ok (.putfield 13, 3) := by decide +kernel
theorem d_GR_find_10 : decode b_GR_find 10 = .ok (.aload_n 0, 1) := by decide +kernel
theorem d_GR_find_11 : decode b_GR_find 11 = .ok (.iconst 1, 1) := by decide +kernel
theorem d_GR_find_12 : decode b_GR_find 12 = .ok (.putfield 16, 3) := by decide +kernel
theorem d_GR_find_15 : decode b_GR_find 15 = .ok (.iconst 1, 1) := by decide +kernel
theorem d_GR_find_16 : decode b_GR_find 16 = .ok (.istore_n 2, 1) := by decide +kernel
theorem d_GR_find_17 : decode b_GR_find 17 = .ok (.iload_n 2, 1) := by decide +kernel
theorem d_GR_find_18 : decode b_GR_find 18 = .ok (.aload_n 1, 1) := by decide +kernel
theorem d_GR_find_19 : decode b_GR_find 19 = .ok (.invokevirtual 19, 3) := by decide +kernel
theorem d_GR_find_22 : decode b_GR_find 22 = .ok (.if_icmp .ge 15, 3) := by decide +kernel
theorem d_GR_find_25 : decode b_GR_find 25 = .ok (.aload_n 0, 1) := by decide +kernel
theorem d_GR_find_26 : decode b_GR_find 26 = .ok (.aload_n 1, 1) := by decide +kernel
theorem d_GR_find_27 : decode b_GR_find 27 = .ok (.iload_n 2, 1) := by decide +kernel
theorem d_GR_find_28 : decode b_GR_find 28 = .ok (.invokevirtual 24, 3) := by decide +kernel
theorem d_GR_find_31 : decode b_GR_find 31 = .ok (.iinc 2 1, 3) := by decide +kernel
theorem d_GR_find_34 : decode b_GR_find 34 = .ok (.goto (-17), 3) := by decide +kernel
theorem d_GR_find_37 : decode b_GR_find 37 = .ok (.return_, 1) := by decide +kernel
theorem d_GR_findWithPeriod_0 : decode b_GR_findWithPeriod 0 = .ok (.iconst 0, 1) := by decide +kernel
theorem d_GR_findWithPeriod_1 : decode b_GR_findWithPeriod 1 = .ok (.istore_n 3, 1) := by decide +kernel
theorem d_GR_findWithPeriod_2 : decode b_GR_findWithPeriod 2 = .ok (.iload_n 2, 1) := by decide +kernel
theorem d_GR_findWithPeriod_3 : decode b_GR_findWithPeriod 3 = .ok (.istore 4, 2) := by decide +kernel
theorem d_GR_findWithPeriod_5 : decode b_GR_findWithPeriod 5 = .ok (.iload 4, 2) := by decide +kernel
theorem d_GR_findWithPeriod_7 : decode b_GR_findWithPeriod 7 = .ok (.aload_n 1, 1) := by decide +kernel
theorem d_GR_findWithPeriod_8 : decode b_GR_findWithPeriod 8 = .ok (.invokevirtual 19, 3) := by decide +kernel
theorem d_GR_findWithPeriod_11 : decode b_GR_findWithPeriod 11 = .ok (.if_icmp .ge 77, 3) := by decide +kernel
theorem d_GR_findWithPeriod_14 : decode b_GR_findWithPeriod 14 = .ok (.aload_n 1, 1) := by decide +kernel
theorem d_GR_findWithPeriod_15 : decode b_GR_findWithPeriod 15 = .ok (.iload 4, 2) := by decide +kernel
theorem d_GR_findWithPeriod_17 : decode b_GR_findWithPeriod 17 = .ok (.invokevirtual 28, 3) := by decide +kernel
theorem d_GR_findWithPeriod_20 : decode b_GR_findWithPeriod 20 = .ok (.aload_n 1, 1) := by decide +kernel
theorem d_GR_findWithPeriod_21 : decode b_GR_findWithPeriod 21 = .ok (.iload 4, 2) := by decide +kernel
theorem d_GR_findWithPeriod_23 : decode b_GR_findWithPeriod 23 = .ok (.iload_n 2, 1) := by decide +kernel
theorem d_GR_findWithPeriod_24 : decode b_GR_findWithPeriod 24 = .ok (.isub, 1) := by decide +kernel
theorem d_GR_findWithPeriod_25 : decode b_GR_findWithPeriod 25 = .ok (.invokevirtual 28, 3) := by decide +kernel
theorem d_GR_findWithPeriod_28 : decode b_GR_findWithPeriod 28 = .ok (.if_icmp .ne 9, 3) := by decide +kernel
theorem d_GR_findWithPeriod_31 : decode b_GR_findWithPeriod 31 = .ok (.iload_n 3, 1) := by decide +kernel
theorem d_GR_findWithPeriod_32 : decode b_GR_findWithPeriod 32 = .ok (.iconst 1, 1) := by decide +kernel
theorem d_GR_findWithPeriod_33 : decode b_GR_findWithPeriod 33 = .ok (.iadd, 1) := by decide +kernel
theorem d_GR_findWithPeriod_34 : decode b_GR_findWithPeriod 34 = .ok (.goto 4, 3) := by decide +kernel
theorem d_GR_findWithPeriod_37 : decode b_GR_findWithPeriod 37 = .ok (.iconst 0, 1) := by decide +kernel
theorem d_GR_findWithPeriod_38 : decode b_GR_findWithPeriod 38 = .ok (.istore_n 3, 1) := by decide +kernel
theorem d_GR_findWithPeriod_39 : decode b_GR_findWithPeriod 39 = .ok (.iload_n 2, 1) := by decide +kernel
theorem d_GR_findWithPeriod_40 : decode b_GR_findWithPeriod 40 = .ok (.iload_n 3, 1) := by decide +kernel
theorem d_GR_findWithPeriod_41 : decode b_GR_findWithPeriod 41 = .ok (.iadd, 1) := by decide +kernel
theorem d_GR_findWithPeriod_42 : decode b_GR_findWithPeriod 42 = .ok (.istore 5, 2) := by decide +kernel
theorem d_GR_findWithPeriod_44 : decode b_GR_findWithPeriod 44 = .ok (.iload 5, 2) := by decide +kernel
theorem d_GR_findWithPeriod_46 : decode b_GR_findWithPeriod 46 = .ok (.aload_n 0, 1) := by decide +kernel
theorem d_GR_findWithPeriod_47 : decode b_GR_findWithPeriod 47 = .ok (.getfield 7, 3) := by decide +kernel
theorem d_GR_findWithPeriod_50 : decode b_GR_findWithPeriod 50 = .ok (.imul, 1) := by decide +kernel
theorem d_GR_findWithPeriod_51 : decode b_GR_findWithPeriod 51 = .ok (.aload_n 0, 1) := by decide +kernel
theorem d_GR_findWithPeriod_52 : decode b_GR_findWithPeriod 52 = .ok (.getfield 16, 3) := by decide +kernel
theorem d_GR_findWithPeriod_55 : decode b_GR_findWithPeriod 55 = .ok (.iload_n 2, 1) := by decide +kernel
theorem d_GR_findWithPeriod_56 : decode b_GR_findWithPeriod 56 = .ok (.imul, 1) := by decide +kernel
theorem d_GR_findWithPeriod_57 : decode b_GR_findWithPeriod 57 = .ok (.if_icmp .le 25, 3) := by decide +kernel
theorem d_GR_findWithPeriod_60 : decode b_GR_findWithPeriod 60 = .ok (.aload_n 0, 1) := by decide +kernel
theorem d_GR_findWithPeriod_61 : decode b_GR_findWithPeriod 61 = .ok (.iload_n 2, 1) := by decide +kernel
theorem d_GR_findWithPeriod_62 : decode b_GR_findWithPeriod 62 = .ok (.putfield 7, 3) := by decide +kernel
theorem d_GR_findWithPeriod_65 : decode b_GR_findWithPeriod 65 = .ok (.aload_n 0, 1) := by decide +kernel
theorem d_GR_findWithPeriod_66 : decode b_GR_findWithPeriod 66 = .ok (.iload 4, 2) := by decide +kernel
theorem d_GR_findWithPeriod_68 : decode b_GR_findWithPeriod 68 = .ok (.iload 5, 2) := by decide +kernel
theorem d_GR_findWithPeriod_70 : decode b_GR_findWithPeriod 70 = .ok (.isub, 1) := by decide +kernel
theorem d_GR_findWithPeriod_71 : decode b_GR_findWithPeriod 71 = .ok (.iconst 1, 1) := by decide +kernel
theorem d_GR_findWithPeriod_72 : decode b_GR_findWithPeriod 72 = .ok (.iadd, 1) := by decide +kernel
theorem d_GR_findWithPeriod_73 : decode b_GR_findWithPeriod 73 = .ok (.putfield 13, 3) := by decide +kernel
theorem d_GR_findWithPeriod_76 : decode b_GR_findWithPeriod 76 = .ok (.aload_n 0, 1) := by decide +kernel
theorem d_GR_findWithPeriod_77 : decode b_GR_findWithPeriod 77 = .ok (.iload 5, 2) := by decide +kernel
theorem d_GR_findWithPeriod_79 : decode b_GR_findWithPeriod 79 = .ok (.putfield 16, 3) := by decide +kernel
theorem d_GR_findWithPeriod_82 : decode b_GR_findWithPeriod 82 = .ok (.iinc 4 1, 3) := by decide +kernel
theorem d_GR_findWithPeriod_85 : decode b_GR_findWithPeriod 85 = .ok (.goto (-80), 3) := by decide +kernel
theorem d_GR_findWithPeriod_88 : decode b_GR_findWithPeriod 88 = .ok (.return_, 1) := by decide +kernel
theorem d_GR_period_0 : decode b_GR_period 0 = .ok (.aload_n 0, 1) := by decide +kernel
theorem d_GR_period_1 : decode b_GR_period 1 = .ok (.getfield 7, 3) := by decide +kernel
theorem d_GR_period_4 : decode b_GR_period 4 = .ok (.ireturn, 1) := by decide +kernel
theorem d_GR_place_0 : decode b_GR_place 0 = .ok (.aload_n 0, 1) := by decide +kernel
theorem d_GR_place_1 : decode b_GR_place 1 = .ok (.getfield 13, 3) := by decide +kernel
theorem d_GR_place_4 : decode b_GR_place 4 = .ok (.ireturn, 1) := by decide +kernel
theorem d_GR_length_0 : decode b_GR_length 0 = .ok (.aload_n 0, 1) := by decide +kernel
theorem d_GR_length_1 : decode b_GR_length 1 = .ok (.getfield 16, 3) := by decide +kernel
theorem d_GR_length_4 : decode b_GR_length 4 = .ok (.ireturn, 1) := by decide +kernel
theorem d_HI_init_0 : decode b_HI_init 0 = .ok (.aload_n 0, 1) := by decide +kernel
theorem d_HI_init_1 : decode b_HI_init 1 = .ok (.invokespecial 3, 3) := by decide +kernel
theorem d_HI_init_4 : decode b_HI_init 4 = .ok (.aload_n 0, 1) := by decide +kernel
theorem d_HI_init_5 : decode b_HI_init 5 = .ok (.iconst 4, 1) := by decide +kernel
theorem d_HI_init_6 : decode b_HI_init 6 = .ok (.anewarray 9, 3) := by decide +kernel
theorem d_HI_init_9 : decode b_HI_init 9 = .ok (.putfield 11, 3) := by decide +kernel
theorem d_HI_init_12 : decode b_HI_init 12 = .ok (.aload_n 0, 1) := by decide +kernel
theorem d_HI_init_13 : decode b_HI_init 13 = .ok (.iconst 0, 1) := by decide +kernel
theorem d_HI_init_14 : decode b_HI_init 14 = .ok (.putfield 17, 3) := by decide +kernel
theorem d_HI_init_17 : decode b_HI_init 17 = .ok (.iconst 0, 1) := by decide +kernel
theorem d_HI_init_18 : decode b_HI_init 18 = .ok (.istore_n 1, 1) := by decide +kernel
theorem d_HI_init_19 : decode b_HI_init 19 = .ok (.iload_n 1, 1) := by decide +kernel
theorem d_HI_init_20 : decode b_HI_init 20 = .ok (.iconst 4, 1) := by decide +kernel
theorem d_HI_init_21 : decode b_HI_init 21 = .ok (.if_icmp .ge 22, 3) := by decide +kernel
theorem d_HI_init_24 : decode b_HI_init 24 = .ok (.aload_n 0, 1) := by decide +kernel
theorem d_HI_init_25 : decode b_HI_init 25 = .ok (.getfield 11, 3) := by decide +kernel
theorem d_HI_init_28 : decode b_HI_init 28 = .ok (.iload_n 1, 1) := by decide +kernel
theorem d_HI_init_29 : decode b_HI_init 29 = .ok (.new 9, 3) := by decide +kernel
theorem d_HI_init_32 : decode b_HI_init 32 = .ok (.dup, 1) := by decide +kernel
theorem d_HI_init_33 : decode b_HI_init 33 = .ok (.invokespecial 21, 3) := by decide +kernel
theorem d_HI_init_36 : decode b_HI_init 36 = .ok (.aastore, 1) := by decide +kernel
theorem d_HI_init_37 : decode b_HI_init 37 = .ok (.iinc 1 1, 3) := by decide +kernel
theorem d_HI_init_40 : decode b_HI_init 40 = .ok (.goto (-21), 3) := by decide +kernel
theorem d_HI_init_43 : decode b_HI_init 43 = .ok (.return_, 1) := by decide +kernel
theorem d_HI_held_0 : decode b_HI_held 0 = .ok (.aload_n 0, 1) := by decide +kernel
theorem d_HI_held_1 : decode b_HI_held 1 = .ok (.getfield 17, 3) := by decide +kernel
theorem d_HI_held_4 : decode b_HI_held 4 = .ok (.ireturn, 1) := by decide +kernel
theorem d_HI_record_0 : decode b_HI_record 0 = .ok (.aload_n 0, 1) := by decide +kernel
theorem d_HI_record_1 : decode b_HI_record 1 = .ok (.getfield 17, 3) := by decide +kernel
theorem d_HI_record_4 : decode b_HI_record 4 = .ok (.iconst 4, 1) := by decide +kernel
theorem d_HI_record_5 : decode b_HI_record 5 = .ok (.if_icmp .lt 7, 3) := by decide +kernel
theorem d_HI_record_8 : decode b_HI_record 8 = .ok (.aload_n 0, 1) := by decide +kernel
theorem d_HI_record_9 : decode b_HI_record 9 = .ok (.invokevirtual 22, 3) := by decide +kernel
theorem d_HI_record_12 : decode b_HI_record 12 = .ok (.aload_n 0, 1) := by decide +kernel
theorem d_HI_record_13 : decode b_HI_record 13 = .ok (.getfield 11, 3) := by decide +kernel
theorem d_HI_record_16 : decode b_HI_record 16 = .ok (.aload_n 0, 1) := by decide +kernel
theorem d_HI_record_17 : decode b_HI_record 17 = .ok (.getfield 17, 3) := by decide +kernel
theorem d_HI_record_20 : decode b_HI_record 20 = .ok (.aaload, 1) := by decide +kernel
theorem d_HI_record_21 : decode b_HI_record 21 = .ok (.aload_n 1, 1) := by decide +kernel
theorem d_HI_record_22 : decode b_HI_record 22 = .ok (.invokevirtual 25, 3) := by decide +kernel
theorem d_HI_record_25 : decode b_HI_record 25 = .ok (.aload_n 0, 1) := by decide +kernel
theorem d_HI_record_26 : decode b_HI_record 26 = .ok (.dup, 1) := by decide +kernel
theorem d_HI_record_27 : decode b_HI_record 27 = .ok (.getfield 17, 3) := by decide +kernel
theorem d_HI_record_30 : decode b_HI_record 30 = .ok (.iconst 1, 1) := by decide +kernel
theorem d_HI_record_31 : decode b_HI_record 31 = .ok (.iadd, 1) := by decide +kernel
theorem d_HI_record_32 : decode b_HI_record 32 = .ok (.putfield 17, 3) := by decide +kernel
theorem d_HI_record_35 : decode b_HI_record 35 = .ok (.return_, 1) := by decide +kernel
theorem d_HI_dropOldest_0 : decode b_HI_dropOldest 0 = .ok (.aload_n 0, 1) := by decide +kernel
theorem d_HI_dropOldest_1 : decode b_HI_dropOldest 1 = .ok (.getfield 11, 3) := by decide +kernel
theorem d_HI_dropOldest_4 : decode b_HI_dropOldest 4 = .ok (.iconst 0, 1) := by decide +kernel
theorem d_HI_dropOldest_5 : decode b_HI_dropOldest 5 = .ok (.aaload, 1) := by decide +kernel
theorem d_HI_dropOldest_6 : decode b_HI_dropOldest 6 = .ok (.astore_n 1, 1) := by decide +kernel
theorem d_HI_dropOldest_7 : decode b_HI_dropOldest 7 = .ok (.iconst 1, 1) := by decide +kernel
theorem d_HI_dropOldest_8 : decode b_HI_dropOldest 8 = .ok (.istore_n 2, 1) := by decide +kernel
theorem d_HI_dropOldest_9 : decode b_HI_dropOldest 9 = .ok (.iload_n 2, 1) := by decide +kernel
theorem d_HI_dropOldest_10 : decode b_HI_dropOldest 10 = .ok (.iconst 4, 1) := by decide +kernel
theorem d_HI_dropOldest_11 : decode b_HI_dropOldest 11 = .ok (.if_icmp .ge 23, 3) := by decide +kernel
theorem d_HI_dropOldest_14 : decode b_HI_dropOldest 14 = .ok (.aload_n 0, 1) := by decide +kernel
theorem d_HI_dropOldest_15 : decode b_HI_dropOldest 15 = .ok (.getfield 11, 3) := by decide +kernel
theorem d_HI_dropOldest_18 : decode b_HI_dropOldest 18 = .ok (.iload_n 2, 1) := by decide +kernel
theorem d_HI_dropOldest_19 : decode b_HI_dropOldest 19 = .ok (.iconst 1, 1) := by decide +kernel
theorem d_HI_dropOldest_20 : decode b_HI_dropOldest 20 = .ok (.isub, 1) := by decide +kernel
theorem d_HI_dropOldest_21 : decode b_HI_dropOldest 21 = .ok (.aload_n 0, 1) := by decide +kernel
theorem d_HI_dropOldest_22 : decode b_HI_dropOldest 22 = .ok (.getfield 11, 3) := by decide +kernel
theorem d_HI_dropOldest_25 : decode b_HI_dropOldest 25 = .ok (.iload_n 2, 1) := by decide +kernel
theorem d_HI_dropOldest_26 : decode b_HI_dropOldest 26 = .ok (.aaload, 1) := by decide +kernel
theorem d_HI_dropOldest_27 : decode b_HI_dropOldest 27 = .ok (.aastore, 1) := by decide +kernel
theorem d_HI_dropOldest_28 : decode b_HI_dropOldest 28 = .ok (.iinc 2 1, 3) := by decide +kernel
theorem d_HI_dropOldest_31 : decode b_HI_dropOldest 31 = .ok (.goto (-22), 3) := by decide +kernel
theorem d_HI_dropOldest_34 : decode b_HI_dropOldest 34 = .ok (.aload_n 0, 1) := by decide +kernel
theorem d_HI_dropOldest_35 : decode b_HI_dropOldest 35 = .ok (.getfield 11, 3) := by decide +kernel
theorem d_HI_dropOldest_38 : decode b_HI_dropOldest 38 = .ok (.iconst 3, 1) := by decide +kernel
theorem d_HI_dropOldest_39 : decode b_HI_dropOldest 39 = .ok (.aload_n 1, 1) := by decide +kernel
theorem d_HI_dropOldest_40 : decode b_HI_dropOldest 40 = .ok (.aastore, 1) := by decide +kernel
theorem d_HI_dropOldest_41 : decode b_HI_dropOldest 41 = .ok (.aload_n 0, 1) := by decide +kernel
theorem d_HI_dropOldest_42 : decode b_HI_dropOldest 42 = .ok (.iconst 3, 1) := by decide +kernel
theorem d_HI_dropOldest_43 : decode b_HI_dropOldest 43 = .ok (.putfield 17, 3) := by decide +kernel
theorem d_HI_dropOldest_46 : decode b_HI_dropOldest 46 = .ok (.return_, 1) := by decide +kernel
theorem d_HI_takeBack_0 : decode b_HI_takeBack 0 = .ok (.aload_n 0, 1) := by decide +kernel
theorem d_HI_takeBack_1 : decode b_HI_takeBack 1 = .ok (.getfield 17, 3) := by decide +kernel
theorem d_HI_takeBack_4 : decode b_HI_takeBack 4 = .ok (.iconst 1, 1) := by decide +kernel
theorem d_HI_takeBack_5 : decode b_HI_takeBack 5 = .ok (.if_icmp .ge 5, 3) := by decide +kernel
theorem d_HI_takeBack_8 : decode b_HI_takeBack 8 = .ok (.iconst 0, 1) := by decide +kernel
theorem d_HI_takeBack_9 : decode b_HI_takeBack 9 = .ok (.ireturn, 1) := by decide +kernel
theorem d_HI_takeBack_10 : decode b_HI_takeBack 10 = .ok (.aload_n 0, 1) := by decide +kernel
theorem d_HI_takeBack_11 : decode b_HI_takeBack 11 = .ok (.dup, 1) := by decide +kernel
theorem d_HI_takeBack_12 : decode b_HI_takeBack 12 = .ok (.getfield 17, 3) := by decide +kernel
theorem d_HI_takeBack_15 : decode b_HI_takeBack 15 = .ok (.iconst 1, 1) := by decide +kernel
theorem d_HI_takeBack_16 : decode b_HI_takeBack 16 = .ok (.isub, 1) := by decide +kernel
theorem d_HI_takeBack_17 : decode b_HI_takeBack 17 = .ok (.putfield 17, 3) := by decide +kernel
theorem d_HI_takeBack_20 : decode b_HI_takeBack 20 = .ok (.aload_n 1, 1) := by decide +kernel
theorem d_HI_takeBack_21 : decode b_HI_takeBack 21 = .ok (.aload_n 0, 1) := by decide +kernel
theorem d_HI_takeBack_22 : decode b_HI_takeBack 22 = .ok (.getfield 11, 3) := by decide +kernel
theorem d_HI_takeBack_25 : decode b_HI_takeBack 25 = .ok (.aload_n 0, 1) := by decide +kernel
theorem d_HI_takeBack_26 : decode b_HI_takeBack 26 = .ok (.getfield 17, 3) := by decide +kernel
theorem d_HI_takeBack_29 : decode b_HI_takeBack 29 = .ok (.aaload, 1) := by decide +kernel
theorem d_HI_takeBack_30 : decode b_HI_takeBack 30 = .ok (.invokevirtual 25, 3) := by decide +kernel
theorem d_HI_takeBack_33 : decode b_HI_takeBack 33 = .ok (.iconst 1, 1) := by decide +kernel
theorem d_HI_takeBack_34 : decode b_HI_takeBack 34 = .ok (.ireturn, 1) := by decide +kernel
theorem d_LE_init_0 : decode b_LE_init 0 = .ok (.aload_n 0, 1) := by decide +kernel
theorem d_LE_init_1 : decode b_LE_init 1 = .ok (.invokespecial 3, 3) := by decide +kernel
theorem d_LE_init_4 : decode b_LE_init 4 = .ok (.aload_n 0, 1) := by decide +kernel
theorem d_LE_init_5 : decode b_LE_init 5 = .ok (.iconst 0, 1) := by decide +kernel
theorem d_LE_init_6 : decode b_LE_init 6 = .ok (.putfield 9, 3) := by decide +kernel
theorem d_LE_init_9 : decode b_LE_init 9 = .ok (.aload_n 0, 1) := by decide +kernel
theorem d_LE_init_10 : decode b_LE_init 10 = .ok (.iload_n 1, 1) := by decide +kernel
theorem d_LE_init_11 : decode b_LE_init 11 = .ok (.iconst 0, 1) := by decide +kernel
theorem d_LE_init_12 : decode b_LE_init 12 = .ok (.invokestatic 15, 3) := by decide +kernel
theorem d_LE_init_15 : decode b_LE_init 15 = .ok (.newarray .int, 2) := by decide +kernel
theorem d_LE_init_17 : decode b_LE_init 17 = .ok (.putfield 21, 3) := by decide +kernel
theorem d_LE_init_20 : decode b_LE_init 20 = .ok (.return_, 1) := by decide +kernel
theorem d_LE_length_0 : decode b_LE_length 0 = .ok (.aload_n 0, 1) := by decide +kernel
theorem d_LE_length_1 : decode b_LE_length 1 = .ok (.getfield 9, 3) := by decide +kernel
theorem d_LE_length_4 : decode b_LE_length 4 = .ok (.ireturn, 1) := by decide +kernel
theorem d_LE_letterAt_0 : decode b_LE_letterAt 0 = .ok (.iload_n 1, 1) := by decide +kernel
theorem d_LE_letterAt_1 : decode b_LE_letterAt 1 = .ok (.ifCond .lt 20, 3) := by decide +kernel
theorem d_LE_letterAt_4 : decode b_LE_letterAt 4 = .ok (.iload_n 1, 1) := by decide +kernel
theorem d_LE_letterAt_5 : decode b_LE_letterAt 5 = .ok (.aload_n 0, 1) := by decide +kernel
theorem d_LE_letterAt_6 : decode b_LE_letterAt 6 = .ok (.getfield 9, 3) := by decide +kernel
theorem d_LE_letterAt_9 : decode b_LE_letterAt 9 = .ok (.if_icmp .ge 12, 3) := by decide +kernel
theorem d_LE_letterAt_12 : decode b_LE_letterAt 12 = .ok (.aload_n 0, 1) := by decide +kernel
theorem d_LE_letterAt_13 : decode b_LE_letterAt 13 = .ok (.getfield 21, 3) := by decide +kernel
theorem d_LE_letterAt_16 : decode b_LE_letterAt 16 = .ok (.iload_n 1, 1) := by decide +kernel
theorem d_LE_letterAt_17 : decode b_LE_letterAt 17 = .ok (.iaload, 1) := by decide +kernel
theorem d_LE_letterAt_18 : decode b_LE_letterAt 18 = .ok (.goto 4, 3) := by decide +kernel
theorem d_LE_letterAt_21 : decode b_LE_letterAt 21 = .ok (.iconst (-1), 1) := by decide +kernel
theorem d_LE_letterAt_22 : decode b_LE_letterAt 22 = .ok (.ireturn, 1) := by decide +kernel
theorem d_LE_clear_0 : decode b_LE_clear 0 = .ok (.aload_n 0, 1) := by decide +kernel
theorem d_LE_clear_1 : decode b_LE_clear 1 = .ok (.iconst 0, 1) := by decide +kernel
theorem d_LE_clear_2 : decode b_LE_clear 2 = .ok (.putfield 9, 3) := by decide +kernel
theorem d_LE_clear_5 : decode b_LE_clear 5 = .ok (.return_, 1) := by decide +kernel
theorem d_LE_add_0 : decode b_LE_add 0 = .ok (.iload_n 1, 1) := by decide +kernel
theorem d_LE_add_1 : decode b_LE_add 1 = .ok (.invokestatic 25, 3) := by decide +kernel
theorem d_LE_add_4 : decode b_LE_add 4 = .ok (.ifCond .eq 15, 3) := by decide +kernel
theorem d_LE_add_7 : decode b_LE_add 7 = .ok (.aload_n 0, 1) := by decide +kernel
theorem d_LE_add_8 : decode b_LE_add 8 = .ok (.getfield 9, 3) := by decide +kernel
theorem d_LE_add_11 : decode b_LE_add 11 = .ok (.aload_n 0, 1) := by decide +kernel
theorem d_LE_add_12 : decode b_LE_add 12 = .ok (.getfield 21, 3) := by decide +kernel
theorem d_LE_add_15 : decode b_LE_add 15 = .ok (.arraylength, 1) := by decide +kernel
theorem d_LE_add_16 : decode b_LE_add 16 = .ok (.if_icmp .lt 5, 3) := by decide +kernel
theorem d_LE_add_19 : decode b_LE_add 19 = .ok (.iconst 0, 1) := by decide +kernel
theorem d_LE_add_20 : decode b_LE_add 20 = .ok (.ireturn, 1) := by decide +kernel
theorem d_LE_add_21 : decode b_LE_add 21 = .ok (.aload_n 0, 1) := by decide +kernel
theorem d_LE_add_22 : decode b_LE_add 22 = .ok (.getfield 21, 3) := by decide +kernel
theorem d_LE_add_25 : decode b_LE_add 25 = .ok (.aload_n 0, 1) := by decide +kernel
theorem d_LE_add_26 : decode b_LE_add 26 = .ok (.getfield 9, 3) := by decide +kernel
theorem d_LE_add_29 : decode b_LE_add 29 = .ok (.iload_n 1, 1) := by decide +kernel
theorem d_LE_add_30 : decode b_LE_add 30 = .ok (.iastore, 1) := by decide +kernel
theorem d_LE_add_31 : decode b_LE_add 31 = .ok (.aload_n 0, 1) := by decide +kernel
theorem d_LE_add_32 : decode b_LE_add 32 = .ok (.dup, 1) := by decide +kernel
theorem d_LE_add_33 : decode b_LE_add 33 = .ok (.getfield 9, 3) := by decide +kernel
theorem d_LE_add_36 : decode b_LE_add 36 = .ok (.iconst 1, 1) := by decide +kernel
theorem d_LE_add_37 : decode b_LE_add 37 = .ok (.iadd, 1) := by decide +kernel
theorem d_LE_add_38 : decode b_LE_add 38 = .ok (.putfield 9, 3) := by decide +kernel
theorem d_LE_add_41 : decode b_LE_add 41 = .ok (.iconst 1, 1) := by decide +kernel
theorem d_LE_add_42 : decode b_LE_add 42 = .ok (.ireturn, 1) := by decide +kernel
theorem d_LE_addAll_0 : decode b_LE_addAll 0 = .ok (.iconst 0, 1) := by decide +kernel
theorem d_LE_addAll_1 : decode b_LE_addAll 1 = .ok (.istore_n 2, 1) := by decide +kernel
theorem d_LE_addAll_2 : decode b_LE_addAll 2 = .ok (.iload_n 2, 1) := by decide +kernel
theorem d_LE_addAll_3 : decode b_LE_addAll 3 = .ok (.aload_n 1, 1) := by decide +kernel
theorem d_LE_addAll_4 : decode b_LE_addAll 4 = .ok (.getfield 9, 3) := by decide +kernel
theorem d_LE_addAll_7 : decode b_LE_addAll 7 = .ok (.if_icmp .ge 23, 3) := by decide +kernel
theorem d_LE_addAll_10 : decode b_LE_addAll 10 = .ok (.aload_n 0, 1) := by decide +kernel
theorem d_LE_addAll_11 : decode b_LE_addAll 11 = .ok (.aload_n 1, 1) := by decide +kernel
theorem d_LE_addAll_12 : decode b_LE_addAll 12 = .ok (.iload_n 2, 1) := by decide +kernel
theorem d_LE_addAll_13 : decode b_LE_addAll 13 = .ok (.invokevirtual 29, 3) := by decide +kernel
theorem d_LE_addAll_16 : decode b_LE_addAll 16 = .ok (.invokevirtual 33, 3) := by decide +kernel
theorem d_LE_addAll_19 : decode b_LE_addAll 19 = .ok (.ifCond .ne 5, 3) := by decide +kernel
theorem d_LE_addAll_22 : decode b_LE_addAll 22 = .ok (.iconst 0, 1) := by decide +kernel
theorem d_LE_addAll_23 : decode b_LE_addAll 23 = .ok (.ireturn, 1) := by decide +kernel
theorem d_LE_addAll_24 : decode b_LE_addAll 24 = .ok (.iinc 2 1, 3) := by decide +kernel
theorem d_LE_addAll_27 : decode b_LE_addAll 27 = .ok (.goto (-25), 3) := by decide +kernel
theorem d_LE_addAll_30 : decode b_LE_addAll 30 = .ok (.iconst 1, 1) := by decide +kernel
theorem d_LE_addAll_31 : decode b_LE_addAll 31 = .ok (.ireturn, 1) := by decide +kernel
theorem d_LE_shorten_0 : decode b_LE_shorten 0 = .ok (.iload_n 1, 1) := by decide +kernel
theorem d_LE_shorten_1 : decode b_LE_shorten 1 = .ok (.ifCond .lt 16, 3) := by decide +kernel
theorem d_LE_shorten_4 : decode b_LE_shorten 4 = .ok (.iload_n 1, 1) := by decide +kernel
theorem d_LE_shorten_5 : decode b_LE_shorten 5 = .ok (.aload_n 0, 1) := by decide +kernel
theorem d_LE_shorten_6 : decode b_LE_shorten 6 = .ok (.getfield 9, 3) := by decide +kernel
theorem d_LE_shorten_9 : decode b_LE_shorten 9 = .ok (.if_icmp .ge 8, 3) := by decide +kernel
theorem d_LE_shorten_12 : decode b_LE_shorten 12 = .ok (.aload_n 0, 1) := by decide +kernel
theorem d_LE_shorten_13 : decode b_LE_shorten 13 = .ok (.iload_n 1, 1) := by decide +kernel
theorem d_LE_shorten_14 : decode b_LE_shorten 14 = .ok (.putfield 9, 3) := by decide +kernel
theorem d_LE_shorten_17 : decode b_LE_shorten 17 = .ok (.return_, 1) := by decide +kernel
theorem d_LE_become_0 : decode b_LE_become 0 = .ok (.aload_n 1, 1) := by decide +kernel
theorem d_LE_become_1 : decode b_LE_become 1 = .ok (.getfield 9, 3) := by decide +kernel
theorem d_LE_become_4 : decode b_LE_become 4 = .ok (.aload_n 0, 1) := by decide +kernel
theorem d_LE_become_5 : decode b_LE_become 5 = .ok (.getfield 21, 3) := by decide +kernel
theorem d_LE_become_8 : decode b_LE_become 8 = .ok (.arraylength, 1) := by decide +kernel
theorem d_LE_become_9 : decode b_LE_become 9 = .ok (.invokestatic 36, 3) := by decide +kernel
theorem d_LE_become_12 : decode b_LE_become 12 = .ok (.istore_n 2, 1) := by decide +kernel
theorem d_LE_become_13 : decode b_LE_become 13 = .ok (.aload_n 1, 1) := by decide +kernel
theorem d_LE_become_14 : decode b_LE_become 14 = .ok (.getfield 21, 3) := by decide +kernel
theorem d_LE_become_17 : decode b_LE_become 17 = .ok (.iconst 0, 1) := by decide +kernel
theorem d_LE_become_18 : decode b_LE_become 18 = .ok (.aload_n 0, 1) := by decide +kernel
theorem d_LE_become_19 : decode b_LE_become 19 = .ok (.getfield 21, 3) := by decide +kernel
theorem d_LE_become_22 : decode b_LE_become 22 = .ok (.iconst 0, 1) := by decide +kernel
theorem d_LE_become_23 : decode b_LE_become 23 = .ok (.iload_n 2, 1) := by decide +kernel
theorem d_LE_become_24 : decode b_LE_become 24 = .ok (.invokestatic 39, 3) := by decide +kernel
theorem d_LE_become_27 : decode b_LE_become 27 = .ok (.aload_n 0, 1) := by decide +kernel
theorem d_LE_become_28 : decode b_LE_become 28 = .ok (.iload_n 2, 1) := by decide +kernel
theorem d_LE_become_29 : decode b_LE_become 29 = .ok (.putfield 9, 3) := by decide +kernel
theorem d_LE_become_32 : decode b_LE_become 32 = .ok (.return_, 1) := by decide +kernel
theorem d_LE_same_0 : decode b_LE_same 0 = .ok (.aload_n 0, 1) := by decide +kernel
theorem d_LE_same_1 : decode b_LE_same 1 = .ok (.getfield 9, 3) := by decide +kernel
theorem d_LE_same_4 : decode b_LE_same 4 = .ok (.aload_n 1, 1) := by decide +kernel
theorem d_LE_same_5 : decode b_LE_same 5 = .ok (.getfield 9, 3) := by decide +kernel
theorem d_LE_same_8 : decode b_LE_same 8 = .ok (.if_icmp .ne 16, 3) := by decide +kernel
theorem d_LE_same_11 : decode b_LE_same 11 = .ok (.aload_n 0, 1) := by decide +kernel
theorem d_LE_same_12 : decode b_LE_same 12 = .ok (.iconst 0, 1) := by decide +kernel
theorem d_LE_same_13 : decode b_LE_same 13 = .ok (.aload_n 1, 1) := by decide +kernel
theorem d_LE_same_14 : decode b_LE_same 14 = .ok (.invokevirtual 45, 3) := by decide +kernel
theorem d_LE_same_17 : decode b_LE_same 17 = .ok (.ifCond .eq 7, 3) := by decide +kernel
theorem d_LE_same_20 : decode b_LE_same 20 = .ok (.iconst 1, 1) := by decide +kernel
theorem d_LE_same_21 : decode b_LE_same 21 = .ok (.goto 4, 3) := by decide +kernel
theorem d_LE_same_24 : decode b_LE_same 24 = .ok (.iconst 0, 1) := by decide +kernel
theorem d_LE_same_25 : decode b_LE_same 25 = .ok (.ireturn, 1) := by decide +kernel
theorem d_LE_hasFrom_0 : decode b_LE_hasFrom 0 = .ok (.iconst 0, 1) := by decide +kernel
theorem d_LE_hasFrom_1 : decode b_LE_hasFrom 1 = .ok (.istore_n 3, 1) := by decide +kernel
theorem d_LE_hasFrom_2 : decode b_LE_hasFrom 2 = .ok (.iload_n 3, 1) := by decide +kernel
theorem d_LE_hasFrom_3 : decode b_LE_hasFrom 3 = .ok (.aload_n 2, 1) := by decide +kernel
theorem d_LE_hasFrom_4 : decode b_LE_hasFrom 4 = .ok (.getfield 9, 3) := by decide +kernel
theorem d_LE_hasFrom_7 : decode b_LE_hasFrom 7 = .ok (.if_icmp .ge 26, 3) := by decide +kernel
theorem d_LE_hasFrom_10 : decode b_LE_hasFrom 10 = .ok (.aload_n 0, 1) := by decide +kernel
theorem d_LE_hasFrom_11 : decode b_LE_hasFrom 11 = .ok (.iload_n 1, 1) := by decide +kernel
theorem d_LE_hasFrom_12 : decode b_LE_hasFrom 12 = .ok (.iload_n 3, 1) := by decide +kernel
theorem d_LE_hasFrom_13 : decode b_LE_hasFrom 13 = .ok (.iadd, 1) := by decide +kernel
theorem d_LE_hasFrom_14 : decode b_LE_hasFrom 14 = .ok (.invokevirtual 29, 3) := by decide +kernel
theorem d_LE_hasFrom_17 : decode b_LE_hasFrom 17 = .ok (.aload_n 2, 1) := by decide +kernel
theorem d_LE_hasFrom_18 : decode b_LE_hasFrom 18 = .ok (.iload_n 3, 1) := by decide +kernel
theorem d_LE_hasFrom_19 : decode b_LE_hasFrom 19 = .ok (.invokevirtual 29, 3) := by decide +kernel
theorem d_LE_hasFrom_22 : decode b_LE_hasFrom 22 = .ok (.if_icmp .eq 5, 3) := by decide +kernel
theorem d_LE_hasFrom_25 : decode b_LE_hasFrom 25 = .ok (.iconst 0, 1) := by decide +kernel
theorem d_LE_hasFrom_26 : decode b_LE_hasFrom 26 = .ok (.ireturn, 1) := by decide +kernel
theorem d_LE_hasFrom_27 : decode b_LE_hasFrom 27 = .ok (.iinc 3 1, 3) := by decide +kernel
theorem d_LE_hasFrom_30 : decode b_LE_hasFrom 30 = .ok (.goto (-28), 3) := by decide +kernel
theorem d_LE_hasFrom_33 : decode b_LE_hasFrom 33 = .ok (.iconst 1, 1) := by decide +kernel
theorem d_LE_hasFrom_34 : decode b_LE_hasFrom 34 = .ok (.ireturn, 1) := by decide +kernel
theorem d_LE_repeats_0 : decode b_LE_repeats 0 = .ok (.iconst 0, 1) := by decide +kernel
theorem d_LE_repeats_1 : decode b_LE_repeats 1 = .ok (.istore 4, 2) := by decide +kernel
theorem d_LE_repeats_3 : decode b_LE_repeats 3 = .ok (.iload 4, 2) := by decide +kernel
theorem d_LE_repeats_5 : decode b_LE_repeats 5 = .ok (.iload_n 3, 1) := by decide +kernel
theorem d_LE_repeats_6 : decode b_LE_repeats 6 = .ok (.if_icmp .ge 30, 3) := by decide +kernel
theorem d_LE_repeats_9 : decode b_LE_repeats 9 = .ok (.aload_n 0, 1) := by decide +kernel
theorem d_LE_repeats_10 : decode b_LE_repeats 10 = .ok (.iload_n 1, 1) := by decide +kernel
theorem d_LE_repeats_11 : decode b_LE_repeats 11 = .ok (.iload 4, 2) := by decide +kernel
theorem d_LE_repeats_13 : decode b_LE_repeats 13 = .ok (.iadd, 1) := by decide +kernel
theorem d_LE_repeats_14 : decode b_LE_repeats 14 = .ok (.invokevirtual 29, 3) := by decide +kernel
theorem d_LE_repeats_17 : decode b_LE_repeats 17 = .ok (.aload_n 0, 1) := by decide +kernel
theorem d_LE_repeats_18 : decode b_LE_repeats 18 = .ok (.iload_n 2, 1) := by decide +kernel
theorem d_LE_repeats_19 : decode b_LE_repeats 19 = .ok (.iload 4, 2) := by decide +kernel
theorem d_LE_repeats_21 : decode b_LE_repeats 21 = .ok (.iadd, 1) := by decide +kernel
theorem d_LE_repeats_22 : decode b_LE_repeats 22 = .ok (.invokevirtual 29, 3) := by decide +kernel
theorem d_LE_repeats_25 : decode b_LE_repeats 25 = .ok (.if_icmp .eq 5, 3) := by decide +kernel
theorem d_LE_repeats_28 : decode b_LE_repeats 28 = .ok (.iconst 0, 1) := by decide +kernel
theorem d_LE_repeats_29 : decode b_LE_repeats 29 = .ok (.ireturn, 1) := by decide +kernel
theorem d_LE_repeats_30 : decode b_LE_repeats 30 = .ok (.iinc 4 1, 3) := by decide +kernel
theorem d_LE_repeats_33 : decode b_LE_repeats 33 = .ok (.goto (-30), 3) := by decide +kernel
theorem d_LE_repeats_36 : decode b_LE_repeats 36 = .ok (.iconst 1, 1) := by decide +kernel
theorem d_LE_repeats_37 : decode b_LE_repeats 37 = .ok (.ireturn, 1) := by decide +kernel
theorem d_LE_isMirrored_0 : decode b_LE_isMirrored 0 = .ok (.iconst 0, 1) := by decide +kernel
theorem d_LE_isMirrored_1 : decode b_LE_isMirrored 1 = .ok (.istore_n 3, 1) := by decide +kernel
theorem d_LE_isMirrored_2 : decode b_LE_isMirrored 2 = .ok (.iload_n 3, 1) := by decide +kernel
theorem d_LE_isMirrored_3 : decode b_LE_isMirrored 3 = .ok (.iload_n 2, 1) := by decide +kernel
theorem d_LE_isMirrored_4 : decode b_LE_isMirrored 4 = .ok (.iconst 2, 1) := by decide +kernel
theorem d_LE_isMirrored_5 : decode b_LE_isMirrored 5 = .ok (.idiv, 1) := by decide +kernel
theorem d_LE_isMirrored_6 : decode b_LE_isMirrored 6 = .ok (.if_icmp .ge 32, 3) := by decide +kernel
theorem d_LE_isMirrored_9 : decode b_LE_isMirrored 9 = .ok (.aload_n 0, 1) := by decide +kernel
theorem d_LE_isMirrored_10 : decode b_LE_isMirrored 10 = .ok (.iload_n 1, 1) := by decide +kernel
theorem d_LE_isMirrored_11 : decode b_LE_isMirrored 11 = .ok (.iload_n 3, 1) := by decide +kernel
theorem d_LE_isMirrored_12 : decode b_LE_isMirrored 12 = .ok (.iadd, 1) := by decide +kernel
theorem d_LE_isMirrored_13 : decode b_LE_isMirrored 13 = .ok (.invokevirtual 29, 3) := by decide +kernel
theorem d_LE_isMirrored_16 : decode b_LE_isMirrored 16 = .ok (.aload_n 0, 1) := by decide +kernel
theorem d_LE_isMirrored_17 : decode b_LE_isMirrored 17 = .ok (.iload_n 1, 1) := by decide +kernel
theorem d_LE_isMirrored_18 : decode b_LE_isMirrored 18 = .ok (.iload_n 2, 1) := by decide +kernel
theorem d_LE_isMirrored_19 : decode b_LE_isMirrored 19 = .ok (.iadd, 1) := by decide +kernel
theorem d_LE_isMirrored_20 : decode b_LE_isMirrored 20 = .ok (.iconst 1, 1) := by decide +kernel
theorem d_LE_isMirrored_21 : decode b_LE_isMirrored 21 = .ok (.isub, 1) := by decide +kernel
theorem d_LE_isMirrored_22 : decode b_LE_isMirrored 22 = .ok (.iload_n 3, 1) := by decide +kernel
theorem d_LE_isMirrored_23 : decode b_LE_isMirrored 23 = .ok (.isub, 1) := by decide +kernel
theorem d_LE_isMirrored_24 : decode b_LE_isMirrored 24 = .ok (.invokevirtual 29, 3) := by decide +kernel
theorem d_LE_isMirrored_27 : decode b_LE_isMirrored 27 = .ok (.if_icmp .eq 5, 3) := by decide +kernel
theorem d_LE_isMirrored_30 : decode b_LE_isMirrored 30 = .ok (.iconst 0, 1) := by decide +kernel
theorem d_LE_isMirrored_31 : decode b_LE_isMirrored 31 = .ok (.ireturn, 1) := by decide +kernel
theorem d_LE_isMirrored_32 : decode b_LE_isMirrored 32 = .ok (.iinc 3 1, 3) := by decide +kernel
theorem d_LE_isMirrored_35 : decode b_LE_isMirrored 35 = .ok (.goto (-33), 3) := by decide +kernel
theorem d_LE_isMirrored_38 : decode b_LE_isMirrored 38 = .ok (.iconst 1, 1) := by decide +kernel
theorem d_LE_isMirrored_39 : decode b_LE_isMirrored 39 = .ok (.ireturn, 1) := by decide +kernel
theorem d_LE_bits_0 : decode b_LE_bits 0 = .ok (.iconst 0, 1) := by decide +kernel
theorem d_LE_bits_1 : decode b_LE_bits 1 = .ok (.istore_n 1, 1) := by decide +kernel
theorem d_LE_bits_2 : decode b_LE_bits 2 = .ok (.iconst 0, 1) := by decide +kernel
theorem d_LE_bits_3 : decode b_LE_bits 3 = .ok (.istore_n 2, 1) := by decide +kernel
theorem d_LE_bits_4 : decode b_LE_bits 4 = .ok (.iload_n 2, 1) := by decide +kernel
theorem d_LE_bits_5 : decode b_LE_bits 5 = .ok (.aload_n 0, 1) := by decide +kernel
theorem d_LE_bits_6 : decode b_LE_bits 6 = .ok (.getfield 9, 3) := by decide +kernel
theorem d_LE_bits_9 : decode b_LE_bits 9 = .ok (.if_icmp .ge 19, 3) := by decide +kernel
theorem d_LE_bits_12 : decode b_LE_bits 12 = .ok (.iload_n 1, 1) := by decide +kernel
theorem d_LE_bits_13 : decode b_LE_bits 13 = .ok (.iconst 1, 1) := by decide +kernel
theorem d_LE_bits_14 : decode b_LE_bits 14 = .ok (.aload_n 0, 1) := by decide +kernel
theorem d_LE_bits_15 : decode b_LE_bits 15 = .ok (.iload_n 2, 1) := by decide +kernel
theorem d_LE_bits_16 : decode b_LE_bits 16 = .ok (.invokevirtual 29, 3) := by decide +kernel
theorem d_LE_bits_19 : decode b_LE_bits 19 = .ok (.ishl, 1) := by decide +kernel
theorem d_LE_bits_20 : decode b_LE_bits 20 = .ok (.ior, 1) := by decide +kernel
theorem d_LE_bits_21 : decode b_LE_bits 21 = .ok (.istore_n 1, 1) := by decide +kernel
theorem d_LE_bits_22 : decode b_LE_bits 22 = .ok (.iinc 2 1, 3) := by decide +kernel
theorem d_LE_bits_25 : decode b_LE_bits 25 = .ok (.goto (-21), 3) := by decide +kernel
theorem d_LE_bits_28 : decode b_LE_bits 28 = .ok (.iload_n 1, 1) := by decide +kernel
theorem d_LE_bits_29 : decode b_LE_bits 29 = .ok (.ireturn, 1) := by decide +kernel
theorem d_LE_countOf_0 : decode b_LE_countOf 0 = .ok (.iconst 0, 1) := by decide +kernel
theorem d_LE_countOf_1 : decode b_LE_countOf 1 = .ok (.istore_n 2, 1) := by decide +kernel
theorem d_LE_countOf_2 : decode b_LE_countOf 2 = .ok (.iconst 0, 1) := by decide +kernel
theorem d_LE_countOf_3 : decode b_LE_countOf 3 = .ok (.istore_n 3, 1) := by decide +kernel
theorem d_LE_countOf_4 : decode b_LE_countOf 4 = .ok (.iload_n 3, 1) := by decide +kernel
theorem d_LE_countOf_5 : decode b_LE_countOf 5 = .ok (.aload_n 0, 1) := by decide +kernel
theorem d_LE_countOf_6 : decode b_LE_countOf 6 = .ok (.getfield 9, 3) := by decide +kernel
theorem d_LE_countOf_9 : decode b_LE_countOf 9 = .ok (.if_icmp .ge 21, 3) := by decide +kernel
theorem d_LE_countOf_12 : decode b_LE_countOf 12 = .ok (.aload_n 0, 1) := by decide +kernel
theorem d_LE_countOf_13 : decode b_LE_countOf 13 = .ok (.iload_n 3, 1) := by decide +kernel
theorem d_LE_countOf_14 : decode b_LE_countOf 14 = .ok (.invokevirtual 29, 3) := by decide +kernel
theorem d_LE_countOf_17 : decode b_LE_countOf 17 = .ok (.iload_n 1, 1) := by decide +kernel
theorem d_LE_countOf_18 : decode b_LE_countOf 18 = .ok (.if_icmp .ne 6, 3) := by decide +kernel
theorem d_LE_countOf_21 : decode b_LE_countOf 21 = .ok (.iinc 2 1, 3) := by decide +kernel
theorem d_LE_countOf_24 : decode b_LE_countOf 24 = .ok (.iinc 3 1, 3) := by decide +kernel
theorem d_LE_countOf_27 : decode b_LE_countOf 27 = .ok (.goto (-23), 3) := by decide +kernel
theorem d_LE_countOf_30 : decode b_LE_countOf 30 = .ok (.iload_n 2, 1) := by decide +kernel
theorem d_LE_countOf_31 : decode b_LE_countOf 31 = .ok (.ireturn, 1) := by decide +kernel
theorem d_LE_exchange_0 : decode b_LE_exchange 0 = .ok (.iconst 0, 1) := by decide +kernel
theorem d_LE_exchange_1 : decode b_LE_exchange 1 = .ok (.istore_n 3, 1) := by decide +kernel
theorem d_LE_exchange_2 : decode b_LE_exchange 2 = .ok (.iload_n 3, 1) := by decide +kernel
theorem d_LE_exchange_3 : decode b_LE_exchange 3 = .ok (.aload_n 0, 1) := by decide +kernel
theorem d_LE_exchange_4 : decode b_LE_exchange 4 = .ok (.getfield 9, 3) := by decide +kernel
theorem d_LE_exchange_7 : decode b_LE_exchange 7 = .ok (.if_icmp .ge 55, 3) := by decide +kernel
theorem d_LE_exchange_10 : decode b_LE_exchange 10 = .ok (.iload_n 3, 1) := by decide +kernel
theorem d_LE_exchange_11 : decode b_LE_exchange 11 = .ok (.aload_n 0, 1) := by decide +kernel
theorem d_LE_exchange_12 : decode b_LE_exchange 12 = .ok (.getfield 21, 3) := by decide +kernel
theorem d_LE_exchange_15 : decode b_LE_exchange 15 = .ok (.arraylength, 1) := by decide +kernel
theorem d_LE_exchange_16 : decode b_LE_exchange 16 = .ok (.if_icmp .ge 46, 3) := by decide +kernel
theorem d_LE_exchange_19 : decode b_LE_exchange 19 = .ok (.aload_n 0, 1) := by decide +kernel
theorem d_LE_exchange_20 : decode b_LE_exchange 20 = .ok (.getfield 21, 3) := by decide +kernel
theorem d_LE_exchange_23 : decode b_LE_exchange 23 = .ok (.iload_n 3, 1) := by decide +kernel
theorem d_LE_exchange_24 : decode b_LE_exchange 24 = .ok (.iaload, 1) := by decide +kernel
theorem d_LE_exchange_25 : decode b_LE_exchange 25 = .ok (.iload_n 1, 1) := by decide +kernel
theorem d_LE_exchange_26 : decode b_LE_exchange 26 = .ok (.if_icmp .ne 13, 3) := by decide +kernel
theorem d_LE_exchange_29 : decode b_LE_exchange 29 = .ok (.aload_n 0, 1) := by decide +kernel
theorem d_LE_exchange_30 : decode b_LE_exchange 30 = .ok (.getfield 21, 3) := by decide +kernel
theorem d_LE_exchange_33 : decode b_LE_exchange 33 = .ok (.iload_n 3, 1) := by decide +kernel
theorem d_LE_exchange_34 : decode b_LE_exchange 34 = .ok (.iload_n 2, 1) := by decide +kernel
theorem d_LE_exchange_35 : decode b_LE_exchange 35 = .ok (.iastore, 1) := by decide +kernel
theorem d_LE_exchange_36 : decode b_LE_exchange 36 = .ok (.goto 20, 3) := by decide +kernel
theorem d_LE_exchange_39 : decode b_LE_exchange 39 = .ok (.aload_n 0, 1) := by decide +kernel
theorem d_LE_exchange_40 : decode b_LE_exchange 40 = .ok (.getfield 21, 3) := by decide +kernel
theorem d_LE_exchange_43 : decode b_LE_exchange 43 = .ok (.iload_n 3, 1) := by decide +kernel
theorem d_LE_exchange_44 : decode b_LE_exchange 44 = .ok (.iaload, 1) := by decide +kernel
theorem d_LE_exchange_45 : decode b_LE_exchange 45 = .ok (.iload_n 2, 1) := by decide +kernel
theorem d_LE_exchange_46 : decode b_LE_exchange 46 = .ok (.if_icmp .ne 10, 3) := by decide +kernel
theorem d_LE_exchange_49 : decode b_LE_exchange 49 = .ok (.aload_n 0, 1) := by decide +kernel
theorem d_LE_exchange_50 : decode b_LE_exchange 50 = .ok (.getfield 21, 3) := by decide +kernel
theorem d_LE_exchange_53 : decode b_LE_exchange 53 = .ok (.iload_n 3, 1) := by decide +kernel
theorem d_LE_exchange_54 : decode b_LE_exchange 54 = .ok (.iload_n 1, 1) := by decide +kernel
theorem d_LE_exchange_55 : decode b_LE_exchange 55 = .ok (.iastore, 1) := by decide +kernel
theorem d_LE_exchange_56 : decode b_LE_exchange 56 = .ok (.iinc 3 1, 3) := by decide +kernel
theorem d_LE_exchange_59 : decode b_LE_exchange 59 = .ok (.goto (-57), 3) := by decide +kernel
theorem d_LE_exchange_62 : decode b_LE_exchange 62 = .ok (.return_, 1) := by decide +kernel
theorem d_LE_rotate_0 : decode b_LE_rotate 0 = .ok (.aload_n 0, 1) := by decide +kernel
theorem d_LE_rotate_1 : decode b_LE_rotate 1 = .ok (.getfield 9, 3) := by decide +kernel
theorem d_LE_rotate_4 : decode b_LE_rotate 4 = .ok (.iconst 2, 1) := by decide +kernel
theorem d_LE_rotate_5 : decode b_LE_rotate 5 = .ok (.if_icmp .lt 15, 3) := by decide +kernel
theorem d_LE_rotate_8 : decode b_LE_rotate 8 = .ok (.aload_n 0, 1) := by decide +kernel
theorem d_LE_rotate_9 : decode b_LE_rotate 9 = .ok (.getfield 9, 3) := by decide +kernel
theorem d_LE_rotate_12 : decode b_LE_rotate 12 = .ok (.aload_n 0, 1) := by decide +kernel
theorem d_LE_rotate_13 : decode b_LE_rotate 13 = .ok (.getfield 21, 3) := by decide +kernel
theorem d_LE_rotate_16 : decode b_LE_rotate 16 = .ok (.arraylength, 1) := by decide +kernel
theorem d_LE_rotate_17 : decode b_LE_rotate 17 = .ok (.if_icmp .le 4, 3) := by decide +kernel
theorem d_LE_rotate_20 : decode b_LE_rotate 20 = .ok (.return_, 1) := by decide +kernel
theorem d_LE_rotate_21 : decode b_LE_rotate 21 = .ok (.iload_n 1, 1) := by decide +kernel
theorem d_LE_rotate_22 : decode b_LE_rotate 22 = .ok (.ifCond .eq 44, 3) := by decide +kernel
theorem d_LE_rotate_25 : decode b_LE_rotate 25 = .ok (.aload_n 0, 1) := by decide +kernel
theorem d_LE_rotate_26 : decode b_LE_rotate 26 = .ok (.getfield 21, 3) := by decide +kernel
theorem d_LE_rotate_29 : decode b_LE_rotate 29 = .ok (.aload_n 0, 1) := by decide +kernel
theorem d_LE_rotate_30 : decode b_LE_rotate 30 = .ok (.getfield 9, 3) := by decide +kernel
theorem d_LE_rotate_33 : decode b_LE_rotate 33 = .ok (.iconst 1, 1) := by decide +kernel
theorem d_LE_rotate_34 : decode b_LE_rotate 34 = .ok (.isub, 1) := by decide +kernel
theorem d_LE_rotate_35 : decode b_LE_rotate 35 = .ok (.iaload, 1) := by decide +kernel
theorem d_LE_rotate_36 : decode b_LE_rotate 36 = .ok (.istore_n 2, 1) := by decide +kernel
theorem d_LE_rotate_37 : decode b_LE_rotate 37 = .ok (.aload_n 0, 1) := by decide +kernel
theorem d_LE_rotate_38 : decode b_LE_rotate 38 = .ok (.getfield 21, 3) := by decide +kernel
theorem d_LE_rotate_41 : decode b_LE_rotate 41 = .ok (.iconst 0, 1) := by decide +kernel
theorem d_LE_rotate_42 : decode b_LE_rotate 42 = .ok (.aload_n 0, 1) := by decide +kernel
theorem d_LE_rotate_43 : decode b_LE_rotate 43 = .ok (.getfield 21, 3) := by decide +kernel
theorem d_LE_rotate_46 : decode b_LE_rotate 46 = .ok (.iconst 1, 1) := by decide +kernel
theorem d_LE_rotate_47 : decode b_LE_rotate 47 = .ok (.aload_n 0, 1) := by decide +kernel
theorem d_LE_rotate_48 : decode b_LE_rotate 48 = .ok (.getfield 9, 3) := by decide +kernel
theorem d_LE_rotate_51 : decode b_LE_rotate 51 = .ok (.iconst 1, 1) := by decide +kernel
theorem d_LE_rotate_52 : decode b_LE_rotate 52 = .ok (.isub, 1) := by decide +kernel
theorem d_LE_rotate_53 : decode b_LE_rotate 53 = .ok (.invokestatic 39, 3) := by decide +kernel
theorem d_LE_rotate_56 : decode b_LE_rotate 56 = .ok (.aload_n 0, 1) := by decide +kernel
theorem d_LE_rotate_57 : decode b_LE_rotate 57 = .ok (.getfield 21, 3) := by decide +kernel
theorem d_LE_rotate_60 : decode b_LE_rotate 60 = .ok (.iconst 0, 1) := by decide +kernel
theorem d_LE_rotate_61 : decode b_LE_rotate 61 = .ok (.iload_n 2, 1) := by decide +kernel
theorem d_LE_rotate_62 : decode b_LE_rotate 62 = .ok (.iastore, 1) := by decide +kernel
theorem d_LE_rotate_63 : decode b_LE_rotate 63 = .ok (.goto 41, 3) := by decide +kernel
theorem d_LE_rotate_66 : decode b_LE_rotate 66 = .ok (.aload_n 0, 1) := by decide +kernel
theorem d_LE_rotate_67 : decode b_LE_rotate 67 = .ok (.getfield 21, 3) := by decide +kernel
theorem d_LE_rotate_70 : decode b_LE_rotate 70 = .ok (.iconst 0, 1) := by decide +kernel
theorem d_LE_rotate_71 : decode b_LE_rotate 71 = .ok (.iaload, 1) := by decide +kernel
theorem d_LE_rotate_72 : decode b_LE_rotate 72 = .ok (.istore_n 2, 1) := by decide +kernel
theorem d_LE_rotate_73 : decode b_LE_rotate 73 = .ok (.aload_n 0, 1) := by decide +kernel
theorem d_LE_rotate_74 : decode b_LE_rotate 74 = .ok (.getfield 21, 3) := by decide +kernel
theorem d_LE_rotate_77 : decode b_LE_rotate 77 = .ok (.iconst 1, 1) := by decide +kernel
theorem d_LE_rotate_78 : decode b_LE_rotate 78 = .ok (.aload_n 0, 1) := by decide +kernel
theorem d_LE_rotate_79 : decode b_LE_rotate 79 = .ok (.getfield 21, 3) := by decide +kernel
theorem d_LE_rotate_82 : decode b_LE_rotate 82 = .ok (.iconst 0, 1) := by decide +kernel
theorem d_LE_rotate_83 : decode b_LE_rotate 83 = .ok (.aload_n 0, 1) := by decide +kernel
theorem d_LE_rotate_84 : decode b_LE_rotate 84 = .ok (.getfield 9, 3) := by decide +kernel
theorem d_LE_rotate_87 : decode b_LE_rotate 87 = .ok (.iconst 1, 1) := by decide +kernel
theorem d_LE_rotate_88 : decode b_LE_rotate 88 = .ok (.isub, 1) := by decide +kernel
theorem d_LE_rotate_89 : decode b_LE_rotate 89 = .ok (.invokestatic 39, 3) := by decide +kernel
theorem d_LE_rotate_92 : decode b_LE_rotate 92 = .ok (.aload_n 0, 1) := by decide +kernel
theorem d_LE_rotate_93 : decode b_LE_rotate 93 = .ok (.getfield 21, 3) := by decide +kernel
theorem d_LE_rotate_96 : decode b_LE_rotate 96 = .ok (.aload_n 0, 1) := by decide +kernel
theorem d_LE_rotate_97 : decode b_LE_rotate 97 = .ok (.getfield 9, 3) := by decide +kernel
theorem d_LE_rotate_100 : decode b_LE_rotate 100 = .ok (.iconst 1, 1) := by decide +kernel
theorem d_LE_rotate_101 : decode b_LE_rotate 101 = .ok (.isub, 1) := by decide +kernel
theorem d_LE_rotate_102 : decode b_LE_rotate 102 = .ok (.iload_n 2, 1) := by decide +kernel
theorem d_LE_rotate_103 : decode b_LE_rotate 103 = .ok (.iastore, 1) := by decide +kernel
theorem d_LE_rotate_104 : decode b_LE_rotate 104 = .ok (.return_, 1) := by decide +kernel
theorem d_LE_imbalance_0 : decode b_LE_imbalance 0 = .ok (.iconst 0, 1) := by decide +kernel
theorem d_LE_imbalance_1 : decode b_LE_imbalance 1 = .ok (.istore_n 3, 1) := by decide +kernel
theorem d_LE_imbalance_2 : decode b_LE_imbalance 2 = .ok (.iconst 0, 1) := by decide +kernel
theorem d_LE_imbalance_3 : decode b_LE_imbalance 3 = .ok (.istore 4, 2) := by decide +kernel
theorem d_LE_imbalance_5 : decode b_LE_imbalance 5 = .ok (.iload_n 2, 1) := by decide +kernel
theorem d_LE_imbalance_6 : decode b_LE_imbalance 6 = .ok (.istore 5, 2) := by decide +kernel
theorem d_LE_imbalance_8 : decode b_LE_imbalance 8 = .ok (.iconst 0, 1) := by decide +kernel
theorem d_LE_imbalance_9 : decode b_LE_imbalance 9 = .ok (.istore 6, 2) := by decide +kernel
theorem d_LE_imbalance_11 : decode b_LE_imbalance 11 = .ok (.iload 6, 2) := by decide +kernel
theorem d_LE_imbalance_13 : decode b_LE_imbalance 13 = .ok (.aload_n 0, 1) := by decide +kernel
theorem d_LE_imbalance_14 : decode b_LE_imbalance 14 = .ok (.getfield 9, 3) := by decide +kernel
theorem d_LE_imbalance_17 : decode b_LE_imbalance 17 = .ok (.if_icmp .ge 61, 3) := by decide +kernel
theorem d_LE_imbalance_20 : decode b_LE_imbalance 20 = .ok (.aload_n 0, 1) := by decide +kernel
theorem d_LE_imbalance_21 : decode b_LE_imbalance 21 = .ok (.iload 6, 2) := by decide +kernel
theorem d_LE_imbalance_23 : decode b_LE_imbalance 23 = .ok (.invokevirtual 29, 3) := by decide +kernel
theorem d_LE_imbalance_26 : decode b_LE_imbalance 26 = .ok (.iload_n 1, 1) := by decide +kernel
theorem d_LE_imbalance_27 : decode b_LE_imbalance 27 = .ok (.if_icmp .ne 6, 3) := by decide +kernel
theorem d_LE_imbalance_30 : decode b_LE_imbalance 30 = .ok (.iinc 3 1, 3) := by decide +kernel
theorem d_LE_imbalance_33 : decode b_LE_imbalance 33 = .ok (.aload_n 0, 1) := by decide +kernel
theorem d_LE_imbalance_34 : decode b_LE_imbalance 34 = .ok (.iload 6, 2) := by decide +kernel
theorem d_LE_imbalance_36 : decode b_LE_imbalance 36 = .ok (.iload_n 2, 1) := by decide +kernel
theorem d_LE_imbalance_37 : decode b_LE_imbalance 37 = .ok (.isub, 1) := by decide +kernel
theorem d_LE_imbalance_38 : decode b_LE_imbalance 38 = .ok (.invokevirtual 29, 3) := by decide +kernel
theorem d_LE_imbalance_41 : decode b_LE_imbalance 41 = .ok (.iload_n 1, 1) := by decide +kernel
theorem d_LE_imbalance_42 : decode b_LE_imbalance 42 = .ok (.if_icmp .ne 6, 3) := by decide +kernel
theorem d_LE_imbalance_45 : decode b_LE_imbalance 45 = .ok (.iinc 3 (-1), 3) := by decide +kernel
theorem d_LE_imbalance_48 : decode b_LE_imbalance 48 = .ok (.iload 6, 2) := by decide +kernel
theorem d_LE_imbalance_50 : decode b_LE_imbalance 50 = .ok (.iload_n 2, 1) := by decide +kernel
theorem d_LE_imbalance_51 : decode b_LE_imbalance 51 = .ok (.iconst 1, 1) := by decide +kernel
theorem d_LE_imbalance_52 : decode b_LE_imbalance 52 = .ok (.isub, 1) := by decide +kernel
theorem d_LE_imbalance_53 : decode b_LE_imbalance 53 = .ok (.if_icmp .lt 19, 3) := by decide +kernel
theorem d_LE_imbalance_56 : decode b_LE_imbalance 56 = .ok (.iload 4, 2) := by decide +kernel
theorem d_LE_imbalance_58 : decode b_LE_imbalance 58 = .ok (.iload_n 3, 1) := by decide +kernel
theorem d_LE_imbalance_59 : decode b_LE_imbalance 59 = .ok (.invokestatic 15, 3) := by decide +kernel
theorem d_LE_imbalance_62 : decode b_LE_imbalance 62 = .ok (.istore 4, 2) := by decide +kernel
theorem d_LE_imbalance_64 : decode b_LE_imbalance 64 = .ok (.iload 5, 2) := by decide +kernel
theorem d_LE_imbalance_66 : decode b_LE_imbalance 66 = .ok (.iload_n 3, 1) := by decide +kernel
theorem d_LE_imbalance_67 : decode b_LE_imbalance 67 = .ok (.invokestatic 36, 3) := by decide +kernel
theorem d_LE_imbalance_70 : decode b_LE_imbalance 70 = .ok (.istore 5, 2) := by decide +kernel
theorem d_LE_imbalance_72 : decode b_LE_imbalance 72 = .ok (.iinc 6 1, 3) := by decide +kernel
theorem d_LE_imbalance_75 : decode b_LE_imbalance 75 = .ok (.goto (-64), 3) := by decide +kernel
theorem d_LE_imbalance_78 : decode b_LE_imbalance 78 = .ok (.iload 4, 2) := by decide +kernel
theorem d_LE_imbalance_80 : decode b_LE_imbalance 80 = .ok (.iload 5, 2) := by decide +kernel
theorem d_LE_imbalance_82 : decode b_LE_imbalance 82 = .ok (.isub, 1) := by decide +kernel
theorem d_LE_imbalance_83 : decode b_LE_imbalance 83 = .ok (.ireturn, 1) := by decide +kernel
theorem d_LM_init_0 : decode b_LM_init 0 = .ok (.aload_n 0, 1) := by decide +kernel
theorem d_LM_init_1 : decode b_LM_init 1 = .ok (.invokespecial 1, 3) := by decide +kernel
theorem d_LM_init_4 : decode b_LM_init 4 = .ok (.aload_n 0, 1) := by decide +kernel
theorem d_LM_init_5 : decode b_LM_init 5 = .ok (.iconst 0, 1) := by decide +kernel
theorem d_LM_init_6 : decode b_LM_init 6 = .ok (.putfield 7, 3) := by decide +kernel
theorem d_LM_init_9 : decode b_LM_init 9 = .ok (.aload_n 0, 1) := by decide +kernel
theorem d_LM_init_10 : decode b_LM_init 10 = .ok (.iconst 0, 1) := by decide +kernel
theorem d_LM_init_11 : decode b_LM_init 11 = .ok (.putfield 13, 3) := by decide +kernel
theorem d_LM_init_14 : decode b_LM_init 14 = .ok (.return_, 1) := by decide +kernel
theorem d_LM_find_0 : decode b_LM_find 0 = .ok (.aload_n 0, 1) := by decide +kernel
theorem d_LM_find_1 : decode b_LM_find 1 = .ok (.iconst 0, 1) := by decide +kernel
theorem d_LM_find_2 : decode b_LM_find 2 = .ok (.putfield 7, 3) := by decide +kernel
theorem d_LM_find_5 : decode b_LM_find 5 = .ok (.aload_n 0, 1) := by decide +kernel
theorem d_LM_find_6 : decode b_LM_find 6 = .ok (.iconst 0, 1) := by decide +kernel
theorem d_LM_find_7 : decode b_LM_find 7 = .ok (.putfield 13, 3) := by decide +kernel
theorem d_LM_find_10 : decode b_LM_find 10 = .ok (.iconst 0, 1) := by decide +kernel
theorem d_LM_find_11 : decode b_LM_find 11 = .ok (.istore_n 2, 1) := by decide +kernel
theorem d_LM_find_12 : decode b_LM_find 12 = .ok (.iload_n 2, 1) := by decide +kernel
theorem d_LM_find_13 : decode b_LM_find 13 = .ok (.iconst 2, 1) := by decide +kernel
theorem d_LM_find_14 : decode b_LM_find 14 = .ok (.aload_n 1, 1) := by decide +kernel
theorem d_LM_find_15 : decode b_LM_find 15 = .ok (.invokevirtual 16, 3) := by decide +kernel
theorem d_LM_find_18 : decode b_LM_find 18 = .ok (.imul, 1) := by decide +kernel
theorem d_LM_find_19 : decode b_LM_find 19 = .ok (.if_icmp .ge 22, 3) := by decide +kernel
theorem d_LM_find_22 : decode b_LM_find 22 = .ok (.aload_n 0, 1) := by decide +kernel
theorem d_LM_find_23 : decode b_LM_find 23 = .ok (.aload_n 1, 1) := by decide +kernel
theorem d_LM_find_24 : decode b_LM_find 24 = .ok (.iload_n 2, 1) := by decide +kernel
theorem d_LM_find_25 : decode b_LM_find 25 = .ok (.iconst 2, 1) := by decide +kernel
theorem d_LM_find_26 : decode b_LM_find 26 = .ok (.idiv, 1) := by decide +kernel
theorem d_LM_find_27 : decode b_LM_find 27 = .ok (.iload_n 2, 1) := by decide +kernel
theorem d_LM_find_28 : decode b_LM_find 28 = .ok (.iconst 1, 1) := by decide +kernel
theorem d_LM_find_29 : decode b_LM_find 29 = .ok (.iadd, 1) := by decide +kernel
theorem d_LM_find_30 : decode b_LM_find 30 = .ok (.iconst 2, 1) := by decide +kernel
theorem d_LM_find_31 : decode b_LM_find 31 = .ok (.idiv, 1) := by decide +kernel
theorem d_LM_find_32 : decode b_LM_find 32 = .ok (.invokevirtual 21, 3) := by decide +kernel
theorem d_LM_find_35 : decode b_LM_find 35 = .ok (.iinc 2 1, 3) := by decide +kernel
theorem d_LM_find_38 : decode b_LM_find 38 = .ok (.goto (-26), 3) := by decide +kernel
theorem d_LM_find_41 : decode b_LM_find 41 = .ok (.return_, 1) := by decide +kernel
theorem d_LM_findAround_0 : decode b_LM_findAround 0 = .ok (.iload_n 2, 1) := by decide +kernel
theorem d_LM_findAround_1 : decode b_LM_findAround 1 = .ok (.istore 4, 2) := by decide +kernel
theorem d_LM_findAround_3 : decode b_LM_findAround 3 = .ok (.iload_n 3, 1) := by decide +kernel
theorem d_LM_findAround_4 : decode b_LM_findAround 4 = .ok (.istore 5, 2) := by decide +kernel
theorem d_LM_findAround_6 : decode b_LM_findAround 6 = .ok (.iload 4, 2) := by decide +kernel
theorem d_LM_findAround_8 : decode b_LM_findAround 8 = .ok (.ifCond .lt 36, 3) := by decide +kernel
theorem d_LM_findAround_11 : decode b_LM_findAround 11 = .ok (.iload 5, 2) := by decide +kernel
theorem d_LM_findAround_13 : decode b_LM_findAround 13 = .ok (.aload_n 1, 1) := by decide +kernel
theorem d_LM_findAround_14 : decode b_LM_findAround 14 = .ok (.invokevirtual 16, 3) := by decide +kernel
theorem d_LM_findAround_17 : decode b_LM_findAround 17 = .ok (.if_icmp .ge 27, 3) := by decide +kernel
theorem d_LM_findAround_20 : decode b_LM_findAround 20 = .ok (.aload_n 1, 1) := by decide +kernel
theorem d_LM_findAround_21 : decode b_LM_findAround 21 = .ok (.iload 4, 2) := by decide +kernel
theorem d_LM_findAround_23 : decode b_LM_findAround 23 = .ok (.invokevirtual 25, 3) := by decide +kernel
theorem d_LM_findAround_26 : decode b_LM_findAround 26 = .ok (.aload_n 1, 1) := by decide +kernel
theorem d_LM_findAround_27 : decode b_LM_findAround 27 = .ok (.iload 5, 2) := by decide +kernel
theorem d_LM_findAround_29 : decode b_LM_findAround 29 = .ok (.invokevirtual 25, 3) := by decide +kernel
theorem d_LM_findAround_32 : decode b_LM_findAround 32 = .ok (.if_icmp .ne 12, 3) := by decide +kernel
theorem d_LM_findAround_35 : decode b_LM_findAround 35 = .ok (.iinc 4 (-1), 3) := by decide +kernel
theorem d_LM_findAround_38 : decode b_LM_findAround 38 = .ok (.iinc 5 1, 3) := by decide +kernel
theorem d_LM_findAround_41 : decode b_LM_findAround 41 = .ok (.goto (-35), 3) := by decide +kernel
theorem d_LM_findAround_44 : decode b_LM_findAround 44 = .ok (.iload 5, 2) := by decide +kernel
theorem d_LM_findAround_46 : decode b_LM_findAround 46 = .ok (.iload 4, 2) := by decide +kernel
theorem d_LM_findAround_48 : decode b_LM_findAround 48 = .ok (.isub, 1) := by decide +kernel
theorem d_LM_findAround_49 : decode b_LM_findAround 49 = .ok (.iconst 1, 1) := by decide +kernel
theorem d_LM_findAround_50 : decode b_LM_findAround 50 = .ok (.isub, 1) := by decide +kernel
theorem d_LM_findAround_51 : decode b_LM_findAround 51 = .ok (.aload_n 0, 1) := by decide +kernel
theorem d_LM_findAround_52 : decode b_LM_findAround 52 = .ok (.getfield 13, 3) := by decide +kernel
theorem d_LM_findAround_55 : decode b_LM_findAround 55 = .ok (.if_icmp .le 22, 3) := by decide +kernel
theorem d_LM_findAround_58 : decode b_LM_findAround 58 = .ok (.aload_n 0, 1) := by decide +kernel
theorem d_LM_findAround_59 : decode b_LM_findAround 59 = .ok (.iload 4, 2) := by decide +kernel
theorem d_LM_findAround_61 : decode b_LM_findAround 61 = .ok (.iconst 1, 1) := by decide +kernel
theorem d_LM_findAround_62 : decode b_LM_findAround 62 = .ok (.iadd, 1) := by decide +kernel
theorem d_LM_findAround_63 : decode b_LM_findAround 63 = .ok (.putfield 7, 3) := by decide +kernel
theorem d_LM_findAround_66 : decode b_LM_findAround 66 = .ok (.aload_n 0, 1) := by decide +kernel
theorem d_LM_findAround_67 : decode b_LM_findAround 67 = .ok (.iload 5, 2) := by decide +kernel
theorem d_LM_findAround_69 : decode b_LM_findAround 69 = .ok (.iload 4, 2) := by decide +kernel
theorem d_LM_findAround_71 : decode b_LM_findAround 71 = .ok (.isub, 1) := by decide +kernel
theorem d_LM_findAround_72 : decode b_LM_findAround 72 = .ok (.iconst 1, 1) := by decide +kernel
theorem d_LM_findAround_73 : decode b_LM_findAround 73 = .ok (.isub, 1) := by decide +kernel
theorem d_LM_findAround_74 : decode b_LM_findAround 74 = .ok (.putfield 13, 3) := by decide +kernel
theorem d_LM_findAround_77 : decode b_LM_findAround 77 = .ok (.return_, 1) := by decide +kernel
theorem d_LM_place_0 : decode b_LM_place 0 = .ok (.aload_n 0, 1) := by decide +kernel
theorem d_LM_place_1 : decode b_LM_place 1 = .ok (.getfield 7, 3) := by decide +kernel
theorem d_LM_place_4 : decode b_LM_place 4 = .ok (.ireturn, 1) := by decide +kernel
theorem d_LM_length_0 : decode b_LM_length 0 = .ok (.aload_n 0, 1) := by decide +kernel
theorem d_LM_length_1 : decode b_LM_length 1 = .ok (.getfield 13, 3) := by decide +kernel
theorem d_LM_length_4 : decode b_LM_length 4 = .ok (.ireturn, 1) := by decide +kernel
theorem d_PT_init_0 : decode b_PT_init 0 = .ok (.aload_n 0, 1) := by decide +kernel
theorem d_PT_init_1 : decode b_PT_init 1 = .ok (.invokespecial 3, 3) := by decide +kernel
theorem d_PT_init_4 : decode b_PT_init 4 = .ok (.aload_n 0, 1) := by decide +kernel
theorem d_PT_init_5 : decode b_PT_init 5 = .ok (.sipush 300, 3) := by decide +kernel
theorem d_PT_init_8 : decode b_PT_init 8 = .ok (.newarray .long, 2) := by decide +kernel
theorem d_PT_init_10 : decode b_PT_init 10 = .ok (.putfield 9, 3) := by decide +kernel
theorem d_PT_init_13 : decode b_PT_init 13 = .ok (.aload_n 0, 1) := by decide +kernel
theorem d_PT_init_14 : decode b_PT_init 14 = .ok (.iconst 0, 1) := by decide +kernel
theorem d_PT_init_15 : decode b_PT_init 15 = .ok (.putfield 15, 3) := by decide +kernel
theorem d_PT_init_18 : decode b_PT_init 18 = .ok (.return_, 1) := by decide +kernel
theorem d_PT_tell_0 : decode b_PT_tell 0 = .ok (.aload_n 0, 1) := by decide +kernel
theorem d_PT_tell_1 : decode b_PT_tell 1 = .ok (.aload_n 1, 1) := by decide +kernel
theorem d_PT_tell_2 : decode b_PT_tell 2 = .ok (.iload_n 2, 1) := by decide +kernel
theorem d_PT_tell_3 : decode b_PT_tell 3 = .ok (.invokevirtual 19, 3) := by decide +kernel
theorem d_PT_tell_6 : decode b_PT_tell 6 = .ok (.iconst 0, 1) := by decide +kernel
theorem d_PT_tell_7 : decode b_PT_tell 7 = .ok (.istore 4, 2) := by decide +kernel
theorem d_PT_tell_9 : decode b_PT_tell 9 = .ok (.iconst 0, 1) := by decide +kernel
theorem d_PT_tell_10 : decode b_PT_tell 10 = .ok (.istore 5, 2) := by decide +kernel
theorem d_PT_tell_12 : decode b_PT_tell 12 = .ok (.iload 5, 2) := by decide +kernel
theorem d_PT_tell_14 : decode b_PT_tell 14 = .ok (.aload_n 0, 1) := by decide +kernel
theorem d_PT_tell_15 : decode b_PT_tell 15 = .ok (.getfield 15, 3) := by decide +kernel
theorem d_PT_tell_18 : decode b_PT_tell 18 = .ok (.if_icmp .ge 33, 3) := by decide +kernel
theorem d_PT_tell_21 : decode b_PT_tell 21 = .ok (.aload_n 0, 1) := by decide +kernel
theorem d_PT_tell_22 : decode b_PT_tell 22 = .ok (.iload 5, 2) := by decide +kernel
theorem d_PT_tell_24 : decode b_PT_tell 24 = .ok (.invokevirtual 23, 3) := by decide +kernel
theorem d_PT_tell_27 : decode b_PT_tell 27 = .ok (.ifCond .eq 18, 3) := by decide +kernel
theorem d_PT_tell_30 : decode b_PT_tell 30 = .ok (.aload_n 0, 1) := by decide +kernel
theorem d_PT_tell_31 : decode b_PT_tell 31 = .ok (.aload_n 1, 1) := by decide +kernel
theorem d_PT_tell_32 : decode b_PT_tell 32 = .ok (.iload 5, 2) := by decide +kernel
theorem d_PT_tell_34 : decode b_PT_tell 34 = .ok (.iload_n 2, 1) := by decide +kernel
theorem d_PT_tell_35 : decode b_PT_tell 35 = .ok (.iload_n 3, 1) := by decide +kernel
theorem d_PT_tell_36 : decode b_PT_tell 36 = .ok (.invokevirtual 27, 3) := by decide +kernel
theorem d_PT_tell_39 : decode b_PT_tell 39 = .ok (.ifCond .eq 6, 3) := by decide +kernel
theorem d_PT_tell_42 : decode b_PT_tell 42 = .ok (.iinc 4 1, 3) := by decide +kernel
theorem d_PT_tell_45 : decode b_PT_tell 45 = .ok (.iinc 5 1, 3) := by decide +kernel
theorem d_PT_tell_48 : decode b_PT_tell 48 = .ok (.goto (-36), 3) := by decide +kernel
theorem d_PT_tell_51 : decode b_PT_tell 51 = .ok (.iload 4, 2) := by decide +kernel
theorem d_PT_tell_53 : decode b_PT_tell 53 = .ok (.ireturn, 1) := by decide +kernel
theorem d_PT_fill_0 : decode b_PT_fill 0 = .ok (.aload_n 0, 1) := by decide +kernel
theorem d_PT_fill_1 : decode b_PT_fill 1 = .ok (.iconst 0, 1) := by decide +kernel
theorem d_PT_fill_2 : decode b_PT_fill 2 = .ok (.putfield 15, 3) := by decide +kernel
theorem d_PT_fill_5 : decode b_PT_fill 5 = .ok (.lconst 1, 1) := by decide +kernel
theorem d_PT_fill_6 : decode b_PT_fill 6 = .ok (.iconst 2, 1) := by decide +kernel
theorem d_PT_fill_7 : decode b_PT_fill 7 = .ok (.iload_n 2, 1) := by decide +kernel
theorem d_PT_fill_8 : decode b_PT_fill 8 = .ok (.imul, 1) := by decide +kernel
theorem d_PT_fill_9 : decode b_PT_fill 9 = .ok (.lshl, 1) := by decide +kernel
theorem d_PT_fill_10 : decode b_PT_fill 10 = .ok (.lconst 1, 1) := by decide +kernel
theorem d_PT_fill_11 : decode b_PT_fill 11 = .ok (.lsub, 1) := by decide +kernel
theorem d_PT_fill_12 : decode b_PT_fill 12 = .ok (.lstore_n 3, 1) := by decide +kernel
theorem d_PT_fill_13 : decode b_PT_fill 13 = .ok (.lconst 0, 1) := by decide +kernel
theorem d_PT_fill_14 : decode b_PT_fill 14 = .ok (.lstore 5, 2) := by decide +kernel
theorem d_PT_fill_16 : decode b_PT_fill 16 = .ok (.iconst 0, 1) := by decide +kernel
theorem d_PT_fill_17 : decode b_PT_fill 17 = .ok (.istore 7, 2) := by decide +kernel
theorem d_PT_fill_19 : decode b_PT_fill 19 = .ok (.iload 7, 2) := by decide +kernel
theorem d_PT_fill_21 : decode b_PT_fill 21 = .ok (.aload_n 1, 1) := by decide +kernel
theorem d_PT_fill_22 : decode b_PT_fill 22 = .ok (.invokevirtual 31, 3) := by decide +kernel
theorem d_PT_fill_25 : decode b_PT_fill 25 = .ok (.if_icmp .ge 66, 3) := by decide +kernel
theorem d_PT_fill_28 : decode b_PT_fill 28 = .ok (.lload 5, 2) := by decide +kernel
theorem d_PT_fill_30 : decode b_PT_fill 30 = .ok (.iconst 2, 1) := by decide +kernel
theorem d_PT_fill_31 : decode b_PT_fill 31 = .ok (.lshl, 1) := by decide +kernel
theorem d_PT_fill_32 : decode b_PT_fill 32 = .ok (.aload_n 1, 1) := by decide +kernel
theorem d_PT_fill_33 : decode b_PT_fill 33 = .ok (.iload 7, 2) := by decide +kernel
theorem d_PT_fill_35 : decode b_PT_fill 35 = .ok (.invokevirtual 37, 3) := by decide +kernel
theorem d_PT_fill_38 : decode b_PT_fill 38 = .ok (.i2l, 1) := by decide +kernel
theorem d_PT_fill_39 : decode b_PT_fill 39 = .ok (.lor, 1) := by decide +kernel
theorem d_PT_fill_40 : decode b_PT_fill 40 = .ok (.lload_n 3, 1) := by decide +kernel
theorem d_PT_fill_41 : decode b_PT_fill 41 = .ok (.land, 1) := by decide +kernel
theorem d_PT_fill_42 : decode b_PT_fill 42 = .ok (.lstore 5, 2) := by decide +kernel
theorem d_PT_fill_44 : decode b_PT_fill 44 = .ok (.iload 7, 2) := by decide +kernel
theorem d_PT_fill_46 : decode b_PT_fill 46 = .ok (.iload_n 2, 1) := by decide +kernel
theorem d_PT_fill_47 : decode b_PT_fill 47 = .ok (.iconst 1, 1) := by decide +kernel
theorem d_PT_fill_48 : decode b_PT_fill 48 = .ok (.isub, 1) := by decide +kernel
theorem d_PT_fill_49 : decode b_PT_fill 49 = .ok (.if_icmp .lt 36, 3) := by decide +kernel
theorem d_PT_fill_52 : decode b_PT_fill 52 = .ok (.aload_n 0, 1) := by decide +kernel
theorem d_PT_fill_53 : decode b_PT_fill 53 = .ok (.getfield 15, 3) := by decide +kernel
theorem d_PT_fill_56 : decode b_PT_fill 56 = .ok (.aload_n 0, 1) := by decide +kernel
theorem d_PT_fill_57 : decode b_PT_fill 57 = .ok (.getfield 9, 3) := by decide +kernel
theorem d_PT_fill_60 : decode b_PT_fill 60 = .ok (.arraylength, 1) := by decide +kernel
theorem d_PT_fill_61 : decode b_PT_fill 61 = .ok (.if_icmp .ge 24, 3) := by decide +kernel
theorem d_PT_fill_64 : decode b_PT_fill 64 = .ok (.aload_n 0, 1) := by decide +kernel
theorem d_PT_fill_65 : decode b_PT_fill 65 = .ok (.getfield 9, 3) := by decide +kernel
theorem d_PT_fill_68 : decode b_PT_fill 68 = .ok (.aload_n 0, 1) := by decide +kernel
theorem d_PT_fill_69 : decode b_PT_fill 69 = .ok (.getfield 15, 3) := by decide +kernel
theorem d_PT_fill_72 : decode b_PT_fill 72 = .ok (.lload 5, 2) := by decide +kernel
theorem d_PT_fill_74 : decode b_PT_fill 74 = .ok (.lastore, 1) := by decide +kernel
theorem d_PT_fill_75 : decode b_PT_fill 75 = .ok (.aload_n 0, 1) := by decide +kernel
theorem d_PT_fill_76 : decode b_PT_fill 76 = .ok (.dup, 1) := by decide +kernel
theorem d_PT_fill_77 : decode b_PT_fill 77 = .ok (.getfield 15, 3) := by decide +kernel
theorem d_PT_fill_80 : decode b_PT_fill 80 = .ok (.iconst 1, 1) := by decide +kernel
theorem d_PT_fill_81 : decode b_PT_fill 81 = .ok (.iadd, 1) := by decide +kernel
theorem d_PT_fill_82 : decode b_PT_fill 82 = .ok (.putfield 15, 3) := by decide +kernel
theorem d_PT_fill_85 : decode b_PT_fill 85 = .ok (.iinc 7 1, 3) := by decide +kernel
theorem d_PT_fill_88 : decode b_PT_fill 88 = .ok (.goto (-69), 3) := by decide +kernel
theorem d_PT_fill_91 : decode b_PT_fill 91 = .ok (.return_, 1) := by decide +kernel
theorem d_PT_isFirst_0 : decode b_PT_isFirst 0 = .ok (.iconst 0, 1) := by decide +kernel
theorem d_PT_isFirst_1 : decode b_PT_isFirst 1 = .ok (.istore_n 2, 1) := by decide +kernel
theorem d_PT_isFirst_2 : decode b_PT_isFirst 2 = .ok (.iload_n 2, 1) := by decide +kernel
theorem d_PT_isFirst_3 : decode b_PT_isFirst 3 = .ok (.iload_n 1, 1) := by decide +kernel
theorem d_PT_isFirst_4 : decode b_PT_isFirst 4 = .ok (.if_icmp .ge 36, 3) := by decide +kernel
theorem d_PT_isFirst_7 : decode b_PT_isFirst 7 = .ok (.iload_n 2, 1) := by decide +kernel
theorem d_PT_isFirst_8 : decode b_PT_isFirst 8 = .ok (.aload_n 0, 1) := by decide +kernel
theorem d_PT_isFirst_9 : decode b_PT_isFirst 9 = .ok (.getfield 9, 3) := by decide +kernel
theorem d_PT_isFirst_12 : decode b_PT_isFirst 12 = .ok (.arraylength, 1) := by decide +kernel
theorem d_PT_isFirst_13 : decode b_PT_isFirst 13 = .ok (.if_icmp .ge 27, 3) := by decide +kernel
theorem d_PT_isFirst_16 : decode b_PT_isFirst 16 = .ok (.aload_n 0, 1) := by decide +kernel
theorem d_PT_isFirst_17 : decode b_PT_isFirst 17 = .ok (.getfield 9, 3) := by decide +kernel
theorem d_PT_isFirst_20 : decode b_PT_isFirst 20 = .ok (.iload_n 2, 1) := by decide +kernel
theorem d_PT_isFirst_21 : decode b_PT_isFirst 21 = .ok (.laload, 1) := by decide +kernel
theorem d_PT_isFirst_22 : decode b_PT_isFirst 22 = .ok (.aload_n 0, 1) := by decide +kernel
theorem d_PT_isFirst_23 : decode b_PT_isFirst 23 = .ok (.getfield 9, 3) := by decide +kernel
theorem d_PT_isFirst_26 : decode b_PT_isFirst 26 = .ok (.iload_n 1, 1) := by decide +kernel
theorem d_PT_isFirst_27 : decode b_PT_isFirst 27 = .ok (.laload, 1) := by decide +kernel
theorem d_PT_isFirst_28 : decode b_PT_isFirst 28 = .ok (.lcmp, 1) := by decide +kernel
theorem d_PT_isFirst_29 : decode b_PT_isFirst 29 = .ok (.ifCond .ne 5, 3) := by decide +kernel
theorem d_PT_isFirst_32 : decode b_PT_isFirst 32 = .ok (.iconst 0, 1) := by decide +kernel
theorem d_PT_isFirst_33 : decode b_PT_isFirst 33 = .ok (.ireturn, 1) := by decide +kernel
theorem d_PT_isFirst_34 : decode b_PT_isFirst 34 = .ok (.iinc 2 1, 3) := by decide +kernel
theorem d_PT_isFirst_37 : decode b_PT_isFirst 37 = .ok (.goto (-35), 3) := by decide +kernel
theorem d_PT_isFirst_40 : decode b_PT_isFirst 40 = .ok (.iconst 1, 1) := by decide +kernel
theorem d_PT_isFirst_41 : decode b_PT_isFirst 41 = .ok (.ireturn, 1) := by decide +kernel
theorem d_PT_isCounted_0 : decode b_PT_isCounted 0 = .ok (.iload 4, 2) := by decide +kernel
theorem d_PT_isCounted_2 : decode b_PT_isCounted 2 = .ok (.tableswitch 73 1 3 #[26, 46, 66], 26) := by decide +kernel
theorem d_PT_isCounted_28 : decode b_PT_isCounted 28 = .ok (.aload_n 0, 1) := by decide +kernel
theorem d_PT_isCounted_29 : decode b_PT_isCounted 29 = .ok (.aload_n 1, 1) := by decide +kernel
theorem d_PT_isCounted_30 : decode b_PT_isCounted 30 = .ok (.iload_n 2, 1) := by decide +kernel
theorem d_PT_isCounted_31 : decode b_PT_isCounted 31 = .ok (.iload_n 3, 1) := by decide +kernel
theorem d_PT_isCounted_32 : decode b_PT_isCounted 32 = .ok (.invokevirtual 41, 3) := by decide +kernel
theorem d_PT_isCounted_35 : decode b_PT_isCounted 35 = .ok (.invokestatic 45, 3) := by decide +kernel
theorem d_PT_isCounted_38 : decode b_PT_isCounted 38 = .ok (.iconst 2, 1) := by decide +kernel
theorem d_PT_isCounted_39 : decode b_PT_isCounted 39 = .ok (.if_icmp .lt 7, 3) := by decide +kernel
theorem d_PT_isCounted_42 : decode b_PT_isCounted 42 = .ok (.iconst 1, 1) := by decide +kernel
theorem d_PT_isCounted_43 : decode b_PT_isCounted 43 = .ok (.goto 4, 3) := by decide +kernel
theorem d_PT_isCounted_46 : decode b_PT_isCounted 46 = .ok (.iconst 0, 1) := by decide +kernel
theorem d_PT_isCounted_47 : decode b_PT_isCounted 47 = .ok (.ireturn, 1) := by decide +kernel
theorem d_PT_isCounted_48 : decode b_PT_isCounted 48 = .ok (.aload_n 0, 1) := by decide +kernel
theorem d_PT_isCounted_49 : decode b_PT_isCounted 49 = .ok (.aload_n 1, 1) := by decide +kernel
theorem d_PT_isCounted_50 : decode b_PT_isCounted 50 = .ok (.iload_n 2, 1) := by decide +kernel
theorem d_PT_isCounted_51 : decode b_PT_isCounted 51 = .ok (.iconst (-1), 1) := by decide +kernel
theorem d_PT_isCounted_52 : decode b_PT_isCounted 52 = .ok (.invokevirtual 41, 3) := by decide +kernel
theorem d_PT_isCounted_55 : decode b_PT_isCounted 55 = .ok (.invokestatic 45, 3) := by decide +kernel
theorem d_PT_isCounted_58 : decode b_PT_isCounted 58 = .ok (.iconst 2, 1) := by decide +kernel
theorem d_PT_isCounted_59 : decode b_PT_isCounted 59 = .ok (.if_icmp .lt 7, 3) := by decide +kernel
theorem d_PT_isCounted_62 : decode b_PT_isCounted 62 = .ok (.iconst 1, 1) := by decide +kernel
theorem d_PT_isCounted_63 : decode b_PT_isCounted 63 = .ok (.goto 4, 3) := by decide +kernel
theorem d_PT_isCounted_66 : decode b_PT_isCounted 66 = .ok (.iconst 0, 1) := by decide +kernel
theorem d_PT_isCounted_67 : decode b_PT_isCounted 67 = .ok (.ireturn, 1) := by decide +kernel
theorem d_PT_isCounted_68 : decode b_PT_isCounted 68 = .ok (.aload_n 1, 1) := by decide +kernel
theorem d_PT_isCounted_69 : decode b_PT_isCounted 69 = .ok (.iload_n 2, 1) := by decide +kernel
theorem d_PT_isCounted_70 : decode b_PT_isCounted 70 = .ok (.iload_n 3, 1) := by decide +kernel
theorem d_PT_isCounted_71 : decode b_PT_isCounted 71 = .ok (.invokevirtual 50, 3) := by decide +kernel
theorem d_PT_isCounted_74 : decode b_PT_isCounted 74 = .ok (.ireturn, 1) := by decide +kernel
theorem d_PT_isCounted_75 : decode b_PT_isCounted 75 = .ok (.iconst 1, 1) := by decide +kernel
theorem d_PT_isCounted_76 : decode b_PT_isCounted 76 = .ok (.ireturn, 1) := by decide +kernel
theorem d_PT_neighbours_0 : decode b_PT_neighbours 0 = .ok (.iconst 0, 1) := by decide +kernel
theorem d_PT_neighbours_1 : decode b_PT_neighbours 1 = .ok (.istore 4, 2) := by decide +kernel
theorem d_PT_neighbours_3 : decode b_PT_neighbours 3 = .ok (.iload_n 2, 1) := by decide +kernel
theorem d_PT_neighbours_4 : decode b_PT_neighbours 4 = .ok (.istore 5, 2) := by decide +kernel
theorem d_PT_neighbours_6 : decode b_PT_neighbours 6 = .ok (.iload 5, 2) := by decide +kernel
theorem d_PT_neighbours_8 : decode b_PT_neighbours 8 = .ok (.aload_n 0, 1) := by decide +kernel
theorem d_PT_neighbours_9 : decode b_PT_neighbours 9 = .ok (.getfield 15, 3) := by decide +kernel
theorem d_PT_neighbours_12 : decode b_PT_neighbours 12 = .ok (.if_icmp .ge 51, 3) := by decide +kernel
theorem d_PT_neighbours_15 : decode b_PT_neighbours 15 = .ok (.aload_n 1, 1) := by decide +kernel
theorem d_PT_neighbours_16 : decode b_PT_neighbours 16 = .ok (.iload 5, 2) := by decide +kernel
theorem d_PT_neighbours_18 : decode b_PT_neighbours 18 = .ok (.iload_n 3, 1) := by decide +kernel
theorem d_PT_neighbours_19 : decode b_PT_neighbours 19 = .ok (.iadd, 1) := by decide +kernel
theorem d_PT_neighbours_20 : decode b_PT_neighbours 20 = .ok (.invokevirtual 37, 3) := by decide +kernel
theorem d_PT_neighbours_23 : decode b_PT_neighbours 23 = .ok (.istore 6, 2) := by decide +kernel
theorem d_PT_neighbours_25 : decode b_PT_neighbours 25 = .ok (.iload 6, 2) := by decide +kernel
theorem d_PT_neighbours_27 : decode b_PT_neighbours 27 = .ok (.iconst (-1), 1) := by decide +kernel
theorem d_PT_neighbours_28 : decode b_PT_neighbours 28 = .ok (.if_icmp .eq 29, 3) := by decide +kernel
theorem d_PT_neighbours_31 : decode b_PT_neighbours 31 = .ok (.aload_n 0, 1) := by decide +kernel
theorem d_PT_neighbours_32 : decode b_PT_neighbours 32 = .ok (.getfield 9, 3) := by decide +kernel
theorem d_PT_neighbours_35 : decode b_PT_neighbours 35 = .ok (.iload 5, 2) := by decide +kernel
theorem d_PT_neighbours_37 : decode b_PT_neighbours 37 = .ok (.laload, 1) := by decide +kernel
theorem d_PT_neighbours_38 : decode b_PT_neighbours 38 = .ok (.aload_n 0, 1) := by decide +kernel
theorem d_PT_neighbours_39 : decode b_PT_neighbours 39 = .ok (.getfield 9, 3) := by decide +kernel
theorem d_PT_neighbours_42 : decode b_PT_neighbours 42 = .ok (.iload_n 2, 1) := by decide +kernel
theorem d_PT_neighbours_43 : decode b_PT_neighbours 43 = .ok (.laload, 1) := by decide +kernel
theorem d_PT_neighbours_44 : decode b_PT_neighbours 44 = .ok (.lcmp, 1) := by decide +kernel
theorem d_PT_neighbours_45 : decode b_PT_neighbours 45 = .ok (.ifCond .ne 12, 3) := by decide +kernel
theorem d_PT_neighbours_48 : decode b_PT_neighbours 48 = .ok (.iload 4, 2) := by decide +kernel
theorem d_PT_neighbours_50 : decode b_PT_neighbours 50 = .ok (.iconst 1, 1) := by decide +kernel
theorem d_PT_neighbours_51 : decode b_PT_neighbours 51 = .ok (.iload 6, 2) := by decide +kernel
theorem d_PT_neighbours_53 : decode b_PT_neighbours 53 = .ok (.ishl, 1) := by decide +kernel
theorem d_PT_neighbours_54 : decode b_PT_neighbours 54 = .ok (.ior, 1) := by decide +kernel
theorem d_PT_neighbours_55 : decode b_PT_neighbours 55 = .ok (.istore 4, 2) := by decide +kernel
theorem d_PT_neighbours_57 : decode b_PT_neighbours 57 = .ok (.iinc 5 1, 3) := by decide +kernel
theorem d_PT_neighbours_60 : decode b_PT_neighbours 60 = .ok (.goto (-54), 3) := by decide +kernel
theorem d_PT_neighbours_63 : decode b_PT_neighbours 63 = .ok (.iload 4, 2) := by decide +kernel
theorem d_PT_neighbours_65 : decode b_PT_neighbours 65 = .ok (.ireturn, 1) := by decide +kernel
theorem d_PW_init_0 : decode b_PW_init 0 = .ok (.aload_n 0, 1) := by decide +kernel
theorem d_PW_init_1 : decode b_PW_init 1 = .ok (.invokespecial 3, 3) := by decide +kernel
theorem d_PW_init_4 : decode b_PW_init 4 = .ok (.aload_n 0, 1) := by decide +kernel
theorem d_PW_init_5 : decode b_PW_init 5 = .ok (.iconst 4, 1) := by decide +kernel
theorem d_PW_init_6 : decode b_PW_init 6 = .ok (.newarray .int, 2) := by decide +kernel
theorem d_PW_init_8 : decode b_PW_init 8 = .ok (.putfield 9, 3) := by decide +kernel
theorem d_PW_init_11 : decode b_PW_init 11 = .ok (.aload_n 0, 1) := by decide +kernel
theorem d_PW_init_12 : decode b_PW_init 12 = .ok (.iconst 4, 1) := by decide +kernel
theorem d_PW_init_13 : decode b_PW_init 13 = .ok (.newarray .int, 2) := by decide +kernel
theorem d_PW_init_15 : decode b_PW_init 15 = .ok (.putfield 15, 3) := by decide +kernel
theorem d_PW_init_18 : decode b_PW_init 18 = .ok (.return_, 1) := by decide +kernel
theorem d_PW_find_0 : decode b_PW_find 0 = .ok (.iconst 0, 1) := by decide +kernel
theorem d_PW_find_1 : decode b_PW_find 1 = .ok (.istore 4, 2) := by decide +kernel
theorem d_PW_find_3 : decode b_PW_find 3 = .ok (.iload 4, 2) := by decide +kernel
theorem d_PW_find_5 : decode b_PW_find 5 = .ok (.iconst 4, 1) := by decide +kernel
theorem d_PW_find_6 : decode b_PW_find 6 = .ok (.if_icmp .ge 27, 3) := by decide +kernel
theorem d_PW_find_9 : decode b_PW_find 9 = .ok (.aload_n 0, 1) := by decide +kernel
theorem d_PW_find_10 : decode b_PW_find 10 = .ok (.getfield 9, 3) := by decide +kernel
theorem d_PW_find_13 : decode b_PW_find 13 = .ok (.iload 4, 2) := by decide +kernel
theorem d_PW_find_15 : decode b_PW_find 15 = .ok (.iload 4, 2) := by decide +kernel
theorem d_PW_find_17 : decode b_PW_find 17 = .ok (.iload_n 2, 1) := by decide +kernel
theorem d_PW_find_18 : decode b_PW_find 18 = .ok (.if_icmp .ne 7, 3) := by decide +kernel
theorem d_PW_find_21 : decode b_PW_find 21 = .ok (.iconst 1, 1) := by decide +kernel
theorem d_PW_find_22 : decode b_PW_find 22 = .ok (.goto 4, 3) := by decide +kernel
theorem d_PW_find_25 : decode b_PW_find 25 = .ok (.iconst 0, 1) := by decide +kernel
theorem d_PW_find_26 : decode b_PW_find 26 = .ok (.iastore, 1) := by decide +kernel
theorem d_PW_find_27 : decode b_PW_find 27 = .ok (.iinc 4 1, 3) := by decide +kernel
theorem d_PW_find_30 : decode b_PW_find 30 = .ok (.goto (-27), 3) := by decide +kernel
theorem d_PW_find_33 : decode b_PW_find 33 = .ok (.iconst 0, 1) := by decide +kernel
theorem d_PW_find_34 : decode b_PW_find 34 = .ok (.istore 4, 2) := by decide +kernel
theorem d_PW_find_36 : decode b_PW_find 36 = .ok (.iload 4, 2) := by decide +kernel
theorem d_PW_find_38 : decode b_PW_find 38 = .ok (.iload_n 3, 1) := by decide +kernel
theorem d_PW_find_39 : decode b_PW_find 39 = .ok (.if_icmp .ge 23, 3) := by decide +kernel
theorem d_PW_find_42 : decode b_PW_find 42 = .ok (.aload_n 0, 1) := by decide +kernel
theorem d_PW_find_43 : decode b_PW_find 43 = .ok (.invokevirtual 18, 3) := by decide +kernel
theorem d_PW_find_46 : decode b_PW_find 46 = .ok (.ldc 22, 2) := by decide +kernel
theorem d_PW_find_48 : decode b_PW_find 48 = .ok (.if_icmp .gt 14, 3) := by decide +kernel
theorem d_PW_find_51 : decode b_PW_find 51 = .ok (.aload_n 0, 1) := by decide +kernel
theorem d_PW_find_52 : decode b_PW_find 52 = .ok (.aload_n 1, 1) := by decide +kernel
theorem d_PW_find_53 : decode b_PW_find 53 = .ok (.invokevirtual 23, 3) := by decide +kernel
theorem d_PW_find_56 : decode b_PW_find 56 = .ok (.iinc 4 1, 3) := by decide +kernel
theorem d_PW_find_59 : decode b_PW_find 59 = .ok (.goto (-23), 3) := by decide +kernel
theorem d_PW_find_62 : decode b_PW_find 62 = .ok (.aload_n 0, 1) := by decide +kernel
theorem d_PW_find_63 : decode b_PW_find 63 = .ok (.invokevirtual 18, 3) := by decide +kernel
theorem d_PW_find_66 : decode b_PW_find 66 = .ok (.ldc 22, 2) := by decide +kernel
theorem d_PW_find_68 : decode b_PW_find 68 = .ok (.if_icmp .gt 7, 3) := by decide +kernel
theorem d_PW_find_71 : decode b_PW_find 71 = .ok (.iconst 1, 1) := by decide +kernel
theorem d_PW_find_72 : decode b_PW_find 72 = .ok (.goto 4, 3) := by decide +kernel
theorem d_PW_find_75 : decode b_PW_find 75 = .ok (.iconst 0, 1) := by decide +kernel
theorem d_PW_find_76 : decode b_PW_find 76 = .ok (.ireturn, 1) := by decide +kernel
theorem d_PW_goOn_0 : decode b_PW_goOn 0 = .ok (.iconst 0, 1) := by decide +kernel
theorem d_PW_goOn_1 : decode b_PW_goOn 1 = .ok (.istore_n 2, 1) := by decide +kernel
theorem d_PW_goOn_2 : decode b_PW_goOn 2 = .ok (.iload_n 2, 1) := by decide +kernel
theorem d_PW_goOn_3 : decode b_PW_goOn 3 = .ok (.iconst 4, 1) := by decide +kernel
theorem d_PW_goOn_4 : decode b_PW_goOn 4 = .ok (.if_icmp .ge 54, 3) := by decide +kernel
theorem d_PW_goOn_7 : decode b_PW_goOn 7 = .ok (.aload_n 0, 1) := by decide +kernel
theorem d_PW_goOn_8 : decode b_PW_goOn 8 = .ok (.getfield 15, 3) := by decide +kernel
theorem d_PW_goOn_11 : decode b_PW_goOn 11 = .ok (.iload_n 2, 1) := by decide +kernel
theorem d_PW_goOn_12 : decode b_PW_goOn 12 = .ok (.iconst 0, 1) := by decide +kernel
theorem d_PW_goOn_13 : decode b_PW_goOn 13 = .ok (.iastore, 1) := by decide +kernel
theorem d_PW_goOn_14 : decode b_PW_goOn 14 = .ok (.iconst 0, 1) := by decide +kernel
theorem d_PW_goOn_15 : decode b_PW_goOn 15 = .ok (.istore_n 3, 1) := by decide +kernel
theorem d_PW_goOn_16 : decode b_PW_goOn 16 = .ok (.iload_n 3, 1) := by decide +kernel
theorem d_PW_goOn_17 : decode b_PW_goOn 17 = .ok (.iconst 4, 1) := by decide +kernel
theorem d_PW_goOn_18 : decode b_PW_goOn 18 = .ok (.if_icmp .ge 34, 3) := by decide +kernel
theorem d_PW_goOn_21 : decode b_PW_goOn 21 = .ok (.aload_n 0, 1) := by decide +kernel
theorem d_PW_goOn_22 : decode b_PW_goOn 22 = .ok (.getfield 15, 3) := by decide +kernel
theorem d_PW_goOn_25 : decode b_PW_goOn 25 = .ok (.iload_n 2, 1) := by decide +kernel
theorem d_PW_goOn_26 : decode b_PW_goOn 26 = .ok (.dup2, 1) := by decide +kernel
theorem d_PW_goOn_27 : decode b_PW_goOn 27 = .ok (.iaload, 1) := by decide +kernel
theorem d_PW_goOn_28 : decode b_PW_goOn 28 = .ok (.aload_n 0, 1) := by decide +kernel
theorem d_PW_goOn_29 : decode b_PW_goOn 29 = .ok (.getfield 9, 3) := by decide +kernel
theorem d_PW_goOn_32 : decode b_PW_goOn 32 = .ok (.iload_n 3, 1) := by decide +kernel
theorem d_PW_goOn_33 : decode b_PW_goOn 33 = .ok (.iaload, 1) := by decide +kernel
theorem d_PW_goOn_34 : decode b_PW_goOn 34 = .ok (.aload_n 1, 1) := by decide +kernel
theorem d_PW_goOn_35 : decode b_PW_goOn 35 = .ok (.iload_n 3, 1) := by decide +kernel
theorem d_PW_goOn_36 : decode b_PW_goOn 36 = .ok (.invokevirtual 27, 3) := by decide +kernel
theorem d_PW_goOn_39 : decode b_PW_goOn 39 = .ok (.iload_n 2, 1) := by decide +kernel
theorem d_PW_goOn_40 : decode b_PW_goOn 40 = .ok (.invokevirtual 33, 3) := by decide +kernel
theorem d_PW_goOn_43 : decode b_PW_goOn 43 = .ok (.imul, 1) := by decide +kernel
theorem d_PW_goOn_44 : decode b_PW_goOn 44 = .ok (.iadd, 1) := by decide +kernel
theorem d_PW_goOn_45 : decode b_PW_goOn 45 = .ok (.iastore, 1) := by decide +kernel
theorem d_PW_goOn_46 : decode b_PW_goOn 46 = .ok (.iinc 3 1, 3) := by decide +kernel
theorem d_PW_goOn_49 : decode b_PW_goOn 49 = .ok (.goto (-33), 3) := by decide +kernel
theorem d_PW_goOn_52 : decode b_PW_goOn 52 = .ok (.iinc 2 1, 3) := by decide +kernel
theorem d_PW_goOn_55 : decode b_PW_goOn 55 = .ok (.goto (-53), 3) := by decide +kernel
theorem d_PW_goOn_58 : decode b_PW_goOn 58 = .ok (.aload_n 0, 1) := by decide +kernel
theorem d_PW_goOn_59 : decode b_PW_goOn 59 = .ok (.getfield 15, 3) := by decide +kernel
theorem d_PW_goOn_62 : decode b_PW_goOn 62 = .ok (.iconst 0, 1) := by decide +kernel
theorem d_PW_goOn_63 : decode b_PW_goOn 63 = .ok (.aload_n 0, 1) := by decide +kernel
theorem d_PW_goOn_64 : decode b_PW_goOn 64 = .ok (.getfield 9, 3) := by decide +kernel
theorem d_PW_goOn_67 : decode b_PW_goOn 67 = .ok (.iconst 0, 1) := by decide +kernel
theorem d_PW_goOn_68 : decode b_PW_goOn 68 = .ok (.iconst 4, 1) := by decide +kernel
theorem d_PW_goOn_69 : decode b_PW_goOn 69 = .ok (.invokestatic 39, 3) := by decide +kernel
theorem d_PW_goOn_72 : decode b_PW_goOn 72 = .ok (.return_, 1) := by decide +kernel
theorem d_PW_total_0 : decode b_PW_total 0 = .ok (.iconst 0, 1) := by decide +kernel
theorem d_PW_total_1 : decode b_PW_total 1 = .ok (.istore_n 1, 1) := by decide +kernel
theorem d_PW_total_2 : decode b_PW_total 2 = .ok (.iconst 0, 1) := by decide +kernel
theorem d_PW_total_3 : decode b_PW_total 3 = .ok (.istore_n 2, 1) := by decide +kernel
theorem d_PW_total_4 : decode b_PW_total 4 = .ok (.iload_n 2, 1) := by decide +kernel
theorem d_PW_total_5 : decode b_PW_total 5 = .ok (.iconst 4, 1) := by decide +kernel
theorem d_PW_total_6 : decode b_PW_total 6 = .ok (.if_icmp .ge 18, 3) := by decide +kernel
theorem d_PW_total_9 : decode b_PW_total 9 = .ok (.iload_n 1, 1) := by decide +kernel
theorem d_PW_total_10 : decode b_PW_total 10 = .ok (.aload_n 0, 1) := by decide +kernel
theorem d_PW_total_11 : decode b_PW_total 11 = .ok (.getfield 9, 3) := by decide +kernel
theorem d_PW_total_14 : decode b_PW_total 14 = .ok (.iload_n 2, 1) := by decide +kernel
theorem d_PW_total_15 : decode b_PW_total 15 = .ok (.iaload, 1) := by decide +kernel
theorem d_PW_total_16 : decode b_PW_total 16 = .ok (.iadd, 1) := by decide +kernel
theorem d_PW_total_17 : decode b_PW_total 17 = .ok (.istore_n 1, 1) := by decide +kernel
theorem d_PW_total_18 : decode b_PW_total 18 = .ok (.iinc 2 1, 3) := by decide +kernel
theorem d_PW_total_21 : decode b_PW_total 21 = .ok (.goto (-17), 3) := by decide +kernel
theorem d_PW_total_24 : decode b_PW_total 24 = .ok (.iload_n 1, 1) := by decide +kernel
theorem d_PW_total_25 : decode b_PW_total 25 = .ok (.ireturn, 1) := by decide +kernel
theorem d_PW_countOf_0 : decode b_PW_countOf 0 = .ok (.iload_n 1, 1) := by decide +kernel
theorem d_PW_countOf_1 : decode b_PW_countOf 1 = .ok (.invokestatic 45, 3) := by decide +kernel
theorem d_PW_countOf_4 : decode b_PW_countOf 4 = .ok (.ifCond .eq 12, 3) := by decide +kernel
theorem d_PW_countOf_7 : decode b_PW_countOf 7 = .ok (.aload_n 0, 1) := by decide +kernel
theorem d_PW_countOf_8 : decode b_PW_countOf 8 = .ok (.getfield 9, 3) := by decide +kernel
theorem d_PW_countOf_11 : decode b_PW_countOf 11 = .ok (.iload_n 1, 1) := by decide +kernel
theorem d_PW_countOf_12 : decode b_PW_countOf 12 = .ok (.iaload, 1) := by decide +kernel
theorem d_PW_countOf_13 : decode b_PW_countOf 13 = .ok (.goto 4, 3) := by decide +kernel
theorem d_PW_countOf_16 : decode b_PW_countOf 16 = .ok (.iconst 0, 1) := by decide +kernel
theorem d_PW_countOf_17 : decode b_PW_countOf 17 = .ok (.ireturn, 1) := by decide +kernel
theorem d_RT_init_0 : decode b_RT_init 0 = .ok (.aload_n 0, 1) := by decide +kernel
theorem d_RT_init_1 : decode b_RT_init 1 = .ok (.invokespecial 3, 3) := by decide +kernel
theorem d_RT_init_4 : decode b_RT_init 4 = .ok (.aload_n 0, 1) := by decide +kernel
theorem d_RT_init_5 : decode b_RT_init 5 = .ok (.sipush 300, 3) := by decide +kernel
theorem d_RT_init_8 : decode b_RT_init 8 = .ok (.newarray .int, 2) := by decide +kernel
theorem d_RT_init_10 : decode b_RT_init 10 = .ok (.putfield 9, 3) := by decide +kernel
theorem d_RT_init_13 : decode b_RT_init 13 = .ok (.aload_n 0, 1) := by decide +kernel
theorem d_RT_init_14 : decode b_RT_init 14 = .ok (.iconst 0, 1) := by decide +kernel
theorem d_RT_init_15 : decode b_RT_init 15 = .ok (.putfield 15, 3) := by decide +kernel
theorem d_RT_init_18 : decode b_RT_init 18 = .ok (.aload_n 0, 1) := by decide +kernel
theorem d_RT_init_19 : decode b_RT_init 19 = .ok (.sipush 300, 3) := by decide +kernel
theorem d_RT_init_22 : decode b_RT_init 22 = .ok (.newarray .int, 2) := by decide +kernel
theorem d_RT_init_24 : decode b_RT_init 24 = .ok (.putfield 19, 3) := by decide +kernel
theorem d_RT_init_27 : decode b_RT_init 27 = .ok (.aload_n 0, 1) := by decide +kernel
theorem d_RT_init_28 : decode b_RT_init 28 = .ok (.sipush 300, 3) := by decide +kernel
theorem d_RT_init_31 : decode b_RT_init 31 = .ok (.newarray .int, 2) := by decide +kernel
theorem d_RT_init_33 : decode b_RT_init 33 = .ok (.putfield 22, 3) := by decide +kernel
theorem d_RT_init_36 : decode b_RT_init 36 = .ok (.aload_n 0, 1) := by decide +kernel
theorem d_RT_init_37 : decode b_RT_init 37 = .ok (.sipush 300, 3) := by decide +kernel
theorem d_RT_init_40 : decode b_RT_init 40 = .ok (.newarray .int, 2) := by decide +kernel
theorem d_RT_init_42 : decode b_RT_init 42 = .ok (.putfield 25, 3) := by decide +kernel
theorem d_RT_init_45 : decode b_RT_init 45 = .ok (.aload_n 0, 1) := by decide +kernel
theorem d_RT_init_46 : decode b_RT_init 46 = .ok (.iconst 0, 1) := by decide +kernel
theorem d_RT_init_47 : decode b_RT_init 47 = .ok (.putfield 28, 3) := by decide +kernel
theorem d_RT_init_50 : decode b_RT_init 50 = .ok (.return_, 1) := by decide +kernel
theorem d_RT_find_0 : decode b_RT_find 0 = .ok (.aload_n 0, 1) := by decide +kernel
theorem d_RT_find_1 : decode b_RT_find 1 = .ok (.iconst 0, 1) := by decide +kernel
theorem d_RT_find_2 : decode b_RT_find 2 = .ok (.putfield 15, 3) := by decide +kernel
theorem d_RT_find_5 : decode b_RT_find 5 = .ok (.aload_n 0, 1) := by decide +kernel
theorem d_RT_find_6 : decode b_RT_find 6 = .ok (.iconst 0, 1) := by decide +kernel
theorem d_RT_find_7 : decode b_RT_find 7 = .ok (.putfield 28, 3) := by decide +kernel
theorem d_RT_find_10 : decode b_RT_find 10 = .ok (.aload_n 2, 1) := by decide +kernel
theorem d_RT_find_11 : decode b_RT_find 11 = .ok (.invokevirtual 31, 3) := by decide +kernel
theorem d_RT_find_14 : decode b_RT_find 14 = .ok (.iconst 1, 1) := by decide +kernel
theorem d_RT_find_15 : decode b_RT_find 15 = .ok (.if_icmp .ge 4, 3) := by decide +kernel
theorem d_RT_find_18 : decode b_RT_find 18 = .ok (.return_, 1) := by decide +kernel
theorem d_RT_find_19 : decode b_RT_find 19 = .ok (.iconst 0, 1) := by decide +kernel
theorem d_RT_find_20 : decode b_RT_find 20 = .ok (.istore_n 3, 1) := by decide +kernel
theorem d_RT_find_21 : decode b_RT_find 21 = .ok (.iload_n 3, 1) := by decide +kernel
theorem d_RT_find_22 : decode b_RT_find 22 = .ok (.aload_n 2, 1) := by decide +kernel
theorem d_RT_find_23 : decode b_RT_find 23 = .ok (.invokevirtual 31, 3) := by decide +kernel
theorem d_RT_find_26 : decode b_RT_find 26 = .ok (.iadd, 1) := by decide +kernel
theorem d_RT_find_27 : decode b_RT_find 27 = .ok (.aload_n 1, 1) := by decide +kernel
theorem d_RT_find_28 : decode b_RT_find 28 = .ok (.invokevirtual 31, 3) := by decide +kernel
theorem d_RT_find_31 : decode b_RT_find 31 = .ok (.if_icmp .gt 50, 3) := by decide +kernel
theorem d_RT_find_34 : decode b_RT_find 34 = .ok (.aload_n 0, 1) := by decide +kernel
theorem d_RT_find_35 : decode b_RT_find 35 = .ok (.getfield 15, 3) := by decide +kernel
theorem d_RT_find_38 : decode b_RT_find 38 = .ok (.aload_n 0, 1) := by decide +kernel
theorem d_RT_find_39 : decode b_RT_find 39 = .ok (.getfield 9, 3) := by decide +kernel
theorem d_RT_find_42 : decode b_RT_find 42 = .ok (.arraylength, 1) := by decide +kernel
theorem d_RT_find_43 : decode b_RT_find 43 = .ok (.if_icmp .ge 32, 3) := by decide +kernel
theorem d_RT_find_46 : decode b_RT_find 46 = .ok (.aload_n 1, 1) := by decide +kernel
theorem d_RT_find_47 : decode b_RT_find 47 = .ok (.iload_n 3, 1) := by decide +kernel
theorem d_RT_find_48 : decode b_RT_find 48 = .ok (.aload_n 2, 1) := by decide +kernel
theorem d_RT_find_49 : decode b_RT_find 49 = .ok (.invokevirtual 37, 3) := by decide +kernel
theorem d_RT_find_52 : decode b_RT_find 52 = .ok (.ifCond .eq 23, 3) := by decide +kernel
theorem d_RT_find_55 : decode b_RT_find 55 = .ok (.aload_n 0, 1) := by decide +kernel
theorem d_RT_find_56 : decode b_RT_find 56 = .ok (.getfield 9, 3) := by decide +kernel
theorem d_RT_find_59 : decode b_RT_find 59 = .ok (.aload_n 0, 1) := by decide +kernel
theorem d_RT_find_60 : decode b_RT_find 60 = .ok (.getfield 15, 3) := by decide +kernel
theorem d_RT_find_63 : decode b_RT_find 63 = .ok (.iload_n 3, 1) := by decide +kernel
theorem d_RT_find_64 : decode b_RT_find 64 = .ok (.iastore, 1) := by decide +kernel
theorem d_RT_find_65 : decode b_RT_find 65 = .ok (.aload_n 0, 1) := by decide +kernel
theorem d_RT_find_66 : decode b_RT_find 66 = .ok (.dup, 1) := by decide +kernel
theorem d_RT_find_67 : decode b_RT_find 67 = .ok (.getfield 15, 3) := by decide +kernel
theorem d_RT_find_70 : decode b_RT_find 70 = .ok (.iconst 1, 1) := by decide +kernel
theorem d_RT_find_71 : decode b_RT_find 71 = .ok (.iadd, 1) := by decide +kernel
theorem d_RT_find_72 : decode b_RT_find 72 = .ok (.putfield 15, 3) := by decide +kernel
theorem d_RT_find_75 : decode b_RT_find 75 = .ok (.iinc 3 1, 3) := by decide +kernel
theorem d_RT_find_78 : decode b_RT_find 78 = .ok (.goto (-57), 3) := by decide +kernel
theorem d_RT_find_81 : decode b_RT_find 81 = .ok (.iconst 0, 1) := by decide +kernel
theorem d_RT_find_82 : decode b_RT_find 82 = .ok (.istore_n 3, 1) := by decide +kernel
theorem d_RT_find_83 : decode b_RT_find 83 = .ok (.iload_n 3, 1) := by decide +kernel
theorem d_RT_find_84 : decode b_RT_find 84 = .ok (.aload_n 0, 1) := by decide +kernel
theorem d_RT_find_85 : decode b_RT_find 85 = .ok (.invokevirtual 41, 3) := by decide +kernel
theorem d_RT_find_88 : decode b_RT_find 88 = .ok (.if_icmp .ge 15, 3) := by decide +kernel
theorem d_RT_find_91 : decode b_RT_find 91 = .ok (.aload_n 0, 1) := by decide +kernel
theorem d_RT_find_92 : decode b_RT_find 92 = .ok (.aload_n 1, 1) := by decide +kernel
theorem d_RT_find_93 : decode b_RT_find 93 = .ok (.iload_n 3, 1) := by decide +kernel
theorem d_RT_find_94 : decode b_RT_find 94 = .ok (.invokevirtual 44, 3) := by decide +kernel
theorem d_RT_find_97 : decode b_RT_find 97 = .ok (.iinc 3 1, 3) := by decide +kernel
theorem d_RT_find_100 : decode b_RT_find 100 = .ok (.goto (-17), 3) := by decide +kernel
theorem d_RT_find_103 : decode b_RT_find 103 = .ok (.return_, 1) := by decide +kernel
theorem d_RT_addReturn_0 : decode b_RT_addReturn 0 = .ok (.iconst 0, 1) := by decide +kernel
theorem d_RT_addReturn_1 : decode b_RT_addReturn 1 = .ok (.istore_n 3, 1) := by decide +kernel
theorem d_RT_addReturn_2 : decode b_RT_addReturn 2 = .ok (.iload_n 3, 1) := by decide +kernel
theorem d_RT_addReturn_3 : decode b_RT_addReturn 3 = .ok (.aload_n 0, 1) := by decide +kernel
theorem d_RT_addReturn_4 : decode b_RT_addReturn 4 = .ok (.getfield 28, 3) := by decide +kernel
theorem d_RT_addReturn_7 : decode b_RT_addReturn 7 = .ok (.if_icmp .ge 24, 3) := by decide +kernel
theorem d_RT_addReturn_10 : decode b_RT_addReturn 10 = .ok (.aload_n 0, 1) := by decide +kernel
theorem d_RT_addReturn_11 : decode b_RT_addReturn 11 = .ok (.aload_n 1, 1) := by decide +kernel
theorem d_RT_addReturn_12 : decode b_RT_addReturn 12 = .ok (.aload_n 0, 1) := by decide +kernel
theorem d_RT_addReturn_13 : decode b_RT_addReturn 13 = .ok (.getfield 22, 3) := by decide +kernel
theorem d_RT_addReturn_16 : decode b_RT_addReturn 16 = .ok (.iload_n 3, 1) := by decide +kernel
theorem d_RT_addReturn_17 : decode b_RT_addReturn 17 = .ok (.iaload, 1) := by decide +kernel
theorem d_RT_addReturn_18 : decode b_RT_addReturn 18 = .ok (.iload_n 2, 1) := by decide +kernel
theorem d_RT_addReturn_19 : decode b_RT_addReturn 19 = .ok (.invokevirtual 48, 3) := by decide +kernel
theorem d_RT_addReturn_22 : decode b_RT_addReturn 22 = .ok (.ifCond .ne 9, 3) := by decide +kernel
theorem d_RT_addReturn_25 : decode b_RT_addReturn 25 = .ok (.iinc 3 1, 3) := by decide +kernel
theorem d_RT_addReturn_28 : decode b_RT_addReturn 28 = .ok (.goto (-26), 3) := by decide +kernel
theorem d_RT_addReturn_31 : decode b_RT_addReturn 31 = .ok (.iload_n 3, 1) := by decide +kernel
theorem d_RT_addReturn_32 : decode b_RT_addReturn 32 = .ok (.aload_n 0, 1) := by decide +kernel
theorem d_RT_addReturn_33 : decode b_RT_addReturn 33 = .ok (.getfield 22, 3) := by decide +kernel
theorem d_RT_addReturn_36 : decode b_RT_addReturn 36 = .ok (.arraylength, 1) := by decide +kernel
theorem d_RT_addReturn_37 : decode b_RT_addReturn 37 = .ok (.if_icmp .lt 4, 3) := by decide +kernel
theorem d_RT_addReturn_40 : decode b_RT_addReturn 40 = .ok (.return_, 1) := by decide +kernel
theorem d_RT_addReturn_41 : decode b_RT_addReturn 41 = .ok (.iload_n 3, 1) := by decide +kernel
theorem d_RT_addReturn_42 : decode b_RT_addReturn 42 = .ok (.aload_n 0, 1) := by decide +kernel
theorem d_RT_addReturn_43 : decode b_RT_addReturn 43 = .ok (.getfield 28, 3) := by decide +kernel
theorem d_RT_addReturn_46 : decode b_RT_addReturn 46 = .ok (.if_icmp .ne 27, 3) := by decide +kernel
theorem d_RT_addReturn_49 : decode b_RT_addReturn 49 = .ok (.aload_n 0, 1) := by decide +kernel
theorem d_RT_addReturn_50 : decode b_RT_addReturn 50 = .ok (.getfield 22, 3) := by decide +kernel
theorem d_RT_addReturn_53 : decode b_RT_addReturn 53 = .ok (.iload_n 3, 1) := by decide +kernel
theorem d_RT_addReturn_54 : decode b_RT_addReturn 54 = .ok (.iload_n 2, 1) := by decide +kernel
theorem d_RT_addReturn_55 : decode b_RT_addReturn 55 = .ok (.iastore, 1) := by decide +kernel
theorem d_RT_addReturn_56 : decode b_RT_addReturn 56 = .ok (.aload_n 0, 1) := by decide +kernel
theorem d_RT_addReturn_57 : decode b_RT_addReturn 57 = .ok (.getfield 25, 3) := by decide +kernel
theorem d_RT_addReturn_60 : decode b_RT_addReturn 60 = .ok (.iload_n 3, 1) := by decide +kernel
theorem d_RT_addReturn_61 : decode b_RT_addReturn 61 = .ok (.iconst 0, 1) := by decide +kernel
theorem d_RT_addReturn_62 : decode b_RT_addReturn 62 = .ok (.iastore, 1) := by decide +kernel
theorem d_RT_addReturn_63 : decode b_RT_addReturn 63 = .ok (.aload_n 0, 1) := by decide +kernel
theorem d_RT_addReturn_64 : decode b_RT_addReturn 64 = .ok (.dup, 1) := by decide +kernel
theorem d_RT_addReturn_65 : decode b_RT_addReturn 65 = .ok (.getfield 28, 3) := by decide +kernel
theorem d_RT_addReturn_68 : decode b_RT_addReturn 68 = .ok (.iconst 1, 1) := by decide +kernel
theorem d_RT_addReturn_69 : decode b_RT_addReturn 69 = .ok (.iadd, 1) := by decide +kernel
theorem d_RT_addReturn_70 : decode b_RT_addReturn 70 = .ok (.putfield 28, 3) := by decide +kernel
theorem d_RT_addReturn_73 : decode b_RT_addReturn 73 = .ok (.aload_n 0, 1) := by decide +kernel
theorem d_RT_addReturn_74 : decode b_RT_addReturn 74 = .ok (.getfield 25, 3) := by decide +kernel
theorem d_RT_addReturn_77 : decode b_RT_addReturn 77 = .ok (.iload_n 3, 1) := by decide +kernel
theorem d_RT_addReturn_78 : decode b_RT_addReturn 78 = .ok (.dup2, 1) := by decide +kernel
theorem d_RT_addReturn_79 : decode b_RT_addReturn 79 = .ok (.iaload, 1) := by decide +kernel
theorem d_RT_addReturn_80 : decode b_RT_addReturn 80 = .ok (.iconst 1, 1) := by decide +kernel
theorem d_RT_addReturn_81 : decode b_RT_addReturn 81 = .ok (.iadd, 1) := by decide +kernel
theorem d_RT_addReturn_82 : decode b_RT_addReturn 82 = .ok (.iastore, 1) := by decide +kernel
theorem d_RT_addReturn_83 : decode b_RT_addReturn 83 = .ok (.aload_n 0, 1) := by decide +kernel
theorem d_RT_addReturn_84 : decode b_RT_addReturn 84 = .ok (.getfield 19, 3) := by decide +kernel
theorem d_RT_addReturn_87 : decode b_RT_addReturn 87 = .ok (.iload_n 2, 1) := by decide +kernel
theorem d_RT_addReturn_88 : decode b_RT_addReturn 88 = .ok (.iload_n 3, 1) := by decide +kernel
theorem d_RT_addReturn_89 : decode b_RT_addReturn 89 = .ok (.iastore, 1) := by decide +kernel
theorem d_RT_addReturn_90 : decode b_RT_addReturn 90 = .ok (.return_, 1) := by decide +kernel
theorem d_RT_isSameReturn_0 : decode b_RT_isSameReturn 0 = .ok (.aload_n 0, 1) := by decide +kernel
theorem d_RT_isSameReturn_1 : decode b_RT_isSameReturn 1 = .ok (.iload_n 2, 1) := by decide +kernel
theorem d_RT_isSameReturn_2 : decode b_RT_isSameReturn 2 = .ok (.invokevirtual 52, 3) := by decide +kernel
theorem d_RT_isSameReturn_5 : decode b_RT_isSameReturn 5 = .ok (.istore 4, 2) := by decide +kernel
theorem d_RT_isSameReturn_7 : decode b_RT_isSameReturn 7 = .ok (.iload 4, 2) := by decide +kernel
theorem d_RT_isSameReturn_9 : decode b_RT_isSameReturn 9 = .ok (.aload_n 0, 1) := by decide +kernel
theorem d_RT_isSameReturn_10 : decode b_RT_isSameReturn 10 = .ok (.iload_n 3, 1) := by decide +kernel
theorem d_RT_isSameReturn_11 : decode b_RT_isSameReturn 11 = .ok (.invokevirtual 52, 3) := by decide +kernel
theorem d_RT_isSameReturn_14 : decode b_RT_isSameReturn 14 = .ok (.if_icmp .ne 26, 3) := by decide +kernel
theorem d_RT_isSameReturn_17 : decode b_RT_isSameReturn 17 = .ok (.aload_n 1, 1) := by decide +kernel
theorem d_RT_isSameReturn_18 : decode b_RT_isSameReturn 18 = .ok (.aload_n 0, 1) := by decide +kernel
theorem d_RT_isSameReturn_19 : decode b_RT_isSameReturn 19 = .ok (.iload_n 2, 1) := by decide +kernel
theorem d_RT_isSameReturn_20 : decode b_RT_isSameReturn 20 = .ok (.invokevirtual 56, 3) := by decide +kernel
theorem d_RT_isSameReturn_23 : decode b_RT_isSameReturn 23 = .ok (.aload_n 0, 1) := by decide +kernel
theorem d_RT_isSameReturn_24 : decode b_RT_isSameReturn 24 = .ok (.iload_n 3, 1) := by decide +kernel
theorem d_RT_isSameReturn_25 : decode b_RT_isSameReturn 25 = .ok (.invokevirtual 56, 3) := by decide +kernel
theorem d_RT_isSameReturn_28 : decode b_RT_isSameReturn 28 = .ok (.iload 4, 2) := by decide +kernel
theorem d_RT_isSameReturn_30 : decode b_RT_isSameReturn 30 = .ok (.invokevirtual 59, 3) := by decide +kernel
theorem d_RT_isSameReturn_33 : decode b_RT_isSameReturn 33 = .ok (.ifCond .eq 7, 3) := by decide +kernel
theorem d_RT_isSameReturn_36 : decode b_RT_isSameReturn 36 = .ok (.iconst 1, 1) := by decide +kernel
theorem d_RT_isSameReturn_37 : decode b_RT_isSameReturn 37 = .ok (.goto 4, 3) := by decide +kernel
theorem d_RT_isSameReturn_40 : decode b_RT_isSameReturn 40 = .ok (.iconst 0, 1) := by decide +kernel
theorem d_RT_isSameReturn_41 : decode b_RT_isSameReturn 41 = .ok (.ireturn, 1) := by decide +kernel
theorem d_RT_spanOf_0 : decode b_RT_spanOf 0 = .ok (.aload_n 0, 1) := by decide +kernel
theorem d_RT_spanOf_1 : decode b_RT_spanOf 1 = .ok (.iload_n 1, 1) := by decide +kernel
theorem d_RT_spanOf_2 : decode b_RT_spanOf 2 = .ok (.iconst 1, 1) := by decide +kernel
theorem d_RT_spanOf_3 : decode b_RT_spanOf 3 = .ok (.iadd, 1) := by decide +kernel
theorem d_RT_spanOf_4 : decode b_RT_spanOf 4 = .ok (.invokevirtual 56, 3) := by decide +kernel
theorem d_RT_spanOf_7 : decode b_RT_spanOf 7 = .ok (.aload_n 0, 1) := by decide +kernel
theorem d_RT_spanOf_8 : decode b_RT_spanOf 8 = .ok (.iload_n 1, 1) := by decide +kernel
theorem d_RT_spanOf_9 : decode b_RT_spanOf 9 = .ok (.invokevirtual 56, 3) := by decide +kernel
theorem d_RT_spanOf_12 : decode b_RT_spanOf 12 = .ok (.isub, 1) := by decide +kernel
theorem d_RT_spanOf_13 : decode b_RT_spanOf 13 = .ok (.ireturn, 1) := by decide +kernel
theorem d_RT_found_0 : decode b_RT_found 0 = .ok (.aload_n 0, 1) := by decide +kernel
theorem d_RT_found_1 : decode b_RT_found 1 = .ok (.getfield 15, 3) := by decide +kernel
theorem d_RT_found_4 : decode b_RT_found 4 = .ok (.ireturn, 1) := by decide +kernel
theorem d_RT_placeOf_0 : decode b_RT_placeOf 0 = .ok (.iload_n 1, 1) := by decide +kernel
theorem d_RT_placeOf_1 : decode b_RT_placeOf 1 = .ok (.ifCond .lt 20, 3) := by decide +kernel
theorem d_RT_placeOf_4 : decode b_RT_placeOf 4 = .ok (.iload_n 1, 1) := by decide +kernel
theorem d_RT_placeOf_5 : decode b_RT_placeOf 5 = .ok (.aload_n 0, 1) := by decide +kernel
theorem d_RT_placeOf_6 : decode b_RT_placeOf 6 = .ok (.getfield 15, 3) := by decide +kernel
theorem d_RT_placeOf_9 : decode b_RT_placeOf 9 = .ok (.if_icmp .ge 12, 3) := by decide +kernel
theorem d_RT_placeOf_12 : decode b_RT_placeOf 12 = .ok (.aload_n 0, 1) := by decide +kernel
theorem d_RT_placeOf_13 : decode b_RT_placeOf 13 = .ok (.getfield 9, 3) := by decide +kernel
theorem d_RT_placeOf_16 : decode b_RT_placeOf 16 = .ok (.iload_n 1, 1) := by decide +kernel
theorem d_RT_placeOf_17 : decode b_RT_placeOf 17 = .ok (.iaload, 1) := by decide +kernel
theorem d_RT_placeOf_18 : decode b_RT_placeOf 18 = .ok (.goto 4, 3) := by decide +kernel
theorem d_RT_placeOf_21 : decode b_RT_placeOf 21 = .ok (.iconst 0, 1) := by decide +kernel
theorem d_RT_placeOf_22 : decode b_RT_placeOf 22 = .ok (.ireturn, 1) := by decide +kernel
theorem d_RT_rowLength_0 : decode b_RT_rowLength 0 = .ok (.aload_n 0, 1) := by decide +kernel
theorem d_RT_rowLength_1 : decode b_RT_rowLength 1 = .ok (.getfield 15, 3) := by decide +kernel
theorem d_RT_rowLength_4 : decode b_RT_rowLength 4 = .ok (.iconst 1, 1) := by decide +kernel
theorem d_RT_rowLength_5 : decode b_RT_rowLength 5 = .ok (.isub, 1) := by decide +kernel
theorem d_RT_rowLength_6 : decode b_RT_rowLength 6 = .ok (.iconst 0, 1) := by decide +kernel
theorem d_RT_rowLength_7 : decode b_RT_rowLength 7 = .ok (.invokestatic 63, 3) := by decide +kernel
theorem d_RT_rowLength_10 : decode b_RT_rowLength 10 = .ok (.ireturn, 1) := by decide +kernel
theorem d_RT_numberAt_0 : decode b_RT_numberAt 0 = .ok (.iload_n 1, 1) := by decide +kernel
theorem d_RT_numberAt_1 : decode b_RT_numberAt 1 = .ok (.ifCond .lt 20, 3) := by decide +kernel
theorem d_RT_numberAt_4 : decode b_RT_numberAt 4 = .ok (.iload_n 1, 1) := by decide +kernel
theorem d_RT_numberAt_5 : decode b_RT_numberAt 5 = .ok (.aload_n 0, 1) := by decide +kernel
theorem d_RT_numberAt_6 : decode b_RT_numberAt 6 = .ok (.invokevirtual 41, 3) := by decide +kernel
theorem d_RT_numberAt_9 : decode b_RT_numberAt 9 = .ok (.if_icmp .ge 12, 3) := by decide +kernel
theorem d_RT_numberAt_12 : decode b_RT_numberAt 12 = .ok (.aload_n 0, 1) := by decide +kernel
theorem d_RT_numberAt_13 : decode b_RT_numberAt 13 = .ok (.getfield 19, 3) := by decide +kernel
theorem d_RT_numberAt_16 : decode b_RT_numberAt 16 = .ok (.iload_n 1, 1) := by decide +kernel
theorem d_RT_numberAt_17 : decode b_RT_numberAt 17 = .ok (.iaload, 1) := by decide +kernel
theorem d_RT_numberAt_18 : decode b_RT_numberAt 18 = .ok (.goto 4, 3) := by decide +kernel
theorem d_RT_numberAt_21 : decode b_RT_numberAt 21 = .ok (.iconst 0, 1) := by decide +kernel
theorem d_RT_numberAt_22 : decode b_RT_numberAt 22 = .ok (.ireturn, 1) := by decide +kernel
theorem d_RT_different_0 : decode b_RT_different 0 = .ok (.aload_n 0, 1) := by decide +kernel
theorem d_RT_different_1 : decode b_RT_different 1 = .ok (.getfield 28, 3) := by decide +kernel
theorem d_RT_different_4 : decode b_RT_different 4 = .ok (.ireturn, 1) := by decide +kernel
theorem d_RT_lengthOf_0 : decode b_RT_lengthOf 0 = .ok (.aload_n 0, 1) := by decide +kernel
theorem d_RT_lengthOf_1 : decode b_RT_lengthOf 1 = .ok (.iload_n 1, 1) := by decide +kernel
theorem d_RT_lengthOf_2 : decode b_RT_lengthOf 2 = .ok (.invokevirtual 69, 3) := by decide +kernel
theorem d_RT_lengthOf_5 : decode b_RT_lengthOf 5 = .ok (.ifCond .eq 16, 3) := by decide +kernel
theorem d_RT_lengthOf_8 : decode b_RT_lengthOf 8 = .ok (.aload_n 0, 1) := by decide +kernel
theorem d_RT_lengthOf_9 : decode b_RT_lengthOf 9 = .ok (.aload_n 0, 1) := by decide +kernel
theorem d_RT_lengthOf_10 : decode b_RT_lengthOf 10 = .ok (.getfield 22, 3) := by decide +kernel
theorem d_RT_lengthOf_13 : decode b_RT_lengthOf 13 = .ok (.iload_n 1, 1) := by decide +kernel
theorem d_RT_lengthOf_14 : decode b_RT_lengthOf 14 = .ok (.iaload, 1) := by decide +kernel
theorem d_RT_lengthOf_15 : decode b_RT_lengthOf 15 = .ok (.invokevirtual 52, 3) := by decide +kernel
theorem d_RT_lengthOf_18 : decode b_RT_lengthOf 18 = .ok (.goto 4, 3) := by decide +kernel
theorem d_RT_lengthOf_21 : decode b_RT_lengthOf 21 = .ok (.iconst 0, 1) := by decide +kernel
theorem d_RT_lengthOf_22 : decode b_RT_lengthOf 22 = .ok (.ireturn, 1) := by decide +kernel
theorem d_RT_firstPlaceOf_0 : decode b_RT_firstPlaceOf 0 = .ok (.aload_n 0, 1) := by decide +kernel
theorem d_RT_firstPlaceOf_1 : decode b_RT_firstPlaceOf 1 = .ok (.iload_n 1, 1) := by decide +kernel
theorem d_RT_firstPlaceOf_2 : decode b_RT_firstPlaceOf 2 = .ok (.invokevirtual 69, 3) := by decide +kernel
theorem d_RT_firstPlaceOf_5 : decode b_RT_firstPlaceOf 5 = .ok (.ifCond .eq 16, 3) := by decide +kernel
theorem d_RT_firstPlaceOf_8 : decode b_RT_firstPlaceOf 8 = .ok (.aload_n 0, 1) := by decide +kernel
theorem d_RT_firstPlaceOf_9 : decode b_RT_firstPlaceOf 9 = .ok (.aload_n 0, 1) := by decide +kernel
theorem d_RT_firstPlaceOf_10 : decode b_RT_firstPlaceOf 10 = .ok (.getfield 22, 3) := by decide +kernel
theorem d_RT_firstPlaceOf_13 : decode b_RT_firstPlaceOf 13 = .ok (.iload_n 1, 1) := by decide +kernel
theorem d_RT_firstPlaceOf_14 : decode b_RT_firstPlaceOf 14 = .ok (.iaload, 1) := by decide +kernel
theorem d_RT_firstPlaceOf_15 : decode b_RT_firstPlaceOf 15 = .ok (.invokevirtual 56, 3) := by decide +kernel
theorem d_RT_firstPlaceOf_18 : decode b_RT_firstPlaceOf 18 = .ok (.goto 4, 3) := by decide +kernel
theorem d_RT_firstPlaceOf_21 : decode b_RT_firstPlaceOf 21 = .ok (.iconst 0, 1) := by decide +kernel
theorem d_RT_firstPlaceOf_22 : decode b_RT_firstPlaceOf 22 = .ok (.ireturn, 1) := by decide +kernel
theorem d_RT_timesOf_0 : decode b_RT_timesOf 0 = .ok (.aload_n 0, 1) := by decide +kernel
theorem d_RT_timesOf_1 : decode b_RT_timesOf 1 = .ok (.iload_n 1, 1) := by decide +kernel
theorem d_RT_timesOf_2 : decode b_RT_timesOf 2 = .ok (.invokevirtual 69, 3) := by decide +kernel
theorem d_RT_timesOf_5 : decode b_RT_timesOf 5 = .ok (.ifCond .eq 12, 3) := by decide +kernel
theorem d_RT_timesOf_8 : decode b_RT_timesOf 8 = .ok (.aload_n 0, 1) := by decide +kernel
theorem d_RT_timesOf_9 : decode b_RT_timesOf 9 = .ok (.getfield 25, 3) := by decide +kernel
theorem d_RT_timesOf_12 : decode b_RT_timesOf 12 = .ok (.iload_n 1, 1) := by decide +kernel
theorem d_RT_timesOf_13 : decode b_RT_timesOf 13 = .ok (.iaload, 1) := by decide +kernel
theorem d_RT_timesOf_14 : decode b_RT_timesOf 14 = .ok (.goto 4, 3) := by decide +kernel
theorem d_RT_timesOf_17 : decode b_RT_timesOf 17 = .ok (.iconst 0, 1) := by decide +kernel
theorem d_RT_timesOf_18 : decode b_RT_timesOf 18 = .ok (.ireturn, 1) := by decide +kernel
theorem d_RT_isReturn_0 : decode b_RT_isReturn 0 = .ok (.iload_n 1, 1) := by decide +kernel
theorem d_RT_isReturn_1 : decode b_RT_isReturn 1 = .ok (.ifCond .lt 15, 3) := by decide +kernel
theorem d_RT_isReturn_4 : decode b_RT_isReturn 4 = .ok (.iload_n 1, 1) := by decide +kernel
theorem d_RT_isReturn_5 : decode b_RT_isReturn 5 = .ok (.aload_n 0, 1) := by decide +kernel
theorem d_RT_isReturn_6 : decode b_RT_isReturn 6 = .ok (.getfield 28, 3) := by decide +kernel
theorem d_RT_isReturn_9 : decode b_RT_isReturn 9 = .ok (.if_icmp .ge 7, 3) := by decide +kernel
theorem d_RT_isReturn_12 : decode b_RT_isReturn 12 = .ok (.iconst 1, 1) := by decide +kernel
theorem d_RT_isReturn_13 : decode b_RT_isReturn 13 = .ok (.goto 4, 3) := by decide +kernel
theorem d_RT_isReturn_16 : decode b_RT_isReturn 16 = .ok (.iconst 0, 1) := by decide +kernel
theorem d_RT_isReturn_17 : decode b_RT_isReturn 17 = .ok (.ireturn, 1) := by decide +kernel
theorem d_RU_init_0 : decode b_RU_init 0 = .ok (.aload_n 0, 1) := by decide +kernel
theorem d_RU_init_1 : decode b_RU_init 1 = .ok (.invokespecial 3, 3) := by decide +kernel
theorem d_RU_init_4 : decode b_RU_init 4 = .ok (.aload_n 0, 1) := by decide +kernel
theorem d_RU_init_5 : decode b_RU_init 5 = .ok (.iconst 4, 1) := by decide +kernel
theorem d_RU_init_6 : decode b_RU_init 6 = .ok (.anewarray 9, 3) := by decide +kernel
theorem d_RU_init_9 : decode b_RU_init 9 = .ok (.putfield 11, 3) := by decide +kernel
theorem d_RU_init_12 : decode b_RU_init 12 = .ok (.aload_n 0, 1) := by decide +kernel
theorem d_RU_init_13 : decode b_RU_init 13 = .ok (.new 9, 3) := by decide +kernel
theorem d_RU_init_16 : decode b_RU_init 16 = .ok (.dup, 1) := by decide +kernel
theorem d_RU_init_17 : decode b_RU_init 17 = .ok (.iconst 0, 1) := by decide +kernel
theorem d_RU_init_18 : decode b_RU_init 18 = .ok (.invokespecial 17, 3) := by decide +kernel
theorem d_RU_init_21 : decode b_RU_init 21 = .ok (.putfield 20, 3) := by decide +kernel
theorem d_RU_init_24 : decode b_RU_init 24 = .ok (.iconst 0, 1) := by decide +kernel
theorem d_RU_init_25 : decode b_RU_init 25 = .ok (.istore_n 1, 1) := by decide +kernel
theorem d_RU_init_26 : decode b_RU_init 26 = .ok (.iload_n 1, 1) := by decide +kernel
theorem d_RU_init_27 : decode b_RU_init 27 = .ok (.iconst 4, 1) := by decide +kernel
theorem d_RU_init_28 : decode b_RU_init 28 = .ok (.if_icmp .ge 32, 3) := by decide +kernel
theorem d_RU_init_31 : decode b_RU_init 31 = .ok (.new 9, 3) := by decide +kernel
theorem d_RU_init_34 : decode b_RU_init 34 = .ok (.dup, 1) := by decide +kernel
theorem d_RU_init_35 : decode b_RU_init 35 = .ok (.bipush 8, 2) := by decide +kernel
theorem d_RU_init_37 : decode b_RU_init 37 = .ok (.invokespecial 17, 3) := by decide +kernel
theorem d_RU_init_40 : decode b_RU_init 40 = .ok (.astore_n 2, 1) := by decide +kernel
theorem d_RU_init_41 : decode b_RU_init 41 = .ok (.aload_n 2, 1) := by decide +kernel
theorem d_RU_init_42 : decode b_RU_init 42 = .ok (.iload_n 1, 1) := by decide +kernel
theorem d_RU_init_43 : decode b_RU_init 43 = .ok (.invokevirtual 24, 3) := by decide +kernel
theorem d_RU_init_46 : decode b_RU_init 46 = .ok (.pop, 1) := by decide +kernel
theorem d_RU_init_47 : decode b_RU_init 47 = .ok (.aload_n 0, 1) := by decide +kernel
theorem d_RU_init_48 : decode b_RU_init 48 = .ok (.getfield 11, 3) := by decide +kernel
theorem d_RU_init_51 : decode b_RU_init 51 = .ok (.iload_n 1, 1) := by decide +kernel
theorem d_RU_init_52 : decode b_RU_init 52 = .ok (.aload_n 2, 1) := by decide +kernel
theorem d_RU_init_53 : decode b_RU_init 53 = .ok (.aastore, 1) := by decide +kernel
theorem d_RU_init_54 : decode b_RU_init 54 = .ok (.iinc 1 1, 3) := by decide +kernel
theorem d_RU_init_57 : decode b_RU_init 57 = .ok (.goto (-31), 3) := by decide +kernel
theorem d_RU_init_60 : decode b_RU_init 60 = .ok (.return_, 1) := by decide +kernel
theorem d_RU_imageOf_0 : decode b_RU_imageOf 0 = .ok (.iload_n 1, 1) := by decide +kernel
theorem d_RU_imageOf_1 : decode b_RU_imageOf 1 = .ok (.invokestatic 28, 3) := by decide +kernel
theorem d_RU_imageOf_4 : decode b_RU_imageOf 4 = .ok (.ifCond .eq 12, 3) := by decide +kernel
theorem d_RU_imageOf_7 : decode b_RU_imageOf 7 = .ok (.aload_n 0, 1) := by decide +kernel
theorem d_RU_imageOf_8 : decode b_RU_imageOf 8 = .ok (.getfield 11, 3) := by decide +kernel
theorem d_RU_imageOf_11 : decode b_RU_imageOf 11 = .ok (.iload_n 1, 1) := by decide +kernel
theorem d_RU_imageOf_12 : decode b_RU_imageOf 12 = .ok (.aaload, 1) := by decide +kernel
theorem d_RU_imageOf_13 : decode b_RU_imageOf 13 = .ok (.goto 7, 3) := by decide +kernel
theorem d_RU_imageOf_16 : decode b_RU_imageOf 16 = .ok (.aload_n 0, 1) := by decide +kernel
theorem d_RU_imageOf_17 : decode b_RU_imageOf 17 = .ok (.getfield 20, 3) := by decide +kernel
theorem d_RU_imageOf_20 : decode b_RU_imageOf 20 = .ok (.areturn, 1) := by decide +kernel
theorem d_RU_become_0 : decode b_RU_become 0 = .ok (.iconst 0, 1) := by decide +kernel
theorem d_RU_become_1 : decode b_RU_become 1 = .ok (.istore_n 2, 1) := by decide +kernel
theorem d_RU_become_2 : decode b_RU_become 2 = .ok (.iload_n 2, 1) := by decide +kernel
theorem d_RU_become_3 : decode b_RU_become 3 = .ok (.iconst 4, 1) := by decide +kernel
theorem d_RU_become_4 : decode b_RU_become 4 = .ok (.if_icmp .ge 22, 3) := by decide +kernel
theorem d_RU_become_7 : decode b_RU_become 7 = .ok (.aload_n 0, 1) := by decide +kernel
theorem d_RU_become_8 : decode b_RU_become 8 = .ok (.iload_n 2, 1) := by decide +kernel
theorem d_RU_become_9 : decode b_RU_become 9 = .ok (.invokevirtual 31, 3) := by decide +kernel
theorem d_RU_become_12 : decode b_RU_become 12 = .ok (.aload_n 1, 1) := by decide +kernel
theorem d_RU_become_13 : decode b_RU_become 13 = .ok (.iload_n 2, 1) := by decide +kernel
theorem d_RU_become_14 : decode b_RU_become 14 = .ok (.invokevirtual 31, 3) := by decide +kernel
theorem d_RU_become_17 : decode b_RU_become 17 = .ok (.invokevirtual 35, 3) := by decide +kernel
theorem d_RU_become_20 : decode b_RU_become 20 = .ok (.iinc 2 1, 3) := by decide +kernel
theorem d_RU_become_23 : decode b_RU_become 23 = .ok (.goto (-21), 3) := by decide +kernel
theorem d_RU_become_26 : decode b_RU_become 26 = .ok (.return_, 1) := by decide +kernel
theorem d_RU_same_0 : decode b_RU_same 0 = .ok (.iconst 0, 1) := by decide +kernel
theorem d_RU_same_1 : decode b_RU_same 1 = .ok (.istore_n 2, 1) := by decide +kernel
theorem d_RU_same_2 : decode b_RU_same 2 = .ok (.iload_n 2, 1) := by decide +kernel
theorem d_RU_same_3 : decode b_RU_same 3 = .ok (.iconst 4, 1) := by decide +kernel
theorem d_RU_same_4 : decode b_RU_same 4 = .ok (.if_icmp .ge 27, 3) := by decide +kernel
theorem d_RU_same_7 : decode b_RU_same 7 = .ok (.aload_n 0, 1) := by decide +kernel
theorem d_RU_same_8 : decode b_RU_same 8 = .ok (.iload_n 2, 1) := by decide +kernel
theorem d_RU_same_9 : decode b_RU_same 9 = .ok (.invokevirtual 31, 3) := by decide +kernel
theorem d_RU_same_12 : decode b_RU_same 12 = .ok (.aload_n 1, 1) := by decide +kernel
theorem d_RU_same_13 : decode b_RU_same 13 = .ok (.iload_n 2, 1) := by decide +kernel
theorem d_RU_same_14 : decode b_RU_same 14 = .ok (.invokevirtual 31, 3) := by decide +kernel
theorem d_RU_same_17 : decode b_RU_same 17 = .ok (.invokevirtual 39, 3) := by decide +kernel
theorem d_RU_same_20 : decode b_RU_same 20 = .ok (.ifCond .ne 5, 3) := by decide +kernel
theorem d_RU_same_23 : decode b_RU_same 23 = .ok (.iconst 0, 1) := by decide +kernel
theorem d_RU_same_24 : decode b_RU_same 24 = .ok (.ireturn, 1) := by decide +kernel
theorem d_RU_same_25 : decode b_RU_same 25 = .ok (.iinc 2 1, 3) := by decide +kernel
theorem d_RU_same_28 : decode b_RU_same 28 = .ok (.goto (-26), 3) := by decide +kernel
theorem d_RU_same_31 : decode b_RU_same 31 = .ok (.iconst 1, 1) := by decide +kernel
theorem d_RU_same_32 : decode b_RU_same 32 = .ok (.ireturn, 1) := by decide +kernel
theorem d_RU_total_0 : decode b_RU_total 0 = .ok (.iconst 0, 1) := by decide +kernel
theorem d_RU_total_1 : decode b_RU_total 1 = .ok (.istore_n 1, 1) := by decide +kernel
theorem d_RU_total_2 : decode b_RU_total 2 = .ok (.iconst 0, 1) := by decide +kernel
theorem d_RU_total_3 : decode b_RU_total 3 = .ok (.istore_n 2, 1) := by decide +kernel
theorem d_RU_total_4 : decode b_RU_total 4 = .ok (.iload_n 2, 1) := by decide +kernel
theorem d_RU_total_5 : decode b_RU_total 5 = .ok (.iconst 4, 1) := by decide +kernel
theorem d_RU_total_6 : decode b_RU_total 6 = .ok (.if_icmp .ge 20, 3) := by decide +kernel
theorem d_RU_total_9 : decode b_RU_total 9 = .ok (.iload_n 1, 1) := by decide +kernel
theorem d_RU_total_10 : decode b_RU_total 10 = .ok (.aload_n 0, 1) := by decide +kernel
theorem d_RU_total_11 : decode b_RU_total 11 = .ok (.iload_n 2, 1) := by decide +kernel
theorem d_RU_total_12 : decode b_RU_total 12 = .ok (.invokevirtual 31, 3) := by decide +kernel
theorem d_RU_total_15 : decode b_RU_total 15 = .ok (.invokevirtual 43, 3) := by decide +kernel
theorem d_RU_total_18 : decode b_RU_total 18 = .ok (.iadd, 1) := by decide +kernel
theorem d_RU_total_19 : decode b_RU_total 19 = .ok (.istore_n 1, 1) := by decide +kernel
theorem d_RU_total_20 : decode b_RU_total 20 = .ok (.iinc 2 1, 3) := by decide +kernel
theorem d_RU_total_23 : decode b_RU_total 23 = .ok (.goto (-19), 3) := by decide +kernel
theorem d_RU_total_26 : decode b_RU_total 26 = .ok (.iload_n 1, 1) := by decide +kernel
theorem d_RU_total_27 : decode b_RU_total 27 = .ok (.ireturn, 1) := by decide +kernel
theorem d_RU_addImage_0 : decode b_RU_addImage 0 = .ok (.iconst 0, 1) := by decide +kernel
theorem d_RU_addImage_1 : decode b_RU_addImage 1 = .ok (.istore_n 3, 1) := by decide +kernel
theorem d_RU_addImage_2 : decode b_RU_addImage 2 = .ok (.iload_n 3, 1) := by decide +kernel
theorem d_RU_addImage_3 : decode b_RU_addImage 3 = .ok (.aload_n 1, 1) := by decide +kernel
theorem d_RU_addImage_4 : decode b_RU_addImage 4 = .ok (.invokevirtual 43, 3) := by decide +kernel
theorem d_RU_addImage_7 : decode b_RU_addImage 7 = .ok (.if_icmp .ge 27, 3) := by decide +kernel
theorem d_RU_addImage_10 : decode b_RU_addImage 10 = .ok (.aload_n 2, 1) := by decide +kernel
theorem d_RU_addImage_11 : decode b_RU_addImage 11 = .ok (.aload_n 0, 1) := by decide +kernel
theorem d_RU_addImage_12 : decode b_RU_addImage 12 = .ok (.aload_n 1, 1) := by decide +kernel
theorem d_RU_addImage_13 : decode b_RU_addImage 13 = .ok (.iload_n 3, 1) := by decide +kernel
theorem d_RU_addImage_14 : decode b_RU_addImage 14 = .ok (.invokevirtual 47, 3) := by decide +kernel
theorem d_RU_addImage_17 : decode b_RU_addImage 17 = .ok (.invokevirtual 31, 3) := by decide +kernel
theorem d_RU_addImage_20 : decode b_RU_addImage 20 = .ok (.invokevirtual 51, 3) := by decide +kernel
theorem d_RU_addImage_23 : decode b_RU_addImage 23 = .ok (.ifCond .ne 5, 3) := by decide +kernel
theorem d_RU_addImage_26 : decode b_RU_addImage 26 = .ok (.iconst 0, 1) := by decide +kernel
theorem d_RU_addImage_27 : decode b_RU_addImage 27 = .ok (.ireturn, 1) := by decide +kernel
theorem d_RU_addImage_28 : decode b_RU_addImage 28 = .ok (.iinc 3 1, 3) := by decide +kernel
theorem d_RU_addImage_31 : decode b_RU_addImage 31 = .ok (.goto (-29), 3) := by decide +kernel
theorem d_RU_addImage_34 : decode b_RU_addImage 34 = .ok (.iconst 1, 1) := by decide +kernel
theorem d_RU_addImage_35 : decode b_RU_addImage 35 = .ok (.ireturn, 1) := by decide +kernel
theorem d_RU_becomeSquareOf_0 : decode b_RU_becomeSquareOf 0 = .ok (.iconst 0, 1) := by decide +kernel
theorem d_RU_becomeSquareOf_1 : decode b_RU_becomeSquareOf 1 = .ok (.istore_n 2, 1) := by decide +kernel
theorem d_RU_becomeSquareOf_2 : decode b_RU_becomeSquareOf 2 = .ok (.iload_n 2, 1) := by decide +kernel
theorem d_RU_becomeSquareOf_3 : decode b_RU_becomeSquareOf 3 = .ok (.iconst 4, 1) := by decide +kernel
theorem d_RU_becomeSquareOf_4 : decode b_RU_becomeSquareOf 4 = .ok (.if_icmp .ge 34, 3) := by decide +kernel
theorem d_RU_becomeSquareOf_7 : decode b_RU_becomeSquareOf 7 = .ok (.aload_n 0, 1) := by decide +kernel
theorem d_RU_becomeSquareOf_8 : decode b_RU_becomeSquareOf 8 = .ok (.iload_n 2, 1) := by decide +kernel
theorem d_RU_becomeSquareOf_9 : decode b_RU_becomeSquareOf 9 = .ok (.invokevirtual 31, 3) := by decide +kernel
theorem d_RU_becomeSquareOf_12 : decode b_RU_becomeSquareOf 12 = .ok (.astore_n 3, 1) := by decide +kernel
theorem d_RU_becomeSquareOf_13 : decode b_RU_becomeSquareOf 13 = .ok (.aload_n 3, 1) := by decide +kernel
theorem d_RU_becomeSquareOf_14 : decode b_RU_becomeSquareOf 14 = .ok (.invokevirtual 54, 3) := by decide +kernel
theorem d_RU_becomeSquareOf_17 : decode b_RU_becomeSquareOf 17 = .ok (.aload_n 1, 1) := by decide +kernel
theorem d_RU_becomeSquareOf_18 : decode b_RU_becomeSquareOf 18 = .ok (.aload_n 1, 1) := by decide +kernel
theorem d_RU_becomeSquareOf_19 : decode b_RU_becomeSquareOf 19 = .ok (.iload_n 2, 1) := by decide +kernel
theorem d_RU_becomeSquareOf_20 : decode b_RU_becomeSquareOf 20 = .ok (.invokevirtual 31, 3) := by decide +kernel
theorem d_RU_becomeSquareOf_23 : decode b_RU_becomeSquareOf 23 = .ok (.aload_n 3, 1) := by decide +kernel
theorem d_RU_becomeSquareOf_24 : decode b_RU_becomeSquareOf 24 = .ok (.invokevirtual 57, 3) := by decide +kernel
theorem d_RU_becomeSquareOf_27 : decode b_RU_becomeSquareOf 27 = .ok (.ifCond .ne 5, 3) := by decide +kernel
theorem d_RU_becomeSquareOf_30 : decode b_RU_becomeSquareOf 30 = .ok (.iconst 0, 1) := by decide +kernel
theorem d_RU_becomeSquareOf_31 : decode b_RU_becomeSquareOf 31 = .ok (.ireturn, 1) := by decide +kernel
theorem d_RU_becomeSquareOf_32 : decode b_RU_becomeSquareOf 32 = .ok (.iinc 2 1, 3) := by decide +kernel
theorem d_RU_becomeSquareOf_35 : decode b_RU_becomeSquareOf 35 = .ok (.goto (-33), 3) := by decide +kernel
theorem d_RU_becomeSquareOf_38 : decode b_RU_becomeSquareOf 38 = .ok (.iconst 1, 1) := by decide +kernel
theorem d_RU_becomeSquareOf_39 : decode b_RU_becomeSquareOf 39 = .ok (.ireturn, 1) := by decide +kernel
theorem d_RU_commonEnd_0 : decode b_RU_commonEnd 0 = .ok (.aload_n 0, 1) := by decide +kernel
theorem d_RU_commonEnd_1 : decode b_RU_commonEnd 1 = .ok (.iconst 0, 1) := by decide +kernel
theorem d_RU_commonEnd_2 : decode b_RU_commonEnd 2 = .ok (.iload_n 1, 1) := by decide +kernel
theorem d_RU_commonEnd_3 : decode b_RU_commonEnd 3 = .ok (.invokevirtual 61, 3) := by decide +kernel
theorem d_RU_commonEnd_6 : decode b_RU_commonEnd 6 = .ok (.istore_n 2, 1) := by decide +kernel
theorem d_RU_commonEnd_7 : decode b_RU_commonEnd 7 = .ok (.iconst 1, 1) := by decide +kernel
theorem d_RU_commonEnd_8 : decode b_RU_commonEnd 8 = .ok (.istore_n 3, 1) := by decide +kernel
theorem d_RU_commonEnd_9 : decode b_RU_commonEnd 9 = .ok (.iload_n 3, 1) := by decide +kernel
theorem d_RU_commonEnd_10 : decode b_RU_commonEnd 10 = .ok (.iconst 4, 1) := by decide +kernel
theorem d_RU_commonEnd_11 : decode b_RU_commonEnd 11 = .ok (.if_icmp .ge 21, 3) := by decide +kernel
theorem d_RU_commonEnd_14 : decode b_RU_commonEnd 14 = .ok (.aload_n 0, 1) := by decide +kernel
theorem d_RU_commonEnd_15 : decode b_RU_commonEnd 15 = .ok (.iload_n 3, 1) := by decide +kernel
theorem d_RU_commonEnd_16 : decode b_RU_commonEnd 16 = .ok (.iload_n 1, 1) := by decide +kernel
theorem d_RU_commonEnd_17 : decode b_RU_commonEnd 17 = .ok (.invokevirtual 61, 3) := by decide +kernel
theorem d_RU_commonEnd_20 : decode b_RU_commonEnd 20 = .ok (.iload_n 2, 1) := by decide +kernel
theorem d_RU_commonEnd_21 : decode b_RU_commonEnd 21 = .ok (.if_icmp .eq 5, 3) := by decide +kernel
theorem d_RU_commonEnd_24 : decode b_RU_commonEnd 24 = .ok (.iconst (-1), 1) := by decide +kernel
theorem d_RU_commonEnd_25 : decode b_RU_commonEnd 25 = .ok (.ireturn, 1) := by decide +kernel
theorem d_RU_commonEnd_26 : decode b_RU_commonEnd 26 = .ok (.iinc 3 1, 3) := by decide +kernel
theorem d_RU_commonEnd_29 : decode b_RU_commonEnd 29 = .ok (.goto (-20), 3) := by decide +kernel
theorem d_RU_commonEnd_32 : decode b_RU_commonEnd 32 = .ok (.iload_n 2, 1) := by decide +kernel
theorem d_RU_commonEnd_33 : decode b_RU_commonEnd 33 = .ok (.ireturn, 1) := by decide +kernel
theorem d_RU_endOf_0 : decode b_RU_endOf 0 = .ok (.aload_n 0, 1) := by decide +kernel
theorem d_RU_endOf_1 : decode b_RU_endOf 1 = .ok (.iload_n 1, 1) := by decide +kernel
theorem d_RU_endOf_2 : decode b_RU_endOf 2 = .ok (.invokevirtual 31, 3) := by decide +kernel
theorem d_RU_endOf_5 : decode b_RU_endOf 5 = .ok (.astore_n 3, 1) := by decide +kernel
theorem d_RU_endOf_6 : decode b_RU_endOf 6 = .ok (.aload_n 3, 1) := by decide +kernel
theorem d_RU_endOf_7 : decode b_RU_endOf 7 = .ok (.iload_n 2, 1) := by decide +kernel
theorem d_RU_endOf_8 : decode b_RU_endOf 8 = .ok (.ifCond .eq 12, 3) := by decide +kernel
theorem d_RU_endOf_11 : decode b_RU_endOf 11 = .ok (.aload_n 3, 1) := by decide +kernel
theorem d_RU_endOf_12 : decode b_RU_endOf 12 = .ok (.invokevirtual 43, 3) := by decide +kernel
theorem d_RU_endOf_15 : decode b_RU_endOf 15 = .ok (.iconst 1, 1) := by decide +kernel
theorem d_RU_endOf_16 : decode b_RU_endOf 16 = .ok (.isub, 1) := by decide +kernel
theorem d_RU_endOf_17 : decode b_RU_endOf 17 = .ok (.goto 4, 3) := by decide +kernel
theorem d_RU_endOf_20 : decode b_RU_endOf 20 = .ok (.iconst 0, 1) := by decide +kernel
theorem d_RU_endOf_21 : decode b_RU_endOf 21 = .ok (.invokevirtual 47, 3) := by decide +kernel
theorem d_RU_endOf_24 : decode b_RU_endOf 24 = .ok (.ireturn, 1) := by decide +kernel
theorem d_RU_rotate_0 : decode b_RU_rotate 0 = .ok (.iconst 0, 1) := by decide +kernel
theorem d_RU_rotate_1 : decode b_RU_rotate 1 = .ok (.istore_n 2, 1) := by decide +kernel
theorem d_RU_rotate_2 : decode b_RU_rotate 2 = .ok (.iload_n 2, 1) := by decide +kernel
theorem d_RU_rotate_3 : decode b_RU_rotate 3 = .ok (.iconst 4, 1) := by decide +kernel
theorem d_RU_rotate_4 : decode b_RU_rotate 4 = .ok (.if_icmp .ge 18, 3) := by decide +kernel
theorem d_RU_rotate_7 : decode b_RU_rotate 7 = .ok (.aload_n 0, 1) := by decide +kernel
theorem d_RU_rotate_8 : decode b_RU_rotate 8 = .ok (.iload_n 2, 1) := by decide +kernel
theorem d_RU_rotate_9 : decode b_RU_rotate 9 = .ok (.invokevirtual 31, 3) := by decide +kernel
theorem d_RU_rotate_12 : decode b_RU_rotate 12 = .ok (.iload_n 1, 1) := by decide +kernel
theorem d_RU_rotate_13 : decode b_RU_rotate 13 = .ok (.invokevirtual 65, 3) := by decide +kernel
theorem d_RU_rotate_16 : decode b_RU_rotate 16 = .ok (.iinc 2 1, 3) := by decide +kernel
theorem d_RU_rotate_19 : decode b_RU_rotate 19 = .ok (.goto (-17), 3) := by decide +kernel
theorem d_RU_rotate_22 : decode b_RU_rotate 22 = .ok (.return_, 1) := by decide +kernel
theorem d_RU_exchange_0 : decode b_RU_exchange 0 = .ok (.iload_n 1, 1) := by decide +kernel
theorem d_RU_exchange_1 : decode b_RU_exchange 1 = .ok (.invokestatic 28, 3) := by decide +kernel
theorem d_RU_exchange_4 : decode b_RU_exchange 4 = .ok (.ifCond .eq 10, 3) := by decide +kernel
theorem d_RU_exchange_7 : decode b_RU_exchange 7 = .ok (.iload_n 2, 1) := by decide +kernel
theorem d_RU_exchange_8 : decode b_RU_exchange 8 = .ok (.invokestatic 28, 3) := by decide +kernel
theorem d_RU_exchange_11 : decode b_RU_exchange 11 = .ok (.ifCond .ne 4, 3) := by decide +kernel
theorem d_RU_exchange_14 : decode b_RU_exchange 14 = .ok (.return_, 1) := by decide +kernel
theorem d_RU_exchange_15 : decode b_RU_exchange 15 = .ok (.iconst 0, 1) := by decide +kernel
theorem d_RU_exchange_16 : decode b_RU_exchange 16 = .ok (.istore_n 3, 1) := by decide +kernel
theorem d_RU_exchange_17 : decode b_RU_exchange 17 = .ok (.iload_n 3, 1) := by decide +kernel
theorem d_RU_exchange_18 : decode b_RU_exchange 18 = .ok (.iconst 4, 1) := by decide +kernel
theorem d_RU_exchange_19 : decode b_RU_exchange 19 = .ok (.if_icmp .ge 19, 3) := by decide +kernel
theorem d_RU_exchange_22 : decode b_RU_exchange 22 = .ok (.aload_n 0, 1) := by decide +kernel
theorem d_RU_exchange_23 : decode b_RU_exchange 23 = .ok (.iload_n 3, 1) := by decide +kernel
theorem d_RU_exchange_24 : decode b_RU_exchange 24 = .ok (.invokevirtual 31, 3) := by decide +kernel
theorem d_RU_exchange_27 : decode b_RU_exchange 27 = .ok (.iload_n 1, 1) := by decide +kernel
theorem d_RU_exchange_28 : decode b_RU_exchange 28 = .ok (.iload_n 2, 1) := by decide +kernel
theorem d_RU_exchange_29 : decode b_RU_exchange 29 = .ok (.invokevirtual 69, 3) := by decide +kernel
theorem d_RU_exchange_32 : decode b_RU_exchange 32 = .ok (.iinc 3 1, 3) := by decide +kernel
theorem d_RU_exchange_35 : decode b_RU_exchange 35 = .ok (.goto (-18), 3) := by decide +kernel
theorem d_RU_exchange_38 : decode b_RU_exchange 38 = .ok (.aload_n 0, 1) := by decide +kernel
theorem d_RU_exchange_39 : decode b_RU_exchange 39 = .ok (.getfield 11, 3) := by decide +kernel
theorem d_RU_exchange_42 : decode b_RU_exchange 42 = .ok (.iload_n 1, 1) := by decide +kernel
theorem d_RU_exchange_43 : decode b_RU_exchange 43 = .ok (.aaload, 1) := by decide +kernel
theorem d_RU_exchange_44 : decode b_RU_exchange 44 = .ok (.astore_n 3, 1) := by decide +kernel
theorem d_RU_exchange_45 : decode b_RU_exchange 45 = .ok (.aload_n 0, 1) := by decide +kernel
theorem d_RU_exchange_46 : decode b_RU_exchange 46 = .ok (.getfield 11, 3) := by decide +kernel
theorem d_RU_exchange_49 : decode b_RU_exchange 49 = .ok (.iload_n 1, 1) := by decide +kernel
theorem d_RU_exchange_50 : decode b_RU_exchange 50 = .ok (.aload_n 0, 1) := by decide +kernel
theorem d_RU_exchange_51 : decode b_RU_exchange 51 = .ok (.getfield 11, 3) := by decide +kernel
theorem d_RU_exchange_54 : decode b_RU_exchange 54 = .ok (.iload_n 2, 1) := by decide +kernel
theorem d_RU_exchange_55 : decode b_RU_exchange 55 = .ok (.aaload, 1) := by decide +kernel
theorem d_RU_exchange_56 : decode b_RU_exchange 56 = .ok (.aastore, 1) := by decide +kernel
theorem d_RU_exchange_57 : decode b_RU_exchange 57 = .ok (.aload_n 0, 1) := by decide +kernel
theorem d_RU_exchange_58 : decode b_RU_exchange 58 = .ok (.getfield 11, 3) := by decide +kernel
theorem d_RU_exchange_61 : decode b_RU_exchange 61 = .ok (.iload_n 2, 1) := by decide +kernel
theorem d_RU_exchange_62 : decode b_RU_exchange 62 = .ok (.aload_n 3, 1) := by decide +kernel
theorem d_RU_exchange_63 : decode b_RU_exchange 63 = .ok (.aastore, 1) := by decide +kernel
theorem d_RU_exchange_64 : decode b_RU_exchange 64 = .ok (.return_, 1) := by decide +kernel
theorem d_RU_ledToFrom_0 : decode b_RU_ledToFrom 0 = .ok (.iconst 0, 1) := by decide +kernel
theorem d_RU_ledToFrom_1 : decode b_RU_ledToFrom 1 = .ok (.istore_n 2, 1) := by decide +kernel
theorem d_RU_ledToFrom_2 : decode b_RU_ledToFrom 2 = .ok (.iconst 0, 1) := by decide +kernel
theorem d_RU_ledToFrom_3 : decode b_RU_ledToFrom 3 = .ok (.istore_n 3, 1) := by decide +kernel
theorem d_RU_ledToFrom_4 : decode b_RU_ledToFrom 4 = .ok (.iload_n 3, 1) := by decide +kernel
theorem d_RU_ledToFrom_5 : decode b_RU_ledToFrom 5 = .ok (.iconst 4, 1) := by decide +kernel
theorem d_RU_ledToFrom_6 : decode b_RU_ledToFrom 6 = .ok (.if_icmp .ge 28, 3) := by decide +kernel
theorem d_RU_ledToFrom_9 : decode b_RU_ledToFrom 9 = .ok (.iload_n 1, 1) := by decide +kernel
theorem d_RU_ledToFrom_10 : decode b_RU_ledToFrom 10 = .ok (.iload_n 3, 1) := by decide +kernel
theorem d_RU_ledToFrom_11 : decode b_RU_ledToFrom 11 = .ok (.invokestatic 73, 3) := by decide +kernel
theorem d_RU_ledToFrom_14 : decode b_RU_ledToFrom 14 = .ok (.ifCond .eq 14, 3) := by decide +kernel
theorem d_RU_ledToFrom_17 : decode b_RU_ledToFrom 17 = .ok (.iload_n 2, 1) := by decide +kernel
theorem d_RU_ledToFrom_18 : decode b_RU_ledToFrom 18 = .ok (.aload_n 0, 1) := by decide +kernel
theorem d_RU_ledToFrom_19 : decode b_RU_ledToFrom 19 = .ok (.iload_n 3, 1) := by decide +kernel
theorem d_RU_ledToFrom_20 : decode b_RU_ledToFrom 20 = .ok (.invokevirtual 31, 3) := by decide +kernel
theorem d_RU_ledToFrom_23 : decode b_RU_ledToFrom 23 = .ok (.invokevirtual 77, 3) := by decide +kernel
theorem d_RU_ledToFrom_26 : decode b_RU_ledToFrom 26 = .ok (.ior, 1) := by decide +kernel
theorem d_RU_ledToFrom_27 : decode b_RU_ledToFrom 27 = .ok (.istore_n 2, 1) := by decide +kernel
theorem d_RU_ledToFrom_28 : decode b_RU_ledToFrom 28 = .ok (.iinc 3 1, 3) := by decide +kernel
theorem d_RU_ledToFrom_31 : decode b_RU_ledToFrom 31 = .ok (.goto (-27), 3) := by decide +kernel
theorem d_RU_ledToFrom_34 : decode b_RU_ledToFrom 34 = .ok (.iload_n 2, 1) := by decide +kernel
theorem d_RU_ledToFrom_35 : decode b_RU_ledToFrom 35 = .ok (.ireturn, 1) := by decide +kernel
theorem d_RU_reachedFrom_0 : decode b_RU_reachedFrom 0 = .ok (.iconst 1, 1) := by decide +kernel
theorem d_RU_reachedFrom_1 : decode b_RU_reachedFrom 1 = .ok (.iload_n 1, 1) := by decide +kernel
theorem d_RU_reachedFrom_2 : decode b_RU_reachedFrom 2 = .ok (.ishl, 1) := by decide +kernel
theorem d_RU_reachedFrom_3 : decode b_RU_reachedFrom 3 = .ok (.istore_n 2, 1) := by decide +kernel
theorem d_RU_reachedFrom_4 : decode b_RU_reachedFrom 4 = .ok (.iconst 0, 1) := by decide +kernel
theorem d_RU_reachedFrom_5 : decode b_RU_reachedFrom 5 = .ok (.istore_n 3, 1) := by decide +kernel
theorem d_RU_reachedFrom_6 : decode b_RU_reachedFrom 6 = .ok (.iload_n 3, 1) := by decide +kernel
theorem d_RU_reachedFrom_7 : decode b_RU_reachedFrom 7 = .ok (.iconst 4, 1) := by decide +kernel
theorem d_RU_reachedFrom_8 : decode b_RU_reachedFrom 8 = .ok (.if_icmp .ge 17, 3) := by decide +kernel
theorem d_RU_reachedFrom_11 : decode b_RU_reachedFrom 11 = .ok (.iload_n 2, 1) := by decide +kernel
theorem d_RU_reachedFrom_12 : decode b_RU_reachedFrom 12 = .ok (.aload_n 0, 1) := by decide +kernel
theorem d_RU_reachedFrom_13 : decode b_RU_reachedFrom 13 = .ok (.iload_n 2, 1) := by decide +kernel
theorem d_RU_reachedFrom_14 : decode b_RU_reachedFrom 14 = .ok (.invokevirtual 80, 3) := by decide +kernel
theorem d_RU_reachedFrom_17 : decode b_RU_reachedFrom 17 = .ok (.ior, 1) := by decide +kernel
theorem d_RU_reachedFrom_18 : decode b_RU_reachedFrom 18 = .ok (.istore_n 2, 1) := by decide +kernel
theorem d_RU_reachedFrom_19 : decode b_RU_reachedFrom 19 = .ok (.iinc 3 1, 3) := by decide +kernel
theorem d_RU_reachedFrom_22 : decode b_RU_reachedFrom 22 = .ok (.goto (-16), 3) := by decide +kernel
theorem d_RU_reachedFrom_25 : decode b_RU_reachedFrom 25 = .ok (.iload_n 2, 1) := by decide +kernel
theorem d_RU_reachedFrom_26 : decode b_RU_reachedFrom 26 = .ok (.ireturn, 1) := by decide +kernel
theorem d_RU_mixesBy_0 : decode b_RU_mixesBy 0 = .ok (.aload_n 0, 1) := by decide +kernel
theorem d_RU_mixesBy_1 : decode b_RU_mixesBy 1 = .ok (.iconst 0, 1) := by decide +kernel
theorem d_RU_mixesBy_2 : decode b_RU_mixesBy 2 = .ok (.invokevirtual 83, 3) := by decide +kernel
theorem d_RU_mixesBy_5 : decode b_RU_mixesBy 5 = .ok (.istore_n 2, 1) := by decide +kernel
theorem d_RU_mixesBy_6 : decode b_RU_mixesBy 6 = .ok (.iconst 0, 1) := by decide +kernel
theorem d_RU_mixesBy_7 : decode b_RU_mixesBy 7 = .ok (.istore_n 3, 1) := by decide +kernel
theorem d_RU_mixesBy_8 : decode b_RU_mixesBy 8 = .ok (.iload_n 3, 1) := by decide +kernel
theorem d_RU_mixesBy_9 : decode b_RU_mixesBy 9 = .ok (.iconst 4, 1) := by decide +kernel
theorem d_RU_mixesBy_10 : decode b_RU_mixesBy 10 = .ok (.if_icmp .ge 36, 3) := by decide +kernel
theorem d_RU_mixesBy_13 : decode b_RU_mixesBy 13 = .ok (.iload_n 2, 1) := by decide +kernel
theorem d_RU_mixesBy_14 : decode b_RU_mixesBy 14 = .ok (.aload_n 0, 1) := by decide +kernel
theorem d_RU_mixesBy_15 : decode b_RU_mixesBy 15 = .ok (.iload_n 3, 1) := by decide +kernel
theorem d_RU_mixesBy_16 : decode b_RU_mixesBy 16 = .ok (.iload_n 1, 1) := by decide +kernel
theorem d_RU_mixesBy_17 : decode b_RU_mixesBy 17 = .ok (.invokevirtual 86, 3) := by decide +kernel
theorem d_RU_mixesBy_20 : decode b_RU_mixesBy 20 = .ok (.iconst (-1), 1) := by decide +kernel
theorem d_RU_mixesBy_21 : decode b_RU_mixesBy 21 = .ok (.ixor, 1) := by decide +kernel
theorem d_RU_mixesBy_22 : decode b_RU_mixesBy 22 = .ok (.iand, 1) := by decide +kernel
theorem d_RU_mixesBy_23 : decode b_RU_mixesBy 23 = .ok (.istore 4, 2) := by decide +kernel
theorem d_RU_mixesBy_25 : decode b_RU_mixesBy 25 = .ok (.iload_n 2, 1) := by decide +kernel
theorem d_RU_mixesBy_26 : decode b_RU_mixesBy 26 = .ok (.iload_n 3, 1) := by decide +kernel
theorem d_RU_mixesBy_27 : decode b_RU_mixesBy 27 = .ok (.invokestatic 73, 3) := by decide +kernel
theorem d_RU_mixesBy_30 : decode b_RU_mixesBy 30 = .ok (.ifCond .eq 10, 3) := by decide +kernel
theorem d_RU_mixesBy_33 : decode b_RU_mixesBy 33 = .ok (.iload 4, 2) := by decide +kernel
theorem d_RU_mixesBy_35 : decode b_RU_mixesBy 35 = .ok (.ifCond .eq 5, 3) := by decide +kernel
theorem d_RU_mixesBy_38 : decode b_RU_mixesBy 38 = .ok (.iconst 0, 1) := by decide +kernel
theorem d_RU_mixesBy_39 : decode b_RU_mixesBy 39 = .ok (.ireturn, 1) := by decide +kernel
theorem d_RU_mixesBy_40 : decode b_RU_mixesBy 40 = .ok (.iinc 3 1, 3) := by decide +kernel
theorem d_RU_mixesBy_43 : decode b_RU_mixesBy 43 = .ok (.goto (-35), 3) := by decide +kernel
theorem d_RU_mixesBy_46 : decode b_RU_mixesBy 46 = .ok (.iconst 1, 1) := by decide +kernel
theorem d_RU_mixesBy_47 : decode b_RU_mixesBy 47 = .ok (.ireturn, 1) := by decide +kernel
theorem d_RU_lettersBehind_0 : decode b_RU_lettersBehind 0 = .ok (.iconst 1, 1) := by decide +kernel
theorem d_RU_lettersBehind_1 : decode b_RU_lettersBehind 1 = .ok (.iload_n 1, 1) := by decide +kernel
theorem d_RU_lettersBehind_2 : decode b_RU_lettersBehind 2 = .ok (.ishl, 1) := by decide +kernel
theorem d_RU_lettersBehind_3 : decode b_RU_lettersBehind 3 = .ok (.istore_n 3, 1) := by decide +kernel
theorem d_RU_lettersBehind_4 : decode b_RU_lettersBehind 4 = .ok (.iconst 0, 1) := by decide +kernel
theorem d_RU_lettersBehind_5 : decode b_RU_lettersBehind 5 = .ok (.istore 4, 2) := by decide +kernel
theorem d_RU_lettersBehind_7 : decode b_RU_lettersBehind 7 = .ok (.iload 4, 2) := by decide +kernel
theorem d_RU_lettersBehind_9 : decode b_RU_lettersBehind 9 = .ok (.iload_n 2, 1) := by decide +kernel
theorem d_RU_lettersBehind_10 : decode b_RU_lettersBehind 10 = .ok (.if_icmp .ge 15, 3) := by decide +kernel
theorem d_RU_lettersBehind_13 : decode b_RU_lettersBehind 13 = .ok (.aload_n 0, 1) := by decide +kernel
theorem d_RU_lettersBehind_14 : decode b_RU_lettersBehind 14 = .ok (.iload_n 3, 1) := by decide +kernel
theorem d_RU_lettersBehind_15 : decode b_RU_lettersBehind 15 = .ok (.invokevirtual 80, 3) := by decide +kernel
theorem d_RU_lettersBehind_18 : decode b_RU_lettersBehind 18 = .ok (.istore_n 3, 1) := by decide +kernel
theorem d_RU_lettersBehind_19 : decode b_RU_lettersBehind 19 = .ok (.iinc 4 1, 3) := by decide +kernel
theorem d_RU_lettersBehind_22 : decode b_RU_lettersBehind 22 = .ok (.goto (-15), 3) := by decide +kernel
theorem d_RU_lettersBehind_25 : decode b_RU_lettersBehind 25 = .ok (.iload_n 3, 1) := by decide +kernel
theorem d_RU_lettersBehind_26 : decode b_RU_lettersBehind 26 = .ok (.ireturn, 1) := by decide +kernel
theorem d_ST_init_0 : decode b_ST_init 0 = .ok (.aload_n 0, 1) := by decide +kernel
theorem d_ST_init_1 : decode b_ST_init 1 = .ok (.invokespecial 3, 3) := by decide +kernel
theorem d_ST_init_4 : decode b_ST_init 4 = .ok (.aload_n 0, 1) := by decide +kernel
theorem d_ST_init_5 : decode b_ST_init 5 = .ok (.new 9, 3) := by decide +kernel
theorem d_ST_init_8 : decode b_ST_init 8 = .ok (.dup, 1) := by decide +kernel
theorem d_ST_init_9 : decode b_ST_init 9 = .ok (.invokespecial 11, 3) := by decide +kernel
theorem d_ST_init_12 : decode b_ST_init 12 = .ok (.putfield 12, 3) := by decide +kernel
theorem d_ST_init_15 : decode b_ST_init 15 = .ok (.aload_n 0, 1) := by decide +kernel
theorem d_ST_init_16 : decode b_ST_init 16 = .ok (.new 18, 3) := by decide +kernel
theorem d_ST_init_19 : decode b_ST_init 19 = .ok (.dup, 1) := by decide +kernel
theorem d_ST_init_20 : decode b_ST_init 20 = .ok (.sipush 300, 3) := by decide +kernel
theorem d_ST_init_23 : decode b_ST_init 23 = .ok (.invokespecial 20, 3) := by decide +kernel
theorem d_ST_init_26 : decode b_ST_init 26 = .ok (.putfield 23, 3) := by decide +kernel
theorem d_ST_init_29 : decode b_ST_init 29 = .ok (.aload_n 0, 1) := by decide +kernel
theorem d_ST_init_30 : decode b_ST_init 30 = .ok (.new 18, 3) := by decide +kernel
theorem d_ST_init_33 : decode b_ST_init 33 = .ok (.dup, 1) := by decide +kernel
theorem d_ST_init_34 : decode b_ST_init 34 = .ok (.bipush 20, 2) := by decide +kernel
theorem d_ST_init_36 : decode b_ST_init 36 = .ok (.invokespecial 20, 3) := by decide +kernel
theorem d_ST_init_39 : decode b_ST_init 39 = .ok (.putfield 27, 3) := by decide +kernel
theorem d_ST_init_42 : decode b_ST_init 42 = .ok (.aload_n 0, 1) := by decide +kernel
theorem d_ST_init_43 : decode b_ST_init 43 = .ok (.getfield 23, 3) := by decide +kernel
theorem d_ST_init_46 : decode b_ST_init 46 = .ok (.iconst 0, 1) := by decide +kernel
theorem d_ST_init_47 : decode b_ST_init 47 = .ok (.invokevirtual 30, 3) := by decide +kernel
theorem d_ST_init_50 : decode b_ST_init 50 = .ok (.pop, 1) := by decide +kernel
theorem d_ST_init_51 : decode b_ST_init 51 = .ok (.return_, 1) := by decide +kernel
theorem d_ST_hasPiece_0 : decode b_ST_hasPiece 0 = .ok (.aload_n 0, 1) := by decide +kernel
theorem d_ST_hasPiece_1 : decode b_ST_hasPiece 1 = .ok (.getfield 27, 3) := by decide +kernel
theorem d_ST_hasPiece_4 : decode b_ST_hasPiece 4 = .ok (.invokevirtual 34, 3) := by decide +kernel
theorem d_ST_hasPiece_7 : decode b_ST_hasPiece 7 = .ok (.ifCond .le 7, 3) := by decide +kernel
theorem d_ST_hasPiece_10 : decode b_ST_hasPiece 10 = .ok (.iconst 1, 1) := by decide +kernel
theorem d_ST_hasPiece_11 : decode b_ST_hasPiece 11 = .ok (.goto 4, 3) := by decide +kernel
theorem d_ST_hasPiece_14 : decode b_ST_hasPiece 14 = .ok (.iconst 0, 1) := by decide +kernel
theorem d_ST_hasPiece_15 : decode b_ST_hasPiece 15 = .ok (.ireturn, 1) := by decide +kernel
theorem d_ST_become_0 : decode b_ST_become 0 = .ok (.aload_n 0, 1) := by decide +kernel
theorem d_ST_become_1 : decode b_ST_become 1 = .ok (.getfield 12, 3) := by decide +kernel
theorem d_ST_become_4 : decode b_ST_become 4 = .ok (.aload_n 1, 1) := by decide +kernel
theorem d_ST_become_5 : decode b_ST_become 5 = .ok (.getfield 12, 3) := by decide +kernel
theorem d_ST_become_8 : decode b_ST_become 8 = .ok (.invokevirtual 38, 3) := by decide +kernel
theorem d_ST_become_11 : decode b_ST_become 11 = .ok (.aload_n 0, 1) := by decide +kernel
theorem d_ST_become_12 : decode b_ST_become 12 = .ok (.getfield 23, 3) := by decide +kernel
theorem d_ST_become_15 : decode b_ST_become 15 = .ok (.aload_n 1, 1) := by decide +kernel
theorem d_ST_become_16 : decode b_ST_become 16 = .ok (.getfield 23, 3) := by decide +kernel
theorem d_ST_become_19 : decode b_ST_become 19 = .ok (.invokevirtual 42, 3) := by decide +kernel
theorem d_ST_become_22 : decode b_ST_become 22 = .ok (.aload_n 0, 1) := by decide +kernel
theorem d_ST_become_23 : decode b_ST_become 23 = .ok (.getfield 27, 3) := by decide +kernel
theorem d_ST_become_26 : decode b_ST_become 26 = .ok (.aload_n 1, 1) := by decide +kernel
theorem d_ST_become_27 : decode b_ST_become 27 = .ok (.getfield 27, 3) := by decide +kernel
theorem d_ST_become_30 : decode b_ST_become 30 = .ok (.invokevirtual 42, 3) := by decide +kernel
theorem d_ST_become_33 : decode b_ST_become 33 = .ok (.return_, 1) := by decide +kernel
theorem d_TX_init_0 : decode b_TX_init 0 = .ok (.aload_n 0, 1) := by decide +kernel
theorem d_TX_init_1 : decode b_TX_init 1 = .ok (.invokespecial 3, 3) := by decide +kernel
theorem d_TX_init_4 : decode b_TX_init 4 = .ok (.aload_n 0, 1) := by decide +kernel
theorem d_TX_init_5 : decode b_TX_init 5 = .ok (.bipush 60, 2) := by decide +kernel
theorem d_TX_init_7 : decode b_TX_init 7 = .ok (.newarray .char, 2) := by decide +kernel
theorem d_TX_init_9 : decode b_TX_init 9 = .ok (.putfield 9, 3) := by decide +kernel
theorem d_TX_init_12 : decode b_TX_init 12 = .ok (.aload_n 0, 1) := by decide +kernel
theorem d_TX_init_13 : decode b_TX_init 13 = .ok (.iconst 0, 1) := by decide +kernel
theorem d_TX_init_14 : decode b_TX_init 14 = .ok (.putfield 15, 3) := by decide +kernel
theorem d_TX_init_17 : decode b_TX_init 17 = .ok (.return_, 1) := by decide +kernel
theorem d_TX_length_0 : decode b_TX_length 0 = .ok (.aload_n 0, 1) := by decide +kernel
theorem d_TX_length_1 : decode b_TX_length 1 = .ok (.getfield 15, 3) := by decide +kernel
theorem d_TX_length_4 : decode b_TX_length 4 = .ok (.ireturn, 1) := by decide +kernel
theorem d_TX_clear_0 : decode b_TX_clear 0 = .ok (.aload_n 0, 1) := by decide +kernel
theorem d_TX_clear_1 : decode b_TX_clear 1 = .ok (.iconst 0, 1) := by decide +kernel
theorem d_TX_clear_2 : decode b_TX_clear 2 = .ok (.putfield 15, 3) := by decide +kernel
theorem d_TX_clear_5 : decode b_TX_clear 5 = .ok (.return_, 1) := by decide +kernel
theorem d_TX_add_0 : decode b_TX_add 0 = .ok (.aload_n 0, 1) := by decide +kernel
theorem d_TX_add_1 : decode b_TX_add 1 = .ok (.getfield 15, 3) := by decide +kernel
theorem d_TX_add_4 : decode b_TX_add 4 = .ok (.aload_n 0, 1) := by decide +kernel
theorem d_TX_add_5 : decode b_TX_add 5 = .ok (.getfield 9, 3) := by decide +kernel
theorem d_TX_add_8 : decode b_TX_add 8 = .ok (.arraylength, 1) := by decide +kernel
theorem d_TX_add_9 : decode b_TX_add 9 = .ok (.if_icmp .lt 5, 3) := by decide +kernel
theorem d_TX_add_12 : decode b_TX_add 12 = .ok (.iconst 0, 1) := by decide +kernel
theorem d_TX_add_13 : decode b_TX_add 13 = .ok (.ireturn, 1) := by decide +kernel
theorem d_TX_add_14 : decode b_TX_add 14 = .ok (.aload_n 0, 1) := by decide +kernel
theorem d_TX_add_15 : decode b_TX_add 15 = .ok (.getfield 9, 3) := by decide +kernel
theorem d_TX_add_18 : decode b_TX_add 18 = .ok (.aload_n 0, 1) := by decide +kernel
theorem d_TX_add_19 : decode b_TX_add 19 = .ok (.getfield 15, 3) := by decide +kernel
theorem d_TX_add_22 : decode b_TX_add 22 = .ok (.iload_n 1, 1) := by decide +kernel
theorem d_TX_add_23 : decode b_TX_add 23 = .ok (.castore, 1) := by decide +kernel
theorem d_TX_add_24 : decode b_TX_add 24 = .ok (.aload_n 0, 1) := by decide +kernel
theorem d_TX_add_25 : decode b_TX_add 25 = .ok (.dup, 1) := by decide +kernel
theorem d_TX_add_26 : decode b_TX_add 26 = .ok (.getfield 15, 3) := by decide +kernel
theorem d_TX_add_29 : decode b_TX_add 29 = .ok (.iconst 1, 1) := by decide +kernel
theorem d_TX_add_30 : decode b_TX_add 30 = .ok (.iadd, 1) := by decide +kernel
theorem d_TX_add_31 : decode b_TX_add 31 = .ok (.putfield 15, 3) := by decide +kernel
theorem d_TX_add_34 : decode b_TX_add 34 = .ok (.iconst 1, 1) := by decide +kernel
theorem d_TX_add_35 : decode b_TX_add 35 = .ok (.ireturn, 1) := by decide +kernel
theorem d_TX_hasAt_0 : decode b_TX_hasAt 0 = .ok (.iload_n 1, 1) := by decide +kernel
theorem d_TX_hasAt_1 : decode b_TX_hasAt 1 = .ok (.ifCond .lt 25, 3) := by decide +kernel
theorem d_TX_hasAt_4 : decode b_TX_hasAt 4 = .ok (.iload_n 1, 1) := by decide +kernel
theorem d_TX_hasAt_5 : decode b_TX_hasAt 5 = .ok (.aload_n 0, 1) := by decide +kernel
theorem d_TX_hasAt_6 : decode b_TX_hasAt 6 = .ok (.getfield 15, 3) := by decide +kernel
theorem d_TX_hasAt_9 : decode b_TX_hasAt 9 = .ok (.if_icmp .ge 17, 3) := by decide +kernel
theorem d_TX_hasAt_12 : decode b_TX_hasAt 12 = .ok (.aload_n 0, 1) := by decide +kernel
theorem d_TX_hasAt_13 : decode b_TX_hasAt 13 = .ok (.getfield 9, 3) := by decide +kernel
theorem d_TX_hasAt_16 : decode b_TX_hasAt 16 = .ok (.iload_n 1, 1) := by decide +kernel
theorem d_TX_hasAt_17 : decode b_TX_hasAt 17 = .ok (.caload, 1) := by decide +kernel
theorem d_TX_hasAt_18 : decode b_TX_hasAt 18 = .ok (.iload_n 2, 1) := by decide +kernel
theorem d_TX_hasAt_19 : decode b_TX_hasAt 19 = .ok (.if_icmp .ne 7, 3) := by decide +kernel
theorem d_TX_hasAt_22 : decode b_TX_hasAt 22 = .ok (.iconst 1, 1) := by decide +kernel
theorem d_TX_hasAt_23 : decode b_TX_hasAt 23 = .ok (.goto 4, 3) := by decide +kernel
theorem d_TX_hasAt_26 : decode b_TX_hasAt 26 = .ok (.iconst 0, 1) := by decide +kernel
theorem d_TX_hasAt_27 : decode b_TX_hasAt 27 = .ok (.ireturn, 1) := by decide +kernel
theorem d_TX_letterAt_0 : decode b_TX_letterAt 0 = .ok (.iload_n 1, 1) := by decide +kernel
theorem d_TX_letterAt_1 : decode b_TX_letterAt 1 = .ok (.ifCond .lt 11, 3) := by decide +kernel
theorem d_TX_letterAt_4 : decode b_TX_letterAt 4 = .ok (.iload_n 1, 1) := by decide +kernel
theorem d_TX_letterAt_5 : decode b_TX_letterAt 5 = .ok (.aload_n 0, 1) := by decide +kernel
theorem d_TX_letterAt_6 : decode b_TX_letterAt 6 = .ok (.getfield 15, 3) := by decide +kernel
theorem d_TX_letterAt_9 : decode b_TX_letterAt 9 = .ok (.if_icmp .lt 5, 3) := by decide +kernel
theorem d_TX_letterAt_12 : decode b_TX_letterAt 12 = .ok (.iconst (-1), 1) := by decide +kernel
theorem d_TX_letterAt_13 : decode b_TX_letterAt 13 = .ok (.ireturn, 1) := by decide +kernel
theorem d_TX_letterAt_14 : decode b_TX_letterAt 14 = .ok (.aload_n 0, 1) := by decide +kernel
theorem d_TX_letterAt_15 : decode b_TX_letterAt 15 = .ok (.getfield 9, 3) := by decide +kernel
theorem d_TX_letterAt_18 : decode b_TX_letterAt 18 = .ok (.iload_n 1, 1) := by decide +kernel
theorem d_TX_letterAt_19 : decode b_TX_letterAt 19 = .ok (.caload, 1) := by decide +kernel
theorem d_TX_letterAt_20 : decode b_TX_letterAt 20 = .ok (.bipush 97, 2) := by decide +kernel
theorem d_TX_letterAt_22 : decode b_TX_letterAt 22 = .ok (.isub, 1) := by decide +kernel
theorem d_TX_letterAt_23 : decode b_TX_letterAt 23 = .ok (.istore_n 2, 1) := by decide +kernel
theorem d_TX_letterAt_24 : decode b_TX_letterAt 24 = .ok (.iload_n 2, 1) := by decide +kernel
theorem d_TX_letterAt_25 : decode b_TX_letterAt 25 = .ok (.invokestatic 19, 3) := by decide +kernel
theorem d_TX_letterAt_28 : decode b_TX_letterAt 28 = .ok (.ifCond .eq 7, 3) := by decide +kernel
theorem d_TX_letterAt_31 : decode b_TX_letterAt 31 = .ok (.iload_n 2, 1) := by decide +kernel
theorem d_TX_letterAt_32 : decode b_TX_letterAt 32 = .ok (.goto 4, 3) := by decide +kernel
theorem d_TX_letterAt_35 : decode b_TX_letterAt 35 = .ok (.iconst (-1), 1) := by decide +kernel
theorem d_TX_letterAt_36 : decode b_TX_letterAt 36 = .ok (.ireturn, 1) := by decide +kernel
theorem d_TX_parts_0 : decode b_TX_parts 0 = .ok (.iconst 1, 1) := by decide +kernel
theorem d_TX_parts_1 : decode b_TX_parts 1 = .ok (.istore_n 1, 1) := by decide +kernel
theorem d_TX_parts_2 : decode b_TX_parts 2 = .ok (.iconst 0, 1) := by decide +kernel
theorem d_TX_parts_3 : decode b_TX_parts 3 = .ok (.istore_n 2, 1) := by decide +kernel
theorem d_TX_parts_4 : decode b_TX_parts 4 = .ok (.iload_n 2, 1) := by decide +kernel
theorem d_TX_parts_5 : decode b_TX_parts 5 = .ok (.aload_n 0, 1) := by decide +kernel
theorem d_TX_parts_6 : decode b_TX_parts 6 = .ok (.getfield 15, 3) := by decide +kernel
theorem d_TX_parts_9 : decode b_TX_parts 9 = .ok (.if_icmp .ge 22, 3) := by decide +kernel
theorem d_TX_parts_12 : decode b_TX_parts 12 = .ok (.aload_n 0, 1) := by decide +kernel
theorem d_TX_parts_13 : decode b_TX_parts 13 = .ok (.iload_n 2, 1) := by decide +kernel
theorem d_TX_parts_14 : decode b_TX_parts 14 = .ok (.bipush 59, 2) := by decide +kernel
theorem d_TX_parts_16 : decode b_TX_parts 16 = .ok (.invokevirtual 23, 3) := by decide +kernel
theorem d_TX_parts_19 : decode b_TX_parts 19 = .ok (.ifCond .eq 6, 3) := by decide +kernel
theorem d_TX_parts_22 : decode b_TX_parts 22 = .ok (.iinc 1 1, 3) := by decide +kernel
theorem d_TX_parts_25 : decode b_TX_parts 25 = .ok (.iinc 2 1, 3) := by decide +kernel
theorem d_TX_parts_28 : decode b_TX_parts 28 = .ok (.goto (-24), 3) := by decide +kernel
theorem d_TX_parts_31 : decode b_TX_parts 31 = .ok (.iload_n 1, 1) := by decide +kernel
theorem d_TX_parts_32 : decode b_TX_parts 32 = .ok (.ireturn, 1) := by decide +kernel
theorem d_TX_readInto_0 : decode b_TX_readInto 0 = .ok (.iconst 0, 1) := by decide +kernel
theorem d_TX_readInto_1 : decode b_TX_readInto 1 = .ok (.istore_n 2, 1) := by decide +kernel
theorem d_TX_readInto_2 : decode b_TX_readInto 2 = .ok (.aload_n 1, 1) := by decide +kernel
theorem d_TX_readInto_3 : decode b_TX_readInto 3 = .ok (.iconst (-1), 1) := by decide +kernel
theorem d_TX_readInto_4 : decode b_TX_readInto 4 = .ok (.invokevirtual 27, 3) := by decide +kernel
theorem d_TX_readInto_7 : decode b_TX_readInto 7 = .ok (.astore_n 3, 1) := by decide +kernel
theorem d_TX_readInto_8 : decode b_TX_readInto 8 = .ok (.iconst 0, 1) := by decide +kernel
theorem d_TX_readInto_9 : decode b_TX_readInto 9 = .ok (.istore 4, 2) := by decide +kernel
theorem d_TX_readInto_11 : decode b_TX_readInto 11 = .ok (.iload 4, 2) := by decide +kernel
theorem d_TX_readInto_13 : decode b_TX_readInto 13 = .ok (.aload_n 0, 1) := by decide +kernel
theorem d_TX_readInto_14 : decode b_TX_readInto 14 = .ok (.getfield 15, 3) := by decide +kernel
theorem d_TX_readInto_17 : decode b_TX_readInto 17 = .ok (.if_icmp .ge 109, 3) := by decide +kernel
theorem d_TX_readInto_20 : decode b_TX_readInto 20 = .ok (.aload_n 0, 1) := by decide +kernel
theorem d_TX_readInto_21 : decode b_TX_readInto 21 = .ok (.iload 4, 2) := by decide +kernel
theorem d_TX_readInto_23 : decode b_TX_readInto 23 = .ok (.invokevirtual 33, 3) := by decide +kernel
theorem d_TX_readInto_26 : decode b_TX_readInto 26 = .ok (.istore 5, 2) := by decide +kernel
theorem d_TX_readInto_28 : decode b_TX_readInto 28 = .ok (.iload_n 2, 1) := by decide +kernel
theorem d_TX_readInto_29 : decode b_TX_readInto 29 = .ok (.ifCond .ne 25, 3) := by decide +kernel
theorem d_TX_readInto_32 : decode b_TX_readInto 32 = .ok (.iload 5, 2) := by decide +kernel
theorem d_TX_readInto_34 : decode b_TX_readInto 34 = .ok (.iconst (-1), 1) := by decide +kernel
theorem d_TX_readInto_35 : decode b_TX_readInto 35 = .ok (.if_icmp .eq 19, 3) := by decide +kernel
theorem d_TX_readInto_38 : decode b_TX_readInto 38 = .ok (.aload_n 1, 1) := by decide +kernel
theorem d_TX_readInto_39 : decode b_TX_readInto 39 = .ok (.iload 5, 2) := by decide +kernel
theorem d_TX_readInto_41 : decode b_TX_readInto 41 = .ok (.invokevirtual 27, 3) := by decide +kernel
theorem d_TX_readInto_44 : decode b_TX_readInto 44 = .ok (.astore_n 3, 1) := by decide +kernel
theorem d_TX_readInto_45 : decode b_TX_readInto 45 = .ok (.aload_n 3, 1) := by decide +kernel
theorem d_TX_readInto_46 : decode b_TX_readInto 46 = .ok (.invokevirtual 37, 3) := by decide +kernel
theorem d_TX_readInto_49 : decode b_TX_readInto 49 = .ok (.iconst 1, 1) := by decide +kernel
theorem d_TX_readInto_50 : decode b_TX_readInto 50 = .ok (.istore_n 2, 1) := by decide +kernel
theorem d_TX_readInto_51 : decode b_TX_readInto 51 = .ok (.goto 69, 3) := by decide +kernel
theorem d_TX_readInto_54 : decode b_TX_readInto 54 = .ok (.iload_n 2, 1) := by decide +kernel
theorem d_TX_readInto_55 : decode b_TX_readInto 55 = .ok (.iconst 1, 1) := by decide +kernel
theorem d_TX_readInto_56 : decode b_TX_readInto 56 = .ok (.if_icmp .ne 19, 3) := by decide +kernel
theorem d_TX_readInto_59 : decode b_TX_readInto 59 = .ok (.aload_n 0, 1) := by decide +kernel
theorem d_TX_readInto_60 : decode b_TX_readInto 60 = .ok (.iload 4, 2) := by decide +kernel
theorem d_TX_readInto_62 : decode b_TX_readInto 62 = .ok (.bipush 61, 2) := by decide +kernel
theorem d_TX_readInto_64 : decode b_TX_readInto 64 = .ok (.invokevirtual 23, 3) := by decide +kernel
theorem d_TX_readInto_67 : decode b_TX_readInto 67 = .ok (.ifCond .eq 8, 3) := by decide +kernel
theorem d_TX_readInto_70 : decode b_TX_readInto 70 = .ok (.iconst 2, 1) := by decide +kernel
theorem d_TX_readInto_71 : decode b_TX_readInto 71 = .ok (.istore_n 2, 1) := by decide +kernel
theorem d_TX_readInto_72 : decode b_TX_readInto 72 = .ok (.goto 48, 3) := by decide +kernel
theorem d_TX_readInto_75 : decode b_TX_readInto 75 = .ok (.iload_n 2, 1) := by decide +kernel
theorem d_TX_readInto_76 : decode b_TX_readInto 76 = .ok (.iconst 2, 1) := by decide +kernel
theorem d_TX_readInto_77 : decode b_TX_readInto 77 = .ok (.if_icmp .ne 26, 3) := by decide +kernel
theorem d_TX_readInto_80 : decode b_TX_readInto 80 = .ok (.aload_n 3, 1) := by decide +kernel
theorem d_TX_readInto_81 : decode b_TX_readInto 81 = .ok (.invokevirtual 42, 3) := by decide +kernel
theorem d_TX_readInto_84 : decode b_TX_readInto 84 = .ok (.ifCond .le 19, 3) := by decide +kernel
theorem d_TX_readInto_87 : decode b_TX_readInto 87 = .ok (.aload_n 0, 1) := by decide +kernel
theorem d_TX_readInto_88 : decode b_TX_readInto 88 = .ok (.iload 4, 2) := by decide +kernel
theorem d_TX_readInto_90 : decode b_TX_readInto 90 = .ok (.bipush 59, 2) := by decide +kernel
theorem d_TX_readInto_92 : decode b_TX_readInto 92 = .ok (.invokevirtual 23, 3) := by decide +kernel
theorem d_TX_readInto_95 : decode b_TX_readInto 95 = .ok (.ifCond .eq 8, 3) := by decide +kernel
theorem d_TX_readInto_98 : decode b_TX_readInto 98 = .ok (.iconst 0, 1) := by decide +kernel
theorem d_TX_readInto_99 : decode b_TX_readInto 99 = .ok (.istore_n 2, 1) := by decide +kernel
theorem d_TX_readInto_100 : decode b_TX_readInto 100 = .ok (.goto 20, 3) := by decide +kernel
theorem d_TX_readInto_103 : decode b_TX_readInto 103 = .ok (.iload_n 2, 1) := by decide +kernel
theorem d_TX_readInto_104 : decode b_TX_readInto 104 = .ok (.iconst 2, 1) := by decide +kernel
theorem d_TX_readInto_105 : decode b_TX_readInto 105 = .ok (.if_icmp .ne 12, 3) := by decide +kernel
theorem d_TX_readInto_108 : decode b_TX_readInto 108 = .ok (.aload_n 3, 1) := by decide +kernel
theorem d_TX_readInto_109 : decode b_TX_readInto 109 = .ok (.iload 5, 2) := by decide +kernel
theorem d_TX_readInto_111 : decode b_TX_readInto 111 = .ok (.invokevirtual 45, 3) := by decide +kernel
theorem d_TX_readInto_114 : decode b_TX_readInto 114 = .ok (.ifCond .ne 6, 3) := by decide +kernel
theorem d_TX_readInto_117 : decode b_TX_readInto 117 = .ok (.iload 4, 2) := by decide +kernel
theorem d_TX_readInto_119 : decode b_TX_readInto 119 = .ok (.ireturn, 1) := by decide +kernel
theorem d_TX_readInto_120 : decode b_TX_readInto 120 = .ok (.iinc 4 1, 3) := by decide +kernel
theorem d_TX_readInto_123 : decode b_TX_readInto 123 = .ok (.goto (-112), 3) := by decide +kernel
theorem d_TX_readInto_126 : decode b_TX_readInto 126 = .ok (.iload_n 2, 1) := by decide +kernel
theorem d_TX_readInto_127 : decode b_TX_readInto 127 = .ok (.iconst 2, 1) := by decide +kernel
theorem d_TX_readInto_128 : decode b_TX_readInto 128 = .ok (.if_icmp .ne 14, 3) := by decide +kernel
theorem d_TX_readInto_131 : decode b_TX_readInto 131 = .ok (.aload_n 3, 1) := by decide +kernel
theorem d_TX_readInto_132 : decode b_TX_readInto 132 = .ok (.invokevirtual 42, 3) := by decide +kernel
theorem d_TX_readInto_135 : decode b_TX_readInto 135 = .ok (.ifCond .le 7, 3) := by decide +kernel
theorem d_TX_readInto_138 : decode b_TX_readInto 138 = .ok (.iconst (-1), 1) := by decide +kernel
theorem d_TX_readInto_139 : decode b_TX_readInto 139 = .ok (.goto 7, 3) := by decide +kernel
theorem d_TX_readInto_142 : decode b_TX_readInto 142 = .ok (.aload_n 0, 1) := by decide +kernel
theorem d_TX_readInto_143 : decode b_TX_readInto 143 = .ok (.getfield 15, 3) := by decide +kernel
theorem d_TX_readInto_146 : decode b_TX_readInto 146 = .ok (.ireturn, 1) := by decide +kernel
theorem d_TX_readInto2_0 : decode b_TX_readInto2 0 = .ok (.aload_n 1, 1) := by decide +kernel
theorem d_TX_readInto2_1 : decode b_TX_readInto2 1 = .ok (.invokevirtual 37, 3) := by decide +kernel
theorem d_TX_readInto2_4 : decode b_TX_readInto2 4 = .ok (.iconst 0, 1) := by decide +kernel
theorem d_TX_readInto2_5 : decode b_TX_readInto2 5 = .ok (.istore_n 2, 1) := by decide +kernel
theorem d_TX_readInto2_6 : decode b_TX_readInto2 6 = .ok (.iload_n 2, 1) := by decide +kernel
theorem d_TX_readInto2_7 : decode b_TX_readInto2 7 = .ok (.aload_n 0, 1) := by decide +kernel
theorem d_TX_readInto2_8 : decode b_TX_readInto2 8 = .ok (.getfield 15, 3) := by decide +kernel
theorem d_TX_readInto2_11 : decode b_TX_readInto2 11 = .ok (.if_icmp .ge 23, 3) := by decide +kernel
theorem d_TX_readInto2_14 : decode b_TX_readInto2 14 = .ok (.aload_n 1, 1) := by decide +kernel
theorem d_TX_readInto2_15 : decode b_TX_readInto2 15 = .ok (.aload_n 0, 1) := by decide +kernel
theorem d_TX_readInto2_16 : decode b_TX_readInto2 16 = .ok (.iload_n 2, 1) := by decide +kernel
theorem d_TX_readInto2_17 : decode b_TX_readInto2 17 = .ok (.invokevirtual 33, 3) := by decide +kernel
theorem d_TX_readInto2_20 : decode b_TX_readInto2 20 = .ok (.invokevirtual 45, 3) := by decide +kernel
theorem d_TX_readInto2_23 : decode b_TX_readInto2 23 = .ok (.ifCond .ne 5, 3) := by decide +kernel
theorem d_TX_readInto2_26 : decode b_TX_readInto2 26 = .ok (.iload_n 2, 1) := by decide +kernel
theorem d_TX_readInto2_27 : decode b_TX_readInto2 27 = .ok (.ireturn, 1) := by decide +kernel
theorem d_TX_readInto2_28 : decode b_TX_readInto2 28 = .ok (.iinc 2 1, 3) := by decide +kernel
theorem d_TX_readInto2_31 : decode b_TX_readInto2 31 = .ok (.goto (-25), 3) := by decide +kernel
theorem d_TX_readInto2_34 : decode b_TX_readInto2 34 = .ok (.aload_n 0, 1) := by decide +kernel
theorem d_TX_readInto2_35 : decode b_TX_readInto2 35 = .ok (.getfield 15, 3) := by decide +kernel
theorem d_TX_readInto2_38 : decode b_TX_readInto2 38 = .ok (.ifCond .le 7, 3) := by decide +kernel
theorem d_TX_readInto2_41 : decode b_TX_readInto2 41 = .ok (.iconst (-1), 1) := by decide +kernel
theorem d_TX_readInto2_42 : decode b_TX_readInto2 42 = .ok (.goto 7, 3) := by decide +kernel
theorem d_TX_readInto2_45 : decode b_TX_readInto2 45 = .ok (.aload_n 0, 1) := by decide +kernel
theorem d_TX_readInto2_46 : decode b_TX_readInto2 46 = .ok (.getfield 15, 3) := by decide +kernel
theorem d_TX_readInto2_49 : decode b_TX_readInto2 49 = .ok (.ireturn, 1) := by decide +kernel
theorem d_MW_init_0 : decode b_MW_init 0 = .ok (.aload_n 0, 1) := by decide +kernel
theorem d_MW_init_1 : decode b_MW_init 1 = .ok (.invokespecial 1, 3) := by decide +kernel
theorem d_MW_init_4 : decode b_MW_init 4 = .ok (.aload_n 0, 1) := by decide +kernel
theorem d_MW_init_5 : decode b_MW_init 5 = .ok (.new 7, 3) := by decide +kernel
theorem d_MW_init_8 : decode b_MW_init 8 = .ok (.dup, 1) := by decide +kernel
theorem d_MW_init_9 : decode b_MW_init 9 = .ok (.invokespecial 9, 3) := by decide +kernel
theorem d_MW_init_12 : decode b_MW_init 12 = .ok (.putfield 10, 3) := by decide +kernel
theorem d_MW_init_15 : decode b_MW_init 15 = .ok (.aload_n 0, 1) := by decide +kernel
theorem d_MW_init_16 : decode b_MW_init 16 = .ok (.new 7, 3) := by decide +kernel
theorem d_MW_init_19 : decode b_MW_init 19 = .ok (.dup, 1) := by decide +kernel
theorem d_MW_init_20 : decode b_MW_init 20 = .ok (.invokespecial 9, 3) := by decide +kernel
theorem d_MW_init_23 : decode b_MW_init 23 = .ok (.putfield 16, 3) := by decide +kernel
theorem d_MW_init_26 : decode b_MW_init 26 = .ok (.aload_n 0, 1) := by decide +kernel
theorem d_MW_init_27 : decode b_MW_init 27 = .ok (.iconst 0, 1) := by decide +kernel
theorem d_MW_init_28 : decode b_MW_init 28 = .ok (.putfield 19, 3) := by decide +kernel
theorem d_MW_init_31 : decode b_MW_init 31 = .ok (.aload_n 0, 1) := by decide +kernel
theorem d_MW_init_32 : decode b_MW_init 32 = .ok (.new 23, 3) := by decide +kernel
theorem d_MW_init_35 : decode b_MW_init 35 = .ok (.dup, 1) := by decide +kernel
theorem d_MW_init_36 : decode b_MW_init 36 = .ok (.invokespecial 25, 3) := by decide +kernel
theorem d_MW_init_39 : decode b_MW_init 39 = .ok (.putfield 26, 3) := by decide +kernel
theorem d_MW_init_42 : decode b_MW_init 42 = .ok (.aload_n 0, 1) := by decide +kernel
theorem d_MW_init_43 : decode b_MW_init 43 = .ok (.new 30, 3) := by decide +kernel
theorem d_MW_init_46 : decode b_MW_init 46 = .ok (.dup, 1) := by decide +kernel
theorem d_MW_init_47 : decode b_MW_init 47 = .ok (.invokespecial 32, 3) := by decide +kernel
theorem d_MW_init_50 : decode b_MW_init 50 = .ok (.putfield 33, 3) := by decide +kernel
theorem d_MW_init_53 : decode b_MW_init 53 = .ok (.aload_n 0, 1) := by decide +kernel
theorem d_MW_init_54 : decode b_MW_init 54 = .ok (.new 37, 3) := by decide +kernel
theorem d_MW_init_57 : decode b_MW_init 57 = .ok (.dup, 1) := by decide +kernel
theorem d_MW_init_58 : decode b_MW_init 58 = .ok (.invokespecial 39, 3) := by decide +kernel
theorem d_MW_init_61 : decode b_MW_init 61 = .ok (.putfield 40, 3) := by decide +kernel
theorem d_MW_init_64 : decode b_MW_init 64 = .ok (.aload_n 0, 1) := by decide +kernel
theorem d_MW_init_65 : decode b_MW_init 65 = .ok (.new 44, 3) := by decide +kernel
theorem d_MW_init_68 : decode b_MW_init 68 = .ok (.dup, 1) := by decide +kernel
theorem d_MW_init_69 : decode b_MW_init 69 = .ok (.sipush 300, 3) := by decide +kernel
theorem d_MW_init_72 : decode b_MW_init 72 = .ok (.invokespecial 46, 3) := by decide +kernel
theorem d_MW_init_75 : decode b_MW_init 75 = .ok (.putfield 49, 3) := by decide +kernel
theorem d_MW_init_78 : decode b_MW_init 78 = .ok (.aload_n 0, 1) := by decide +kernel
theorem d_MW_init_79 : decode b_MW_init 79 = .ok (.new 44, 3) := by decide +kernel
theorem d_MW_init_82 : decode b_MW_init 82 = .ok (.dup, 1) := by decide +kernel
theorem d_MW_init_83 : decode b_MW_init 83 = .ok (.sipush 300, 3) := by decide +kernel
theorem d_MW_init_86 : decode b_MW_init 86 = .ok (.invokespecial 46, 3) := by decide +kernel
theorem d_MW_init_89 : decode b_MW_init 89 = .ok (.putfield 53, 3) := by decide +kernel
theorem d_MW_init_92 : decode b_MW_init 92 = .ok (.aload_n 0, 1) := by decide +kernel
theorem d_MW_init_93 : decode b_MW_init 93 = .ok (.new 44, 3) := by decide +kernel
theorem d_MW_init_96 : decode b_MW_init 96 = .ok (.dup, 1) := by decide +kernel
theorem d_MW_init_97 : decode b_MW_init 97 = .ok (.bipush 20, 2) := by decide +kernel
theorem d_MW_init_99 : decode b_MW_init 99 = .ok (.invokespecial 46, 3) := by decide +kernel
theorem d_MW_init_102 : decode b_MW_init 102 = .ok (.putfield 56, 3) := by decide +kernel
theorem d_MW_init_105 : decode b_MW_init 105 = .ok (.aload_n 0, 1) := by decide +kernel
theorem d_MW_init_106 : decode b_MW_init 106 = .ok (.new 59, 3) := by decide +kernel
theorem d_MW_init_109 : decode b_MW_init 109 = .ok (.dup, 1) := by decide +kernel
theorem d_MW_init_110 : decode b_MW_init 110 = .ok (.invokespecial 61, 3) := by decide +kernel
theorem d_MW_init_113 : decode b_MW_init 113 = .ok (.putfield 62, 3) := by decide +kernel
theorem d_MW_init_116 : decode b_MW_init 116 = .ok (.aload_n 0, 1) := by decide +kernel
theorem d_MW_init_117 : decode b_MW_init 117 = .ok (.new 66, 3) := by decide +kernel
theorem d_MW_init_120 : decode b_MW_init 120 = .ok (.dup, 1) := by decide +kernel
theorem d_MW_init_121 : decode b_MW_init 121 = .ok (.invokespecial 68, 3) := by decide +kernel
theorem d_MW_init_124 : decode b_MW_init 124 = .ok (.putfield 69, 3) := by decide +kernel
theorem d_MW_init_127 : decode b_MW_init 127 = .ok (.aload_n 0, 1) := by decide +kernel
theorem d_MW_init_128 : decode b_MW_init 128 = .ok (.new 73, 3) := by decide +kernel
theorem d_MW_init_131 : decode b_MW_init 131 = .ok (.dup, 1) := by decide +kernel
theorem d_MW_init_132 : decode b_MW_init 132 = .ok (.invokespecial 75, 3) := by decide +kernel
theorem d_MW_init_135 : decode b_MW_init 135 = .ok (.putfield 76, 3) := by decide +kernel
theorem d_MW_init_138 : decode b_MW_init 138 = .ok (.aload_n 0, 1) := by decide +kernel
theorem d_MW_init_139 : decode b_MW_init 139 = .ok (.new 80, 3) := by decide +kernel
theorem d_MW_init_142 : decode b_MW_init 142 = .ok (.dup, 1) := by decide +kernel
theorem d_MW_init_143 : decode b_MW_init 143 = .ok (.invokespecial 82, 3) := by decide +kernel
theorem d_MW_init_146 : decode b_MW_init 146 = .ok (.putfield 83, 3) := by decide +kernel
theorem d_MW_init_149 : decode b_MW_init 149 = .ok (.aload_n 0, 1) := by decide +kernel
theorem d_MW_init_150 : decode b_MW_init 150 = .ok (.new 87, 3) := by decide +kernel
theorem d_MW_init_153 : decode b_MW_init 153 = .ok (.dup, 1) := by decide +kernel
theorem d_MW_init_154 : decode b_MW_init 154 = .ok (.invokespecial 89, 3) := by decide +kernel
theorem d_MW_init_157 : decode b_MW_init 157 = .ok (.putfield 90, 3) := by decide +kernel
theorem d_MW_init_160 : decode b_MW_init 160 = .ok (.return_, 1) := by decide +kernel
theorem d_MW_readRule_0 : decode b_MW_readRule 0 = .ok (.aload_n 0, 1) := by decide +kernel
theorem d_MW_readRule_1 : decode b_MW_readRule 1 = .ok (.getfield 40, 3) := by decide +kernel
theorem d_MW_readRule_4 : decode b_MW_readRule 4 = .ok (.aload_n 0, 1) := by decide +kernel
theorem d_MW_readRule_5 : decode b_MW_readRule 5 = .ok (.getfield 10, 3) := by decide +kernel
theorem d_MW_readRule_8 : decode b_MW_readRule 8 = .ok (.getfield 94, 3) := by decide +kernel
theorem d_MW_readRule_11 : decode b_MW_readRule 11 = .ok (.invokevirtual 97, 3) := by decide +kernel
theorem d_MW_readRule_14 : decode b_MW_readRule 14 = .ok (.aload_n 0, 1) := by decide +kernel
theorem d_MW_readRule_15 : decode b_MW_readRule 15 = .ok (.getfield 33, 3) := by decide +kernel
theorem d_MW_readRule_18 : decode b_MW_readRule 18 = .ok (.aload_n 0, 1) := by decide +kernel
theorem d_MW_readRule_19 : decode b_MW_readRule 19 = .ok (.getfield 40, 3) := by decide +kernel
theorem d_MW_readRule_22 : decode b_MW_readRule 22 = .ok (.invokevirtual 101, 3) := by decide +kernel
theorem d_MW_readRule_25 : decode b_MW_readRule 25 = .ok (.istore_n 1, 1) := by decide +kernel
theorem d_MW_readRule_26 : decode b_MW_readRule 26 = .ok (.iload_n 1, 1) := by decide +kernel
theorem d_MW_readRule_27 : decode b_MW_readRule 27 = .ok (.iconst (-1), 1) := by decide +kernel
theorem d_MW_readRule_28 : decode b_MW_readRule 28 = .ok (.if_icmp .eq 8, 3) := by decide +kernel
theorem d_MW_readRule_31 : decode b_MW_readRule 31 = .ok (.bipush (-100), 2) := by decide +kernel
theorem d_MW_readRule_33 : decode b_MW_readRule 33 = .ok (.iload_n 1, 1) := by decide +kernel
theorem d_MW_readRule_34 : decode b_MW_readRule 34 = .ok (.isub, 1) := by decide +kernel
theorem d_MW_readRule_35 : decode b_MW_readRule 35 = .ok (.ireturn, 1) := by decide +kernel
theorem d_MW_readRule_36 : decode b_MW_readRule 36 = .ok (.aload_n 0, 1) := by decide +kernel
theorem d_MW_readRule_37 : decode b_MW_readRule 37 = .ok (.invokevirtual 105, 3) := by decide +kernel
theorem d_MW_readRule_40 : decode b_MW_readRule 40 = .ok (.ifCond .eq 13, 3) := by decide +kernel
theorem d_MW_readRule_43 : decode b_MW_readRule 43 = .ok (.aload_n 0, 1) := by decide +kernel
theorem d_MW_readRule_44 : decode b_MW_readRule 44 = .ok (.getfield 33, 3) := by decide +kernel
theorem d_MW_readRule_47 : decode b_MW_readRule 47 = .ok (.invokevirtual 109, 3) := by decide +kernel
theorem d_MW_readRule_50 : decode b_MW_readRule 50 = .ok (.goto 5, 3) := by decide +kernel
theorem d_MW_readRule_53 : decode b_MW_readRule 53 = .ok (.bipush (-5), 2) := by decide +kernel
theorem d_MW_readRule_55 : decode b_MW_readRule 55 = .ok (.ireturn, 1) := by decide +kernel
theorem d_MW_square_0 : decode b_MW_square 0 = .ok (.aload_n 0, 1) := by decide +kernel
theorem d_MW_square_1 : decode b_MW_square 1 = .ok (.getfield 40, 3) := by decide +kernel
theorem d_MW_square_4 : decode b_MW_square 4 = .ok (.aload_n 0, 1) := by decide +kernel
theorem d_MW_square_5 : decode b_MW_square 5 = .ok (.getfield 10, 3) := by decide +kernel
theorem d_MW_square_8 : decode b_MW_square 8 = .ok (.getfield 94, 3) := by decide +kernel
theorem d_MW_square_11 : decode b_MW_square 11 = .ok (.invokevirtual 113, 3) := by decide +kernel
theorem d_MW_square_14 : decode b_MW_square 14 = .ok (.ifCond .ne 6, 3) := by decide +kernel
theorem d_MW_square_17 : decode b_MW_square 17 = .ok (.bipush (-3), 2) := by decide +kernel
theorem d_MW_square_19 : decode b_MW_square 19 = .ok (.ireturn, 1) := by decide +kernel
theorem d_MW_square_20 : decode b_MW_square 20 = .ok (.aload_n 0, 1) := by decide +kernel
theorem d_MW_square_21 : decode b_MW_square 21 = .ok (.invokevirtual 105, 3) := by decide +kernel
theorem d_MW_square_24 : decode b_MW_square 24 = .ok (.ifCond .eq 16, 3) := by decide +kernel
theorem d_MW_square_27 : decode b_MW_square 27 = .ok (.aload_n 0, 1) := by decide +kernel
theorem d_MW_square_28 : decode b_MW_square 28 = .ok (.getfield 10, 3) := by decide +kernel
theorem d_MW_square_31 : decode b_MW_square 31 = .ok (.getfield 94, 3) := by decide +kernel
theorem d_MW_square_34 : decode b_MW_square 34 = .ok (.invokevirtual 117, 3) := by decide +kernel
theorem d_MW_square_37 : decode b_MW_square 37 = .ok (.goto 5, 3) := by decide +kernel
theorem d_MW_square_40 : decode b_MW_square 40 = .ok (.bipush (-5), 2) := by decide +kernel
theorem d_MW_square_42 : decode b_MW_square 42 = .ok (.ireturn, 1) := by decide +kernel
theorem d_MW_shift_0 : decode b_MW_shift 0 = .ok (.aload_n 0, 1) := by decide +kernel
theorem d_MW_shift_1 : decode b_MW_shift 1 = .ok (.getfield 10, 3) := by decide +kernel
theorem d_MW_shift_4 : decode b_MW_shift 4 = .ok (.getfield 94, 3) := by decide +kernel
theorem d_MW_shift_7 : decode b_MW_shift 7 = .ok (.iload_n 1, 1) := by decide +kernel
theorem d_MW_shift_8 : decode b_MW_shift 8 = .ok (.invokevirtual 120, 3) := by decide +kernel
theorem d_MW_shift_11 : decode b_MW_shift 11 = .ok (.istore_n 2, 1) := by decide +kernel
theorem d_MW_shift_12 : decode b_MW_shift 12 = .ok (.iload_n 2, 1) := by decide +kernel
theorem d_MW_shift_13 : decode b_MW_shift 13 = .ok (.iconst (-1), 1) := by decide +kernel
theorem d_MW_shift_14 : decode b_MW_shift 14 = .ok (.if_icmp .ne 6, 3) := by decide +kernel
theorem d_MW_shift_17 : decode b_MW_shift 17 = .ok (.bipush (-4), 2) := by decide +kernel
theorem d_MW_shift_19 : decode b_MW_shift 19 = .ok (.ireturn, 1) := by decide +kernel
theorem d_MW_shift_20 : decode b_MW_shift 20 = .ok (.aload_n 0, 1) := by decide +kernel
theorem d_MW_shift_21 : decode b_MW_shift 21 = .ok (.getfield 40, 3) := by decide +kernel
theorem d_MW_shift_24 : decode b_MW_shift 24 = .ok (.aload_n 0, 1) := by decide +kernel
theorem d_MW_shift_25 : decode b_MW_shift 25 = .ok (.getfield 10, 3) := by decide +kernel
theorem d_MW_shift_28 : decode b_MW_shift 28 = .ok (.getfield 94, 3) := by decide +kernel
theorem d_MW_shift_31 : decode b_MW_shift 31 = .ok (.invokevirtual 97, 3) := by decide +kernel
theorem d_MW_shift_34 : decode b_MW_shift 34 = .ok (.aload_n 0, 1) := by decide +kernel
theorem d_MW_shift_35 : decode b_MW_shift 35 = .ok (.getfield 40, 3) := by decide +kernel
theorem d_MW_shift_38 : decode b_MW_shift 38 = .ok (.iload_n 1, 1) := by decide +kernel
theorem d_MW_shift_39 : decode b_MW_shift 39 = .ok (.invokevirtual 124, 3) := by decide +kernel
theorem d_MW_shift_42 : decode b_MW_shift 42 = .ok (.aload_n 0, 1) := by decide +kernel
theorem d_MW_shift_43 : decode b_MW_shift 43 = .ok (.invokevirtual 105, 3) := by decide +kernel
theorem d_MW_shift_46 : decode b_MW_shift 46 = .ok (.ifCond .eq 7, 3) := by decide +kernel
theorem d_MW_shift_49 : decode b_MW_shift 49 = .ok (.iload_n 2, 1) := by decide +kernel
theorem d_MW_shift_50 : decode b_MW_shift 50 = .ok (.goto 5, 3) := by decide +kernel
theorem d_MW_shift_53 : decode b_MW_shift 53 = .ok (.bipush (-5), 2) := by decide +kernel
theorem d_MW_shift_55 : decode b_MW_shift 55 = .ok (.ireturn, 1) := by decide +kernel
theorem d_MW_swap_0 : decode b_MW_swap 0 = .ok (.iload_n 1, 1) := by decide +kernel
theorem d_MW_swap_1 : decode b_MW_swap 1 = .ok (.invokestatic 128, 3) := by decide +kernel
theorem d_MW_swap_4 : decode b_MW_swap 4 = .ok (.ifCond .eq 10, 3) := by decide +kernel
theorem d_MW_swap_7 : decode b_MW_swap 7 = .ok (.iload_n 2, 1) := by decide +kernel
theorem d_MW_swap_8 : decode b_MW_swap 8 = .ok (.invokestatic 128, 3) := by decide +kernel
theorem d_MW_swap_11 : decode b_MW_swap 11 = .ok (.ifCond .ne 5, 3) := by decide +kernel
theorem d_MW_swap_14 : decode b_MW_swap 14 = .ok (.iconst (-1), 1) := by decide +kernel
theorem d_MW_swap_15 : decode b_MW_swap 15 = .ok (.ireturn, 1) := by decide +kernel
theorem d_MW_swap_16 : decode b_MW_swap 16 = .ok (.iload_n 1, 1) := by decide +kernel
theorem d_MW_swap_17 : decode b_MW_swap 17 = .ok (.iload_n 2, 1) := by decide +kernel
theorem d_MW_swap_18 : decode b_MW_swap 18 = .ok (.if_icmp .ne 6, 3) := by decide +kernel
theorem d_MW_swap_21 : decode b_MW_swap 21 = .ok (.bipush (-5), 2) := by decide +kernel
theorem d_MW_swap_23 : decode b_MW_swap 23 = .ok (.ireturn, 1) := by decide +kernel
theorem d_MW_swap_24 : decode b_MW_swap 24 = .ok (.aload_n 0, 1) := by decide +kernel
theorem d_MW_swap_25 : decode b_MW_swap 25 = .ok (.getfield 10, 3) := by decide +kernel
theorem d_MW_swap_28 : decode b_MW_swap 28 = .ok (.getfield 132, 3) := by decide +kernel
theorem d_MW_swap_31 : decode b_MW_swap 31 = .ok (.iload_n 1, 1) := by decide +kernel
theorem d_MW_swap_32 : decode b_MW_swap 32 = .ok (.invokevirtual 135, 3) := by decide +kernel
theorem d_MW_swap_35 : decode b_MW_swap 35 = .ok (.aload_n 0, 1) := by decide +kernel
theorem d_MW_swap_36 : decode b_MW_swap 36 = .ok (.getfield 10, 3) := by decide +kernel
theorem d_MW_swap_39 : decode b_MW_swap 39 = .ok (.getfield 132, 3) := by decide +kernel
theorem d_MW_swap_42 : decode b_MW_swap 42 = .ok (.iload_n 2, 1) := by decide +kernel
theorem d_MW_swap_43 : decode b_MW_swap 43 = .ok (.invokevirtual 135, 3) := by decide +kernel
theorem d_MW_swap_46 : decode b_MW_swap 46 = .ok (.iadd, 1) := by decide +kernel
theorem d_MW_swap_47 : decode b_MW_swap 47 = .ok (.istore_n 3, 1) := by decide +kernel
theorem d_MW_swap_48 : decode b_MW_swap 48 = .ok (.aload_n 0, 1) := by decide +kernel
theorem d_MW_swap_49 : decode b_MW_swap 49 = .ok (.getfield 26, 3) := by decide +kernel
theorem d_MW_swap_52 : decode b_MW_swap 52 = .ok (.aload_n 0, 1) := by decide +kernel
theorem d_MW_swap_53 : decode b_MW_swap 53 = .ok (.getfield 10, 3) := by decide +kernel
theorem d_MW_swap_56 : decode b_MW_swap 56 = .ok (.invokevirtual 139, 3) := by decide +kernel
theorem d_MW_swap_59 : decode b_MW_swap 59 = .ok (.aload_n 0, 1) := by decide +kernel
theorem d_MW_swap_60 : decode b_MW_swap 60 = .ok (.getfield 10, 3) := by decide +kernel
theorem d_MW_swap_63 : decode b_MW_swap 63 = .ok (.getfield 94, 3) := by decide +kernel
theorem d_MW_swap_66 : decode b_MW_swap 66 = .ok (.iload_n 1, 1) := by decide +kernel
theorem d_MW_swap_67 : decode b_MW_swap 67 = .ok (.iload_n 2, 1) := by decide +kernel
theorem d_MW_swap_68 : decode b_MW_swap 68 = .ok (.invokevirtual 143, 3) := by decide +kernel
theorem d_MW_swap_71 : decode b_MW_swap 71 = .ok (.aload_n 0, 1) := by decide +kernel
theorem d_MW_swap_72 : decode b_MW_swap 72 = .ok (.getfield 10, 3) := by decide +kernel
theorem d_MW_swap_75 : decode b_MW_swap 75 = .ok (.getfield 132, 3) := by decide +kernel
theorem d_MW_swap_78 : decode b_MW_swap 78 = .ok (.iload_n 1, 1) := by decide +kernel
theorem d_MW_swap_79 : decode b_MW_swap 79 = .ok (.iload_n 2, 1) := by decide +kernel
theorem d_MW_swap_80 : decode b_MW_swap 80 = .ok (.invokevirtual 147, 3) := by decide +kernel
theorem d_MW_swap_83 : decode b_MW_swap 83 = .ok (.iload_n 3, 1) := by decide +kernel
theorem d_MW_swap_84 : decode b_MW_swap 84 = .ok (.ireturn, 1) := by decide +kernel
theorem d_MW_start_0 : decode b_MW_start 0 = .ok (.iload_n 1, 1) := by decide +kernel
theorem d_MW_start_1 : decode b_MW_start 1 = .ok (.invokestatic 128, 3) := by decide +kernel
theorem d_MW_start_4 : decode b_MW_start 4 = .ok (.ifCond .ne 5, 3) := by decide +kernel
theorem d_MW_start_7 : decode b_MW_start 7 = .ok (.iconst (-1), 1) := by decide +kernel
theorem d_MW_start_8 : decode b_MW_start 8 = .ok (.ireturn, 1) := by decide +kernel
theorem d_MW_start_9 : decode b_MW_start 9 = .ok (.aload_n 0, 1) := by decide +kernel
theorem d_MW_start_10 : decode b_MW_start 10 = .ok (.getfield 10, 3) := by decide +kernel
theorem d_MW_start_13 : decode b_MW_start 13 = .ok (.getfield 132, 3) := by decide +kernel
theorem d_MW_start_16 : decode b_MW_start 16 = .ok (.invokevirtual 148, 3) := by decide +kernel
theorem d_MW_start_19 : decode b_MW_start 19 = .ok (.istore_n 2, 1) := by decide +kernel
theorem d_MW_start_20 : decode b_MW_start 20 = .ok (.aload_n 0, 1) := by decide +kernel
theorem d_MW_start_21 : decode b_MW_start 21 = .ok (.getfield 49, 3) := by decide +kernel
theorem d_MW_start_24 : decode b_MW_start 24 = .ok (.invokevirtual 151, 3) := by decide +kernel
theorem d_MW_start_27 : decode b_MW_start 27 = .ok (.aload_n 0, 1) := by decide +kernel
theorem d_MW_start_28 : decode b_MW_start 28 = .ok (.getfield 49, 3) := by decide +kernel
theorem d_MW_start_31 : decode b_MW_start 31 = .ok (.iload_n 1, 1) := by decide +kernel
theorem d_MW_start_32 : decode b_MW_start 32 = .ok (.invokevirtual 154, 3) := by decide +kernel
theorem d_MW_start_35 : decode b_MW_start 35 = .ok (.pop, 1) := by decide +kernel
theorem d_MW_start_36 : decode b_MW_start 36 = .ok (.aload_n 0, 1) := by decide +kernel
theorem d_MW_start_37 : decode b_MW_start 37 = .ok (.invokevirtual 157, 3) := by decide +kernel
theorem d_MW_start_40 : decode b_MW_start 40 = .ok (.ifCond .eq 7, 3) := by decide +kernel
theorem d_MW_start_43 : decode b_MW_start 43 = .ok (.iload_n 2, 1) := by decide +kernel
theorem d_MW_start_44 : decode b_MW_start 44 = .ok (.goto 5, 3) := by decide +kernel
theorem d_MW_start_47 : decode b_MW_start 47 = .ok (.bipush (-5), 2) := by decide +kernel
theorem d_MW_start_49 : decode b_MW_start 49 = .ok (.ireturn, 1) := by decide +kernel
theorem d_MW_grow_0 : decode b_MW_grow 0 = .ok (.iload_n 1, 1) := by decide +kernel
theorem d_MW_grow_1 : decode b_MW_grow 1 = .ok (.iconst 1, 1) := by decide +kernel
theorem d_MW_grow_2 : decode b_MW_grow 2 = .ok (.if_icmp .lt 9, 3) := by decide +kernel
theorem d_MW_grow_5 : decode b_MW_grow 5 = .ok (.iload_n 1, 1) := by decide +kernel
theorem d_MW_grow_6 : decode b_MW_grow 6 = .ok (.bipush 20, 2) := by decide +kernel
theorem d_MW_grow_8 : decode b_MW_grow 8 = .ok (.if_icmp .le 6, 3) := by decide +kernel
theorem d_MW_grow_11 : decode b_MW_grow 11 = .ok (.bipush (-2), 2) := by decide +kernel
theorem d_MW_grow_13 : decode b_MW_grow 13 = .ok (.ireturn, 1) := by decide +kernel
theorem d_MW_grow_14 : decode b_MW_grow 14 = .ok (.aload_n 0, 1) := by decide +kernel
theorem d_MW_grow_15 : decode b_MW_grow 15 = .ok (.getfield 49, 3) := by decide +kernel
theorem d_MW_grow_18 : decode b_MW_grow 18 = .ok (.aload_n 0, 1) := by decide +kernel
theorem d_MW_grow_19 : decode b_MW_grow 19 = .ok (.getfield 10, 3) := by decide +kernel
theorem d_MW_grow_22 : decode b_MW_grow 22 = .ok (.getfield 132, 3) := by decide +kernel
theorem d_MW_grow_25 : decode b_MW_grow 25 = .ok (.invokevirtual 160, 3) := by decide +kernel
theorem d_MW_grow_28 : decode b_MW_grow 28 = .ok (.iconst 0, 1) := by decide +kernel
theorem d_MW_grow_29 : decode b_MW_grow 29 = .ok (.istore_n 2, 1) := by decide +kernel
theorem d_MW_grow_30 : decode b_MW_grow 30 = .ok (.iload_n 2, 1) := by decide +kernel
theorem d_MW_grow_31 : decode b_MW_grow 31 = .ok (.iload_n 1, 1) := by decide +kernel
theorem d_MW_grow_32 : decode b_MW_grow 32 = .ok (.if_icmp .ge 46, 3) := by decide +kernel
theorem d_MW_grow_35 : decode b_MW_grow 35 = .ok (.aload_n 0, 1) := by decide +kernel
theorem d_MW_grow_36 : decode b_MW_grow 36 = .ok (.getfield 53, 3) := by decide +kernel
theorem d_MW_grow_39 : decode b_MW_grow 39 = .ok (.invokevirtual 151, 3) := by decide +kernel
theorem d_MW_grow_42 : decode b_MW_grow 42 = .ok (.aload_n 0, 1) := by decide +kernel
theorem d_MW_grow_43 : decode b_MW_grow 43 = .ok (.getfield 10, 3) := by decide +kernel
theorem d_MW_grow_46 : decode b_MW_grow 46 = .ok (.getfield 94, 3) := by decide +kernel
theorem d_MW_grow_49 : decode b_MW_grow 49 = .ok (.aload_n 0, 1) := by decide +kernel
theorem d_MW_grow_50 : decode b_MW_grow 50 = .ok (.getfield 49, 3) := by decide +kernel
theorem d_MW_grow_53 : decode b_MW_grow 53 = .ok (.aload_n 0, 1) := by decide +kernel
theorem d_MW_grow_54 : decode b_MW_grow 54 = .ok (.getfield 53, 3) := by decide +kernel
theorem d_MW_grow_57 : decode b_MW_grow 57 = .ok (.invokevirtual 163, 3) := by decide +kernel
theorem d_MW_grow_60 : decode b_MW_grow 60 = .ok (.pop, 1) := by decide +kernel
theorem d_MW_grow_61 : decode b_MW_grow 61 = .ok (.aload_n 0, 1) := by decide +kernel
theorem d_MW_grow_62 : decode b_MW_grow 62 = .ok (.getfield 49, 3) := by decide +kernel
theorem d_MW_grow_65 : decode b_MW_grow 65 = .ok (.aload_n 0, 1) := by decide +kernel
theorem d_MW_grow_66 : decode b_MW_grow 66 = .ok (.getfield 53, 3) := by decide +kernel
theorem d_MW_grow_69 : decode b_MW_grow 69 = .ok (.invokevirtual 160, 3) := by decide +kernel
theorem d_MW_grow_72 : decode b_MW_grow 72 = .ok (.iinc 2 1, 3) := by decide +kernel
theorem d_MW_grow_75 : decode b_MW_grow 75 = .ok (.goto (-45), 3) := by decide +kernel
theorem d_MW_grow_78 : decode b_MW_grow 78 = .ok (.aload_n 0, 1) := by decide +kernel
theorem d_MW_grow_79 : decode b_MW_grow 79 = .ok (.invokevirtual 157, 3) := by decide +kernel
theorem d_MW_grow_82 : decode b_MW_grow 82 = .ok (.ifCond .eq 16, 3) := by decide +kernel
theorem d_MW_grow_85 : decode b_MW_grow 85 = .ok (.aload_n 0, 1) := by decide +kernel
theorem d_MW_grow_86 : decode b_MW_grow 86 = .ok (.getfield 10, 3) := by decide +kernel
theorem d_MW_grow_89 : decode b_MW_grow 89 = .ok (.getfield 132, 3) := by decide +kernel
theorem d_MW_grow_92 : decode b_MW_grow 92 = .ok (.invokevirtual 148, 3) := by decide +kernel
theorem d_MW_grow_95 : decode b_MW_grow 95 = .ok (.goto 5, 3) := by decide +kernel
theorem d_MW_grow_98 : decode b_MW_grow 98 = .ok (.bipush (-5), 2) := by decide +kernel
theorem d_MW_grow_100 : decode b_MW_grow 100 = .ok (.ireturn, 1) := by decide +kernel
theorem d_MW_cut_0 : decode b_MW_cut 0 = .ok (.aload_n 0, 1) := by decide +kernel
theorem d_MW_cut_1 : decode b_MW_cut 1 = .ok (.getfield 10, 3) := by decide +kernel
theorem d_MW_cut_4 : decode b_MW_cut 4 = .ok (.getfield 132, 3) := by decide +kernel
theorem d_MW_cut_7 : decode b_MW_cut 7 = .ok (.invokevirtual 148, 3) := by decide +kernel
theorem d_MW_cut_10 : decode b_MW_cut 10 = .ok (.istore_n 2, 1) := by decide +kernel
theorem d_MW_cut_11 : decode b_MW_cut 11 = .ok (.iload_n 1, 1) := by decide +kernel
theorem d_MW_cut_12 : decode b_MW_cut 12 = .ok (.iconst 1, 1) := by decide +kernel
theorem d_MW_cut_13 : decode b_MW_cut 13 = .ok (.if_icmp .lt 8, 3) := by decide +kernel
theorem d_MW_cut_16 : decode b_MW_cut 16 = .ok (.iload_n 1, 1) := by decide +kernel
theorem d_MW_cut_17 : decode b_MW_cut 17 = .ok (.iload_n 2, 1) := by decide +kernel
theorem d_MW_cut_18 : decode b_MW_cut 18 = .ok (.if_icmp .le 6, 3) := by decide +kernel
theorem d_MW_cut_21 : decode b_MW_cut 21 = .ok (.bipush (-2), 2) := by decide +kernel
theorem d_MW_cut_23 : decode b_MW_cut 23 = .ok (.ireturn, 1) := by decide +kernel
theorem d_MW_cut_24 : decode b_MW_cut 24 = .ok (.aload_n 0, 1) := by decide +kernel
theorem d_MW_cut_25 : decode b_MW_cut 25 = .ok (.getfield 49, 3) := by decide +kernel
theorem d_MW_cut_28 : decode b_MW_cut 28 = .ok (.aload_n 0, 1) := by decide +kernel
theorem d_MW_cut_29 : decode b_MW_cut 29 = .ok (.getfield 10, 3) := by decide +kernel
theorem d_MW_cut_32 : decode b_MW_cut 32 = .ok (.getfield 132, 3) := by decide +kernel
theorem d_MW_cut_35 : decode b_MW_cut 35 = .ok (.invokevirtual 160, 3) := by decide +kernel
theorem d_MW_cut_38 : decode b_MW_cut 38 = .ok (.aload_n 0, 1) := by decide +kernel
theorem d_MW_cut_39 : decode b_MW_cut 39 = .ok (.getfield 49, 3) := by decide +kernel
theorem d_MW_cut_42 : decode b_MW_cut 42 = .ok (.iload_n 1, 1) := by decide +kernel
theorem d_MW_cut_43 : decode b_MW_cut 43 = .ok (.invokevirtual 167, 3) := by decide +kernel
theorem d_MW_cut_46 : decode b_MW_cut 46 = .ok (.aload_n 0, 1) := by decide +kernel
theorem d_MW_cut_47 : decode b_MW_cut 47 = .ok (.invokevirtual 157, 3) := by decide +kernel
theorem d_MW_cut_50 : decode b_MW_cut 50 = .ok (.ifCond .eq 9, 3) := by decide +kernel
theorem d_MW_cut_53 : decode b_MW_cut 53 = .ok (.iload_n 2, 1) := by decide +kernel
theorem d_MW_cut_54 : decode b_MW_cut 54 = .ok (.iload_n 1, 1) := by decide +kernel
theorem d_MW_cut_55 : decode b_MW_cut 55 = .ok (.isub, 1) := by decide +kernel
theorem d_MW_cut_56 : decode b_MW_cut 56 = .ok (.goto 5, 3) := by decide +kernel
theorem d_MW_cut_59 : decode b_MW_cut 59 = .ok (.bipush (-5), 2) := by decide +kernel
theorem d_MW_cut_61 : decode b_MW_cut 61 = .ok (.ireturn, 1) := by decide +kernel
theorem d_MW_derive_0 : decode b_MW_derive 0 = .ok (.aload_n 0, 1) := by decide +kernel
theorem d_MW_derive_1 : decode b_MW_derive 1 = .ok (.getfield 90, 3) := by decide +kernel
theorem d_MW_derive_4 : decode b_MW_derive 4 = .ok (.aload_n 0, 1) := by decide +kernel
theorem d_MW_derive_5 : decode b_MW_derive 5 = .ok (.getfield 10, 3) := by decide +kernel
theorem d_MW_derive_8 : decode b_MW_derive 8 = .ok (.getfield 132, 3) := by decide +kernel
theorem d_MW_derive_11 : decode b_MW_derive 11 = .ok (.aload_n 0, 1) := by decide +kernel
theorem d_MW_derive_12 : decode b_MW_derive 12 = .ok (.getfield 10, 3) := by decide +kernel
theorem d_MW_derive_15 : decode b_MW_derive 15 = .ok (.getfield 170, 3) := by decide +kernel
theorem d_MW_derive_18 : decode b_MW_derive 18 = .ok (.invokevirtual 173, 3) := by decide +kernel
theorem d_MW_derive_21 : decode b_MW_derive 21 = .ok (.aload_n 0, 1) := by decide +kernel
theorem d_MW_derive_22 : decode b_MW_derive 22 = .ok (.getfield 90, 3) := by decide +kernel
theorem d_MW_derive_25 : decode b_MW_derive 25 = .ok (.invokevirtual 177, 3) := by decide +kernel
theorem d_MW_derive_28 : decode b_MW_derive 28 = .ok (.iconst 1, 1) := by decide +kernel
theorem d_MW_derive_29 : decode b_MW_derive 29 = .ok (.if_icmp .lt 14, 3) := by decide +kernel
theorem d_MW_derive_32 : decode b_MW_derive 32 = .ok (.aload_n 0, 1) := by decide +kernel
theorem d_MW_derive_33 : decode b_MW_derive 33 = .ok (.getfield 90, 3) := by decide +kernel
theorem d_MW_derive_36 : decode b_MW_derive 36 = .ok (.invokevirtual 180, 3) := by decide +kernel
theorem d_MW_derive_39 : decode b_MW_derive 39 = .ok (.iconst 4, 1) := by decide +kernel
theorem d_MW_derive_40 : decode b_MW_derive 40 = .ok (.if_icmp .le 6, 3) := by decide +kernel
theorem d_MW_derive_43 : decode b_MW_derive 43 = .ok (.bipush (-4), 2) := by decide +kernel
theorem d_MW_derive_45 : decode b_MW_derive 45 = .ok (.ireturn, 1) := by decide +kernel
theorem d_MW_derive_46 : decode b_MW_derive 46 = .ok (.aload_n 0, 1) := by decide +kernel
theorem d_MW_derive_47 : decode b_MW_derive 47 = .ok (.getfield 49, 3) := by decide +kernel
theorem d_MW_derive_50 : decode b_MW_derive 50 = .ok (.invokevirtual 151, 3) := by decide +kernel
theorem d_MW_derive_53 : decode b_MW_derive 53 = .ok (.iconst 0, 1) := by decide +kernel
theorem d_MW_derive_54 : decode b_MW_derive 54 = .ok (.istore_n 1, 1) := by decide +kernel
theorem d_MW_derive_55 : decode b_MW_derive 55 = .ok (.iload_n 1, 1) := by decide +kernel
theorem d_MW_derive_56 : decode b_MW_derive 56 = .ok (.aload_n 0, 1) := by decide +kernel
theorem d_MW_derive_57 : decode b_MW_derive 57 = .ok (.getfield 90, 3) := by decide +kernel
theorem d_MW_derive_60 : decode b_MW_derive 60 = .ok (.invokevirtual 177, 3) := by decide +kernel
theorem d_MW_derive_63 : decode b_MW_derive 63 = .ok (.if_icmp .ge 25, 3) := by decide +kernel
theorem d_MW_derive_66 : decode b_MW_derive 66 = .ok (.aload_n 0, 1) := by decide +kernel
theorem d_MW_derive_67 : decode b_MW_derive 67 = .ok (.getfield 49, 3) := by decide +kernel
theorem d_MW_derive_70 : decode b_MW_derive 70 = .ok (.aload_n 0, 1) := by decide +kernel
theorem d_MW_derive_71 : decode b_MW_derive 71 = .ok (.getfield 90, 3) := by decide +kernel
theorem d_MW_derive_74 : decode b_MW_derive 74 = .ok (.iload_n 1, 1) := by decide +kernel
theorem d_MW_derive_75 : decode b_MW_derive 75 = .ok (.invokevirtual 183, 3) := by decide +kernel
theorem d_MW_derive_78 : decode b_MW_derive 78 = .ok (.invokevirtual 154, 3) := by decide +kernel
theorem d_MW_derive_81 : decode b_MW_derive 81 = .ok (.pop, 1) := by decide +kernel
theorem d_MW_derive_82 : decode b_MW_derive 82 = .ok (.iinc 1 1, 3) := by decide +kernel
theorem d_MW_derive_85 : decode b_MW_derive 85 = .ok (.goto (-30), 3) := by decide +kernel
theorem d_MW_derive_88 : decode b_MW_derive 88 = .ok (.aload_n 0, 1) := by decide +kernel
theorem d_MW_derive_89 : decode b_MW_derive 89 = .ok (.invokevirtual 157, 3) := by decide +kernel
theorem d_MW_derive_92 : decode b_MW_derive 92 = .ok (.ifCond .eq 16, 3) := by decide +kernel
theorem d_MW_derive_95 : decode b_MW_derive 95 = .ok (.aload_n 0, 1) := by decide +kernel
theorem d_MW_derive_96 : decode b_MW_derive 96 = .ok (.getfield 10, 3) := by decide +kernel
theorem d_MW_derive_99 : decode b_MW_derive 99 = .ok (.getfield 132, 3) := by decide +kernel
theorem d_MW_derive_102 : decode b_MW_derive 102 = .ok (.invokevirtual 148, 3) := by decide +kernel
theorem d_MW_derive_105 : decode b_MW_derive 105 = .ok (.goto 5, 3) := by decide +kernel
theorem d_MW_derive_108 : decode b_MW_derive 108 = .ok (.bipush (-5), 2) := by decide +kernel
theorem d_MW_derive_110 : decode b_MW_derive 110 = .ok (.ireturn, 1) := by decide +kernel
theorem d_MW_look_0 : decode b_MW_look 0 = .ok (.aload_n 0, 1) := by decide +kernel
theorem d_MW_look_1 : decode b_MW_look 1 = .ok (.getfield 33, 3) := by decide +kernel
theorem d_MW_look_4 : decode b_MW_look 4 = .ok (.aload_n 0, 1) := by decide +kernel
theorem d_MW_look_5 : decode b_MW_look 5 = .ok (.getfield 56, 3) := by decide +kernel
theorem d_MW_look_8 : decode b_MW_look 8 = .ok (.invokevirtual 186, 3) := by decide +kernel
theorem d_MW_look_11 : decode b_MW_look 11 = .ok (.istore_n 1, 1) := by decide +kernel
theorem d_MW_look_12 : decode b_MW_look 12 = .ok (.iload_n 1, 1) := by decide +kernel
theorem d_MW_look_13 : decode b_MW_look 13 = .ok (.iconst (-1), 1) := by decide +kernel
theorem d_MW_look_14 : decode b_MW_look 14 = .ok (.if_icmp .eq 8, 3) := by decide +kernel
theorem d_MW_look_17 : decode b_MW_look 17 = .ok (.bipush (-100), 2) := by decide +kernel
theorem d_MW_look_19 : decode b_MW_look 19 = .ok (.iload_n 1, 1) := by decide +kernel
theorem d_MW_look_20 : decode b_MW_look 20 = .ok (.isub, 1) := by decide +kernel
theorem d_MW_look_21 : decode b_MW_look 21 = .ok (.ireturn, 1) := by decide +kernel
theorem d_MW_look_22 : decode b_MW_look 22 = .ok (.aload_n 0, 1) := by decide +kernel
theorem d_MW_look_23 : decode b_MW_look 23 = .ok (.getfield 56, 3) := by decide +kernel
theorem d_MW_look_26 : decode b_MW_look 26 = .ok (.aload_n 0, 1) := by decide +kernel
theorem d_MW_look_27 : decode b_MW_look 27 = .ok (.getfield 10, 3) := by decide +kernel
theorem d_MW_look_30 : decode b_MW_look 30 = .ok (.getfield 170, 3) := by decide +kernel
theorem d_MW_look_33 : decode b_MW_look 33 = .ok (.invokevirtual 189, 3) := by decide +kernel
theorem d_MW_look_36 : decode b_MW_look 36 = .ok (.ifCond .eq 6, 3) := by decide +kernel
theorem d_MW_look_39 : decode b_MW_look 39 = .ok (.bipush (-5), 2) := by decide +kernel
theorem d_MW_look_41 : decode b_MW_look 41 = .ok (.ireturn, 1) := by decide +kernel
theorem d_MW_look_42 : decode b_MW_look 42 = .ok (.aload_n 0, 1) := by decide +kernel
theorem d_MW_look_43 : decode b_MW_look 43 = .ok (.getfield 26, 3) := by decide +kernel
theorem d_MW_look_46 : decode b_MW_look 46 = .ok (.aload_n 0, 1) := by decide +kernel
theorem d_MW_look_47 : decode b_MW_look 47 = .ok (.getfield 10, 3) := by decide +kernel
theorem d_MW_look_50 : decode b_MW_look 50 = .ok (.invokevirtual 139, 3) := by decide +kernel
theorem d_MW_look_53 : decode b_MW_look 53 = .ok (.aload_n 0, 1) := by decide +kernel
theorem d_MW_look_54 : decode b_MW_look 54 = .ok (.getfield 10, 3) := by decide +kernel
theorem d_MW_look_57 : decode b_MW_look 57 = .ok (.getfield 170, 3) := by decide +kernel
theorem d_MW_look_60 : decode b_MW_look 60 = .ok (.aload_n 0, 1) := by decide +kernel
theorem d_MW_look_61 : decode b_MW_look 61 = .ok (.getfield 56, 3) := by decide +kernel
theorem d_MW_look_64 : decode b_MW_look 64 = .ok (.invokevirtual 160, 3) := by decide +kernel
theorem d_MW_look_67 : decode b_MW_look 67 = .ok (.aload_n 0, 1) := by decide +kernel
theorem d_MW_look_68 : decode b_MW_look 68 = .ok (.getfield 90, 3) := by decide +kernel
theorem d_MW_look_71 : decode b_MW_look 71 = .ok (.aload_n 0, 1) := by decide +kernel
theorem d_MW_look_72 : decode b_MW_look 72 = .ok (.getfield 10, 3) := by decide +kernel
theorem d_MW_look_75 : decode b_MW_look 75 = .ok (.getfield 132, 3) := by decide +kernel
theorem d_MW_look_78 : decode b_MW_look 78 = .ok (.aload_n 0, 1) := by decide +kernel
theorem d_MW_look_79 : decode b_MW_look 79 = .ok (.getfield 10, 3) := by decide +kernel
theorem d_MW_look_82 : decode b_MW_look 82 = .ok (.getfield 170, 3) := by decide +kernel
theorem d_MW_look_85 : decode b_MW_look 85 = .ok (.invokevirtual 173, 3) := by decide +kernel
theorem d_MW_look_88 : decode b_MW_look 88 = .ok (.aload_n 0, 1) := by decide +kernel
theorem d_MW_look_89 : decode b_MW_look 89 = .ok (.getfield 90, 3) := by decide +kernel
theorem d_MW_look_92 : decode b_MW_look 92 = .ok (.invokevirtual 193, 3) := by decide +kernel
theorem d_MW_look_95 : decode b_MW_look 95 = .ok (.ireturn, 1) := by decide +kernel
theorem d_MW_type_0 : decode b_MW_type 0 = .ok (.aload_n 0, 1) := by decide +kernel
theorem d_MW_type_1 : decode b_MW_type 1 = .ok (.getfield 33, 3) := by decide +kernel
theorem d_MW_type_4 : decode b_MW_type 4 = .ok (.iload_n 1, 1) := by decide +kernel
theorem d_MW_type_5 : decode b_MW_type 5 = .ok (.invokevirtual 196, 3) := by decide +kernel
theorem d_MW_type_8 : decode b_MW_type 8 = .ok (.ifCond .eq 13, 3) := by decide +kernel
theorem d_MW_type_11 : decode b_MW_type 11 = .ok (.aload_n 0, 1) := by decide +kernel
theorem d_MW_type_12 : decode b_MW_type 12 = .ok (.getfield 33, 3) := by decide +kernel
theorem d_MW_type_15 : decode b_MW_type 15 = .ok (.invokevirtual 199, 3) := by decide +kernel
theorem d_MW_type_18 : decode b_MW_type 18 = .ok (.goto 5, 3) := by decide +kernel
theorem d_MW_type_21 : decode b_MW_type 21 = .ok (.bipush (-3), 2) := by decide +kernel
theorem d_MW_type_23 : decode b_MW_type 23 = .ok (.ireturn, 1) := by decide +kernel
theorem d_MW_clearText_0 : decode b_MW_clearText 0 = .ok (.aload_n 0, 1) := by decide +kernel
theorem d_MW_clearText_1 : decode b_MW_clearText 1 = .ok (.getfield 33, 3) := by decide +kernel
theorem d_MW_clearText_4 : decode b_MW_clearText 4 = .ok (.invokevirtual 199, 3) := by decide +kernel
theorem d_MW_clearText_7 : decode b_MW_clearText 7 = .ok (.istore_n 1, 1) := by decide +kernel
theorem d_MW_clearText_8 : decode b_MW_clearText 8 = .ok (.aload_n 0, 1) := by decide +kernel
theorem d_MW_clearText_9 : decode b_MW_clearText 9 = .ok (.getfield 33, 3) := by decide +kernel
theorem d_MW_clearText_12 : decode b_MW_clearText 12 = .ok (.invokevirtual 200, 3) := by decide +kernel
theorem d_MW_clearText_15 : decode b_MW_clearText 15 = .ok (.iload_n 1, 1) := by decide +kernel
theorem d_MW_clearText_16 : decode b_MW_clearText 16 = .ok (.ireturn, 1) := by decide +kernel
theorem d_MW_undo_0 : decode b_MW_undo 0 = .ok (.aload_n 0, 1) := by decide +kernel
theorem d_MW_undo_1 : decode b_MW_undo 1 = .ok (.getfield 26, 3) := by decide +kernel
theorem d_MW_undo_4 : decode b_MW_undo 4 = .ok (.aload_n 0, 1) := by decide +kernel
theorem d_MW_undo_5 : decode b_MW_undo 5 = .ok (.getfield 10, 3) := by decide +kernel
theorem d_MW_undo_8 : decode b_MW_undo 8 = .ok (.invokevirtual 201, 3) := by decide +kernel
theorem d_MW_undo_11 : decode b_MW_undo 11 = .ok (.ifCond .eq 13, 3) := by decide +kernel
theorem d_MW_undo_14 : decode b_MW_undo 14 = .ok (.aload_n 0, 1) := by decide +kernel
theorem d_MW_undo_15 : decode b_MW_undo 15 = .ok (.getfield 26, 3) := by decide +kernel
theorem d_MW_undo_18 : decode b_MW_undo 18 = .ok (.invokevirtual 205, 3) := by decide +kernel
theorem d_MW_undo_21 : decode b_MW_undo 21 = .ok (.goto 5, 3) := by decide +kernel
theorem d_MW_undo_24 : decode b_MW_undo 24 = .ok (.bipush (-5), 2) := by decide +kernel
theorem d_MW_undo_26 : decode b_MW_undo 26 = .ok (.ireturn, 1) := by decide +kernel
theorem d_MW_keep_0 : decode b_MW_keep 0 = .ok (.aload_n 0, 1) := by decide +kernel
theorem d_MW_keep_1 : decode b_MW_keep 1 = .ok (.getfield 16, 3) := by decide +kernel
theorem d_MW_keep_4 : decode b_MW_keep 4 = .ok (.aload_n 0, 1) := by decide +kernel
theorem d_MW_keep_5 : decode b_MW_keep 5 = .ok (.getfield 10, 3) := by decide +kernel
theorem d_MW_keep_8 : decode b_MW_keep 8 = .ok (.invokevirtual 208, 3) := by decide +kernel
theorem d_MW_keep_11 : decode b_MW_keep 11 = .ok (.aload_n 0, 1) := by decide +kernel
theorem d_MW_keep_12 : decode b_MW_keep 12 = .ok (.iconst 1, 1) := by decide +kernel
theorem d_MW_keep_13 : decode b_MW_keep 13 = .ok (.putfield 19, 3) := by decide +kernel
theorem d_MW_keep_16 : decode b_MW_keep 16 = .ok (.aload_n 0, 1) := by decide +kernel
theorem d_MW_keep_17 : decode b_MW_keep 17 = .ok (.getfield 10, 3) := by decide +kernel
theorem d_MW_keep_20 : decode b_MW_keep 20 = .ok (.getfield 132, 3) := by decide +kernel
theorem d_MW_keep_23 : decode b_MW_keep 23 = .ok (.invokevirtual 148, 3) := by decide +kernel
theorem d_MW_keep_26 : decode b_MW_keep 26 = .ok (.ireturn, 1) := by decide +kernel
theorem d_MW_restore_0 : decode b_MW_restore 0 = .ok (.aload_n 0, 1) := by decide +kernel
theorem d_MW_restore_1 : decode b_MW_restore 1 = .ok (.getfield 19, 3) := by decide +kernel
theorem d_MW_restore_4 : decode b_MW_restore 4 = .ok (.ifCond .ne 6, 3) := by decide +kernel
theorem d_MW_restore_7 : decode b_MW_restore 7 = .ok (.bipush (-5), 2) := by decide +kernel
theorem d_MW_restore_9 : decode b_MW_restore 9 = .ok (.ireturn, 1) := by decide +kernel
theorem d_MW_restore_10 : decode b_MW_restore 10 = .ok (.aload_n 0, 1) := by decide +kernel
theorem d_MW_restore_11 : decode b_MW_restore 11 = .ok (.getfield 26, 3) := by decide +kernel
theorem d_MW_restore_14 : decode b_MW_restore 14 = .ok (.aload_n 0, 1) := by decide +kernel
theorem d_MW_restore_15 : decode b_MW_restore 15 = .ok (.getfield 10, 3) := by decide +kernel
theorem d_MW_restore_18 : decode b_MW_restore 18 = .ok (.invokevirtual 139, 3) := by decide +kernel
theorem d_MW_restore_21 : decode b_MW_restore 21 = .ok (.aload_n 0, 1) := by decide +kernel
theorem d_MW_restore_22 : decode b_MW_restore 22 = .ok (.getfield 10, 3) := by decide +kernel
theorem d_MW_restore_25 : decode b_MW_restore 25 = .ok (.aload_n 0, 1) := by decide +kernel
theorem d_MW_restore_26 : decode b_MW_restore 26 = .ok (.getfield 16, 3) := by decide +kernel
theorem d_MW_restore_29 : decode b_MW_restore 29 = .ok (.invokevirtual 208, 3) := by decide +kernel
theorem d_MW_restore_32 : decode b_MW_restore 32 = .ok (.aload_n 0, 1) := by decide +kernel
theorem d_MW_restore_33 : decode b_MW_restore 33 = .ok (.getfield 10, 3) := by decide +kernel
theorem d_MW_restore_36 : decode b_MW_restore 36 = .ok (.getfield 132, 3) := by decide +kernel
theorem d_MW_restore_39 : decode b_MW_restore 39 = .ok (.invokevirtual 148, 3) := by decide +kernel
theorem d_MW_restore_42 : decode b_MW_restore 42 = .ok (.ireturn, 1) := by decide +kernel
theorem d_MW_image_0 : decode b_MW_image 0 = .ok (.aload_n 0, 1) := by decide +kernel
theorem d_MW_image_1 : decode b_MW_image 1 = .ok (.getfield 10, 3) := by decide +kernel
theorem d_MW_image_4 : decode b_MW_image 4 = .ok (.getfield 94, 3) := by decide +kernel
theorem d_MW_image_7 : decode b_MW_image 7 = .ok (.iload_n 1, 1) := by decide +kernel
theorem d_MW_image_8 : decode b_MW_image 8 = .ok (.invokevirtual 210, 3) := by decide +kernel
theorem d_MW_image_11 : decode b_MW_image 11 = .ok (.iload_n 2, 1) := by decide +kernel
theorem d_MW_image_12 : decode b_MW_image 12 = .ok (.invokevirtual 214, 3) := by decide +kernel
theorem d_MW_image_15 : decode b_MW_image 15 = .ok (.istore_n 3, 1) := by decide +kernel
theorem d_MW_image_16 : decode b_MW_image 16 = .ok (.iload_n 3, 1) := by decide +kernel
theorem d_MW_image_17 : decode b_MW_image 17 = .ok (.iconst (-1), 1) := by decide +kernel
theorem d_MW_image_18 : decode b_MW_image 18 = .ok (.if_icmp .ne 7, 3) := by decide +kernel
theorem d_MW_image_21 : decode b_MW_image 21 = .ok (.iconst (-1), 1) := by decide +kernel
theorem d_MW_image_22 : decode b_MW_image 22 = .ok (.goto 4, 3) := by decide +kernel
theorem d_MW_image_25 : decode b_MW_image 25 = .ok (.iload_n 3, 1) := by decide +kernel
theorem d_MW_image_26 : decode b_MW_image 26 = .ok (.ireturn, 1) := by decide +kernel
theorem d_MW_rule_0 : decode b_MW_rule 0 = .ok (.iload_n 1, 1) := by decide +kernel
theorem d_MW_rule_1 : decode b_MW_rule 1 = .ok (.invokestatic 128, 3) := by decide +kernel
theorem d_MW_rule_4 : decode b_MW_rule 4 = .ok (.ifCond .ne 5, 3) := by decide +kernel
theorem d_MW_rule_7 : decode b_MW_rule 7 = .ok (.iconst (-1), 1) := by decide +kernel
theorem d_MW_rule_8 : decode b_MW_rule 8 = .ok (.ireturn, 1) := by decide +kernel
theorem d_MW_rule_9 : decode b_MW_rule 9 = .ok (.aload_n 0, 1) := by decide +kernel
theorem d_MW_rule_10 : decode b_MW_rule 10 = .ok (.getfield 10, 3) := by decide +kernel
theorem d_MW_rule_13 : decode b_MW_rule 13 = .ok (.getfield 94, 3) := by decide +kernel
theorem d_MW_rule_16 : decode b_MW_rule 16 = .ok (.iload_n 1, 1) := by decide +kernel
theorem d_MW_rule_17 : decode b_MW_rule 17 = .ok (.invokevirtual 210, 3) := by decide +kernel
theorem d_MW_rule_20 : decode b_MW_rule 20 = .ok (.astore_n 3, 1) := by decide +kernel
theorem d_MW_rule_21 : decode b_MW_rule 21 = .ok (.iload_n 2, 1) := by decide +kernel
theorem d_MW_rule_22 : decode b_MW_rule 22 = .ok (.tableswitch 75 0 3 #[30, 35, 40, 52], 30) := by decide +kernel
theorem d_MW_rule_52 : decode b_MW_rule 52 = .ok (.aload_n 3, 1) := by decide +kernel
theorem d_MW_rule_53 : decode b_MW_rule 53 = .ok (.invokevirtual 148, 3) := by decide +kernel
theorem d_MW_rule_56 : decode b_MW_rule 56 = .ok (.ireturn, 1) := by decide +kernel
theorem d_MW_rule_57 : decode b_MW_rule 57 = .ok (.aload_n 3, 1) := by decide +kernel
theorem d_MW_rule_58 : decode b_MW_rule 58 = .ok (.invokevirtual 217, 3) := by decide +kernel
theorem d_MW_rule_61 : decode b_MW_rule 61 = .ok (.ireturn, 1) := by decide +kernel
theorem d_MW_rule_62 : decode b_MW_rule 62 = .ok (.aload_n 0, 1) := by decide +kernel
theorem d_MW_rule_63 : decode b_MW_rule 63 = .ok (.getfield 10, 3) := by decide +kernel
theorem d_MW_rule_66 : decode b_MW_rule 66 = .ok (.getfield 94, 3) := by decide +kernel
theorem d_MW_rule_69 : decode b_MW_rule 69 = .ok (.iload_n 1, 1) := by decide +kernel
theorem d_MW_rule_70 : decode b_MW_rule 70 = .ok (.invokevirtual 220, 3) := by decide +kernel
theorem d_MW_rule_73 : decode b_MW_rule 73 = .ok (.ireturn, 1) := by decide +kernel
theorem d_MW_rule_74 : decode b_MW_rule 74 = .ok (.aload_n 3, 1) := by decide +kernel
theorem d_MW_rule_75 : decode b_MW_rule 75 = .ok (.iconst 0, 1) := by decide +kernel
theorem d_MW_rule_76 : decode b_MW_rule 76 = .ok (.invokevirtual 214, 3) := by decide +kernel
theorem d_MW_rule_79 : decode b_MW_rule 79 = .ok (.iload_n 1, 1) := by decide +kernel
theorem d_MW_rule_80 : decode b_MW_rule 80 = .ok (.if_icmp .ne 15, 3) := by decide +kernel
theorem d_MW_rule_83 : decode b_MW_rule 83 = .ok (.aload_n 3, 1) := by decide +kernel
theorem d_MW_rule_84 : decode b_MW_rule 84 = .ok (.invokevirtual 148, 3) := by decide +kernel
theorem d_MW_rule_87 : decode b_MW_rule 87 = .ok (.iconst 2, 1) := by decide +kernel
theorem d_MW_rule_88 : decode b_MW_rule 88 = .ok (.if_icmp .lt 7, 3) := by decide +kernel
theorem d_MW_rule_91 : decode b_MW_rule 91 = .ok (.iconst 1, 1) := by decide +kernel
theorem d_MW_rule_92 : decode b_MW_rule 92 = .ok (.goto 4, 3) := by decide +kernel
theorem d_MW_rule_95 : decode b_MW_rule 95 = .ok (.iconst 0, 1) := by decide +kernel
theorem d_MW_rule_96 : decode b_MW_rule 96 = .ok (.ireturn, 1) := by decide +kernel
theorem d_MW_rule_97 : decode b_MW_rule 97 = .ok (.bipush (-2), 2) := by decide +kernel
theorem d_MW_rule_99 : decode b_MW_rule 99 = .ok (.ireturn, 1) := by decide +kernel
theorem d_MW_lengthBehind_0 : decode b_MW_lengthBehind 0 = .ok (.iload_n 1, 1) := by decide +kernel
theorem d_MW_lengthBehind_1 : decode b_MW_lengthBehind 1 = .ok (.invokestatic 128, 3) := by decide +kernel
theorem d_MW_lengthBehind_4 : decode b_MW_lengthBehind 4 = .ok (.ifCond .ne 5, 3) := by decide +kernel
theorem d_MW_lengthBehind_7 : decode b_MW_lengthBehind 7 = .ok (.iconst (-1), 1) := by decide +kernel
theorem d_MW_lengthBehind_8 : decode b_MW_lengthBehind 8 = .ok (.ireturn, 1) := by decide +kernel
theorem d_MW_lengthBehind_9 : decode b_MW_lengthBehind 9 = .ok (.iload_n 2, 1) := by decide +kernel
theorem d_MW_lengthBehind_10 : decode b_MW_lengthBehind 10 = .ok (.ifCond .lt 9, 3) := by decide +kernel
theorem d_MW_lengthBehind_13 : decode b_MW_lengthBehind 13 = .ok (.iload_n 2, 1) := by decide +kernel
theorem d_MW_lengthBehind_14 : decode b_MW_lengthBehind 14 = .ok (.bipush 30, 2) := by decide +kernel
theorem d_MW_lengthBehind_16 : decode b_MW_lengthBehind 16 = .ok (.if_icmp .le 6, 3) := by decide +kernel
theorem d_MW_lengthBehind_19 : decode b_MW_lengthBehind 19 = .ok (.bipush (-2), 2) := by decide +kernel
theorem d_MW_lengthBehind_21 : decode b_MW_lengthBehind 21 = .ok (.ireturn, 1) := by decide +kernel
theorem d_MW_lengthBehind_22 : decode b_MW_lengthBehind 22 = .ok (.aload_n 0, 1) := by decide +kernel
theorem d_MW_lengthBehind_23 : decode b_MW_lengthBehind 23 = .ok (.getfield 62, 3) := by decide +kernel
theorem d_MW_lengthBehind_26 : decode b_MW_lengthBehind 26 = .ok (.aload_n 0, 1) := by decide +kernel
theorem d_MW_lengthBehind_27 : decode b_MW_lengthBehind 27 = .ok (.getfield 10, 3) := by decide +kernel
theorem d_MW_lengthBehind_30 : decode b_MW_lengthBehind 30 = .ok (.getfield 94, 3) := by decide +kernel
theorem d_MW_lengthBehind_33 : decode b_MW_lengthBehind 33 = .ok (.iload_n 1, 1) := by decide +kernel
theorem d_MW_lengthBehind_34 : decode b_MW_lengthBehind 34 = .ok (.iload_n 2, 1) := by decide +kernel
theorem d_MW_lengthBehind_35 : decode b_MW_lengthBehind 35 = .ok (.invokevirtual 223, 3) := by decide +kernel
theorem d_MW_lengthBehind_38 : decode b_MW_lengthBehind 38 = .ok (.ifCond .eq 13, 3) := by decide +kernel
theorem d_MW_lengthBehind_41 : decode b_MW_lengthBehind 41 = .ok (.aload_n 0, 1) := by decide +kernel
theorem d_MW_lengthBehind_42 : decode b_MW_lengthBehind 42 = .ok (.getfield 62, 3) := by decide +kernel
theorem d_MW_lengthBehind_45 : decode b_MW_lengthBehind 45 = .ok (.invokevirtual 226, 3) := by decide +kernel
theorem d_MW_lengthBehind_48 : decode b_MW_lengthBehind 48 = .ok (.goto 5, 3) := by decide +kernel
theorem d_MW_lengthBehind_51 : decode b_MW_lengthBehind 51 = .ok (.bipush (-3), 2) := by decide +kernel
theorem d_MW_lengthBehind_53 : decode b_MW_lengthBehind 53 = .ok (.ireturn, 1) := by decide +kernel
theorem d_MW_countBehind_0 : decode b_MW_countBehind 0 = .ok (.iload_n 1, 1) := by decide +kernel
theorem d_MW_countBehind_1 : decode b_MW_countBehind 1 = .ok (.invokestatic 128, 3) := by decide +kernel
theorem d_MW_countBehind_4 : decode b_MW_countBehind 4 = .ok (.ifCond .eq 10, 3) := by decide +kernel
theorem d_MW_countBehind_7 : decode b_MW_countBehind 7 = .ok (.iload_n 2, 1) := by decide +kernel
theorem d_MW_countBehind_8 : decode b_MW_countBehind 8 = .ok (.invokestatic 128, 3) := by decide +kernel
theorem d_MW_countBehind_11 : decode b_MW_countBehind 11 = .ok (.ifCond .ne 5, 3) := by decide +kernel
theorem d_MW_countBehind_14 : decode b_MW_countBehind 14 = .ok (.iconst (-1), 1) := by decide +kernel
theorem d_MW_countBehind_15 : decode b_MW_countBehind 15 = .ok (.ireturn, 1) := by decide +kernel
theorem d_MW_countBehind_16 : decode b_MW_countBehind 16 = .ok (.iload_n 3, 1) := by decide +kernel
theorem d_MW_countBehind_17 : decode b_MW_countBehind 17 = .ok (.ifCond .lt 9, 3) := by decide +kernel
theorem d_MW_countBehind_20 : decode b_MW_countBehind 20 = .ok (.iload_n 3, 1) := by decide +kernel
theorem d_MW_countBehind_21 : decode b_MW_countBehind 21 = .ok (.bipush 30, 2) := by decide +kernel
theorem d_MW_countBehind_23 : decode b_MW_countBehind 23 = .ok (.if_icmp .le 6, 3) := by decide +kernel
theorem d_MW_countBehind_26 : decode b_MW_countBehind 26 = .ok (.bipush (-2), 2) := by decide +kernel
theorem d_MW_countBehind_28 : decode b_MW_countBehind 28 = .ok (.ireturn, 1) := by decide +kernel
theorem d_MW_countBehind_29 : decode b_MW_countBehind 29 = .ok (.aload_n 0, 1) := by decide +kernel
theorem d_MW_countBehind_30 : decode b_MW_countBehind 30 = .ok (.getfield 62, 3) := by decide +kernel
theorem d_MW_countBehind_33 : decode b_MW_countBehind 33 = .ok (.aload_n 0, 1) := by decide +kernel
theorem d_MW_countBehind_34 : decode b_MW_countBehind 34 = .ok (.getfield 10, 3) := by decide +kernel
theorem d_MW_countBehind_37 : decode b_MW_countBehind 37 = .ok (.getfield 94, 3) := by decide +kernel
theorem d_MW_countBehind_40 : decode b_MW_countBehind 40 = .ok (.iload_n 1, 1) := by decide +kernel
theorem d_MW_countBehind_41 : decode b_MW_countBehind 41 = .ok (.iload_n 3, 1) := by decide +kernel
theorem d_MW_countBehind_42 : decode b_MW_countBehind 42 = .ok (.invokevirtual 223, 3) := by decide +kernel
theorem d_MW_countBehind_45 : decode b_MW_countBehind 45 = .ok (.ifCond .eq 14, 3) := by decide +kernel
theorem d_MW_countBehind_48 : decode b_MW_countBehind 48 = .ok (.aload_n 0, 1) := by decide +kernel
theorem d_MW_countBehind_49 : decode b_MW_countBehind 49 = .ok (.getfield 62, 3) := by decide +kernel
theorem d_MW_countBehind_52 : decode b_MW_countBehind 52 = .ok (.iload_n 2, 1) := by decide +kernel
theorem d_MW_countBehind_53 : decode b_MW_countBehind 53 = .ok (.invokevirtual 227, 3) := by decide +kernel
theorem d_MW_countBehind_56 : decode b_MW_countBehind 56 = .ok (.goto 5, 3) := by decide +kernel
theorem d_MW_countBehind_59 : decode b_MW_countBehind 59 = .ok (.bipush (-3), 2) := by decide +kernel
theorem d_MW_countBehind_61 : decode b_MW_countBehind 61 = .ok (.ireturn, 1) := by decide +kernel
theorem d_MW_mixing_0 : decode b_MW_mixing 0 = .ok (.iconst 1, 1) := by decide +kernel
theorem d_MW_mixing_1 : decode b_MW_mixing 1 = .ok (.istore_n 1, 1) := by decide +kernel
theorem d_MW_mixing_2 : decode b_MW_mixing 2 = .ok (.iload_n 1, 1) := by decide +kernel
theorem d_MW_mixing_3 : decode b_MW_mixing 3 = .ok (.bipush 16, 2) := by decide +kernel
theorem d_MW_mixing_5 : decode b_MW_mixing 5 = .ok (.if_icmp .gt 25, 3) := by decide +kernel
theorem d_MW_mixing_8 : decode b_MW_mixing 8 = .ok (.aload_n 0, 1) := by decide +kernel
theorem d_MW_mixing_9 : decode b_MW_mixing 9 = .ok (.getfield 10, 3) := by decide +kernel
theorem d_MW_mixing_12 : decode b_MW_mixing 12 = .ok (.getfield 94, 3) := by decide +kernel
theorem d_MW_mixing_15 : decode b_MW_mixing 15 = .ok (.iload_n 1, 1) := by decide +kernel
theorem d_MW_mixing_16 : decode b_MW_mixing 16 = .ok (.invokevirtual 228, 3) := by decide +kernel
theorem d_MW_mixing_19 : decode b_MW_mixing 19 = .ok (.ifCond .eq 5, 3) := by decide +kernel
theorem d_MW_mixing_22 : decode b_MW_mixing 22 = .ok (.iload_n 1, 1) := by decide +kernel
theorem d_MW_mixing_23 : decode b_MW_mixing 23 = .ok (.ireturn, 1) := by decide +kernel
theorem d_MW_mixing_24 : decode b_MW_mixing 24 = .ok (.iinc 1 1, 3) := by decide +kernel
theorem d_MW_mixing_27 : decode b_MW_mixing 27 = .ok (.goto (-25), 3) := by decide +kernel
theorem d_MW_mixing_30 : decode b_MW_mixing 30 = .ok (.bipush (-5), 2) := by decide +kernel
theorem d_MW_mixing_32 : decode b_MW_mixing 32 = .ok (.ireturn, 1) := by decide +kernel
theorem d_MW_at_0 : decode b_MW_at 0 = .ok (.aload_n 0, 1) := by decide +kernel
theorem d_MW_at_1 : decode b_MW_at 1 = .ok (.getfield 10, 3) := by decide +kernel
theorem d_MW_at_4 : decode b_MW_at 4 = .ok (.getfield 132, 3) := by decide +kernel
theorem d_MW_at_7 : decode b_MW_at 7 = .ok (.iload_n 1, 1) := by decide +kernel
theorem d_MW_at_8 : decode b_MW_at 8 = .ok (.invokevirtual 214, 3) := by decide +kernel
theorem d_MW_at_11 : decode b_MW_at 11 = .ok (.istore_n 2, 1) := by decide +kernel
theorem d_MW_at_12 : decode b_MW_at 12 = .ok (.iload_n 2, 1) := by decide +kernel
theorem d_MW_at_13 : decode b_MW_at 13 = .ok (.iconst (-1), 1) := by decide +kernel
theorem d_MW_at_14 : decode b_MW_at 14 = .ok (.if_icmp .ne 7, 3) := by decide +kernel
theorem d_MW_at_17 : decode b_MW_at 17 = .ok (.iconst (-1), 1) := by decide +kernel
theorem d_MW_at_18 : decode b_MW_at 18 = .ok (.goto 4, 3) := by decide +kernel
theorem d_MW_at_21 : decode b_MW_at 21 = .ok (.iload_n 2, 1) := by decide +kernel
theorem d_MW_at_22 : decode b_MW_at 22 = .ok (.ireturn, 1) := by decide +kernel
theorem d_MW_pieces_0 : decode b_MW_pieces 0 = .ok (.iload_n 1, 1) := by decide +kernel
theorem d_MW_pieces_1 : decode b_MW_pieces 1 = .ok (.iconst 1, 1) := by decide +kernel
theorem d_MW_pieces_2 : decode b_MW_pieces 2 = .ok (.if_icmp .lt 18, 3) := by decide +kernel
theorem d_MW_pieces_5 : decode b_MW_pieces 5 = .ok (.iload_n 1, 1) := by decide +kernel
theorem d_MW_pieces_6 : decode b_MW_pieces 6 = .ok (.bipush 20, 2) := by decide +kernel
theorem d_MW_pieces_8 : decode b_MW_pieces 8 = .ok (.if_icmp .gt 12, 3) := by decide +kernel
theorem d_MW_pieces_11 : decode b_MW_pieces 11 = .ok (.iload_n 2, 1) := by decide +kernel
theorem d_MW_pieces_12 : decode b_MW_pieces 12 = .ok (.ifCond .lt 8, 3) := by decide +kernel
theorem d_MW_pieces_15 : decode b_MW_pieces 15 = .ok (.iload_n 2, 1) := by decide +kernel
theorem d_MW_pieces_16 : decode b_MW_pieces 16 = .ok (.iconst 3, 1) := by decide +kernel
theorem d_MW_pieces_17 : decode b_MW_pieces 17 = .ok (.if_icmp .le 6, 3) := by decide +kernel
theorem d_MW_pieces_20 : decode b_MW_pieces 20 = .ok (.bipush (-2), 2) := by decide +kernel
theorem d_MW_pieces_22 : decode b_MW_pieces 22 = .ok (.ireturn, 1) := by decide +kernel
theorem d_MW_pieces_23 : decode b_MW_pieces 23 = .ok (.aload_n 0, 1) := by decide +kernel
theorem d_MW_pieces_24 : decode b_MW_pieces 24 = .ok (.getfield 69, 3) := by decide +kernel
theorem d_MW_pieces_27 : decode b_MW_pieces 27 = .ok (.aload_n 0, 1) := by decide +kernel
theorem d_MW_pieces_28 : decode b_MW_pieces 28 = .ok (.getfield 10, 3) := by decide +kernel
theorem d_MW_pieces_31 : decode b_MW_pieces 31 = .ok (.getfield 132, 3) := by decide +kernel
theorem d_MW_pieces_34 : decode b_MW_pieces 34 = .ok (.iload_n 1, 1) := by decide +kernel
theorem d_MW_pieces_35 : decode b_MW_pieces 35 = .ok (.iload_n 2, 1) := by decide +kernel
theorem d_MW_pieces_36 : decode b_MW_pieces 36 = .ok (.invokevirtual 231, 3) := by decide +kernel
theorem d_MW_pieces_39 : decode b_MW_pieces 39 = .ok (.ireturn, 1) := by decide +kernel
theorem d_MW_balance_0 : decode b_MW_balance 0 = .ok (.iload_n 1, 1) := by decide +kernel
theorem d_MW_balance_1 : decode b_MW_balance 1 = .ok (.invokestatic 128, 3) := by decide +kernel
theorem d_MW_balance_4 : decode b_MW_balance 4 = .ok (.ifCond .ne 5, 3) := by decide +kernel
theorem d_MW_balance_7 : decode b_MW_balance 7 = .ok (.iconst (-1), 1) := by decide +kernel
theorem d_MW_balance_8 : decode b_MW_balance 8 = .ok (.ireturn, 1) := by decide +kernel
theorem d_MW_balance_9 : decode b_MW_balance 9 = .ok (.iload_n 2, 1) := by decide +kernel
theorem d_MW_balance_10 : decode b_MW_balance 10 = .ok (.iconst 1, 1) := by decide +kernel
theorem d_MW_balance_11 : decode b_MW_balance 11 = .ok (.if_icmp .lt 10, 3) := by decide +kernel
theorem d_MW_balance_14 : decode b_MW_balance 14 = .ok (.iload_n 2, 1) := by decide +kernel
theorem d_MW_balance_15 : decode b_MW_balance 15 = .ok (.sipush 300, 3) := by decide +kernel
theorem d_MW_balance_18 : decode b_MW_balance 18 = .ok (.if_icmp .le 6, 3) := by decide +kernel
theorem d_MW_balance_21 : decode b_MW_balance 21 = .ok (.bipush (-2), 2) := by decide +kernel
theorem d_MW_balance_23 : decode b_MW_balance 23 = .ok (.ireturn, 1) := by decide +kernel
theorem d_MW_balance_24 : decode b_MW_balance 24 = .ok (.iload_n 2, 1) := by decide +kernel
theorem d_MW_balance_25 : decode b_MW_balance 25 = .ok (.aload_n 0, 1) := by decide +kernel
theorem d_MW_balance_26 : decode b_MW_balance 26 = .ok (.getfield 10, 3) := by decide +kernel
theorem d_MW_balance_29 : decode b_MW_balance 29 = .ok (.getfield 132, 3) := by decide +kernel
theorem d_MW_balance_32 : decode b_MW_balance 32 = .ok (.invokevirtual 148, 3) := by decide +kernel
theorem d_MW_balance_35 : decode b_MW_balance 35 = .ok (.if_icmp .le 8, 3) := by decide +kernel
theorem d_MW_balance_38 : decode b_MW_balance 38 = .ok (.bipush (-5), 2) := by decide +kernel
theorem d_MW_balance_40 : decode b_MW_balance 40 = .ok (.goto 15, 3) := by decide +kernel
theorem d_MW_balance_43 : decode b_MW_balance 43 = .ok (.aload_n 0, 1) := by decide +kernel
theorem d_MW_balance_44 : decode b_MW_balance 44 = .ok (.getfield 10, 3) := by decide +kernel
theorem d_MW_balance_47 : decode b_MW_balance 47 = .ok (.getfield 132, 3) := by decide +kernel
theorem d_MW_balance_50 : decode b_MW_balance 50 = .ok (.iload_n 1, 1) := by decide +kernel
theorem d_MW_balance_51 : decode b_MW_balance 51 = .ok (.iload_n 2, 1) := by decide +kernel
theorem d_MW_balance_52 : decode b_MW_balance 52 = .ok (.invokevirtual 235, 3) := by decide +kernel
theorem d_MW_balance_55 : decode b_MW_balance 55 = .ok (.ireturn, 1) := by decide +kernel
theorem d_MW_share_0 : decode b_MW_share 0 = .ok (.iload_n 1, 1) := by decide +kernel
theorem d_MW_share_1 : decode b_MW_share 1 = .ok (.invokestatic 128, 3) := by decide +kernel
theorem d_MW_share_4 : decode b_MW_share 4 = .ok (.ifCond .ne 5, 3) := by decide +kernel
theorem d_MW_share_7 : decode b_MW_share 7 = .ok (.iconst (-1), 1) := by decide +kernel
theorem d_MW_share_8 : decode b_MW_share 8 = .ok (.ireturn, 1) := by decide +kernel
theorem d_MW_share_9 : decode b_MW_share 9 = .ok (.aload_n 0, 1) := by decide +kernel
theorem d_MW_share_10 : decode b_MW_share 10 = .ok (.getfield 10, 3) := by decide +kernel
theorem d_MW_share_13 : decode b_MW_share 13 = .ok (.getfield 132, 3) := by decide +kernel
theorem d_MW_share_16 : decode b_MW_share 16 = .ok (.iload_n 1, 1) := by decide +kernel
theorem d_MW_share_17 : decode b_MW_share 17 = .ok (.invokevirtual 135, 3) := by decide +kernel
theorem d_MW_share_20 : decode b_MW_share 20 = .ok (.istore_n 3, 1) := by decide +kernel
theorem d_MW_share_21 : decode b_MW_share 21 = .ok (.aload_n 0, 1) := by decide +kernel
theorem d_MW_share_22 : decode b_MW_share 22 = .ok (.getfield 10, 3) := by decide +kernel
theorem d_MW_share_25 : decode b_MW_share 25 = .ok (.getfield 132, 3) := by decide +kernel
theorem d_MW_share_28 : decode b_MW_share 28 = .ok (.invokevirtual 148, 3) := by decide +kernel
theorem d_MW_share_31 : decode b_MW_share 31 = .ok (.istore 4, 2) := by decide +kernel
theorem d_MW_share_33 : decode b_MW_share 33 = .ok (.iload_n 2, 1) := by decide +kernel
theorem d_MW_share_34 : decode b_MW_share 34 = .ok (.lookupswitch 45 #[(0, 26), (1, 35)], 26) := by decide +kernel
theorem d_MW_share_60 : decode b_MW_share 60 = .ok (.iload_n 3, 1) := by decide +kernel
theorem d_MW_share_61 : decode b_MW_share 61 = .ok (.iload_n 3, 1) := by decide +kernel
theorem d_MW_share_62 : decode b_MW_share 62 = .ok (.iload 4, 2) := by decide +kernel
theorem d_MW_share_64 : decode b_MW_share 64 = .ok (.invokestatic 239, 3) := by decide +kernel
theorem d_MW_share_67 : decode b_MW_share 67 = .ok (.idiv, 1) := by decide +kernel
theorem d_MW_share_68 : decode b_MW_share 68 = .ok (.ireturn, 1) := by decide +kernel
theorem d_MW_share_69 : decode b_MW_share 69 = .ok (.iload 4, 2) := by decide +kernel
theorem d_MW_share_71 : decode b_MW_share 71 = .ok (.iload_n 3, 1) := by decide +kernel
theorem d_MW_share_72 : decode b_MW_share 72 = .ok (.iload 4, 2) := by decide +kernel
theorem d_MW_share_74 : decode b_MW_share 74 = .ok (.invokestatic 239, 3) := by decide +kernel
theorem d_MW_share_77 : decode b_MW_share 77 = .ok (.idiv, 1) := by decide +kernel
theorem d_MW_share_78 : decode b_MW_share 78 = .ok (.ireturn, 1) := by decide +kernel
theorem d_MW_share_79 : decode b_MW_share 79 = .ok (.bipush (-2), 2) := by decide +kernel
theorem d_MW_share_81 : decode b_MW_share 81 = .ok (.ireturn, 1) := by decide +kernel
theorem d_MW_run_0 : decode b_MW_run 0 = .ok (.iload_n 1, 1) := by decide +kernel
theorem d_MW_run_1 : decode b_MW_run 1 = .ok (.ifCond .lt 8, 3) := by decide +kernel
theorem d_MW_run_4 : decode b_MW_run 4 = .ok (.iload_n 1, 1) := by decide +kernel
theorem d_MW_run_5 : decode b_MW_run 5 = .ok (.iconst 4, 1) := by decide +kernel
theorem d_MW_run_6 : decode b_MW_run 6 = .ok (.if_icmp .le 6, 3) := by decide +kernel
theorem d_MW_run_9 : decode b_MW_run 9 = .ok (.bipush (-2), 2) := by decide +kernel
theorem d_MW_run_11 : decode b_MW_run 11 = .ok (.ireturn, 1) := by decide +kernel
theorem d_MW_run_12 : decode b_MW_run 12 = .ok (.aload_n 0, 1) := by decide +kernel
theorem d_MW_run_13 : decode b_MW_run 13 = .ok (.getfield 76, 3) := by decide +kernel
theorem d_MW_run_16 : decode b_MW_run 16 = .ok (.aload_n 0, 1) := by decide +kernel
theorem d_MW_run_17 : decode b_MW_run 17 = .ok (.getfield 10, 3) := by decide +kernel
theorem d_MW_run_20 : decode b_MW_run 20 = .ok (.getfield 132, 3) := by decide +kernel
theorem d_MW_run_23 : decode b_MW_run 23 = .ok (.invokevirtual 242, 3) := by decide +kernel
theorem d_MW_run_26 : decode b_MW_run 26 = .ok (.aload_n 0, 1) := by decide +kernel
theorem d_MW_run_27 : decode b_MW_run 27 = .ok (.getfield 76, 3) := by decide +kernel
theorem d_MW_run_30 : decode b_MW_run 30 = .ok (.invokevirtual 244, 3) := by decide +kernel
theorem d_MW_run_33 : decode b_MW_run 33 = .ok (.istore_n 2, 1) := by decide +kernel
theorem d_MW_run_34 : decode b_MW_run 34 = .ok (.aload_n 0, 1) := by decide +kernel
theorem d_MW_run_35 : decode b_MW_run 35 = .ok (.getfield 76, 3) := by decide +kernel
theorem d_MW_run_38 : decode b_MW_run 38 = .ok (.invokevirtual 247, 3) := by decide +kernel
theorem d_MW_run_41 : decode b_MW_run 41 = .ok (.istore_n 3, 1) := by decide +kernel
theorem d_MW_run_42 : decode b_MW_run 42 = .ok (.iload_n 1, 1) := by decide +kernel
theorem d_MW_run_43 : decode b_MW_run 43 = .ok (.tableswitch 49 0 3 #[29, 31, 39, 41], 29) := by decide +kernel
theorem d_MW_run_72 : decode b_MW_run 72 = .ok (.iload_n 2, 1) := by decide +kernel
theorem d_MW_run_73 : decode b_MW_run 73 = .ok (.ireturn, 1) := by decide +kernel
theorem d_MW_run_74 : decode b_MW_run 74 = .ok (.aload_n 0, 1) := by decide +kernel
theorem d_MW_run_75 : decode b_MW_run 75 = .ok (.getfield 76, 3) := by decide +kernel
theorem d_MW_run_78 : decode b_MW_run 78 = .ok (.invokevirtual 248, 3) := by decide +kernel
theorem d_MW_run_81 : decode b_MW_run 81 = .ok (.ireturn, 1) := by decide +kernel
theorem d_MW_run_82 : decode b_MW_run 82 = .ok (.iload_n 3, 1) := by decide +kernel
theorem d_MW_run_83 : decode b_MW_run 83 = .ok (.ireturn, 1) := by decide +kernel
theorem d_MW_run_84 : decode b_MW_run 84 = .ok (.iload_n 3, 1) := by decide +kernel
theorem d_MW_run_85 : decode b_MW_run 85 = .ok (.iload_n 3, 1) := by decide +kernel
theorem d_MW_run_86 : decode b_MW_run 86 = .ok (.iload_n 2, 1) := by decide +kernel
theorem d_MW_run_87 : decode b_MW_run 87 = .ok (.invokestatic 239, 3) := by decide +kernel
theorem d_MW_run_90 : decode b_MW_run 90 = .ok (.idiv, 1) := by decide +kernel
theorem d_MW_run_91 : decode b_MW_run 91 = .ok (.ireturn, 1) := by decide +kernel
theorem d_MW_run_92 : decode b_MW_run 92 = .ok (.iload_n 2, 1) := by decide +kernel
theorem d_MW_run_93 : decode b_MW_run 93 = .ok (.iload_n 3, 1) := by decide +kernel
theorem d_MW_run_94 : decode b_MW_run 94 = .ok (.iload_n 2, 1) := by decide +kernel
theorem d_MW_run_95 : decode b_MW_run 95 = .ok (.invokestatic 239, 3) := by decide +kernel
theorem d_MW_run_98 : decode b_MW_run 98 = .ok (.idiv, 1) := by decide +kernel
theorem d_MW_run_99 : decode b_MW_run 99 = .ok (.ireturn, 1) := by decide +kernel
theorem d_MW_mirrored_0 : decode b_MW_mirrored 0 = .ok (.iload_n 1, 1) := by decide +kernel
theorem d_MW_mirrored_1 : decode b_MW_mirrored 1 = .ok (.ifCond .lt 8, 3) := by decide +kernel
theorem d_MW_mirrored_4 : decode b_MW_mirrored 4 = .ok (.iload_n 1, 1) := by decide +kernel
theorem d_MW_mirrored_5 : decode b_MW_mirrored 5 = .ok (.iconst 1, 1) := by decide +kernel
theorem d_MW_mirrored_6 : decode b_MW_mirrored 6 = .ok (.if_icmp .le 6, 3) := by decide +kernel
theorem d_MW_mirrored_9 : decode b_MW_mirrored 9 = .ok (.bipush (-2), 2) := by decide +kernel
theorem d_MW_mirrored_11 : decode b_MW_mirrored 11 = .ok (.ireturn, 1) := by decide +kernel
theorem d_MW_mirrored_12 : decode b_MW_mirrored 12 = .ok (.aload_n 0, 1) := by decide +kernel
theorem d_MW_mirrored_13 : decode b_MW_mirrored 13 = .ok (.getfield 83, 3) := by decide +kernel
theorem d_MW_mirrored_16 : decode b_MW_mirrored 16 = .ok (.aload_n 0, 1) := by decide +kernel
theorem d_MW_mirrored_17 : decode b_MW_mirrored 17 = .ok (.getfield 10, 3) := by decide +kernel
theorem d_MW_mirrored_20 : decode b_MW_mirrored 20 = .ok (.getfield 132, 3) := by decide +kernel
theorem d_MW_mirrored_23 : decode b_MW_mirrored 23 = .ok (.invokevirtual 251, 3) := by decide +kernel
theorem d_MW_mirrored_26 : decode b_MW_mirrored 26 = .ok (.iload_n 1, 1) := by decide +kernel
theorem d_MW_mirrored_27 : decode b_MW_mirrored 27 = .ok (.ifCond .ne 13, 3) := by decide +kernel
theorem d_MW_mirrored_30 : decode b_MW_mirrored 30 = .ok (.aload_n 0, 1) := by decide +kernel
theorem d_MW_mirrored_31 : decode b_MW_mirrored 31 = .ok (.getfield 83, 3) := by decide +kernel
theorem d_MW_mirrored_34 : decode b_MW_mirrored 34 = .ok (.invokevirtual 252, 3) := by decide +kernel
theorem d_MW_mirrored_37 : decode b_MW_mirrored 37 = .ok (.goto 10, 3) := by decide +kernel
theorem d_MW_mirrored_40 : decode b_MW_mirrored 40 = .ok (.aload_n 0, 1) := by decide +kernel
theorem d_MW_mirrored_41 : decode b_MW_mirrored 41 = .ok (.getfield 83, 3) := by decide +kernel
theorem d_MW_mirrored_44 : decode b_MW_mirrored 44 = .ok (.invokevirtual 253, 3) := by decide +kernel
theorem d_MW_mirrored_47 : decode b_MW_mirrored 47 = .ok (.ireturn, 1) := by decide +kernel
theorem d_MW_comes_0 : decode b_MW_comes 0 = .ok (.iload_n 1, 1) := by decide +kernel
theorem d_MW_comes_1 : decode b_MW_comes 1 = .ok (.ifCond .ge 6, 3) := by decide +kernel
theorem d_MW_comes_4 : decode b_MW_comes 4 = .ok (.bipush (-2), 2) := by decide +kernel
theorem d_MW_comes_6 : decode b_MW_comes 6 = .ok (.ireturn, 1) := by decide +kernel
theorem d_MW_comes_7 : decode b_MW_comes 7 = .ok (.aload_n 0, 1) := by decide +kernel
theorem d_MW_comes_8 : decode b_MW_comes 8 = .ok (.getfield 10, 3) := by decide +kernel
theorem d_MW_comes_11 : decode b_MW_comes 11 = .ok (.invokevirtual 254, 3) := by decide +kernel
theorem d_MW_comes_14 : decode b_MW_comes 14 = .ok (.ifCond .ne 6, 3) := by decide +kernel
theorem d_MW_comes_17 : decode b_MW_comes 17 = .ok (.bipush (-4), 2) := by decide +kernel
theorem d_MW_comes_19 : decode b_MW_comes 19 = .ok (.ireturn, 1) := by decide +kernel
theorem d_MW_comes_20 : decode b_MW_comes 20 = .ok (.aload_n 0, 1) := by decide +kernel
theorem d_MW_comes_21 : decode b_MW_comes 21 = .ok (.getfield 90, 3) := by decide +kernel
theorem d_MW_comes_24 : decode b_MW_comes 24 = .ok (.aload_n 0, 1) := by decide +kernel
theorem d_MW_comes_25 : decode b_MW_comes 25 = .ok (.getfield 10, 3) := by decide +kernel
theorem d_MW_comes_28 : decode b_MW_comes 28 = .ok (.getfield 132, 3) := by decide +kernel
theorem d_MW_comes_31 : decode b_MW_comes 31 = .ok (.aload_n 0, 1) := by decide +kernel
theorem d_MW_comes_32 : decode b_MW_comes 32 = .ok (.getfield 10, 3) := by decide +kernel
theorem d_MW_comes_35 : decode b_MW_comes 35 = .ok (.getfield 170, 3) := by decide +kernel
theorem d_MW_comes_38 : decode b_MW_comes 38 = .ok (.invokevirtual 173, 3) := by decide +kernel
theorem d_MW_comes_41 : decode b_MW_comes 41 = .ok (.iload_n 1, 1) := by decide +kernel
theorem d_MW_comes_42 : decode b_MW_comes 42 = .ok (.aload_n 0, 1) := by decide +kernel
theorem d_MW_comes_43 : decode b_MW_comes 43 = .ok (.getfield 90, 3) := by decide +kernel
theorem d_MW_comes_46 : decode b_MW_comes 46 = .ok (.invokevirtual 193, 3) := by decide +kernel
theorem d_MW_comes_49 : decode b_MW_comes 49 = .ok (.if_icmp .ge 14, 3) := by decide +kernel
theorem d_MW_comes_52 : decode b_MW_comes 52 = .ok (.aload_n 0, 1) := by decide +kernel
theorem d_MW_comes_53 : decode b_MW_comes 53 = .ok (.getfield 90, 3) := by decide +kernel
theorem d_MW_comes_56 : decode b_MW_comes 56 = .ok (.iload_n 1, 1) := by decide +kernel
theorem d_MW_comes_57 : decode b_MW_comes 57 = .ok (.invokevirtual 257, 3) := by decide +kernel
theorem d_MW_comes_60 : decode b_MW_comes 60 = .ok (.goto 5, 3) := by decide +kernel
theorem d_MW_comes_63 : decode b_MW_comes 63 = .ok (.bipush (-5), 2) := by decide +kernel
theorem d_MW_comes_65 : decode b_MW_comes 65 = .ok (.ireturn, 1) := by decide +kernel
theorem d_MW_returns_0 : decode b_MW_returns 0 = .ok (.iload_n 1, 1) := by decide +kernel
theorem d_MW_returns_1 : decode b_MW_returns 1 = .ok (.ifCond .lt 12, 3) := by decide +kernel
theorem d_MW_returns_4 : decode b_MW_returns 4 = .ok (.iload_n 2, 1) := by decide +kernel
theorem d_MW_returns_5 : decode b_MW_returns 5 = .ok (.ifCond .lt 8, 3) := by decide +kernel
theorem d_MW_returns_8 : decode b_MW_returns 8 = .ok (.iload_n 2, 1) := by decide +kernel
theorem d_MW_returns_9 : decode b_MW_returns 9 = .ok (.iconst 2, 1) := by decide +kernel
theorem d_MW_returns_10 : decode b_MW_returns 10 = .ok (.if_icmp .le 6, 3) := by decide +kernel
theorem d_MW_returns_13 : decode b_MW_returns 13 = .ok (.bipush (-2), 2) := by decide +kernel
theorem d_MW_returns_15 : decode b_MW_returns 15 = .ok (.ireturn, 1) := by decide +kernel
theorem d_MW_returns_16 : decode b_MW_returns 16 = .ok (.aload_n 0, 1) := by decide +kernel
theorem d_MW_returns_17 : decode b_MW_returns 17 = .ok (.getfield 10, 3) := by decide +kernel
theorem d_MW_returns_20 : decode b_MW_returns 20 = .ok (.invokevirtual 254, 3) := by decide +kernel
theorem d_MW_returns_23 : decode b_MW_returns 23 = .ok (.ifCond .ne 6, 3) := by decide +kernel
theorem d_MW_returns_26 : decode b_MW_returns 26 = .ok (.bipush (-4), 2) := by decide +kernel
theorem d_MW_returns_28 : decode b_MW_returns 28 = .ok (.ireturn, 1) := by decide +kernel
theorem d_MW_returns_29 : decode b_MW_returns 29 = .ok (.aload_n 0, 1) := by decide +kernel
theorem d_MW_returns_30 : decode b_MW_returns 30 = .ok (.getfield 90, 3) := by decide +kernel
theorem d_MW_returns_33 : decode b_MW_returns 33 = .ok (.aload_n 0, 1) := by decide +kernel
theorem d_MW_returns_34 : decode b_MW_returns 34 = .ok (.getfield 10, 3) := by decide +kernel
theorem d_MW_returns_37 : decode b_MW_returns 37 = .ok (.getfield 132, 3) := by decide +kernel
theorem d_MW_returns_40 : decode b_MW_returns 40 = .ok (.aload_n 0, 1) := by decide +kernel
theorem d_MW_returns_41 : decode b_MW_returns 41 = .ok (.getfield 10, 3) := by decide +kernel
theorem d_MW_returns_44 : decode b_MW_returns 44 = .ok (.getfield 170, 3) := by decide +kernel
theorem d_MW_returns_47 : decode b_MW_returns 47 = .ok (.invokevirtual 173, 3) := by decide +kernel
theorem d_MW_returns_50 : decode b_MW_returns 50 = .ok (.iload_n 1, 1) := by decide +kernel
theorem d_MW_returns_51 : decode b_MW_returns 51 = .ok (.aload_n 0, 1) := by decide +kernel
theorem d_MW_returns_52 : decode b_MW_returns 52 = .ok (.getfield 90, 3) := by decide +kernel
theorem d_MW_returns_55 : decode b_MW_returns 55 = .ok (.invokevirtual 180, 3) := by decide +kernel
theorem d_MW_returns_58 : decode b_MW_returns 58 = .ok (.if_icmp .lt 6, 3) := by decide +kernel
theorem d_MW_returns_61 : decode b_MW_returns 61 = .ok (.bipush (-5), 2) := by decide +kernel
theorem d_MW_returns_63 : decode b_MW_returns 63 = .ok (.ireturn, 1) := by decide +kernel
theorem d_MW_returns_64 : decode b_MW_returns 64 = .ok (.iload_n 2, 1) := by decide +kernel
theorem d_MW_returns_65 : decode b_MW_returns 65 = .ok (.lookupswitch 45 #[(0, 27), (1, 36)], 27) := by decide +kernel
theorem d_MW_returns_92 : decode b_MW_returns 92 = .ok (.aload_n 0, 1) := by decide +kernel
theorem d_MW_returns_93 : decode b_MW_returns 93 = .ok (.getfield 90, 3) := by decide +kernel
theorem d_MW_returns_96 : decode b_MW_returns 96 = .ok (.iload_n 1, 1) := by decide +kernel
theorem d_MW_returns_97 : decode b_MW_returns 97 = .ok (.invokevirtual 260, 3) := by decide +kernel
theorem d_MW_returns_100 : decode b_MW_returns 100 = .ok (.ireturn, 1) := by decide +kernel
theorem d_MW_returns_101 : decode b_MW_returns 101 = .ok (.aload_n 0, 1) := by decide +kernel
theorem d_MW_returns_102 : decode b_MW_returns 102 = .ok (.getfield 90, 3) := by decide +kernel
theorem d_MW_returns_105 : decode b_MW_returns 105 = .ok (.iload_n 1, 1) := by decide +kernel
theorem d_MW_returns_106 : decode b_MW_returns 106 = .ok (.invokevirtual 263, 3) := by decide +kernel
theorem d_MW_returns_109 : decode b_MW_returns 109 = .ok (.ireturn, 1) := by decide +kernel
theorem d_MW_returns_110 : decode b_MW_returns 110 = .ok (.aload_n 0, 1) := by decide +kernel
theorem d_MW_returns_111 : decode b_MW_returns 111 = .ok (.getfield 90, 3) := by decide +kernel
theorem d_MW_returns_114 : decode b_MW_returns 114 = .ok (.iload_n 1, 1) := by decide +kernel
theorem d_MW_returns_115 : decode b_MW_returns 115 = .ok (.invokevirtual 266, 3) := by decide +kernel
theorem d_MW_returns_118 : decode b_MW_returns 118 = .ok (.ireturn, 1) := by decide +kernel
theorem d_MW_row_0 : decode b_MW_row 0 = .ok (.iload_n 1, 1) := by decide +kernel
theorem d_MW_row_1 : decode b_MW_row 1 = .ok (.ifCond .ge 6, 3) := by decide +kernel
theorem d_MW_row_4 : decode b_MW_row 4 = .ok (.bipush (-2), 2) := by decide +kernel
theorem d_MW_row_6 : decode b_MW_row 6 = .ok (.ireturn, 1) := by decide +kernel
theorem d_MW_row_7 : decode b_MW_row 7 = .ok (.aload_n 0, 1) := by decide +kernel
theorem d_MW_row_8 : decode b_MW_row 8 = .ok (.getfield 10, 3) := by decide +kernel
theorem d_MW_row_11 : decode b_MW_row 11 = .ok (.invokevirtual 254, 3) := by decide +kernel
theorem d_MW_row_14 : decode b_MW_row 14 = .ok (.ifCond .ne 6, 3) := by decide +kernel
theorem d_MW_row_17 : decode b_MW_row 17 = .ok (.bipush (-4), 2) := by decide +kernel
theorem d_MW_row_19 : decode b_MW_row 19 = .ok (.ireturn, 1) := by decide +kernel
theorem d_MW_row_20 : decode b_MW_row 20 = .ok (.aload_n 0, 1) := by decide +kernel
theorem d_MW_row_21 : decode b_MW_row 21 = .ok (.getfield 90, 3) := by decide +kernel
theorem d_MW_row_24 : decode b_MW_row 24 = .ok (.aload_n 0, 1) := by decide +kernel
theorem d_MW_row_25 : decode b_MW_row 25 = .ok (.getfield 10, 3) := by decide +kernel
theorem d_MW_row_28 : decode b_MW_row 28 = .ok (.getfield 132, 3) := by decide +kernel
theorem d_MW_row_31 : decode b_MW_row 31 = .ok (.aload_n 0, 1) := by decide +kernel
theorem d_MW_row_32 : decode b_MW_row 32 = .ok (.getfield 10, 3) := by decide +kernel
theorem d_MW_row_35 : decode b_MW_row 35 = .ok (.getfield 170, 3) := by decide +kernel
theorem d_MW_row_38 : decode b_MW_row 38 = .ok (.invokevirtual 173, 3) := by decide +kernel
theorem d_MW_row_41 : decode b_MW_row 41 = .ok (.iload_n 1, 1) := by decide +kernel
theorem d_MW_row_42 : decode b_MW_row 42 = .ok (.aload_n 0, 1) := by decide +kernel
theorem d_MW_row_43 : decode b_MW_row 43 = .ok (.getfield 90, 3) := by decide +kernel
theorem d_MW_row_46 : decode b_MW_row 46 = .ok (.invokevirtual 177, 3) := by decide +kernel
theorem d_MW_row_49 : decode b_MW_row 49 = .ok (.if_icmp .ge 14, 3) := by decide +kernel
theorem d_MW_row_52 : decode b_MW_row 52 = .ok (.aload_n 0, 1) := by decide +kernel
theorem d_MW_row_53 : decode b_MW_row 53 = .ok (.getfield 90, 3) := by decide +kernel
theorem d_MW_row_56 : decode b_MW_row 56 = .ok (.iload_n 1, 1) := by decide +kernel
theorem d_MW_row_57 : decode b_MW_row 57 = .ok (.invokevirtual 183, 3) := by decide +kernel
theorem d_MW_row_60 : decode b_MW_row 60 = .ok (.goto 5, 3) := by decide +kernel
theorem d_MW_row_63 : decode b_MW_row 63 = .ok (.bipush (-5), 2) := by decide +kernel
theorem d_MW_row_65 : decode b_MW_row 65 = .ok (.ireturn, 1) := by decide +kernel
theorem d_MW_count_0 : decode b_MW_count 0 = .ok (.iload_n 1, 1) := by decide +kernel
theorem d_MW_count_1 : decode b_MW_count 1 = .ok (.tableswitch 122 0 7 #[47, 58, 69, 80, 80, 95, 106, 114], 47) := by decide +kernel
theorem d_MW_count_48 : decode b_MW_count 48 = .ok (.aload_n 0, 1) := by decide +kernel
theorem d_MW_count_49 : decode b_MW_count 49 = .ok (.getfield 10, 3) := by decide +kernel
theorem d_MW_count_52 : decode b_MW_count 52 = .ok (.getfield 132, 3) := by decide +kernel
theorem d_MW_count_55 : decode b_MW_count 55 = .ok (.invokevirtual 148, 3) := by decide +kernel
theorem d_MW_count_58 : decode b_MW_count 58 = .ok (.ireturn, 1) := by decide +kernel
theorem d_MW_count_59 : decode b_MW_count 59 = .ok (.aload_n 0, 1) := by decide +kernel
theorem d_MW_count_60 : decode b_MW_count 60 = .ok (.getfield 10, 3) := by decide +kernel
theorem d_MW_count_63 : decode b_MW_count 63 = .ok (.getfield 132, 3) := by decide +kernel
theorem d_MW_count_66 : decode b_MW_count 66 = .ok (.invokevirtual 217, 3) := by decide +kernel
theorem d_MW_count_69 : decode b_MW_count 69 = .ok (.ireturn, 1) := by decide +kernel
theorem d_MW_count_70 : decode b_MW_count 70 = .ok (.aload_n 0, 1) := by decide +kernel
theorem d_MW_count_71 : decode b_MW_count 71 = .ok (.getfield 10, 3) := by decide +kernel
theorem d_MW_count_74 : decode b_MW_count 74 = .ok (.getfield 170, 3) := by decide +kernel
theorem d_MW_count_77 : decode b_MW_count 77 = .ok (.invokevirtual 148, 3) := by decide +kernel
theorem d_MW_count_80 : decode b_MW_count 80 = .ok (.ireturn, 1) := by decide +kernel
theorem d_MW_count_81 : decode b_MW_count 81 = .ok (.aload_n 0, 1) := by decide +kernel
theorem d_MW_count_82 : decode b_MW_count 82 = .ok (.iload_n 1, 1) := by decide +kernel
theorem d_MW_count_83 : decode b_MW_count 83 = .ok (.iconst 4, 1) := by decide +kernel
theorem d_MW_count_84 : decode b_MW_count 84 = .ok (.if_icmp .ne 7, 3) := by decide +kernel
theorem d_MW_count_87 : decode b_MW_count 87 = .ok (.iconst 1, 1) := by decide +kernel
theorem d_MW_count_88 : decode b_MW_count 88 = .ok (.goto 4, 3) := by decide +kernel
theorem d_MW_count_91 : decode b_MW_count 91 = .ok (.iconst 0, 1) := by decide +kernel
theorem d_MW_count_92 : decode b_MW_count 92 = .ok (.invokevirtual 269, 3) := by decide +kernel
theorem d_MW_count_95 : decode b_MW_count 95 = .ok (.ireturn, 1) := by decide +kernel
theorem d_MW_count_96 : decode b_MW_count 96 = .ok (.aload_n 0, 1) := by decide +kernel
theorem d_MW_count_97 : decode b_MW_count 97 = .ok (.getfield 10, 3) := by decide +kernel
theorem d_MW_count_100 : decode b_MW_count 100 = .ok (.getfield 94, 3) := by decide +kernel
theorem d_MW_count_103 : decode b_MW_count 103 = .ok (.invokevirtual 117, 3) := by decide +kernel
theorem d_MW_count_106 : decode b_MW_count 106 = .ok (.ireturn, 1) := by decide +kernel
theorem d_MW_count_107 : decode b_MW_count 107 = .ok (.aload_n 0, 1) := by decide +kernel
theorem d_MW_count_108 : decode b_MW_count 108 = .ok (.getfield 26, 3) := by decide +kernel
theorem d_MW_count_111 : decode b_MW_count 111 = .ok (.invokevirtual 205, 3) := by decide +kernel
theorem d_MW_count_114 : decode b_MW_count 114 = .ok (.ireturn, 1) := by decide +kernel
theorem d_MW_count_115 : decode b_MW_count 115 = .ok (.aload_n 0, 1) := by decide +kernel
theorem d_MW_count_116 : decode b_MW_count 116 = .ok (.getfield 33, 3) := by decide +kernel
theorem d_MW_count_119 : decode b_MW_count 119 = .ok (.invokevirtual 199, 3) := by decide +kernel
theorem d_MW_count_122 : decode b_MW_count 122 = .ok (.ireturn, 1) := by decide +kernel
theorem d_MW_count_123 : decode b_MW_count 123 = .ok (.bipush (-2), 2) := by decide +kernel
theorem d_MW_count_125 : decode b_MW_count 125 = .ok (.ireturn, 1) := by decide +kernel
theorem d_MW_countReturns_0 : decode b_MW_countReturns 0 = .ok (.aload_n 0, 1) := by decide +kernel
theorem d_MW_countReturns_1 : decode b_MW_countReturns 1 = .ok (.getfield 10, 3) := by decide +kernel
theorem d_MW_countReturns_4 : decode b_MW_countReturns 4 = .ok (.invokevirtual 254, 3) := by decide +kernel
theorem d_MW_countReturns_7 : decode b_MW_countReturns 7 = .ok (.ifCond .ne 6, 3) := by decide +kernel
theorem d_MW_countReturns_10 : decode b_MW_countReturns 10 = .ok (.bipush (-5), 2) := by decide +kernel
theorem d_MW_countReturns_12 : decode b_MW_countReturns 12 = .ok (.ireturn, 1) := by decide +kernel
theorem d_MW_countReturns_13 : decode b_MW_countReturns 13 = .ok (.aload_n 0, 1) := by decide +kernel
theorem d_MW_countReturns_14 : decode b_MW_countReturns 14 = .ok (.getfield 90, 3) := by decide +kernel
theorem d_MW_countReturns_17 : decode b_MW_countReturns 17 = .ok (.aload_n 0, 1) := by decide +kernel
theorem d_MW_countReturns_18 : decode b_MW_countReturns 18 = .ok (.getfield 10, 3) := by decide +kernel
theorem d_MW_countReturns_21 : decode b_MW_countReturns 21 = .ok (.getfield 132, 3) := by decide +kernel
theorem d_MW_countReturns_24 : decode b_MW_countReturns 24 = .ok (.aload_n 0, 1) := by decide +kernel
theorem d_MW_countReturns_25 : decode b_MW_countReturns 25 = .ok (.getfield 10, 3) := by decide +kernel
theorem d_MW_countReturns_28 : decode b_MW_countReturns 28 = .ok (.getfield 170, 3) := by decide +kernel
theorem d_MW_countReturns_31 : decode b_MW_countReturns 31 = .ok (.invokevirtual 173, 3) := by decide +kernel
theorem d_MW_countReturns_34 : decode b_MW_countReturns 34 = .ok (.iload_n 1, 1) := by decide +kernel
theorem d_MW_countReturns_35 : decode b_MW_countReturns 35 = .ok (.ifCond .eq 13, 3) := by decide +kernel
theorem d_MW_countReturns_38 : decode b_MW_countReturns 38 = .ok (.aload_n 0, 1) := by decide +kernel
theorem d_MW_countReturns_39 : decode b_MW_countReturns 39 = .ok (.getfield 90, 3) := by decide +kernel
theorem d_MW_countReturns_42 : decode b_MW_countReturns 42 = .ok (.invokevirtual 180, 3) := by decide +kernel
theorem d_MW_countReturns_45 : decode b_MW_countReturns 45 = .ok (.goto 10, 3) := by decide +kernel
theorem d_MW_countReturns_48 : decode b_MW_countReturns 48 = .ok (.aload_n 0, 1) := by decide +kernel
theorem d_MW_countReturns_49 : decode b_MW_countReturns 49 = .ok (.getfield 90, 3) := by decide +kernel
theorem d_MW_countReturns_52 : decode b_MW_countReturns 52 = .ok (.invokevirtual 193, 3) := by decide +kernel
theorem d_MW_countReturns_55 : decode b_MW_countReturns 55 = .ok (.ireturn, 1) := by decide +kernel
theorem d_MW_takeNextRule_0 : decode b_MW_takeNextRule 0 = .ok (.aload_n 0, 1) := by decide +kernel
theorem d_MW_takeNextRule_1 : decode b_MW_takeNextRule 1 = .ok (.getfield 40, 3) := by decide +kernel
theorem d_MW_takeNextRule_4 : decode b_MW_takeNextRule 4 = .ok (.aload_n 0, 1) := by decide +kernel
theorem d_MW_takeNextRule_5 : decode b_MW_takeNextRule 5 = .ok (.getfield 10, 3) := by decide +kernel
theorem d_MW_takeNextRule_8 : decode b_MW_takeNextRule 8 = .ok (.getfield 94, 3) := by decide +kernel
theorem d_MW_takeNextRule_11 : decode b_MW_takeNextRule 11 = .ok (.invokevirtual 272, 3) := by decide +kernel
theorem d_MW_takeNextRule_14 : decode b_MW_takeNextRule 14 = .ok (.ifCond .eq 5, 3) := by decide +kernel
theorem d_MW_takeNextRule_17 : decode b_MW_takeNextRule 17 = .ok (.iconst 0, 1) := by decide +kernel
theorem d_MW_takeNextRule_18 : decode b_MW_takeNextRule 18 = .ok (.ireturn, 1) := by decide +kernel
theorem d_MW_takeNextRule_19 : decode b_MW_takeNextRule 19 = .ok (.aload_n 0, 1) := by decide +kernel
theorem d_MW_takeNextRule_20 : decode b_MW_takeNextRule 20 = .ok (.getfield 26, 3) := by decide +kernel
theorem d_MW_takeNextRule_23 : decode b_MW_takeNextRule 23 = .ok (.aload_n 0, 1) := by decide +kernel
theorem d_MW_takeNextRule_24 : decode b_MW_takeNextRule 24 = .ok (.getfield 10, 3) := by decide +kernel
theorem d_MW_takeNextRule_27 : decode b_MW_takeNextRule 27 = .ok (.invokevirtual 139, 3) := by decide +kernel
theorem d_MW_takeNextRule_30 : decode b_MW_takeNextRule 30 = .ok (.aload_n 0, 1) := by decide +kernel
theorem d_MW_takeNextRule_31 : decode b_MW_takeNextRule 31 = .ok (.getfield 10, 3) := by decide +kernel
theorem d_MW_takeNextRule_34 : decode b_MW_takeNextRule 34 = .ok (.getfield 94, 3) := by decide +kernel
theorem d_MW_takeNextRule_37 : decode b_MW_takeNextRule 37 = .ok (.aload_n 0, 1) := by decide +kernel
theorem d_MW_takeNextRule_38 : decode b_MW_takeNextRule 38 = .ok (.getfield 40, 3) := by decide +kernel
theorem d_MW_takeNextRule_41 : decode b_MW_takeNextRule 41 = .ok (.invokevirtual 97, 3) := by decide +kernel
theorem d_MW_takeNextRule_44 : decode b_MW_takeNextRule 44 = .ok (.iconst 1, 1) := by decide +kernel
theorem d_MW_takeNextRule_45 : decode b_MW_takeNextRule 45 = .ok (.ireturn, 1) := by decide +kernel
theorem d_MW_takeNextWord_0 : decode b_MW_takeNextWord 0 = .ok (.aload_n 0, 1) := by decide +kernel
theorem d_MW_takeNextWord_1 : decode b_MW_takeNextWord 1 = .ok (.getfield 49, 3) := by decide +kernel
theorem d_MW_takeNextWord_4 : decode b_MW_takeNextWord 4 = .ok (.aload_n 0, 1) := by decide +kernel
theorem d_MW_takeNextWord_5 : decode b_MW_takeNextWord 5 = .ok (.getfield 10, 3) := by decide +kernel
theorem d_MW_takeNextWord_8 : decode b_MW_takeNextWord 8 = .ok (.getfield 132, 3) := by decide +kernel
theorem d_MW_takeNextWord_11 : decode b_MW_takeNextWord 11 = .ok (.invokevirtual 189, 3) := by decide +kernel
theorem d_MW_takeNextWord_14 : decode b_MW_takeNextWord 14 = .ok (.ifCond .eq 5, 3) := by decide +kernel
theorem d_MW_takeNextWord_17 : decode b_MW_takeNextWord 17 = .ok (.iconst 0, 1) := by decide +kernel
theorem d_MW_takeNextWord_18 : decode b_MW_takeNextWord 18 = .ok (.ireturn, 1) := by decide +kernel
theorem d_MW_takeNextWord_19 : decode b_MW_takeNextWord 19 = .ok (.aload_n 0, 1) := by decide +kernel
theorem d_MW_takeNextWord_20 : decode b_MW_takeNextWord 20 = .ok (.getfield 26, 3) := by decide +kernel
theorem d_MW_takeNextWord_23 : decode b_MW_takeNextWord 23 = .ok (.aload_n 0, 1) := by decide +kernel
theorem d_MW_takeNextWord_24 : decode b_MW_takeNextWord 24 = .ok (.getfield 10, 3) := by decide +kernel
theorem d_MW_takeNextWord_27 : decode b_MW_takeNextWord 27 = .ok (.invokevirtual 139, 3) := by decide +kernel
theorem d_MW_takeNextWord_30 : decode b_MW_takeNextWord 30 = .ok (.aload_n 0, 1) := by decide +kernel
theorem d_MW_takeNextWord_31 : decode b_MW_takeNextWord 31 = .ok (.getfield 10, 3) := by decide +kernel
theorem d_MW_takeNextWord_34 : decode b_MW_takeNextWord 34 = .ok (.getfield 132, 3) := by decide +kernel
theorem d_MW_takeNextWord_37 : decode b_MW_takeNextWord 37 = .ok (.aload_n 0, 1) := by decide +kernel
theorem d_MW_takeNextWord_38 : decode b_MW_takeNextWord 38 = .ok (.getfield 49, 3) := by decide +kernel
theorem d_MW_takeNextWord_41 : decode b_MW_takeNextWord 41 = .ok (.invokevirtual 160, 3) := by decide +kernel
theorem d_MW_takeNextWord_44 : decode b_MW_takeNextWord 44 = .ok (.iconst 1, 1) := by decide +kernel
theorem d_MW_takeNextWord_45 : decode b_MW_takeNextWord 45 = .ok (.ireturn, 1) := by decide +kernel
theorem d_MW_isLetter_0 : decode b_MW_isLetter 0 = .ok (.iload_n 0, 1) := by decide +kernel
theorem d_MW_isLetter_1 : decode b_MW_isLetter 1 = .ok (.ifCond .lt 12, 3) := by decide +kernel
theorem d_MW_isLetter_4 : decode b_MW_isLetter 4 = .ok (.iload_n 0, 1) := by decide +kernel
theorem d_MW_isLetter_5 : decode b_MW_isLetter 5 = .ok (.iconst 4, 1) := by decide +kernel
theorem d_MW_isLetter_6 : decode b_MW_isLetter 6 = .ok (.if_icmp .ge 7, 3) := by decide +kernel
theorem d_MW_isLetter_9 : decode b_MW_isLetter 9 = .ok (.iconst 1, 1) := by decide +kernel
theorem d_MW_isLetter_10 : decode b_MW_isLetter 10 = .ok (.goto 4, 3) := by decide +kernel
theorem d_MW_isLetter_13 : decode b_MW_isLetter 13 = .ok (.iconst 0, 1) := by decide +kernel
theorem d_MW_isLetter_14 : decode b_MW_isLetter 14 = .ok (.ireturn, 1) := by decide +kernel
theorem d_MW_hasLetter_0 : decode b_MW_hasLetter 0 = .ok (.iload_n 0, 1) := by decide +kernel
theorem d_MW_hasLetter_1 : decode b_MW_hasLetter 1 = .ok (.iconst 1, 1) := by decide +kernel
theorem d_MW_hasLetter_2 : decode b_MW_hasLetter 2 = .ok (.iload_n 1, 1) := by decide +kernel
theorem d_MW_hasLetter_3 : decode b_MW_hasLetter 3 = .ok (.ishl, 1) := by decide +kernel
theorem d_MW_hasLetter_4 : decode b_MW_hasLetter 4 = .ok (.iand, 1) := by decide +kernel
theorem d_MW_hasLetter_5 : decode b_MW_hasLetter 5 = .ok (.ifCond .eq 7, 3) := by decide +kernel
theorem d_MW_hasLetter_8 : decode b_MW_hasLetter 8 = .ok (.iconst 1, 1) := by decide +kernel
theorem d_MW_hasLetter_9 : decode b_MW_hasLetter 9 = .ok (.goto 4, 3) := by decide +kernel
theorem d_MW_hasLetter_12 : decode b_MW_hasLetter 12 = .ok (.iconst 0, 1) := by decide +kernel
theorem d_MW_hasLetter_13 : decode b_MW_hasLetter 13 = .ok (.ireturn, 1) := by decide +kernel
theorem d_MW_commonDivisor_0 : decode b_MW_commonDivisor 0 = .ok (.iload_n 0, 1) := by decide +kernel
theorem d_MW_commonDivisor_1 : decode b_MW_commonDivisor 1 = .ok (.istore_n 2, 1) := by decide +kernel
theorem d_MW_commonDivisor_2 : decode b_MW_commonDivisor 2 = .ok (.iload_n 1, 1) := by decide +kernel
theorem d_MW_commonDivisor_3 : decode b_MW_commonDivisor 3 = .ok (.istore_n 3, 1) := by decide +kernel
theorem d_MW_commonDivisor_4 : decode b_MW_commonDivisor 4 = .ok (.iconst 0, 1) := by decide +kernel
theorem d_MW_commonDivisor_5 : decode b_MW_commonDivisor 5 = .ok (.istore 4, 2) := by decide +kernel
theorem d_MW_commonDivisor_7 : decode b_MW_commonDivisor 7 = .ok (.iload 4, 2) := by decide +kernel
theorem d_MW_commonDivisor_9 : decode b_MW_commonDivisor 9 = .ok (.bipush 64, 2) := by decide +kernel
theorem d_MW_commonDivisor_11 : decode b_MW_commonDivisor 11 = .ok (.if_icmp .ge 23, 3) := by decide +kernel
theorem d_MW_commonDivisor_14 : decode b_MW_commonDivisor 14 = .ok (.iload_n 3, 1) := by decide +kernel
theorem d_MW_commonDivisor_15 : decode b_MW_commonDivisor 15 = .ok (.ifCond .eq 19, 3) := by decide +kernel
theorem d_MW_commonDivisor_18 : decode b_MW_commonDivisor 18 = .ok (.iload_n 2, 1) := by decide +kernel
theorem d_MW_commonDivisor_19 : decode b_MW_commonDivisor 19 = .ok (.iload_n 3, 1) := by decide +kernel
theorem d_MW_commonDivisor_20 : decode b_MW_commonDivisor 20 = .ok (.irem, 1) := by decide +kernel
theorem d_MW_commonDivisor_21 : decode b_MW_commonDivisor 21 = .ok (.istore 5, 2) := by decide +kernel
theorem d_MW_commonDivisor_23 : decode b_MW_commonDivisor 23 = .ok (.iload_n 3, 1) := by decide +kernel
theorem d_MW_commonDivisor_24 : decode b_MW_commonDivisor 24 = .ok (.istore_n 2, 1) := by decide +kernel
theorem d_MW_commonDivisor_25 : decode b_MW_commonDivisor 25 = .ok (.iload 5, 2) := by decide +kernel
theorem d_MW_commonDivisor_27 : decode b_MW_commonDivisor 27 = .ok (.istore_n 3, 1) := by decide +kernel
theorem d_MW_commonDivisor_28 : decode b_MW_commonDivisor 28 = .ok (.iinc 4 1, 3) := by decide +kernel
theorem d_MW_commonDivisor_31 : decode b_MW_commonDivisor 31 = .ok (.goto (-24), 3) := by decide +kernel
theorem d_MW_commonDivisor_34 : decode b_MW_commonDivisor 34 = .ok (.iload_n 2, 1) := by decide +kernel
theorem d_MW_commonDivisor_35 : decode b_MW_commonDivisor 35 = .ok (.iconst 1, 1) := by decide +kernel
theorem d_MW_commonDivisor_36 : decode b_MW_commonDivisor 36 = .ok (.invokestatic 274, 3) := by decide +kernel
theorem d_MW_commonDivisor_39 : decode b_MW_commonDivisor 39 = .ok (.ireturn, 1) := by decide +kernel
theorem d_MO_init_0 : decode b_MO_init 0 = .ok (.aload_n 0, 1) := by decide +kernel
theorem d_MO_init_1 : decode b_MO_init 1 = .ok (.invokespecial 1, 3) := by decide +kernel
theorem d_MO_init_4 : decode b_MO_init 4 = .ok (.aload_n 0, 1) := by decide +kernel
theorem d_MO_init_5 : decode b_MO_init 5 = .ok (.sipush 358, 3) := by decide +kernel
theorem d_MO_init_8 : decode b_MO_init 8 = .ok (.newarray .int, 2) := by decide +kernel
theorem d_MO_init_10 : decode b_MO_init 10 = .ok (.putfield 7, 3) := by decide +kernel
theorem d_MO_init_13 : decode b_MO_init 13 = .ok (.aload_n 0, 1) := by decide +kernel
theorem d_MO_init_14 : decode b_MO_init 14 = .ok (.sipush 1432, 3) := by decide +kernel
theorem d_MO_init_17 : decode b_MO_init 17 = .ok (.newarray .int, 2) := by decide +kernel
theorem d_MO_init_19 : decode b_MO_init 19 = .ok (.putfield 13, 3) := by decide +kernel
theorem d_MO_init_22 : decode b_MO_init 22 = .ok (.aload_n 0, 1) := by decide +kernel
theorem d_MO_init_23 : decode b_MO_init 23 = .ok (.sipush 358, 3) := by decide +kernel
theorem d_MO_init_26 : decode b_MO_init 26 = .ok (.newarray .int, 2) := by decide +kernel
theorem d_MO_init_28 : decode b_MO_init 28 = .ok (.putfield 16, 3) := by decide +kernel
theorem d_MO_init_31 : decode b_MO_init 31 = .ok (.aload_n 0, 1) := by decide +kernel
theorem d_MO_init_32 : decode b_MO_init 32 = .ok (.sipush 301, 3) := by decide +kernel
theorem d_MO_init_35 : decode b_MO_init 35 = .ok (.newarray .int, 2) := by decide +kernel
theorem d_MO_init_37 : decode b_MO_init 37 = .ok (.putfield 19, 3) := by decide +kernel
theorem d_MO_init_40 : decode b_MO_init 40 = .ok (.aload_n 0, 1) := by decide +kernel
theorem d_MO_init_41 : decode b_MO_init 41 = .ok (.sipush 301, 3) := by decide +kernel
theorem d_MO_init_44 : decode b_MO_init 44 = .ok (.newarray .int, 2) := by decide +kernel
theorem d_MO_init_46 : decode b_MO_init 46 = .ok (.putfield 22, 3) := by decide +kernel
theorem d_MO_init_49 : decode b_MO_init 49 = .ok (.aload_n 0, 1) := by decide +kernel
theorem d_MO_init_50 : decode b_MO_init 50 = .ok (.sipush 300, 3) := by decide +kernel
theorem d_MO_init_53 : decode b_MO_init 53 = .ok (.newarray .int, 2) := by decide +kernel
theorem d_MO_init_55 : decode b_MO_init 55 = .ok (.putfield 25, 3) := by decide +kernel
theorem d_MO_init_58 : decode b_MO_init 58 = .ok (.aload_n 0, 1) := by decide +kernel
theorem d_MO_init_59 : decode b_MO_init 59 = .ok (.sipush 300, 3) := by decide +kernel
theorem d_MO_init_62 : decode b_MO_init 62 = .ok (.newarray .int, 2) := by decide +kernel
theorem d_MO_init_64 : decode b_MO_init 64 = .ok (.putfield 28, 3) := by decide +kernel
theorem d_MO_init_67 : decode b_MO_init 67 = .ok (.aload_n 0, 1) := by decide +kernel
theorem d_MO_init_68 : decode b_MO_init 68 = .ok (.bipush 60, 2) := by decide +kernel
theorem d_MO_init_70 : decode b_MO_init 70 = .ok (.newarray .char, 2) := by decide +kernel
theorem d_MO_init_72 : decode b_MO_init 72 = .ok (.putfield 31, 3) := by decide +kernel
theorem d_MO_init_75 : decode b_MO_init 75 = .ok (.aload_n 0, 1) := by decide +kernel
theorem d_MO_init_76 : decode b_MO_init 76 = .ok (.bipush 16, 2) := by decide +kernel
theorem d_MO_init_78 : decode b_MO_init 78 = .ok (.newarray .int, 2) := by decide +kernel
theorem d_MO_init_80 : decode b_MO_init 80 = .ok (.putfield 35, 3) := by decide +kernel
theorem d_MO_init_83 : decode b_MO_init 83 = .ok (.aload_n 0, 1) := by decide +kernel
theorem d_MO_init_84 : decode b_MO_init 84 = .ok (.bipush 16, 2) := by decide +kernel
theorem d_MO_init_86 : decode b_MO_init 86 = .ok (.newarray .int, 2) := by decide +kernel
theorem d_MO_init_88 : decode b_MO_init 88 = .ok (.putfield 38, 3) := by decide +kernel
theorem d_MO_init_91 : decode b_MO_init 91 = .ok (.aload_n 0, 1) := by decide +kernel
theorem d_MO_init_92 : decode b_MO_init 92 = .ok (.iconst 4, 1) := by decide +kernel
theorem d_MO_init_93 : decode b_MO_init 93 = .ok (.newarray .int, 2) := by decide +kernel
theorem d_MO_init_95 : decode b_MO_init 95 = .ok (.putfield 41, 3) := by decide +kernel
theorem d_MO_init_98 : decode b_MO_init 98 = .ok (.iconst 0, 1) := by decide +kernel
theorem d_MO_init_99 : decode b_MO_init 99 = .ok (.istore_n 1, 1) := by decide +kernel
theorem d_MO_init_100 : decode b_MO_init 100 = .ok (.iload_n 1, 1) := by decide +kernel
theorem d_MO_init_101 : decode b_MO_init 101 = .ok (.iconst 4, 1) := by decide +kernel
theorem d_MO_init_102 : decode b_MO_init 102 = .ok (.if_icmp .ge 31, 3) := by decide +kernel
theorem d_MO_init_105 : decode b_MO_init 105 = .ok (.aload_n 0, 1) := by decide +kernel
theorem d_MO_init_106 : decode b_MO_init 106 = .ok (.getfield 7, 3) := by decide +kernel
theorem d_MO_init_109 : decode b_MO_init 109 = .ok (.bipush 9, 2) := by decide +kernel
theorem d_MO_init_111 : decode b_MO_init 111 = .ok (.iload_n 1, 1) := by decide +kernel
theorem d_MO_init_112 : decode b_MO_init 112 = .ok (.imul, 1) := by decide +kernel
theorem d_MO_init_113 : decode b_MO_init 113 = .ok (.iconst 1, 1) := by decide +kernel
theorem d_MO_init_114 : decode b_MO_init 114 = .ok (.iastore, 1) := by decide +kernel
theorem d_MO_init_115 : decode b_MO_init 115 = .ok (.aload_n 0, 1) := by decide +kernel
theorem d_MO_init_116 : decode b_MO_init 116 = .ok (.getfield 7, 3) := by decide +kernel
theorem d_MO_init_119 : decode b_MO_init 119 = .ok (.bipush 9, 2) := by decide +kernel
theorem d_MO_init_121 : decode b_MO_init 121 = .ok (.iload_n 1, 1) := by decide +kernel
theorem d_MO_init_122 : decode b_MO_init 122 = .ok (.imul, 1) := by decide +kernel
theorem d_MO_init_123 : decode b_MO_init 123 = .ok (.iconst 1, 1) := by decide +kernel
theorem d_MO_init_124 : decode b_MO_init 124 = .ok (.iadd, 1) := by decide +kernel
theorem d_MO_init_125 : decode b_MO_init 125 = .ok (.iload_n 1, 1) := by decide +kernel
theorem d_MO_init_126 : decode b_MO_init 126 = .ok (.iastore, 1) := by decide +kernel
theorem d_MO_init_127 : decode b_MO_init 127 = .ok (.iinc 1 1, 3) := by decide +kernel
theorem d_MO_init_130 : decode b_MO_init 130 = .ok (.goto (-30), 3) := by decide +kernel
theorem d_MO_init_133 : decode b_MO_init 133 = .ok (.aload_n 0, 1) := by decide +kernel
theorem d_MO_init_134 : decode b_MO_init 134 = .ok (.getfield 7, 3) := by decide +kernel
theorem d_MO_init_137 : decode b_MO_init 137 = .ok (.bipush 36, 2) := by decide +kernel
theorem d_MO_init_139 : decode b_MO_init 139 = .ok (.iconst 1, 1) := by decide +kernel
theorem d_MO_init_140 : decode b_MO_init 140 = .ok (.iastore, 1) := by decide +kernel
theorem d_MO_init_141 : decode b_MO_init 141 = .ok (.return_, 1) := by decide +kernel
theorem d_MO_in_0 : decode b_MO_in 0 = .ok (.iload_n 0, 1) := by decide +kernel
theorem d_MO_in_1 : decode b_MO_in 1 = .ok (.iload_n 1, 1) := by decide +kernel
theorem d_MO_in_2 : decode b_MO_in 2 = .ok (.if_icmp .lt 12, 3) := by decide +kernel
theorem d_MO_in_5 : decode b_MO_in 5 = .ok (.iload_n 0, 1) := by decide +kernel
theorem d_MO_in_6 : decode b_MO_in 6 = .ok (.iload_n 2, 1) := by decide +kernel
theorem d_MO_in_7 : decode b_MO_in 7 = .ok (.if_icmp .gt 7, 3) := by decide +kernel
theorem d_MO_in_10 : decode b_MO_in 10 = .ok (.iconst 1, 1) := by decide +kernel
theorem d_MO_in_11 : decode b_MO_in 11 = .ok (.goto 4, 3) := by decide +kernel
theorem d_MO_in_14 : decode b_MO_in 14 = .ok (.iconst 0, 1) := by decide +kernel
theorem d_MO_in_15 : decode b_MO_in 15 = .ok (.ireturn, 1) := by decide +kernel
theorem d_MO_no_0 : decode b_MO_no 0 = .ok (.iload_n 0, 1) := by decide +kernel
theorem d_MO_no_1 : decode b_MO_no 1 = .ok (.iconst 0, 1) := by decide +kernel
theorem d_MO_no_2 : decode b_MO_no 2 = .ok (.iconst 3, 1) := by decide +kernel
theorem d_MO_no_3 : decode b_MO_no 3 = .ok (.invokestatic 44, 3) := by decide +kernel
theorem d_MO_no_6 : decode b_MO_no 6 = .ok (.ifCond .ne 7, 3) := by decide +kernel
theorem d_MO_no_9 : decode b_MO_no 9 = .ok (.iconst 1, 1) := by decide +kernel
theorem d_MO_no_10 : decode b_MO_no 10 = .ok (.goto 4, 3) := by decide +kernel
theorem d_MO_no_13 : decode b_MO_no 13 = .ok (.iconst 0, 1) := by decide +kernel
theorem d_MO_no_14 : decode b_MO_no 14 = .ok (.ireturn, 1) := by decide +kernel
theorem d_MO_size_0 : decode b_MO_size 0 = .ok (.aload_n 0, 1) := by decide +kernel
theorem d_MO_size_1 : decode b_MO_size 1 = .ok (.getfield 7, 3) := by decide +kernel
theorem d_MO_size_4 : decode b_MO_size 4 = .ok (.bipush 9, 2) := by decide +kernel
theorem d_MO_size_6 : decode b_MO_size 6 = .ok (.iload_n 1, 1) := by decide +kernel
theorem d_MO_size_7 : decode b_MO_size 7 = .ok (.imul, 1) := by decide +kernel
theorem d_MO_size_8 : decode b_MO_size 8 = .ok (.iaload, 1) := by decide +kernel
theorem d_MO_size_9 : decode b_MO_size 9 = .ok (.ireturn, 1) := by decide +kernel
theorem d_MO_sign_0 : decode b_MO_sign 0 = .ok (.aload_n 0, 1) := by decide +kernel
theorem d_MO_sign_1 : decode b_MO_sign 1 = .ok (.getfield 7, 3) := by decide +kernel
theorem d_MO_sign_4 : decode b_MO_sign 4 = .ok (.bipush 9, 2) := by decide +kernel
theorem d_MO_sign_6 : decode b_MO_sign 6 = .ok (.iload_n 1, 1) := by decide +kernel
theorem d_MO_sign_7 : decode b_MO_sign 7 = .ok (.imul, 1) := by decide +kernel
theorem d_MO_sign_8 : decode b_MO_sign 8 = .ok (.iconst 1, 1) := by decide +kernel
theorem d_MO_sign_9 : decode b_MO_sign 9 = .ok (.iadd, 1) := by decide +kernel
theorem d_MO_sign_10 : decode b_MO_sign 10 = .ok (.iload_n 2, 1) := by decide +kernel
theorem d_MO_sign_11 : decode b_MO_sign 11 = .ok (.iadd, 1) := by decide +kernel
theorem d_MO_sign_12 : decode b_MO_sign 12 = .ok (.iaload, 1) := by decide +kernel
theorem d_MO_sign_13 : decode b_MO_sign 13 = .ok (.ireturn, 1) := by decide +kernel
theorem d_MO_length_0 : decode b_MO_length 0 = .ok (.aload_n 0, 1) := by decide +kernel
theorem d_MO_length_1 : decode b_MO_length 1 = .ok (.getfield 7, 3) := by decide +kernel
theorem d_MO_length_4 : decode b_MO_length 4 = .ok (.bipush 36, 2) := by decide +kernel
theorem d_MO_length_6 : decode b_MO_length 6 = .ok (.iaload, 1) := by decide +kernel
theorem d_MO_length_7 : decode b_MO_length 7 = .ok (.ireturn, 1) := by decide +kernel
theorem d_MO_word_0 : decode b_MO_word 0 = .ok (.aload_n 0, 1) := by decide +kernel
theorem d_MO_word_1 : decode b_MO_word 1 = .ok (.getfield 7, 3) := by decide +kernel
theorem d_MO_word_4 : decode b_MO_word 4 = .ok (.bipush 37, 2) := by decide +kernel
theorem d_MO_word_6 : decode b_MO_word 6 = .ok (.iload_n 1, 1) := by decide +kernel
theorem d_MO_word_7 : decode b_MO_word 7 = .ok (.iadd, 1) := by decide +kernel
theorem d_MO_word_8 : decode b_MO_word 8 = .ok (.iaload, 1) := by decide +kernel
theorem d_MO_word_9 : decode b_MO_word 9 = .ok (.ireturn, 1) := by decide +kernel
theorem d_MO_record_0 : decode b_MO_record 0 = .ok (.aload_n 0, 1) := by decide +kernel
theorem d_MO_record_1 : decode b_MO_record 1 = .ok (.getfield 48, 3) := by decide +kernel
theorem d_MO_record_4 : decode b_MO_record 4 = .ok (.iconst 4, 1) := by decide +kernel
theorem d_MO_record_5 : decode b_MO_record 5 = .ok (.if_icmp .ne 44, 3) := by decide +kernel
theorem d_MO_record_8 : decode b_MO_record 8 = .ok (.iconst 0, 1) := by decide +kernel
theorem d_MO_record_9 : decode b_MO_record 9 = .ok (.istore_n 1, 1) := by decide +kernel
theorem d_MO_record_10 : decode b_MO_record 10 = .ok (.iload_n 1, 1) := by decide +kernel
theorem d_MO_record_11 : decode b_MO_record 11 = .ok (.sipush 1074, 3) := by decide +kernel
theorem d_MO_record_14 : decode b_MO_record 14 = .ok (.if_icmp .ge 25, 3) := by decide +kernel
theorem d_MO_record_17 : decode b_MO_record 17 = .ok (.aload_n 0, 1) := by decide +kernel
theorem d_MO_record_18 : decode b_MO_record 18 = .ok (.getfield 13, 3) := by decide +kernel
theorem d_MO_record_21 : decode b_MO_record 21 = .ok (.iload_n 1, 1) := by decide +kernel
theorem d_MO_record_22 : decode b_MO_record 22 = .ok (.aload_n 0, 1) := by decide +kernel
theorem d_MO_record_23 : decode b_MO_record 23 = .ok (.getfield 13, 3) := by decide +kernel
theorem d_MO_record_26 : decode b_MO_record 26 = .ok (.iload_n 1, 1) := by decide +kernel
theorem d_MO_record_27 : decode b_MO_record 27 = .ok (.sipush 358, 3) := by decide +kernel
theorem d_MO_record_30 : decode b_MO_record 30 = .ok (.iadd, 1) := by decide +kernel
theorem d_MO_record_31 : decode b_MO_record 31 = .ok (.iaload, 1) := by decide +kernel
theorem d_MO_record_32 : decode b_MO_record 32 = .ok (.iastore, 1) := by decide +kernel
theorem d_MO_record_33 : decode b_MO_record 33 = .ok (.iinc 1 1, 3) := by decide +kernel
theorem d_MO_record_36 : decode b_MO_record 36 = .ok (.goto (-26), 3) := by decide +kernel
theorem d_MO_record_39 : decode b_MO_record 39 = .ok (.aload_n 0, 1) := by decide +kernel
theorem d_MO_record_40 : decode b_MO_record 40 = .ok (.dup, 1) := by decide +kernel
theorem d_MO_record_41 : decode b_MO_record 41 = .ok (.getfield 48, 3) := by decide +kernel
theorem d_MO_record_44 : decode b_MO_record 44 = .ok (.iconst 1, 1) := by decide +kernel
theorem d_MO_record_45 : decode b_MO_record 45 = .ok (.isub, 1) := by decide +kernel
theorem d_MO_record_46 : decode b_MO_record 46 = .ok (.putfield 48, 3) := by decide +kernel
theorem d_MO_record_49 : decode b_MO_record 49 = .ok (.iconst 0, 1) := by decide +kernel
theorem d_MO_record_50 : decode b_MO_record 50 = .ok (.istore_n 1, 1) := by decide +kernel
theorem d_MO_record_51 : decode b_MO_record 51 = .ok (.iload_n 1, 1) := by decide +kernel
theorem d_MO_record_52 : decode b_MO_record 52 = .ok (.sipush 358, 3) := by decide +kernel
theorem d_MO_record_55 : decode b_MO_record 55 = .ok (.if_icmp .ge 30, 3) := by decide +kernel
theorem d_MO_record_58 : decode b_MO_record 58 = .ok (.aload_n 0, 1) := by decide +kernel
theorem d_MO_record_59 : decode b_MO_record 59 = .ok (.getfield 13, 3) := by decide +kernel
theorem d_MO_record_62 : decode b_MO_record 62 = .ok (.sipush 358, 3) := by decide +kernel
theorem d_MO_record_65 : decode b_MO_record 65 = .ok (.aload_n 0, 1) := by decide +kernel
theorem d_MO_record_66 : decode b_MO_record 66 = .ok (.getfield 48, 3) := by decide +kernel
theorem d_MO_record_69 : decode b_MO_record 69 = .ok (.imul, 1) := by decide +kernel
theorem d_MO_record_70 : decode b_MO_record 70 = .ok (.iload_n 1, 1) := by decide +kernel
theorem d_MO_record_71 : decode b_MO_record 71 = .ok (.iadd, 1) := by decide +kernel
theorem d_MO_record_72 : decode b_MO_record 72 = .ok (.aload_n 0, 1) := by decide +kernel
theorem d_MO_record_73 : decode b_MO_record 73 = .ok (.getfield 7, 3) := by decide +kernel
theorem d_MO_record_76 : decode b_MO_record 76 = .ok (.iload_n 1, 1) := by decide +kernel
theorem d_MO_record_77 : decode b_MO_record 77 = .ok (.iaload, 1) := by decide +kernel
theorem d_MO_record_78 : decode b_MO_record 78 = .ok (.iastore, 1) := by decide +kernel
theorem d_MO_record_79 : decode b_MO_record 79 = .ok (.iinc 1 1, 3) := by decide +kernel
theorem d_MO_record_82 : decode b_MO_record 82 = .ok (.goto (-31), 3) := by decide +kernel
theorem d_MO_record_85 : decode b_MO_record 85 = .ok (.aload_n 0, 1) := by decide +kernel
theorem d_MO_record_86 : decode b_MO_record 86 = .ok (.dup, 1) := by decide +kernel
theorem d_MO_record_87 : decode b_MO_record 87 = .ok (.getfield 48, 3) := by decide +kernel
theorem d_MO_record_90 : decode b_MO_record 90 = .ok (.iconst 1, 1) := by decide +kernel
theorem d_MO_record_91 : decode b_MO_record 91 = .ok (.iadd, 1) := by decide +kernel
theorem d_MO_record_92 : decode b_MO_record 92 = .ok (.putfield 48, 3) := by decide +kernel
theorem d_MO_record_95 : decode b_MO_record 95 = .ok (.return_, 1) := by decide +kernel
theorem d_MO_isSameRule_0 : decode b_MO_isSameRule 0 = .ok (.iconst 1, 1) := by decide +kernel
theorem d_MO_isSameRule_1 : decode b_MO_isSameRule 1 = .ok (.istore_n 1, 1) := by decide +kernel
theorem d_MO_isSameRule_2 : decode b_MO_isSameRule 2 = .ok (.iconst 0, 1) := by decide +kernel
theorem d_MO_isSameRule_3 : decode b_MO_isSameRule 3 = .ok (.istore_n 2, 1) := by decide +kernel
theorem d_MO_isSameRule_4 : decode b_MO_isSameRule 4 = .ok (.iload_n 2, 1) := by decide +kernel
theorem d_MO_isSameRule_5 : decode b_MO_isSameRule 5 = .ok (.iconst 4, 1) := by decide +kernel
theorem d_MO_isSameRule_6 : decode b_MO_isSameRule 6 = .ok (.if_icmp .ge 83, 3) := by decide +kernel
theorem d_MO_isSameRule_9 : decode b_MO_isSameRule 9 = .ok (.iload_n 1, 1) := by decide +kernel
theorem d_MO_isSameRule_10 : decode b_MO_isSameRule 10 = .ok (.aload_n 0, 1) := by decide +kernel
theorem d_MO_isSameRule_11 : decode b_MO_isSameRule 11 = .ok (.getfield 19, 3) := by decide +kernel
theorem d_MO_isSameRule_14 : decode b_MO_isSameRule 14 = .ok (.bipush 9, 2) := by decide +kernel
theorem d_MO_isSameRule_16 : decode b_MO_isSameRule 16 = .ok (.iload_n 2, 1) := by decide +kernel
theorem d_MO_isSameRule_17 : decode b_MO_isSameRule 17 = .ok (.imul, 1) := by decide +kernel
theorem d_MO_isSameRule_18 : decode b_MO_isSameRule 18 = .ok (.iaload, 1) := by decide +kernel
theorem d_MO_isSameRule_19 : decode b_MO_isSameRule 19 = .ok (.aload_n 0, 1) := by decide +kernel
theorem d_MO_isSameRule_20 : decode b_MO_isSameRule 20 = .ok (.iload_n 2, 1) := by decide +kernel
theorem d_MO_isSameRule_21 : decode b_MO_isSameRule 21 = .ok (.invokevirtual 52, 3) := by decide +kernel
theorem d_MO_isSameRule_24 : decode b_MO_isSameRule 24 = .ok (.if_icmp .ne 7, 3) := by decide +kernel
theorem d_MO_isSameRule_27 : decode b_MO_isSameRule 27 = .ok (.iconst 1, 1) := by decide +kernel
theorem d_MO_isSameRule_28 : decode b_MO_isSameRule 28 = .ok (.goto 4, 3) := by decide +kernel
theorem d_MO_isSameRule_31 : decode b_MO_isSameRule 31 = .ok (.iconst 0, 1) := by decide +kernel
theorem d_MO_isSameRule_32 : decode b_MO_isSameRule 32 = .ok (.iand, 1) := by decide +kernel
theorem d_MO_isSameRule_33 : decode b_MO_isSameRule 33 = .ok (.istore_n 1, 1) := by decide +kernel
theorem d_MO_isSameRule_34 : decode b_MO_isSameRule 34 = .ok (.iconst 0, 1) := by decide +kernel
theorem d_MO_isSameRule_35 : decode b_MO_isSameRule 35 = .ok (.istore_n 3, 1) := by decide +kernel
theorem d_MO_isSameRule_36 : decode b_MO_isSameRule 36 = .ok (.iload_n 3, 1) := by decide +kernel
theorem d_MO_isSameRule_37 : decode b_MO_isSameRule 37 = .ok (.aload_n 0, 1) := by decide +kernel
theorem d_MO_isSameRule_38 : decode b_MO_isSameRule 38 = .ok (.iload_n 2, 1) := by decide +kernel
theorem d_MO_isSameRule_39 : decode b_MO_isSameRule 39 = .ok (.invokevirtual 52, 3) := by decide +kernel
theorem d_MO_isSameRule_42 : decode b_MO_isSameRule 42 = .ok (.if_icmp .ge 41, 3) := by decide +kernel
theorem d_MO_isSameRule_45 : decode b_MO_isSameRule 45 = .ok (.iload_n 1, 1) := by decide +kernel
theorem d_MO_isSameRule_46 : decode b_MO_isSameRule 46 = .ok (.ifCond .eq 37, 3) := by decide +kernel
theorem d_MO_isSameRule_49 : decode b_MO_isSameRule 49 = .ok (.aload_n 0, 1) := by decide +kernel
theorem d_MO_isSameRule_50 : decode b_MO_isSameRule 50 = .ok (.getfield 19, 3) := by decide +kernel
theorem d_MO_isSameRule_53 : decode b_MO_isSameRule 53 = .ok (.bipush 9, 2) := by decide +kernel
theorem d_MO_isSameRule_55 : decode b_MO_isSameRule 55 = .ok (.iload_n 2, 1) := by decide +kernel
theorem d_MO_isSameRule_56 : decode b_MO_isSameRule 56 = .ok (.imul, 1) := by decide +kernel
theorem d_MO_isSameRule_57 : decode b_MO_isSameRule 57 = .ok (.iconst 1, 1) := by decide +kernel
theorem d_MO_isSameRule_58 : decode b_MO_isSameRule 58 = .ok (.iadd, 1) := by decide +kernel
theorem d_MO_isSameRule_59 : decode b_MO_isSameRule 59 = .ok (.iload_n 3, 1) := by decide +kernel
theorem d_MO_isSameRule_60 : decode b_MO_isSameRule 60 = .ok (.iadd, 1) := by decide +kernel
theorem d_MO_isSameRule_61 : decode b_MO_isSameRule 61 = .ok (.iaload, 1) := by decide +kernel
theorem d_MO_isSameRule_62 : decode b_MO_isSameRule 62 = .ok (.aload_n 0, 1) := by decide +kernel
theorem d_MO_isSameRule_63 : decode b_MO_isSameRule 63 = .ok (.iload_n 2, 1) := by decide +kernel
theorem d_MO_isSameRule_64 : decode b_MO_isSameRule 64 = .ok (.iload_n 3, 1) := by decide +kernel
theorem d_MO_isSameRule_65 : decode b_MO_isSameRule 65 = .ok (.invokevirtual 56, 3) := by decide +kernel
theorem d_MO_isSameRule_68 : decode b_MO_isSameRule 68 = .ok (.if_icmp .ne 7, 3) := by decide +kernel
theorem d_MO_isSameRule_71 : decode b_MO_isSameRule 71 = .ok (.iconst 1, 1) := by decide +kernel
theorem d_MO_isSameRule_72 : decode b_MO_isSameRule 72 = .ok (.goto 4, 3) := by decide +kernel
theorem d_MO_isSameRule_75 : decode b_MO_isSameRule 75 = .ok (.iconst 0, 1) := by decide +kernel
theorem d_MO_isSameRule_76 : decode b_MO_isSameRule 76 = .ok (.istore_n 1, 1) := by decide +kernel
theorem d_MO_isSameRule_77 : decode b_MO_isSameRule 77 = .ok (.iinc 3 1, 3) := by decide +kernel
theorem d_MO_isSameRule_80 : decode b_MO_isSameRule 80 = .ok (.goto (-44), 3) := by decide +kernel
theorem d_MO_isSameRule_83 : decode b_MO_isSameRule 83 = .ok (.iinc 2 1, 3) := by decide +kernel
theorem d_MO_isSameRule_86 : decode b_MO_isSameRule 86 = .ok (.goto (-82), 3) := by decide +kernel
theorem d_MO_isSameRule_89 : decode b_MO_isSameRule 89 = .ok (.iload_n 1, 1) := by decide +kernel
theorem d_MO_isSameRule_90 : decode b_MO_isSameRule 90 = .ok (.ireturn, 1) := by decide +kernel
theorem d_MO_laysRule_0 : decode b_MO_laysRule 0 = .ok (.iconst 0, 1) := by decide +kernel
theorem d_MO_laysRule_1 : decode b_MO_laysRule 1 = .ok (.istore_n 1, 1) := by decide +kernel
theorem d_MO_laysRule_2 : decode b_MO_laysRule 2 = .ok (.iload_n 1, 1) := by decide +kernel
theorem d_MO_laysRule_3 : decode b_MO_laysRule 3 = .ok (.bipush 36, 2) := by decide +kernel
theorem d_MO_laysRule_5 : decode b_MO_laysRule 5 = .ok (.if_icmp .ge 21, 3) := by decide +kernel
theorem d_MO_laysRule_8 : decode b_MO_laysRule 8 = .ok (.aload_n 0, 1) := by decide +kernel
theorem d_MO_laysRule_9 : decode b_MO_laysRule 9 = .ok (.getfield 7, 3) := by decide +kernel
theorem d_MO_laysRule_12 : decode b_MO_laysRule 12 = .ok (.iload_n 1, 1) := by decide +kernel
theorem d_MO_laysRule_13 : decode b_MO_laysRule 13 = .ok (.aload_n 0, 1) := by decide +kernel
theorem d_MO_laysRule_14 : decode b_MO_laysRule 14 = .ok (.getfield 19, 3) := by decide +kernel
theorem d_MO_laysRule_17 : decode b_MO_laysRule 17 = .ok (.iload_n 1, 1) := by decide +kernel
theorem d_MO_laysRule_18 : decode b_MO_laysRule 18 = .ok (.iaload, 1) := by decide +kernel
theorem d_MO_laysRule_19 : decode b_MO_laysRule 19 = .ok (.iastore, 1) := by decide +kernel
theorem d_MO_laysRule_20 : decode b_MO_laysRule 20 = .ok (.iinc 1 1, 3) := by decide +kernel
theorem d_MO_laysRule_23 : decode b_MO_laysRule 23 = .ok (.goto (-21), 3) := by decide +kernel
theorem d_MO_laysRule_26 : decode b_MO_laysRule 26 = .ok (.return_, 1) := by decide +kernel
theorem d_MO_isSameWord_0 : decode b_MO_isSameWord 0 = .ok (.aload_n 0, 1) := by decide +kernel
theorem d_MO_isSameWord_1 : decode b_MO_isSameWord 1 = .ok (.getfield 19, 3) := by decide +kernel
theorem d_MO_isSameWord_4 : decode b_MO_isSameWord 4 = .ok (.iconst 0, 1) := by decide +kernel
theorem d_MO_isSameWord_5 : decode b_MO_isSameWord 5 = .ok (.iaload, 1) := by decide +kernel
theorem d_MO_isSameWord_6 : decode b_MO_isSameWord 6 = .ok (.aload_n 0, 1) := by decide +kernel
theorem d_MO_isSameWord_7 : decode b_MO_isSameWord 7 = .ok (.invokevirtual 60, 3) := by decide +kernel
theorem d_MO_isSameWord_10 : decode b_MO_isSameWord 10 = .ok (.if_icmp .ne 7, 3) := by decide +kernel
theorem d_MO_isSameWord_13 : decode b_MO_isSameWord 13 = .ok (.iconst 1, 1) := by decide +kernel
theorem d_MO_isSameWord_14 : decode b_MO_isSameWord 14 = .ok (.goto 4, 3) := by decide +kernel
theorem d_MO_isSameWord_17 : decode b_MO_isSameWord 17 = .ok (.iconst 0, 1) := by decide +kernel
theorem d_MO_isSameWord_18 : decode b_MO_isSameWord 18 = .ok (.istore_n 1, 1) := by decide +kernel
theorem d_MO_isSameWord_19 : decode b_MO_isSameWord 19 = .ok (.iconst 0, 1) := by decide +kernel
theorem d_MO_isSameWord_20 : decode b_MO_isSameWord 20 = .ok (.istore_n 2, 1) := by decide +kernel
theorem d_MO_isSameWord_21 : decode b_MO_isSameWord 21 = .ok (.iload_n 2, 1) := by decide +kernel
theorem d_MO_isSameWord_22 : decode b_MO_isSameWord 22 = .ok (.aload_n 0, 1) := by decide +kernel
theorem d_MO_isSameWord_23 : decode b_MO_isSameWord 23 = .ok (.invokevirtual 60, 3) := by decide +kernel
theorem d_MO_isSameWord_26 : decode b_MO_isSameWord 26 = .ok (.if_icmp .ge 35, 3) := by decide +kernel
theorem d_MO_isSameWord_29 : decode b_MO_isSameWord 29 = .ok (.iload_n 1, 1) := by decide +kernel
theorem d_MO_isSameWord_30 : decode b_MO_isSameWord 30 = .ok (.ifCond .eq 31, 3) := by decide +kernel
theorem d_MO_isSameWord_33 : decode b_MO_isSameWord 33 = .ok (.aload_n 0, 1) := by decide +kernel
theorem d_MO_isSameWord_34 : decode b_MO_isSameWord 34 = .ok (.getfield 19, 3) := by decide +kernel
theorem d_MO_isSameWord_37 : decode b_MO_isSameWord 37 = .ok (.iconst 1, 1) := by decide +kernel
theorem d_MO_isSameWord_38 : decode b_MO_isSameWord 38 = .ok (.iload_n 2, 1) := by decide +kernel
theorem d_MO_isSameWord_39 : decode b_MO_isSameWord 39 = .ok (.iadd, 1) := by decide +kernel
theorem d_MO_isSameWord_40 : decode b_MO_isSameWord 40 = .ok (.iaload, 1) := by decide +kernel
theorem d_MO_isSameWord_41 : decode b_MO_isSameWord 41 = .ok (.aload_n 0, 1) := by decide +kernel
theorem d_MO_isSameWord_42 : decode b_MO_isSameWord 42 = .ok (.iload_n 2, 1) := by decide +kernel
theorem d_MO_isSameWord_43 : decode b_MO_isSameWord 43 = .ok (.invokevirtual 64, 3) := by decide +kernel
theorem d_MO_isSameWord_46 : decode b_MO_isSameWord 46 = .ok (.if_icmp .ne 7, 3) := by decide +kernel
theorem d_MO_isSameWord_49 : decode b_MO_isSameWord 49 = .ok (.iconst 1, 1) := by decide +kernel
theorem d_MO_isSameWord_50 : decode b_MO_isSameWord 50 = .ok (.goto 4, 3) := by decide +kernel
theorem d_MO_isSameWord_53 : decode b_MO_isSameWord 53 = .ok (.iconst 0, 1) := by decide +kernel
theorem d_MO_isSameWord_54 : decode b_MO_isSameWord 54 = .ok (.istore_n 1, 1) := by decide +kernel
theorem d_MO_isSameWord_55 : decode b_MO_isSameWord 55 = .ok (.iinc 2 1, 3) := by decide +kernel
theorem d_MO_isSameWord_58 : decode b_MO_isSameWord 58 = .ok (.goto (-37), 3) := by decide +kernel
theorem d_MO_isSameWord_61 : decode b_MO_isSameWord 61 = .ok (.iload_n 1, 1) := by decide +kernel
theorem d_MO_isSameWord_62 : decode b_MO_isSameWord 62 = .ok (.ireturn, 1) := by decide +kernel
theorem d_MO_laysWord_0 : decode b_MO_laysWord 0 = .ok (.iconst 0, 1) := by decide +kernel
theorem d_MO_laysWord_1 : decode b_MO_laysWord 1 = .ok (.istore_n 1, 1) := by decide +kernel
theorem d_MO_laysWord_2 : decode b_MO_laysWord 2 = .ok (.iload_n 1, 1) := by decide +kernel
theorem d_MO_laysWord_3 : decode b_MO_laysWord 3 = .ok (.aload_n 0, 1) := by decide +kernel
theorem d_MO_laysWord_4 : decode b_MO_laysWord 4 = .ok (.getfield 19, 3) := by decide +kernel
theorem d_MO_laysWord_7 : decode b_MO_laysWord 7 = .ok (.iconst 0, 1) := by decide +kernel
theorem d_MO_laysWord_8 : decode b_MO_laysWord 8 = .ok (.iaload, 1) := by decide +kernel
theorem d_MO_laysWord_9 : decode b_MO_laysWord 9 = .ok (.if_icmp .gt 24, 3) := by decide +kernel
theorem d_MO_laysWord_12 : decode b_MO_laysWord 12 = .ok (.aload_n 0, 1) := by decide +kernel
theorem d_MO_laysWord_13 : decode b_MO_laysWord 13 = .ok (.getfield 7, 3) := by decide +kernel
theorem d_MO_laysWord_16 : decode b_MO_laysWord 16 = .ok (.bipush 36, 2) := by decide +kernel
theorem d_MO_laysWord_18 : decode b_MO_laysWord 18 = .ok (.iload_n 1, 1) := by decide +kernel
theorem d_MO_laysWord_19 : decode b_MO_laysWord 19 = .ok (.iadd, 1) := by decide +kernel
theorem d_MO_laysWord_20 : decode b_MO_laysWord 20 = .ok (.aload_n 0, 1) := by decide +kernel
theorem d_MO_laysWord_21 : decode b_MO_laysWord 21 = .ok (.getfield 19, 3) := by decide +kernel
theorem d_MO_laysWord_24 : decode b_MO_laysWord 24 = .ok (.iload_n 1, 1) := by decide +kernel
theorem d_MO_laysWord_25 : decode b_MO_laysWord 25 = .ok (.iaload, 1) := by decide +kernel
theorem d_MO_laysWord_26 : decode b_MO_laysWord 26 = .ok (.iastore, 1) := by decide +kernel
theorem d_MO_laysWord_27 : decode b_MO_laysWord 27 = .ok (.iinc 1 1, 3) := by decide +kernel
theorem d_MO_laysWord_30 : decode b_MO_laysWord 30 = .ok (.goto (-28), 3) := by decide +kernel
theorem d_MO_laysWord_33 : decode b_MO_laysWord 33 = .ok (.return_, 1) := by decide +kernel
theorem d_MO_takesRule_0 : decode b_MO_takesRule 0 = .ok (.iconst 0, 1) := by decide +kernel
theorem d_MO_takesRule_1 : decode b_MO_takesRule 1 = .ok (.istore_n 1, 1) := by decide +kernel
theorem d_MO_takesRule_2 : decode b_MO_takesRule 2 = .ok (.iload_n 1, 1) := by decide +kernel
theorem d_MO_takesRule_3 : decode b_MO_takesRule 3 = .ok (.bipush 36, 2) := by decide +kernel
theorem d_MO_takesRule_5 : decode b_MO_takesRule 5 = .ok (.if_icmp .ge 21, 3) := by decide +kernel
theorem d_MO_takesRule_8 : decode b_MO_takesRule 8 = .ok (.aload_n 0, 1) := by decide +kernel
theorem d_MO_takesRule_9 : decode b_MO_takesRule 9 = .ok (.getfield 19, 3) := by decide +kernel
theorem d_MO_takesRule_12 : decode b_MO_takesRule 12 = .ok (.iload_n 1, 1) := by decide +kernel
theorem d_MO_takesRule_13 : decode b_MO_takesRule 13 = .ok (.aload_n 0, 1) := by decide +kernel
theorem d_MO_takesRule_14 : decode b_MO_takesRule 14 = .ok (.getfield 7, 3) := by decide +kernel
theorem d_MO_takesRule_17 : decode b_MO_takesRule 17 = .ok (.iload_n 1, 1) := by decide +kernel
theorem d_MO_takesRule_18 : decode b_MO_takesRule 18 = .ok (.iaload, 1) := by decide +kernel
theorem d_MO_takesRule_19 : decode b_MO_takesRule 19 = .ok (.iastore, 1) := by decide +kernel
theorem d_MO_takesRule_20 : decode b_MO_takesRule 20 = .ok (.iinc 1 1, 3) := by decide +kernel
theorem d_MO_takesRule_23 : decode b_MO_takesRule 23 = .ok (.goto (-21), 3) := by decide +kernel
theorem d_MO_takesRule_26 : decode b_MO_takesRule 26 = .ok (.return_, 1) := by decide +kernel
theorem d_MO_allSizes_0 : decode b_MO_allSizes 0 = .ok (.aload_n 0, 1) := by decide +kernel
theorem d_MO_allSizes_1 : decode b_MO_allSizes 1 = .ok (.iconst 0, 1) := by decide +kernel
theorem d_MO_allSizes_2 : decode b_MO_allSizes 2 = .ok (.invokevirtual 52, 3) := by decide +kernel
theorem d_MO_allSizes_5 : decode b_MO_allSizes 5 = .ok (.aload_n 0, 1) := by decide +kernel
theorem d_MO_allSizes_6 : decode b_MO_allSizes 6 = .ok (.iconst 1, 1) := by decide +kernel
theorem d_MO_allSizes_7 : decode b_MO_allSizes 7 = .ok (.invokevirtual 52, 3) := by decide +kernel
theorem d_MO_allSizes_10 : decode b_MO_allSizes 10 = .ok (.iadd, 1) := by decide +kernel
theorem d_MO_allSizes_11 : decode b_MO_allSizes 11 = .ok (.aload_n 0, 1) := by decide +kernel
theorem d_MO_allSizes_12 : decode b_MO_allSizes 12 = .ok (.iconst 2, 1) := by decide +kernel
theorem d_MO_allSizes_13 : decode b_MO_allSizes 13 = .ok (.invokevirtual 52, 3) := by decide +kernel
theorem d_MO_allSizes_16 : decode b_MO_allSizes 16 = .ok (.iadd, 1) := by decide +kernel
theorem d_MO_allSizes_17 : decode b_MO_allSizes 17 = .ok (.aload_n 0, 1) := by decide +kernel
theorem d_MO_allSizes_18 : decode b_MO_allSizes 18 = .ok (.iconst 3, 1) := by decide +kernel
theorem d_MO_allSizes_19 : decode b_MO_allSizes 19 = .ok (.invokevirtual 52, 3) := by decide +kernel
theorem d_MO_allSizes_22 : decode b_MO_allSizes 22 = .ok (.iadd, 1) := by decide +kernel
theorem d_MO_allSizes_23 : decode b_MO_allSizes 23 = .ok (.ireturn, 1) := by decide +kernel
theorem d_MO_readRule_0 : decode b_MO_readRule 0 = .ok (.aload_n 0, 1) := by decide +kernel
theorem d_MO_readRule_1 : decode b_MO_readRule 1 = .ok (.invokevirtual 67, 3) := by decide +kernel
theorem d_MO_readRule_4 : decode b_MO_readRule 4 = .ok (.aload_n 0, 1) := by decide +kernel
theorem d_MO_readRule_5 : decode b_MO_readRule 5 = .ok (.invokevirtual 70, 3) := by decide +kernel
theorem d_MO_readRule_8 : decode b_MO_readRule 8 = .ok (.istore_n 1, 1) := by decide +kernel
theorem d_MO_readRule_9 : decode b_MO_readRule 9 = .ok (.iload_n 1, 1) := by decide +kernel
theorem d_MO_readRule_10 : decode b_MO_readRule 10 = .ok (.bipush (-5), 2) := by decide +kernel
theorem d_MO_readRule_12 : decode b_MO_readRule 12 = .ok (.if_icmp .ne 11, 3) := by decide +kernel
theorem d_MO_readRule_15 : decode b_MO_readRule 15 = .ok (.bipush (-100), 2) := by decide +kernel
theorem d_MO_readRule_17 : decode b_MO_readRule 17 = .ok (.aload_n 0, 1) := by decide +kernel
theorem d_MO_readRule_18 : decode b_MO_readRule 18 = .ok (.getfield 73, 3) := by decide +kernel
theorem d_MO_readRule_21 : decode b_MO_readRule 21 = .ok (.isub, 1) := by decide +kernel
theorem d_MO_readRule_22 : decode b_MO_readRule 22 = .ok (.ireturn, 1) := by decide +kernel
theorem d_MO_readRule_23 : decode b_MO_readRule 23 = .ok (.aload_n 0, 1) := by decide +kernel
theorem d_MO_readRule_24 : decode b_MO_readRule 24 = .ok (.invokevirtual 76, 3) := by decide +kernel
theorem d_MO_readRule_27 : decode b_MO_readRule 27 = .ok (.ifCond .eq 6, 3) := by decide +kernel
theorem d_MO_readRule_30 : decode b_MO_readRule 30 = .ok (.bipush (-5), 2) := by decide +kernel
theorem d_MO_readRule_32 : decode b_MO_readRule 32 = .ok (.ireturn, 1) := by decide +kernel
theorem d_MO_readRule_33 : decode b_MO_readRule 33 = .ok (.aload_n 0, 1) := by decide +kernel
theorem d_MO_readRule_34 : decode b_MO_readRule 34 = .ok (.invokevirtual 80, 3) := by decide +kernel
theorem d_MO_readRule_37 : decode b_MO_readRule 37 = .ok (.aload_n 0, 1) := by decide +kernel
theorem d_MO_readRule_38 : decode b_MO_readRule 38 = .ok (.invokevirtual 83, 3) := by decide +kernel
theorem d_MO_readRule_41 : decode b_MO_readRule 41 = .ok (.iload_n 1, 1) := by decide +kernel
theorem d_MO_readRule_42 : decode b_MO_readRule 42 = .ok (.ireturn, 1) := by decide +kernel
theorem d_MO_square_0 : decode b_MO_square 0 = .ok (.iconst 0, 1) := by decide +kernel
theorem d_MO_square_1 : decode b_MO_square 1 = .ok (.istore_n 1, 1) := by decide +kernel
theorem d_MO_square_2 : decode b_MO_square 2 = .ok (.iload_n 1, 1) := by decide +kernel
theorem d_MO_square_3 : decode b_MO_square 3 = .ok (.iconst 4, 1) := by decide +kernel
theorem d_MO_square_4 : decode b_MO_square 4 = .ok (.if_icmp .ge 50, 3) := by decide +kernel
theorem d_MO_square_7 : decode b_MO_square 7 = .ok (.iconst 0, 1) := by decide +kernel
theorem d_MO_square_8 : decode b_MO_square 8 = .ok (.istore_n 2, 1) := by decide +kernel
theorem d_MO_square_9 : decode b_MO_square 9 = .ok (.iconst 0, 1) := by decide +kernel
theorem d_MO_square_10 : decode b_MO_square 10 = .ok (.istore_n 3, 1) := by decide +kernel
theorem d_MO_square_11 : decode b_MO_square 11 = .ok (.iload_n 3, 1) := by decide +kernel
theorem d_MO_square_12 : decode b_MO_square 12 = .ok (.aload_n 0, 1) := by decide +kernel
theorem d_MO_square_13 : decode b_MO_square 13 = .ok (.iload_n 1, 1) := by decide +kernel
theorem d_MO_square_14 : decode b_MO_square 14 = .ok (.invokevirtual 52, 3) := by decide +kernel
theorem d_MO_square_17 : decode b_MO_square 17 = .ok (.if_icmp .ge 22, 3) := by decide +kernel
theorem d_MO_square_20 : decode b_MO_square 20 = .ok (.iload_n 2, 1) := by decide +kernel
theorem d_MO_square_21 : decode b_MO_square 21 = .ok (.aload_n 0, 1) := by decide +kernel
theorem d_MO_square_22 : decode b_MO_square 22 = .ok (.aload_n 0, 1) := by decide +kernel
theorem d_MO_square_23 : decode b_MO_square 23 = .ok (.iload_n 1, 1) := by decide +kernel
theorem d_MO_square_24 : decode b_MO_square 24 = .ok (.iload_n 3, 1) := by decide +kernel
theorem d_MO_square_25 : decode b_MO_square 25 = .ok (.invokevirtual 56, 3) := by decide +kernel
theorem d_MO_square_28 : decode b_MO_square 28 = .ok (.invokevirtual 52, 3) := by decide +kernel
theorem d_MO_square_31 : decode b_MO_square 31 = .ok (.iadd, 1) := by decide +kernel
theorem d_MO_square_32 : decode b_MO_square 32 = .ok (.istore_n 2, 1) := by decide +kernel
theorem d_MO_square_33 : decode b_MO_square 33 = .ok (.iinc 3 1, 3) := by decide +kernel
theorem d_MO_square_36 : decode b_MO_square 36 = .ok (.goto (-25), 3) := by decide +kernel
theorem d_MO_square_39 : decode b_MO_square 39 = .ok (.iload_n 2, 1) := by decide +kernel
theorem d_MO_square_40 : decode b_MO_square 40 = .ok (.bipush 8, 2) := by decide +kernel
theorem d_MO_square_42 : decode b_MO_square 42 = .ok (.if_icmp .le 6, 3) := by decide +kernel
theorem d_MO_square_45 : decode b_MO_square 45 = .ok (.bipush (-3), 2) := by decide +kernel
theorem d_MO_square_47 : decode b_MO_square 47 = .ok (.ireturn, 1) := by decide +kernel
theorem d_MO_square_48 : decode b_MO_square 48 = .ok (.iinc 1 1, 3) := by decide +kernel
theorem d_MO_square_51 : decode b_MO_square 51 = .ok (.goto (-49), 3) := by decide +kernel
theorem d_MO_square_54 : decode b_MO_square 54 = .ok (.iconst 0, 1) := by decide +kernel
theorem d_MO_square_55 : decode b_MO_square 55 = .ok (.istore_n 1, 1) := by decide +kernel
theorem d_MO_square_56 : decode b_MO_square 56 = .ok (.iload_n 1, 1) := by decide +kernel
theorem d_MO_square_57 : decode b_MO_square 57 = .ok (.iconst 4, 1) := by decide +kernel
theorem d_MO_square_58 : decode b_MO_square 58 = .ok (.if_icmp .ge 90, 3) := by decide +kernel
theorem d_MO_square_61 : decode b_MO_square 61 = .ok (.iconst 0, 1) := by decide +kernel
theorem d_MO_square_62 : decode b_MO_square 62 = .ok (.istore_n 2, 1) := by decide +kernel
theorem d_MO_square_63 : decode b_MO_square 63 = .ok (.iconst 0, 1) := by decide +kernel
theorem d_MO_square_64 : decode b_MO_square 64 = .ok (.istore_n 3, 1) := by decide +kernel
theorem d_MO_square_65 : decode b_MO_square 65 = .ok (.iload_n 3, 1) := by decide +kernel
theorem d_MO_square_66 : decode b_MO_square 66 = .ok (.aload_n 0, 1) := by decide +kernel
theorem d_MO_square_67 : decode b_MO_square 67 = .ok (.iload_n 1, 1) := by decide +kernel
theorem d_MO_square_68 : decode b_MO_square 68 = .ok (.invokevirtual 52, 3) := by decide +kernel
theorem d_MO_square_71 : decode b_MO_square 71 = .ok (.if_icmp .ge 61, 3) := by decide +kernel
theorem d_MO_square_74 : decode b_MO_square 74 = .ok (.aload_n 0, 1) := by decide +kernel
theorem d_MO_square_75 : decode b_MO_square 75 = .ok (.iload_n 1, 1) := by decide +kernel
theorem d_MO_square_76 : decode b_MO_square 76 = .ok (.iload_n 3, 1) := by decide +kernel
theorem d_MO_square_77 : decode b_MO_square 77 = .ok (.invokevirtual 56, 3) := by decide +kernel
theorem d_MO_square_80 : decode b_MO_square 80 = .ok (.istore 4, 2) := by decide +kernel
theorem d_MO_square_82 : decode b_MO_square 82 = .ok (.iconst 0, 1) := by decide +kernel
theorem d_MO_square_83 : decode b_MO_square 83 = .ok (.istore 5, 2) := by decide +kernel
theorem d_MO_square_85 : decode b_MO_square 85 = .ok (.iload 5, 2) := by decide +kernel
theorem d_MO_square_87 : decode b_MO_square 87 = .ok (.aload_n 0, 1) := by decide +kernel
theorem d_MO_square_88 : decode b_MO_square 88 = .ok (.iload 4, 2) := by decide +kernel
theorem d_MO_square_90 : decode b_MO_square 90 = .ok (.invokevirtual 52, 3) := by decide +kernel
theorem d_MO_square_93 : decode b_MO_square 93 = .ok (.if_icmp .ge 33, 3) := by decide +kernel
theorem d_MO_square_96 : decode b_MO_square 96 = .ok (.aload_n 0, 1) := by decide +kernel
theorem d_MO_square_97 : decode b_MO_square 97 = .ok (.getfield 19, 3) := by decide +kernel
theorem d_MO_square_100 : decode b_MO_square 100 = .ok (.bipush 9, 2) := by decide +kernel
theorem d_MO_square_102 : decode b_MO_square 102 = .ok (.iload_n 1, 1) := by decide +kernel
theorem d_MO_square_103 : decode b_MO_square 103 = .ok (.imul, 1) := by decide +kernel
theorem d_MO_square_104 : decode b_MO_square 104 = .ok (.iconst 1, 1) := by decide +kernel
theorem d_MO_square_105 : decode b_MO_square 105 = .ok (.iadd, 1) := by decide +kernel
theorem d_MO_square_106 : decode b_MO_square 106 = .ok (.iload_n 2, 1) := by decide +kernel
theorem d_MO_square_107 : decode b_MO_square 107 = .ok (.iadd, 1) := by decide +kernel
theorem d_MO_square_108 : decode b_MO_square 108 = .ok (.aload_n 0, 1) := by decide +kernel
theorem d_MO_square_109 : decode b_MO_square 109 = .ok (.iload 4, 2) := by decide +kernel
theorem d_MO_square_111 : decode b_MO_square 111 = .ok (.iload 5, 2) := by decide +kernel
theorem d_MO_square_113 : decode b_MO_square 113 = .ok (.invokevirtual 56, 3) := by decide +kernel
theorem d_MO_square_116 : decode b_MO_square 116 = .ok (.iastore, 1) := by decide +kernel
theorem d_MO_square_117 : decode b_MO_square 117 = .ok (.iinc 2 1, 3) := by decide +kernel
theorem d_MO_square_120 : decode b_MO_square 120 = .ok (.iinc 5 1, 3) := by decide +kernel
theorem d_MO_square_123 : decode b_MO_square 123 = .ok (.goto (-38), 3) := by decide +kernel
theorem d_MO_square_126 : decode b_MO_square 126 = .ok (.iinc 3 1, 3) := by decide +kernel
theorem d_MO_square_129 : decode b_MO_square 129 = .ok (.goto (-64), 3) := by decide +kernel
theorem d_MO_square_132 : decode b_MO_square 132 = .ok (.aload_n 0, 1) := by decide +kernel
theorem d_MO_square_133 : decode b_MO_square 133 = .ok (.getfield 19, 3) := by decide +kernel
theorem d_MO_square_136 : decode b_MO_square 136 = .ok (.bipush 9, 2) := by decide +kernel
theorem d_MO_square_138 : decode b_MO_square 138 = .ok (.iload_n 1, 1) := by decide +kernel
theorem d_MO_square_139 : decode b_MO_square 139 = .ok (.imul, 1) := by decide +kernel
theorem d_MO_square_140 : decode b_MO_square 140 = .ok (.iload_n 2, 1) := by decide +kernel
theorem d_MO_square_141 : decode b_MO_square 141 = .ok (.iastore, 1) := by decide +kernel
theorem d_MO_square_142 : decode b_MO_square 142 = .ok (.iinc 1 1, 3) := by decide +kernel
theorem d_MO_square_145 : decode b_MO_square 145 = .ok (.goto (-89), 3) := by decide +kernel
theorem d_MO_square_148 : decode b_MO_square 148 = .ok (.aload_n 0, 1) := by decide +kernel
theorem d_MO_square_149 : decode b_MO_square 149 = .ok (.invokevirtual 76, 3) := by decide +kernel
theorem d_MO_square_152 : decode b_MO_square 152 = .ok (.ifCond .eq 6, 3) := by decide +kernel
theorem d_MO_square_155 : decode b_MO_square 155 = .ok (.bipush (-5), 2) := by decide +kernel
theorem d_MO_square_157 : decode b_MO_square 157 = .ok (.ireturn, 1) := by decide +kernel
theorem d_MO_square_158 : decode b_MO_square 158 = .ok (.aload_n 0, 1) := by decide +kernel
theorem d_MO_square_159 : decode b_MO_square 159 = .ok (.invokevirtual 80, 3) := by decide +kernel
theorem d_MO_square_162 : decode b_MO_square 162 = .ok (.aload_n 0, 1) := by decide +kernel
theorem d_MO_square_163 : decode b_MO_square 163 = .ok (.invokevirtual 83, 3) := by decide +kernel
theorem d_MO_square_166 : decode b_MO_square 166 = .ok (.aload_n 0, 1) := by decide +kernel
theorem d_MO_square_167 : decode b_MO_square 167 = .ok (.invokevirtual 86, 3) := by decide +kernel
theorem d_MO_square_170 : decode b_MO_square 170 = .ok (.ireturn, 1) := by decide +kernel
theorem d_MO_shift_0 : decode b_MO_shift 0 = .ok (.aload_n 0, 1) := by decide +kernel
theorem d_MO_shift_1 : decode b_MO_shift 1 = .ok (.iconst 0, 1) := by decide +kernel
theorem d_MO_shift_2 : decode b_MO_shift 2 = .ok (.iload_n 1, 1) := by decide +kernel
theorem d_MO_shift_3 : decode b_MO_shift 3 = .ok (.ifCond .eq 13, 3) := by decide +kernel
theorem d_MO_shift_6 : decode b_MO_shift 6 = .ok (.aload_n 0, 1) := by decide +kernel
theorem d_MO_shift_7 : decode b_MO_shift 7 = .ok (.iconst 0, 1) := by decide +kernel
theorem d_MO_shift_8 : decode b_MO_shift 8 = .ok (.invokevirtual 52, 3) := by decide +kernel
theorem d_MO_shift_11 : decode b_MO_shift 11 = .ok (.iconst 1, 1) := by decide +kernel
theorem d_MO_shift_12 : decode b_MO_shift 12 = .ok (.isub, 1) := by decide +kernel
theorem d_MO_shift_13 : decode b_MO_shift 13 = .ok (.goto 4, 3) := by decide +kernel
theorem d_MO_shift_16 : decode b_MO_shift 16 = .ok (.iconst 0, 1) := by decide +kernel
theorem d_MO_shift_17 : decode b_MO_shift 17 = .ok (.invokevirtual 56, 3) := by decide +kernel
theorem d_MO_shift_20 : decode b_MO_shift 20 = .ok (.istore_n 2, 1) := by decide +kernel
theorem d_MO_shift_21 : decode b_MO_shift 21 = .ok (.iconst 0, 1) := by decide +kernel
theorem d_MO_shift_22 : decode b_MO_shift 22 = .ok (.istore_n 3, 1) := by decide +kernel
theorem d_MO_shift_23 : decode b_MO_shift 23 = .ok (.iload_n 3, 1) := by decide +kernel
theorem d_MO_shift_24 : decode b_MO_shift 24 = .ok (.iconst 4, 1) := by decide +kernel
theorem d_MO_shift_25 : decode b_MO_shift 25 = .ok (.if_icmp .ge 110, 3) := by decide +kernel
theorem d_MO_shift_28 : decode b_MO_shift 28 = .ok (.aload_n 0, 1) := by decide +kernel
theorem d_MO_shift_29 : decode b_MO_shift 29 = .ok (.iload_n 3, 1) := by decide +kernel
theorem d_MO_shift_30 : decode b_MO_shift 30 = .ok (.invokevirtual 52, 3) := by decide +kernel
theorem d_MO_shift_33 : decode b_MO_shift 33 = .ok (.istore 4, 2) := by decide +kernel
theorem d_MO_shift_35 : decode b_MO_shift 35 = .ok (.aload_n 0, 1) := by decide +kernel
theorem d_MO_shift_36 : decode b_MO_shift 36 = .ok (.iload_n 3, 1) := by decide +kernel
theorem d_MO_shift_37 : decode b_MO_shift 37 = .ok (.iload_n 1, 1) := by decide +kernel
theorem d_MO_shift_38 : decode b_MO_shift 38 = .ok (.ifCond .eq 10, 3) := by decide +kernel
theorem d_MO_shift_41 : decode b_MO_shift 41 = .ok (.iload 4, 2) := by decide +kernel
theorem d_MO_shift_43 : decode b_MO_shift 43 = .ok (.iconst 1, 1) := by decide +kernel
theorem d_MO_shift_44 : decode b_MO_shift 44 = .ok (.isub, 1) := by decide +kernel
theorem d_MO_shift_45 : decode b_MO_shift 45 = .ok (.goto 4, 3) := by decide +kernel
theorem d_MO_shift_48 : decode b_MO_shift 48 = .ok (.iconst 0, 1) := by decide +kernel
theorem d_MO_shift_49 : decode b_MO_shift 49 = .ok (.invokevirtual 56, 3) := by decide +kernel
theorem d_MO_shift_52 : decode b_MO_shift 52 = .ok (.iload_n 2, 1) := by decide +kernel
theorem d_MO_shift_53 : decode b_MO_shift 53 = .ok (.if_icmp .eq 6, 3) := by decide +kernel
theorem d_MO_shift_56 : decode b_MO_shift 56 = .ok (.bipush (-4), 2) := by decide +kernel
theorem d_MO_shift_58 : decode b_MO_shift 58 = .ok (.ireturn, 1) := by decide +kernel
theorem d_MO_shift_59 : decode b_MO_shift 59 = .ok (.aload_n 0, 1) := by decide +kernel
theorem d_MO_shift_60 : decode b_MO_shift 60 = .ok (.getfield 19, 3) := by decide +kernel
theorem d_MO_shift_63 : decode b_MO_shift 63 = .ok (.bipush 9, 2) := by decide +kernel
theorem d_MO_shift_65 : decode b_MO_shift 65 = .ok (.iload_n 3, 1) := by decide +kernel
theorem d_MO_shift_66 : decode b_MO_shift 66 = .ok (.imul, 1) := by decide +kernel
theorem d_MO_shift_67 : decode b_MO_shift 67 = .ok (.iload 4, 2) := by decide +kernel
theorem d_MO_shift_69 : decode b_MO_shift 69 = .ok (.iastore, 1) := by decide +kernel
theorem d_MO_shift_70 : decode b_MO_shift 70 = .ok (.iconst 0, 1) := by decide +kernel
theorem d_MO_shift_71 : decode b_MO_shift 71 = .ok (.istore 5, 2) := by decide +kernel
theorem d_MO_shift_73 : decode b_MO_shift 73 = .ok (.iload 5, 2) := by decide +kernel
theorem d_MO_shift_75 : decode b_MO_shift 75 = .ok (.iload 4, 2) := by decide +kernel
theorem d_MO_shift_77 : decode b_MO_shift 77 = .ok (.if_icmp .ge 52, 3) := by decide +kernel
theorem d_MO_shift_80 : decode b_MO_shift 80 = .ok (.aload_n 0, 1) := by decide +kernel
theorem d_MO_shift_81 : decode b_MO_shift 81 = .ok (.getfield 19, 3) := by decide +kernel
theorem d_MO_shift_84 : decode b_MO_shift 84 = .ok (.bipush 9, 2) := by decide +kernel
theorem d_MO_shift_86 : decode b_MO_shift 86 = .ok (.iload_n 3, 1) := by decide +kernel
theorem d_MO_shift_87 : decode b_MO_shift 87 = .ok (.imul, 1) := by decide +kernel
theorem d_MO_shift_88 : decode b_MO_shift 88 = .ok (.iconst 1, 1) := by decide +kernel
theorem d_MO_shift_89 : decode b_MO_shift 89 = .ok (.iadd, 1) := by decide +kernel
theorem d_MO_shift_90 : decode b_MO_shift 90 = .ok (.iload 5, 2) := by decide +kernel
theorem d_MO_shift_92 : decode b_MO_shift 92 = .ok (.iadd, 1) := by decide +kernel
theorem d_MO_shift_93 : decode b_MO_shift 93 = .ok (.aload_n 0, 1) := by decide +kernel
theorem d_MO_shift_94 : decode b_MO_shift 94 = .ok (.iload_n 3, 1) := by decide +kernel
theorem d_MO_shift_95 : decode b_MO_shift 95 = .ok (.iload_n 1, 1) := by decide +kernel
theorem d_MO_shift_96 : decode b_MO_shift 96 = .ok (.ifCond .eq 16, 3) := by decide +kernel
theorem d_MO_shift_99 : decode b_MO_shift 99 = .ok (.iload 5, 2) := by decide +kernel
theorem d_MO_shift_101 : decode b_MO_shift 101 = .ok (.iload 4, 2) := by decide +kernel
theorem d_MO_shift_103 : decode b_MO_shift 103 = .ok (.iadd, 1) := by decide +kernel
theorem d_MO_shift_104 : decode b_MO_shift 104 = .ok (.iconst 1, 1) := by decide +kernel
theorem d_MO_shift_105 : decode b_MO_shift 105 = .ok (.isub, 1) := by decide +kernel
theorem d_MO_shift_106 : decode b_MO_shift 106 = .ok (.iload 4, 2) := by decide +kernel
theorem d_MO_shift_108 : decode b_MO_shift 108 = .ok (.irem, 1) := by decide +kernel
theorem d_MO_shift_109 : decode b_MO_shift 109 = .ok (.goto 10, 3) := by decide +kernel
theorem d_MO_shift_112 : decode b_MO_shift 112 = .ok (.iload 5, 2) := by decide +kernel
theorem d_MO_shift_114 : decode b_MO_shift 114 = .ok (.iconst 1, 1) := by decide +kernel
theorem d_MO_shift_115 : decode b_MO_shift 115 = .ok (.iadd, 1) := by decide +kernel
theorem d_MO_shift_116 : decode b_MO_shift 116 = .ok (.iload 4, 2) := by decide +kernel
theorem d_MO_shift_118 : decode b_MO_shift 118 = .ok (.irem, 1) := by decide +kernel
theorem d_MO_shift_119 : decode b_MO_shift 119 = .ok (.invokevirtual 56, 3) := by decide +kernel
theorem d_MO_shift_122 : decode b_MO_shift 122 = .ok (.iastore, 1) := by decide +kernel
theorem d_MO_shift_123 : decode b_MO_shift 123 = .ok (.iinc 5 1, 3) := by decide +kernel
theorem d_MO_shift_126 : decode b_MO_shift 126 = .ok (.goto (-53), 3) := by decide +kernel
theorem d_MO_shift_129 : decode b_MO_shift 129 = .ok (.iinc 3 1, 3) := by decide +kernel
theorem d_MO_shift_132 : decode b_MO_shift 132 = .ok (.goto (-109), 3) := by decide +kernel
theorem d_MO_shift_135 : decode b_MO_shift 135 = .ok (.aload_n 0, 1) := by decide +kernel
theorem d_MO_shift_136 : decode b_MO_shift 136 = .ok (.invokevirtual 76, 3) := by decide +kernel
theorem d_MO_shift_139 : decode b_MO_shift 139 = .ok (.ifCond .eq 6, 3) := by decide +kernel
theorem d_MO_shift_142 : decode b_MO_shift 142 = .ok (.bipush (-5), 2) := by decide +kernel
theorem d_MO_shift_144 : decode b_MO_shift 144 = .ok (.ireturn, 1) := by decide +kernel
theorem d_MO_shift_145 : decode b_MO_shift 145 = .ok (.aload_n 0, 1) := by decide +kernel
theorem d_MO_shift_146 : decode b_MO_shift 146 = .ok (.invokevirtual 80, 3) := by decide +kernel
theorem d_MO_shift_149 : decode b_MO_shift 149 = .ok (.aload_n 0, 1) := by decide +kernel
theorem d_MO_shift_150 : decode b_MO_shift 150 = .ok (.invokevirtual 83, 3) := by decide +kernel
theorem d_MO_shift_153 : decode b_MO_shift 153 = .ok (.iload_n 2, 1) := by decide +kernel
theorem d_MO_shift_154 : decode b_MO_shift 154 = .ok (.ireturn, 1) := by decide +kernel
theorem d_MO_swapped_0 : decode b_MO_swapped 0 = .ok (.iload_n 0, 1) := by decide +kernel
theorem d_MO_swapped_1 : decode b_MO_swapped 1 = .ok (.iload_n 1, 1) := by decide +kernel
theorem d_MO_swapped_2 : decode b_MO_swapped 2 = .ok (.if_icmp .ne 7, 3) := by decide +kernel
theorem d_MO_swapped_5 : decode b_MO_swapped 5 = .ok (.iload_n 2, 1) := by decide +kernel
theorem d_MO_swapped_6 : decode b_MO_swapped 6 = .ok (.goto 13, 3) := by decide +kernel
theorem d_MO_swapped_9 : decode b_MO_swapped 9 = .ok (.iload_n 0, 1) := by decide +kernel
theorem d_MO_swapped_10 : decode b_MO_swapped 10 = .ok (.iload_n 2, 1) := by decide +kernel
theorem d_MO_swapped_11 : decode b_MO_swapped 11 = .ok (.if_icmp .ne 7, 3) := by decide +kernel
theorem d_MO_swapped_14 : decode b_MO_swapped 14 = .ok (.iload_n 1, 1) := by decide +kernel
theorem d_MO_swapped_15 : decode b_MO_swapped 15 = .ok (.goto 4, 3) := by decide +kernel
theorem d_MO_swapped_18 : decode b_MO_swapped 18 = .ok (.iload_n 0, 1) := by decide +kernel
theorem d_MO_swapped_19 : decode b_MO_swapped 19 = .ok (.ireturn, 1) := by decide +kernel
theorem d_MO_swap_0 : decode b_MO_swap 0 = .ok (.iload_n 1, 1) := by decide +kernel
theorem d_MO_swap_1 : decode b_MO_swap 1 = .ok (.invokestatic 89, 3) := by decide +kernel
theorem d_MO_swap_4 : decode b_MO_swap 4 = .ok (.ifCond .ne 10, 3) := by decide +kernel
theorem d_MO_swap_7 : decode b_MO_swap 7 = .ok (.iload_n 2, 1) := by decide +kernel
theorem d_MO_swap_8 : decode b_MO_swap 8 = .ok (.invokestatic 89, 3) := by decide +kernel
theorem d_MO_swap_11 : decode b_MO_swap 11 = .ok (.ifCond .eq 5, 3) := by decide +kernel
theorem d_MO_swap_14 : decode b_MO_swap 14 = .ok (.iconst (-1), 1) := by decide +kernel
theorem d_MO_swap_15 : decode b_MO_swap 15 = .ok (.ireturn, 1) := by decide +kernel
theorem d_MO_swap_16 : decode b_MO_swap 16 = .ok (.iload_n 1, 1) := by decide +kernel
theorem d_MO_swap_17 : decode b_MO_swap 17 = .ok (.iload_n 2, 1) := by decide +kernel
theorem d_MO_swap_18 : decode b_MO_swap 18 = .ok (.if_icmp .ne 6, 3) := by decide +kernel
theorem d_MO_swap_21 : decode b_MO_swap 21 = .ok (.bipush (-5), 2) := by decide +kernel
theorem d_MO_swap_23 : decode b_MO_swap 23 = .ok (.ireturn, 1) := by decide +kernel
theorem d_MO_swap_24 : decode b_MO_swap 24 = .ok (.aload_n 0, 1) := by decide +kernel
theorem d_MO_swap_25 : decode b_MO_swap 25 = .ok (.invokevirtual 80, 3) := by decide +kernel
theorem d_MO_swap_28 : decode b_MO_swap 28 = .ok (.iconst 0, 1) := by decide +kernel
theorem d_MO_swap_29 : decode b_MO_swap 29 = .ok (.istore_n 3, 1) := by decide +kernel
theorem d_MO_swap_30 : decode b_MO_swap 30 = .ok (.iload_n 3, 1) := by decide +kernel
theorem d_MO_swap_31 : decode b_MO_swap 31 = .ok (.iconst 4, 1) := by decide +kernel
theorem d_MO_swap_32 : decode b_MO_swap 32 = .ok (.if_icmp .ge 79, 3) := by decide +kernel
theorem d_MO_swap_35 : decode b_MO_swap 35 = .ok (.iload_n 3, 1) := by decide +kernel
theorem d_MO_swap_36 : decode b_MO_swap 36 = .ok (.iload_n 1, 1) := by decide +kernel
theorem d_MO_swap_37 : decode b_MO_swap 37 = .ok (.iload_n 2, 1) := by decide +kernel
theorem d_MO_swap_38 : decode b_MO_swap 38 = .ok (.invokestatic 93, 3) := by decide +kernel
theorem d_MO_swap_41 : decode b_MO_swap 41 = .ok (.istore 4, 2) := by decide +kernel
theorem d_MO_swap_43 : decode b_MO_swap 43 = .ok (.aload_n 0, 1) := by decide +kernel
theorem d_MO_swap_44 : decode b_MO_swap 44 = .ok (.getfield 19, 3) := by decide +kernel
theorem d_MO_swap_47 : decode b_MO_swap 47 = .ok (.bipush 9, 2) := by decide +kernel
theorem d_MO_swap_49 : decode b_MO_swap 49 = .ok (.iload_n 3, 1) := by decide +kernel
theorem d_MO_swap_50 : decode b_MO_swap 50 = .ok (.imul, 1) := by decide +kernel
theorem d_MO_swap_51 : decode b_MO_swap 51 = .ok (.aload_n 0, 1) := by decide +kernel
theorem d_MO_swap_52 : decode b_MO_swap 52 = .ok (.iload 4, 2) := by decide +kernel
theorem d_MO_swap_54 : decode b_MO_swap 54 = .ok (.invokevirtual 52, 3) := by decide +kernel
theorem d_MO_swap_57 : decode b_MO_swap 57 = .ok (.iastore, 1) := by decide +kernel
theorem d_MO_swap_58 : decode b_MO_swap 58 = .ok (.iconst 0, 1) := by decide +kernel
theorem d_MO_swap_59 : decode b_MO_swap 59 = .ok (.istore 5, 2) := by decide +kernel
theorem d_MO_swap_61 : decode b_MO_swap 61 = .ok (.iload 5, 2) := by decide +kernel
theorem d_MO_swap_63 : decode b_MO_swap 63 = .ok (.aload_n 0, 1) := by decide +kernel
theorem d_MO_swap_64 : decode b_MO_swap 64 = .ok (.iload 4, 2) := by decide +kernel
theorem d_MO_swap_66 : decode b_MO_swap 66 = .ok (.invokevirtual 52, 3) := by decide +kernel
theorem d_MO_swap_69 : decode b_MO_swap 69 = .ok (.if_icmp .ge 36, 3) := by decide +kernel
theorem d_MO_swap_72 : decode b_MO_swap 72 = .ok (.aload_n 0, 1) := by decide +kernel
theorem d_MO_swap_73 : decode b_MO_swap 73 = .ok (.getfield 19, 3) := by decide +kernel
theorem d_MO_swap_76 : decode b_MO_swap 76 = .ok (.bipush 9, 2) := by decide +kernel
theorem d_MO_swap_78 : decode b_MO_swap 78 = .ok (.iload_n 3, 1) := by decide +kernel
theorem d_MO_swap_79 : decode b_MO_swap 79 = .ok (.imul, 1) := by decide +kernel
theorem d_MO_swap_80 : decode b_MO_swap 80 = .ok (.iconst 1, 1) := by decide +kernel
theorem d_MO_swap_81 : decode b_MO_swap 81 = .ok (.iadd, 1) := by decide +kernel
theorem d_MO_swap_82 : decode b_MO_swap 82 = .ok (.iload 5, 2) := by decide +kernel
theorem d_MO_swap_84 : decode b_MO_swap 84 = .ok (.iadd, 1) := by decide +kernel
theorem d_MO_swap_85 : decode b_MO_swap 85 = .ok (.aload_n 0, 1) := by decide +kernel
theorem d_MO_swap_86 : decode b_MO_swap 86 = .ok (.iload 4, 2) := by decide +kernel
theorem d_MO_swap_88 : decode b_MO_swap 88 = .ok (.iload 5, 2) := by decide +kernel
theorem d_MO_swap_90 : decode b_MO_swap 90 = .ok (.invokevirtual 56, 3) := by decide +kernel
theorem d_MO_swap_93 : decode b_MO_swap 93 = .ok (.iload_n 1, 1) := by decide +kernel
theorem d_MO_swap_94 : decode b_MO_swap 94 = .ok (.iload_n 2, 1) := by decide +kernel
theorem d_MO_swap_95 : decode b_MO_swap 95 = .ok (.invokestatic 93, 3) := by decide +kernel
theorem d_MO_swap_98 : decode b_MO_swap 98 = .ok (.iastore, 1) := by decide +kernel
theorem d_MO_swap_99 : decode b_MO_swap 99 = .ok (.iinc 5 1, 3) := by decide +kernel
theorem d_MO_swap_102 : decode b_MO_swap 102 = .ok (.goto (-41), 3) := by decide +kernel
theorem d_MO_swap_105 : decode b_MO_swap 105 = .ok (.iinc 3 1, 3) := by decide +kernel
theorem d_MO_swap_108 : decode b_MO_swap 108 = .ok (.goto (-78), 3) := by decide +kernel
theorem d_MO_swap_111 : decode b_MO_swap 111 = .ok (.aload_n 0, 1) := by decide +kernel
theorem d_MO_swap_112 : decode b_MO_swap 112 = .ok (.invokevirtual 83, 3) := by decide +kernel
theorem d_MO_swap_115 : decode b_MO_swap 115 = .ok (.iconst 0, 1) := by decide +kernel
theorem d_MO_swap_116 : decode b_MO_swap 116 = .ok (.istore_n 3, 1) := by decide +kernel
theorem d_MO_swap_117 : decode b_MO_swap 117 = .ok (.iconst 0, 1) := by decide +kernel
theorem d_MO_swap_118 : decode b_MO_swap 118 = .ok (.istore 4, 2) := by decide +kernel
theorem d_MO_swap_120 : decode b_MO_swap 120 = .ok (.iload 4, 2) := by decide +kernel
theorem d_MO_swap_122 : decode b_MO_swap 122 = .ok (.aload_n 0, 1) := by decide +kernel
theorem d_MO_swap_123 : decode b_MO_swap 123 = .ok (.invokevirtual 60, 3) := by decide +kernel
theorem d_MO_swap_126 : decode b_MO_swap 126 = .ok (.if_icmp .ge 53, 3) := by decide +kernel
theorem d_MO_swap_129 : decode b_MO_swap 129 = .ok (.aload_n 0, 1) := by decide +kernel
theorem d_MO_swap_130 : decode b_MO_swap 130 = .ok (.iload 4, 2) := by decide +kernel
theorem d_MO_swap_132 : decode b_MO_swap 132 = .ok (.invokevirtual 64, 3) := by decide +kernel
theorem d_MO_swap_135 : decode b_MO_swap 135 = .ok (.istore 5, 2) := by decide +kernel
theorem d_MO_swap_137 : decode b_MO_swap 137 = .ok (.aload_n 0, 1) := by decide +kernel
theorem d_MO_swap_138 : decode b_MO_swap 138 = .ok (.getfield 7, 3) := by decide +kernel
theorem d_MO_swap_141 : decode b_MO_swap 141 = .ok (.bipush 37, 2) := by decide +kernel
theorem d_MO_swap_143 : decode b_MO_swap 143 = .ok (.iload 4, 2) := by decide +kernel
theorem d_MO_swap_145 : decode b_MO_swap 145 = .ok (.iadd, 1) := by decide +kernel
theorem d_MO_swap_146 : decode b_MO_swap 146 = .ok (.iload 5, 2) := by decide +kernel
theorem d_MO_swap_148 : decode b_MO_swap 148 = .ok (.iload_n 1, 1) := by decide +kernel
theorem d_MO_swap_149 : decode b_MO_swap 149 = .ok (.iload_n 2, 1) := by decide +kernel
theorem d_MO_swap_150 : decode b_MO_swap 150 = .ok (.invokestatic 93, 3) := by decide +kernel
theorem d_MO_swap_153 : decode b_MO_swap 153 = .ok (.iastore, 1) := by decide +kernel
theorem d_MO_swap_154 : decode b_MO_swap 154 = .ok (.iload_n 3, 1) := by decide +kernel
theorem d_MO_swap_155 : decode b_MO_swap 155 = .ok (.iload 5, 2) := by decide +kernel
theorem d_MO_swap_157 : decode b_MO_swap 157 = .ok (.aload_n 0, 1) := by decide +kernel
theorem d_MO_swap_158 : decode b_MO_swap 158 = .ok (.iload 4, 2) := by decide +kernel
theorem d_MO_swap_160 : decode b_MO_swap 160 = .ok (.invokevirtual 64, 3) := by decide +kernel
theorem d_MO_swap_163 : decode b_MO_swap 163 = .ok (.if_icmp .ne 7, 3) := by decide +kernel
theorem d_MO_swap_166 : decode b_MO_swap 166 = .ok (.iconst 0, 1) := by decide +kernel
theorem d_MO_swap_167 : decode b_MO_swap 167 = .ok (.goto 4, 3) := by decide +kernel
theorem d_MO_swap_170 : decode b_MO_swap 170 = .ok (.iconst 1, 1) := by decide +kernel
theorem d_MO_swap_171 : decode b_MO_swap 171 = .ok (.iadd, 1) := by decide +kernel
theorem d_MO_swap_172 : decode b_MO_swap 172 = .ok (.istore_n 3, 1) := by decide +kernel
theorem d_MO_swap_173 : decode b_MO_swap 173 = .ok (.iinc 4 1, 3) := by decide +kernel
theorem d_MO_swap_176 : decode b_MO_swap 176 = .ok (.goto (-56), 3) := by decide +kernel
theorem d_MO_swap_179 : decode b_MO_swap 179 = .ok (.iload_n 3, 1) := by decide +kernel
theorem d_MO_swap_180 : decode b_MO_swap 180 = .ok (.ireturn, 1) := by decide +kernel
theorem d_MO_takesWord_0 : decode b_MO_takesWord 0 = .ok (.iconst 0, 1) := by decide +kernel
theorem d_MO_takesWord_1 : decode b_MO_takesWord 1 = .ok (.istore_n 1, 1) := by decide +kernel
theorem d_MO_takesWord_2 : decode b_MO_takesWord 2 = .ok (.iload_n 1, 1) := by decide +kernel
theorem d_MO_takesWord_3 : decode b_MO_takesWord 3 = .ok (.aload_n 0, 1) := by decide +kernel
theorem d_MO_takesWord_4 : decode b_MO_takesWord 4 = .ok (.invokevirtual 60, 3) := by decide +kernel
theorem d_MO_takesWord_7 : decode b_MO_takesWord 7 = .ok (.if_icmp .gt 24, 3) := by decide +kernel
theorem d_MO_takesWord_10 : decode b_MO_takesWord 10 = .ok (.aload_n 0, 1) := by decide +kernel
theorem d_MO_takesWord_11 : decode b_MO_takesWord 11 = .ok (.getfield 19, 3) := by decide +kernel
theorem d_MO_takesWord_14 : decode b_MO_takesWord 14 = .ok (.iload_n 1, 1) := by decide +kernel
theorem d_MO_takesWord_15 : decode b_MO_takesWord 15 = .ok (.aload_n 0, 1) := by decide +kernel
theorem d_MO_takesWord_16 : decode b_MO_takesWord 16 = .ok (.getfield 7, 3) := by decide +kernel
theorem d_MO_takesWord_19 : decode b_MO_takesWord 19 = .ok (.bipush 36, 2) := by decide +kernel
theorem d_MO_takesWord_21 : decode b_MO_takesWord 21 = .ok (.iload_n 1, 1) := by decide +kernel
theorem d_MO_takesWord_22 : decode b_MO_takesWord 22 = .ok (.iadd, 1) := by decide +kernel
theorem d_MO_takesWord_23 : decode b_MO_takesWord 23 = .ok (.iaload, 1) := by decide +kernel
theorem d_MO_takesWord_24 : decode b_MO_takesWord 24 = .ok (.iastore, 1) := by decide +kernel
theorem d_MO_takesWord_25 : decode b_MO_takesWord 25 = .ok (.iinc 1 1, 3) := by decide +kernel
theorem d_MO_takesWord_28 : decode b_MO_takesWord 28 = .ok (.goto (-26), 3) := by decide +kernel
theorem d_MO_takesWord_31 : decode b_MO_takesWord 31 = .ok (.return_, 1) := by decide +kernel
theorem d_MO_start_0 : decode b_MO_start 0 = .ok (.iload_n 1, 1) := by decide +kernel
theorem d_MO_start_1 : decode b_MO_start 1 = .ok (.invokestatic 89, 3) := by decide +kernel
theorem d_MO_start_4 : decode b_MO_start 4 = .ok (.ifCond .eq 5, 3) := by decide +kernel
theorem d_MO_start_7 : decode b_MO_start 7 = .ok (.iconst (-1), 1) := by decide +kernel
theorem d_MO_start_8 : decode b_MO_start 8 = .ok (.ireturn, 1) := by decide +kernel
theorem d_MO_start_9 : decode b_MO_start 9 = .ok (.aload_n 0, 1) := by decide +kernel
theorem d_MO_start_10 : decode b_MO_start 10 = .ok (.invokevirtual 60, 3) := by decide +kernel
theorem d_MO_start_13 : decode b_MO_start 13 = .ok (.istore_n 2, 1) := by decide +kernel
theorem d_MO_start_14 : decode b_MO_start 14 = .ok (.iload_n 2, 1) := by decide +kernel
theorem d_MO_start_15 : decode b_MO_start 15 = .ok (.iconst 1, 1) := by decide +kernel
theorem d_MO_start_16 : decode b_MO_start 16 = .ok (.if_icmp .ne 15, 3) := by decide +kernel
theorem d_MO_start_19 : decode b_MO_start 19 = .ok (.aload_n 0, 1) := by decide +kernel
theorem d_MO_start_20 : decode b_MO_start 20 = .ok (.iconst 0, 1) := by decide +kernel
theorem d_MO_start_21 : decode b_MO_start 21 = .ok (.invokevirtual 64, 3) := by decide +kernel
theorem d_MO_start_24 : decode b_MO_start 24 = .ok (.iload_n 1, 1) := by decide +kernel
theorem d_MO_start_25 : decode b_MO_start 25 = .ok (.if_icmp .ne 6, 3) := by decide +kernel
theorem d_MO_start_28 : decode b_MO_start 28 = .ok (.bipush (-5), 2) := by decide +kernel
theorem d_MO_start_30 : decode b_MO_start 30 = .ok (.ireturn, 1) := by decide +kernel
theorem d_MO_start_31 : decode b_MO_start 31 = .ok (.aload_n 0, 1) := by decide +kernel
theorem d_MO_start_32 : decode b_MO_start 32 = .ok (.invokevirtual 80, 3) := by decide +kernel
theorem d_MO_start_35 : decode b_MO_start 35 = .ok (.aload_n 0, 1) := by decide +kernel
theorem d_MO_start_36 : decode b_MO_start 36 = .ok (.getfield 7, 3) := by decide +kernel
theorem d_MO_start_39 : decode b_MO_start 39 = .ok (.bipush 36, 2) := by decide +kernel
theorem d_MO_start_41 : decode b_MO_start 41 = .ok (.iconst 1, 1) := by decide +kernel
theorem d_MO_start_42 : decode b_MO_start 42 = .ok (.iastore, 1) := by decide +kernel
theorem d_MO_start_43 : decode b_MO_start 43 = .ok (.aload_n 0, 1) := by decide +kernel
theorem d_MO_start_44 : decode b_MO_start 44 = .ok (.getfield 7, 3) := by decide +kernel
theorem d_MO_start_47 : decode b_MO_start 47 = .ok (.bipush 37, 2) := by decide +kernel
theorem d_MO_start_49 : decode b_MO_start 49 = .ok (.iload_n 1, 1) := by decide +kernel
theorem d_MO_start_50 : decode b_MO_start 50 = .ok (.iastore, 1) := by decide +kernel
theorem d_MO_start_51 : decode b_MO_start 51 = .ok (.iload_n 2, 1) := by decide +kernel
theorem d_MO_start_52 : decode b_MO_start 52 = .ok (.ireturn, 1) := by decide +kernel
theorem d_MO_grows_0 : decode b_MO_grows 0 = .ok (.iconst 0, 1) := by decide +kernel
theorem d_MO_grows_1 : decode b_MO_grows 1 = .ok (.istore_n 1, 1) := by decide +kernel
theorem d_MO_grows_2 : decode b_MO_grows 2 = .ok (.iload_n 1, 1) := by decide +kernel
theorem d_MO_grows_3 : decode b_MO_grows 3 = .ok (.aload_n 0, 1) := by decide +kernel
theorem d_MO_grows_4 : decode b_MO_grows 4 = .ok (.getfield 19, 3) := by decide +kernel
theorem d_MO_grows_7 : decode b_MO_grows 7 = .ok (.iconst 0, 1) := by decide +kernel
theorem d_MO_grows_8 : decode b_MO_grows 8 = .ok (.iaload, 1) := by decide +kernel
theorem d_MO_grows_9 : decode b_MO_grows 9 = .ok (.if_icmp .gt 21, 3) := by decide +kernel
theorem d_MO_grows_12 : decode b_MO_grows 12 = .ok (.aload_n 0, 1) := by decide +kernel
theorem d_MO_grows_13 : decode b_MO_grows 13 = .ok (.getfield 22, 3) := by decide +kernel
theorem d_MO_grows_16 : decode b_MO_grows 16 = .ok (.iload_n 1, 1) := by decide +kernel
theorem d_MO_grows_17 : decode b_MO_grows 17 = .ok (.aload_n 0, 1) := by decide +kernel
theorem d_MO_grows_18 : decode b_MO_grows 18 = .ok (.getfield 19, 3) := by decide +kernel
theorem d_MO_grows_21 : decode b_MO_grows 21 = .ok (.iload_n 1, 1) := by decide +kernel
theorem d_MO_grows_22 : decode b_MO_grows 22 = .ok (.iaload, 1) := by decide +kernel
theorem d_MO_grows_23 : decode b_MO_grows 23 = .ok (.iastore, 1) := by decide +kernel
theorem d_MO_grows_24 : decode b_MO_grows 24 = .ok (.iinc 1 1, 3) := by decide +kernel
theorem d_MO_grows_27 : decode b_MO_grows 27 = .ok (.goto (-25), 3) := by decide +kernel
theorem d_MO_grows_30 : decode b_MO_grows 30 = .ok (.iconst 0, 1) := by decide +kernel
theorem d_MO_grows_31 : decode b_MO_grows 31 = .ok (.istore_n 1, 1) := by decide +kernel
theorem d_MO_grows_32 : decode b_MO_grows 32 = .ok (.iconst 1, 1) := by decide +kernel
theorem d_MO_grows_33 : decode b_MO_grows 33 = .ok (.istore_n 2, 1) := by decide +kernel
theorem d_MO_grows_34 : decode b_MO_grows 34 = .ok (.iload_n 2, 1) := by decide +kernel
theorem d_MO_grows_35 : decode b_MO_grows 35 = .ok (.aload_n 0, 1) := by decide +kernel
theorem d_MO_grows_36 : decode b_MO_grows 36 = .ok (.getfield 22, 3) := by decide +kernel
theorem d_MO_grows_39 : decode b_MO_grows 39 = .ok (.iconst 0, 1) := by decide +kernel
theorem d_MO_grows_40 : decode b_MO_grows 40 = .ok (.iaload, 1) := by decide +kernel
theorem d_MO_grows_41 : decode b_MO_grows 41 = .ok (.if_icmp .gt 58, 3) := by decide +kernel
theorem d_MO_grows_44 : decode b_MO_grows 44 = .ok (.iconst 0, 1) := by decide +kernel
theorem d_MO_grows_45 : decode b_MO_grows 45 = .ok (.istore_n 3, 1) := by decide +kernel
theorem d_MO_grows_46 : decode b_MO_grows 46 = .ok (.iload_n 3, 1) := by decide +kernel
theorem d_MO_grows_47 : decode b_MO_grows 47 = .ok (.aload_n 0, 1) := by decide +kernel
theorem d_MO_grows_48 : decode b_MO_grows 48 = .ok (.aload_n 0, 1) := by decide +kernel
theorem d_MO_grows_49 : decode b_MO_grows 49 = .ok (.getfield 22, 3) := by decide +kernel
theorem d_MO_grows_52 : decode b_MO_grows 52 = .ok (.iload_n 2, 1) := by decide +kernel
theorem d_MO_grows_53 : decode b_MO_grows 53 = .ok (.iaload, 1) := by decide +kernel
theorem d_MO_grows_54 : decode b_MO_grows 54 = .ok (.invokevirtual 52, 3) := by decide +kernel
theorem d_MO_grows_57 : decode b_MO_grows 57 = .ok (.if_icmp .ge 36, 3) := by decide +kernel
theorem d_MO_grows_60 : decode b_MO_grows 60 = .ok (.iload_n 1, 1) := by decide +kernel
theorem d_MO_grows_61 : decode b_MO_grows 61 = .ok (.sipush 300, 3) := by decide +kernel
theorem d_MO_grows_64 : decode b_MO_grows 64 = .ok (.if_icmp .ge 29, 3) := by decide +kernel
theorem d_MO_grows_67 : decode b_MO_grows 67 = .ok (.iinc 1 1, 3) := by decide +kernel
theorem d_MO_grows_70 : decode b_MO_grows 70 = .ok (.aload_n 0, 1) := by decide +kernel
theorem d_MO_grows_71 : decode b_MO_grows 71 = .ok (.getfield 19, 3) := by decide +kernel
theorem d_MO_grows_74 : decode b_MO_grows 74 = .ok (.iload_n 1, 1) := by decide +kernel
theorem d_MO_grows_75 : decode b_MO_grows 75 = .ok (.aload_n 0, 1) := by decide +kernel
theorem d_MO_grows_76 : decode b_MO_grows 76 = .ok (.aload_n 0, 1) := by decide +kernel
theorem d_MO_grows_77 : decode b_MO_grows 77 = .ok (.getfield 22, 3) := by decide +kernel
theorem d_MO_grows_80 : decode b_MO_grows 80 = .ok (.iload_n 2, 1) := by decide +kernel
theorem d_MO_grows_81 : decode b_MO_grows 81 = .ok (.iaload, 1) := by decide +kernel
theorem d_MO_grows_82 : decode b_MO_grows 82 = .ok (.iload_n 3, 1) := by decide +kernel
theorem d_MO_grows_83 : decode b_MO_grows 83 = .ok (.invokevirtual 56, 3) := by decide +kernel
theorem d_MO_grows_86 : decode b_MO_grows 86 = .ok (.iastore, 1) := by decide +kernel
theorem d_MO_grows_87 : decode b_MO_grows 87 = .ok (.iinc 3 1, 3) := by decide +kernel
theorem d_MO_grows_90 : decode b_MO_grows 90 = .ok (.goto (-44), 3) := by decide +kernel
theorem d_MO_grows_93 : decode b_MO_grows 93 = .ok (.iinc 2 1, 3) := by decide +kernel
theorem d_MO_grows_96 : decode b_MO_grows 96 = .ok (.goto (-62), 3) := by decide +kernel
theorem d_MO_grows_99 : decode b_MO_grows 99 = .ok (.aload_n 0, 1) := by decide +kernel
theorem d_MO_grows_100 : decode b_MO_grows 100 = .ok (.getfield 19, 3) := by decide +kernel
theorem d_MO_grows_103 : decode b_MO_grows 103 = .ok (.iconst 0, 1) := by decide +kernel
theorem d_MO_grows_104 : decode b_MO_grows 104 = .ok (.iload_n 1, 1) := by decide +kernel
theorem d_MO_grows_105 : decode b_MO_grows 105 = .ok (.iastore, 1) := by decide +kernel
theorem d_MO_grows_106 : decode b_MO_grows 106 = .ok (.return_, 1) := by decide +kernel
theorem d_MO_grow_0 : decode b_MO_grow 0 = .ok (.iload_n 1, 1) := by decide +kernel
theorem d_MO_grow_1 : decode b_MO_grow 1 = .ok (.iconst 1, 1) := by decide +kernel
theorem d_MO_grow_2 : decode b_MO_grow 2 = .ok (.bipush 20, 2) := by decide +kernel
theorem d_MO_grow_4 : decode b_MO_grow 4 = .ok (.invokestatic 44, 3) := by decide +kernel
theorem d_MO_grow_7 : decode b_MO_grow 7 = .ok (.ifCond .ne 6, 3) := by decide +kernel
theorem d_MO_grow_10 : decode b_MO_grow 10 = .ok (.bipush (-2), 2) := by decide +kernel
theorem d_MO_grow_12 : decode b_MO_grow 12 = .ok (.ireturn, 1) := by decide +kernel
theorem d_MO_grow_13 : decode b_MO_grow 13 = .ok (.aload_n 0, 1) := by decide +kernel
theorem d_MO_grow_14 : decode b_MO_grow 14 = .ok (.invokevirtual 97, 3) := by decide +kernel
theorem d_MO_grow_17 : decode b_MO_grow 17 = .ok (.iconst 0, 1) := by decide +kernel
theorem d_MO_grow_18 : decode b_MO_grow 18 = .ok (.istore_n 2, 1) := by decide +kernel
theorem d_MO_grow_19 : decode b_MO_grow 19 = .ok (.iload_n 2, 1) := by decide +kernel
theorem d_MO_grow_20 : decode b_MO_grow 20 = .ok (.iload_n 1, 1) := by decide +kernel
theorem d_MO_grow_21 : decode b_MO_grow 21 = .ok (.if_icmp .ge 13, 3) := by decide +kernel
theorem d_MO_grow_24 : decode b_MO_grow 24 = .ok (.aload_n 0, 1) := by decide +kernel
theorem d_MO_grow_25 : decode b_MO_grow 25 = .ok (.invokevirtual 100, 3) := by decide +kernel
theorem d_MO_grow_28 : decode b_MO_grow 28 = .ok (.iinc 2 1, 3) := by decide +kernel
theorem d_MO_grow_31 : decode b_MO_grow 31 = .ok (.goto (-12), 3) := by decide +kernel
theorem d_MO_grow_34 : decode b_MO_grow 34 = .ok (.aload_n 0, 1) := by decide +kernel
theorem d_MO_grow_35 : decode b_MO_grow 35 = .ok (.invokevirtual 103, 3) := by decide +kernel
theorem d_MO_grow_38 : decode b_MO_grow 38 = .ok (.ifCond .eq 6, 3) := by decide +kernel
theorem d_MO_grow_41 : decode b_MO_grow 41 = .ok (.bipush (-5), 2) := by decide +kernel
theorem d_MO_grow_43 : decode b_MO_grow 43 = .ok (.ireturn, 1) := by decide +kernel
theorem d_MO_grow_44 : decode b_MO_grow 44 = .ok (.aload_n 0, 1) := by decide +kernel
theorem d_MO_grow_45 : decode b_MO_grow 45 = .ok (.invokevirtual 80, 3) := by decide +kernel
theorem d_MO_grow_48 : decode b_MO_grow 48 = .ok (.aload_n 0, 1) := by decide +kernel
theorem d_MO_grow_49 : decode b_MO_grow 49 = .ok (.invokevirtual 106, 3) := by decide +kernel
theorem d_MO_grow_52 : decode b_MO_grow 52 = .ok (.aload_n 0, 1) := by decide +kernel
theorem d_MO_grow_53 : decode b_MO_grow 53 = .ok (.invokevirtual 60, 3) := by decide +kernel
theorem d_MO_grow_56 : decode b_MO_grow 56 = .ok (.ireturn, 1) := by decide +kernel
theorem d_MO_cut_0 : decode b_MO_cut 0 = .ok (.aload_n 0, 1) := by decide +kernel
theorem d_MO_cut_1 : decode b_MO_cut 1 = .ok (.invokevirtual 60, 3) := by decide +kernel
theorem d_MO_cut_4 : decode b_MO_cut 4 = .ok (.istore_n 2, 1) := by decide +kernel
theorem d_MO_cut_5 : decode b_MO_cut 5 = .ok (.iload_n 1, 1) := by decide +kernel
theorem d_MO_cut_6 : decode b_MO_cut 6 = .ok (.iconst 1, 1) := by decide +kernel
theorem d_MO_cut_7 : decode b_MO_cut 7 = .ok (.iload_n 2, 1) := by decide +kernel
theorem d_MO_cut_8 : decode b_MO_cut 8 = .ok (.invokestatic 44, 3) := by decide +kernel
theorem d_MO_cut_11 : decode b_MO_cut 11 = .ok (.ifCond .ne 6, 3) := by decide +kernel
theorem d_MO_cut_14 : decode b_MO_cut 14 = .ok (.bipush (-2), 2) := by decide +kernel
theorem d_MO_cut_16 : decode b_MO_cut 16 = .ok (.ireturn, 1) := by decide +kernel
theorem d_MO_cut_17 : decode b_MO_cut 17 = .ok (.iload_n 1, 1) := by decide +kernel
theorem d_MO_cut_18 : decode b_MO_cut 18 = .ok (.iload_n 2, 1) := by decide +kernel
theorem d_MO_cut_19 : decode b_MO_cut 19 = .ok (.if_icmp .ne 6, 3) := by decide +kernel
theorem d_MO_cut_22 : decode b_MO_cut 22 = .ok (.bipush (-5), 2) := by decide +kernel
theorem d_MO_cut_24 : decode b_MO_cut 24 = .ok (.ireturn, 1) := by decide +kernel
theorem d_MO_cut_25 : decode b_MO_cut 25 = .ok (.aload_n 0, 1) := by decide +kernel
theorem d_MO_cut_26 : decode b_MO_cut 26 = .ok (.invokevirtual 80, 3) := by decide +kernel
theorem d_MO_cut_29 : decode b_MO_cut 29 = .ok (.aload_n 0, 1) := by decide +kernel
theorem d_MO_cut_30 : decode b_MO_cut 30 = .ok (.getfield 7, 3) := by decide +kernel
theorem d_MO_cut_33 : decode b_MO_cut 33 = .ok (.bipush 36, 2) := by decide +kernel
theorem d_MO_cut_35 : decode b_MO_cut 35 = .ok (.iload_n 1, 1) := by decide +kernel
theorem d_MO_cut_36 : decode b_MO_cut 36 = .ok (.iastore, 1) := by decide +kernel
theorem d_MO_cut_37 : decode b_MO_cut 37 = .ok (.iload_n 2, 1) := by decide +kernel
theorem d_MO_cut_38 : decode b_MO_cut 38 = .ok (.iload_n 1, 1) := by decide +kernel
theorem d_MO_cut_39 : decode b_MO_cut 39 = .ok (.isub, 1) := by decide +kernel
theorem d_MO_cut_40 : decode b_MO_cut 40 = .ok (.ireturn, 1) := by decide +kernel
theorem d_MO_derive_0 : decode b_MO_derive 0 = .ok (.aload_n 0, 1) := by decide +kernel
theorem d_MO_derive_1 : decode b_MO_derive 1 = .ok (.getfield 7, 3) := by decide +kernel
theorem d_MO_derive_4 : decode b_MO_derive 4 = .ok (.sipush 337, 3) := by decide +kernel
theorem d_MO_derive_7 : decode b_MO_derive 7 = .ok (.iaload, 1) := by decide +kernel
theorem d_MO_derive_8 : decode b_MO_derive 8 = .ok (.ifCond .eq 19, 3) := by decide +kernel
theorem d_MO_derive_11 : decode b_MO_derive 11 = .ok (.aload_n 0, 1) := by decide +kernel
theorem d_MO_derive_12 : decode b_MO_derive 12 = .ok (.invokevirtual 109, 3) := by decide +kernel
theorem d_MO_derive_15 : decode b_MO_derive 15 = .ok (.iconst 2, 1) := by decide +kernel
theorem d_MO_derive_16 : decode b_MO_derive 16 = .ok (.if_icmp .lt 11, 3) := by decide +kernel
theorem d_MO_derive_19 : decode b_MO_derive 19 = .ok (.aload_n 0, 1) := by decide +kernel
theorem d_MO_derive_20 : decode b_MO_derive 20 = .ok (.getfield 112, 3) := by decide +kernel
theorem d_MO_derive_23 : decode b_MO_derive 23 = .ok (.iconst 4, 1) := by decide +kernel
theorem d_MO_derive_24 : decode b_MO_derive 24 = .ok (.if_icmp .le 6, 3) := by decide +kernel
theorem d_MO_derive_27 : decode b_MO_derive 27 = .ok (.bipush (-4), 2) := by decide +kernel
theorem d_MO_derive_29 : decode b_MO_derive 29 = .ok (.ireturn, 1) := by decide +kernel
theorem d_MO_derive_30 : decode b_MO_derive 30 = .ok (.aload_n 0, 1) := by decide +kernel
theorem d_MO_derive_31 : decode b_MO_derive 31 = .ok (.getfield 19, 3) := by decide +kernel
theorem d_MO_derive_34 : decode b_MO_derive 34 = .ok (.iconst 0, 1) := by decide +kernel
theorem d_MO_derive_35 : decode b_MO_derive 35 = .ok (.aload_n 0, 1) := by decide +kernel
theorem d_MO_derive_36 : decode b_MO_derive 36 = .ok (.getfield 115, 3) := by decide +kernel
theorem d_MO_derive_39 : decode b_MO_derive 39 = .ok (.iconst 1, 1) := by decide +kernel
theorem d_MO_derive_40 : decode b_MO_derive 40 = .ok (.isub, 1) := by decide +kernel
theorem d_MO_derive_41 : decode b_MO_derive 41 = .ok (.iastore, 1) := by decide +kernel
theorem d_MO_derive_42 : decode b_MO_derive 42 = .ok (.iconst 0, 1) := by decide +kernel
theorem d_MO_derive_43 : decode b_MO_derive 43 = .ok (.istore_n 1, 1) := by decide +kernel
theorem d_MO_derive_44 : decode b_MO_derive 44 = .ok (.iload_n 1, 1) := by decide +kernel
theorem d_MO_derive_45 : decode b_MO_derive 45 = .ok (.aload_n 0, 1) := by decide +kernel
theorem d_MO_derive_46 : decode b_MO_derive 46 = .ok (.getfield 115, 3) := by decide +kernel
theorem d_MO_derive_49 : decode b_MO_derive 49 = .ok (.iconst 1, 1) := by decide +kernel
theorem d_MO_derive_50 : decode b_MO_derive 50 = .ok (.isub, 1) := by decide +kernel
theorem d_MO_derive_51 : decode b_MO_derive 51 = .ok (.if_icmp .ge 23, 3) := by decide +kernel
theorem d_MO_derive_54 : decode b_MO_derive 54 = .ok (.aload_n 0, 1) := by decide +kernel
theorem d_MO_derive_55 : decode b_MO_derive 55 = .ok (.getfield 19, 3) := by decide +kernel
theorem d_MO_derive_58 : decode b_MO_derive 58 = .ok (.iconst 1, 1) := by decide +kernel
theorem d_MO_derive_59 : decode b_MO_derive 59 = .ok (.iload_n 1, 1) := by decide +kernel
theorem d_MO_derive_60 : decode b_MO_derive 60 = .ok (.iadd, 1) := by decide +kernel
theorem d_MO_derive_61 : decode b_MO_derive 61 = .ok (.aload_n 0, 1) := by decide +kernel
theorem d_MO_derive_62 : decode b_MO_derive 62 = .ok (.getfield 28, 3) := by decide +kernel
theorem d_MO_derive_65 : decode b_MO_derive 65 = .ok (.iload_n 1, 1) := by decide +kernel
theorem d_MO_derive_66 : decode b_MO_derive 66 = .ok (.iaload, 1) := by decide +kernel
theorem d_MO_derive_67 : decode b_MO_derive 67 = .ok (.iastore, 1) := by decide +kernel
theorem d_MO_derive_68 : decode b_MO_derive 68 = .ok (.iinc 1 1, 3) := by decide +kernel
theorem d_MO_derive_71 : decode b_MO_derive 71 = .ok (.goto (-27), 3) := by decide +kernel
theorem d_MO_derive_74 : decode b_MO_derive 74 = .ok (.aload_n 0, 1) := by decide +kernel
theorem d_MO_derive_75 : decode b_MO_derive 75 = .ok (.invokevirtual 103, 3) := by decide +kernel
theorem d_MO_derive_78 : decode b_MO_derive 78 = .ok (.ifCond .eq 6, 3) := by decide +kernel
theorem d_MO_derive_81 : decode b_MO_derive 81 = .ok (.bipush (-5), 2) := by decide +kernel
theorem d_MO_derive_83 : decode b_MO_derive 83 = .ok (.ireturn, 1) := by decide +kernel
theorem d_MO_derive_84 : decode b_MO_derive 84 = .ok (.aload_n 0, 1) := by decide +kernel
theorem d_MO_derive_85 : decode b_MO_derive 85 = .ok (.invokevirtual 80, 3) := by decide +kernel
theorem d_MO_derive_88 : decode b_MO_derive 88 = .ok (.aload_n 0, 1) := by decide +kernel
theorem d_MO_derive_89 : decode b_MO_derive 89 = .ok (.invokevirtual 106, 3) := by decide +kernel
theorem d_MO_derive_92 : decode b_MO_derive 92 = .ok (.aload_n 0, 1) := by decide +kernel
theorem d_MO_derive_93 : decode b_MO_derive 93 = .ok (.invokevirtual 60, 3) := by decide +kernel
theorem d_MO_derive_96 : decode b_MO_derive 96 = .ok (.ireturn, 1) := by decide +kernel
theorem d_MO_comesAt_0 : decode b_MO_comesAt 0 = .ok (.iload_n 1, 1) := by decide +kernel
theorem d_MO_comesAt_1 : decode b_MO_comesAt 1 = .ok (.aload_n 0, 1) := by decide +kernel
theorem d_MO_comesAt_2 : decode b_MO_comesAt 2 = .ok (.getfield 7, 3) := by decide +kernel
theorem d_MO_comesAt_5 : decode b_MO_comesAt 5 = .ok (.sipush 337, 3) := by decide +kernel
theorem d_MO_comesAt_8 : decode b_MO_comesAt 8 = .ok (.iaload, 1) := by decide +kernel
theorem d_MO_comesAt_9 : decode b_MO_comesAt 9 = .ok (.iadd, 1) := by decide +kernel
theorem d_MO_comesAt_10 : decode b_MO_comesAt 10 = .ok (.aload_n 0, 1) := by decide +kernel
theorem d_MO_comesAt_11 : decode b_MO_comesAt 11 = .ok (.invokevirtual 60, 3) := by decide +kernel
theorem d_MO_comesAt_14 : decode b_MO_comesAt 14 = .ok (.if_icmp .gt 7, 3) := by decide +kernel
theorem d_MO_comesAt_17 : decode b_MO_comesAt 17 = .ok (.iconst 1, 1) := by decide +kernel
theorem d_MO_comesAt_18 : decode b_MO_comesAt 18 = .ok (.goto 4, 3) := by decide +kernel
theorem d_MO_comesAt_21 : decode b_MO_comesAt 21 = .ok (.iconst 0, 1) := by decide +kernel
theorem d_MO_comesAt_22 : decode b_MO_comesAt 22 = .ok (.istore_n 2, 1) := by decide +kernel
theorem d_MO_comesAt_23 : decode b_MO_comesAt 23 = .ok (.iconst 0, 1) := by decide +kernel
theorem d_MO_comesAt_24 : decode b_MO_comesAt 24 = .ok (.istore_n 3, 1) := by decide +kernel
theorem d_MO_comesAt_25 : decode b_MO_comesAt 25 = .ok (.iload_n 3, 1) := by decide +kernel
theorem d_MO_comesAt_26 : decode b_MO_comesAt 26 = .ok (.aload_n 0, 1) := by decide +kernel
theorem d_MO_comesAt_27 : decode b_MO_comesAt 27 = .ok (.getfield 7, 3) := by decide +kernel
theorem d_MO_comesAt_30 : decode b_MO_comesAt 30 = .ok (.sipush 337, 3) := by decide +kernel
theorem d_MO_comesAt_33 : decode b_MO_comesAt 33 = .ok (.iaload, 1) := by decide +kernel
theorem d_MO_comesAt_34 : decode b_MO_comesAt 34 = .ok (.if_icmp .ge 39, 3) := by decide +kernel
theorem d_MO_comesAt_37 : decode b_MO_comesAt 37 = .ok (.iload_n 2, 1) := by decide +kernel
theorem d_MO_comesAt_38 : decode b_MO_comesAt 38 = .ok (.ifCond .eq 35, 3) := by decide +kernel
theorem d_MO_comesAt_41 : decode b_MO_comesAt 41 = .ok (.aload_n 0, 1) := by decide +kernel
theorem d_MO_comesAt_42 : decode b_MO_comesAt 42 = .ok (.iload_n 1, 1) := by decide +kernel
theorem d_MO_comesAt_43 : decode b_MO_comesAt 43 = .ok (.iload_n 3, 1) := by decide +kernel
theorem d_MO_comesAt_44 : decode b_MO_comesAt 44 = .ok (.iadd, 1) := by decide +kernel
theorem d_MO_comesAt_45 : decode b_MO_comesAt 45 = .ok (.invokevirtual 64, 3) := by decide +kernel
theorem d_MO_comesAt_48 : decode b_MO_comesAt 48 = .ok (.aload_n 0, 1) := by decide +kernel
theorem d_MO_comesAt_49 : decode b_MO_comesAt 49 = .ok (.getfield 7, 3) := by decide +kernel
theorem d_MO_comesAt_52 : decode b_MO_comesAt 52 = .ok (.sipush 338, 3) := by decide +kernel
theorem d_MO_comesAt_55 : decode b_MO_comesAt 55 = .ok (.iload_n 3, 1) := by decide +kernel
theorem d_MO_comesAt_56 : decode b_MO_comesAt 56 = .ok (.iadd, 1) := by decide +kernel
theorem d_MO_comesAt_57 : decode b_MO_comesAt 57 = .ok (.iaload, 1) := by decide +kernel
theorem d_MO_comesAt_58 : decode b_MO_comesAt 58 = .ok (.if_icmp .ne 7, 3) := by decide +kernel
theorem d_MO_comesAt_61 : decode b_MO_comesAt 61 = .ok (.iconst 1, 1) := by decide +kernel
theorem d_MO_comesAt_62 : decode b_MO_comesAt 62 = .ok (.goto 4, 3) := by decide +kernel
theorem d_MO_comesAt_65 : decode b_MO_comesAt 65 = .ok (.iconst 0, 1) := by decide +kernel
theorem d_MO_comesAt_66 : decode b_MO_comesAt 66 = .ok (.istore_n 2, 1) := by decide +kernel
theorem d_MO_comesAt_67 : decode b_MO_comesAt 67 = .ok (.iinc 3 1, 3) := by decide +kernel
theorem d_MO_comesAt_70 : decode b_MO_comesAt 70 = .ok (.goto (-45), 3) := by decide +kernel
theorem d_MO_comesAt_73 : decode b_MO_comesAt 73 = .ok (.iload_n 2, 1) := by decide +kernel
theorem d_MO_comesAt_74 : decode b_MO_comesAt 74 = .ok (.ireturn, 1) := by decide +kernel
theorem d_MO_gap_0 : decode b_MO_gap 0 = .ok (.aload_n 0, 1) := by decide +kernel
theorem d_MO_gap_1 : decode b_MO_gap 1 = .ok (.getfield 25, 3) := by decide +kernel
theorem d_MO_gap_4 : decode b_MO_gap 4 = .ok (.iload_n 1, 1) := by decide +kernel
theorem d_MO_gap_5 : decode b_MO_gap 5 = .ok (.iconst 1, 1) := by decide +kernel
theorem d_MO_gap_6 : decode b_MO_gap 6 = .ok (.iadd, 1) := by decide +kernel
theorem d_MO_gap_7 : decode b_MO_gap 7 = .ok (.iaload, 1) := by decide +kernel
theorem d_MO_gap_8 : decode b_MO_gap 8 = .ok (.aload_n 0, 1) := by decide +kernel
theorem d_MO_gap_9 : decode b_MO_gap 9 = .ok (.getfield 25, 3) := by decide +kernel
theorem d_MO_gap_12 : decode b_MO_gap 12 = .ok (.iload_n 1, 1) := by decide +kernel
theorem d_MO_gap_13 : decode b_MO_gap 13 = .ok (.iaload, 1) := by decide +kernel
theorem d_MO_gap_14 : decode b_MO_gap 14 = .ok (.isub, 1) := by decide +kernel
theorem d_MO_gap_15 : decode b_MO_gap 15 = .ok (.ireturn, 1) := by decide +kernel
theorem d_MO_areSame_0 : decode b_MO_areSame 0 = .ok (.aload_n 0, 1) := by decide +kernel
theorem d_MO_areSame_1 : decode b_MO_areSame 1 = .ok (.iload_n 1, 1) := by decide +kernel
theorem d_MO_areSame_2 : decode b_MO_areSame 2 = .ok (.invokevirtual 118, 3) := by decide +kernel
theorem d_MO_areSame_5 : decode b_MO_areSame 5 = .ok (.aload_n 0, 1) := by decide +kernel
theorem d_MO_areSame_6 : decode b_MO_areSame 6 = .ok (.iload_n 2, 1) := by decide +kernel
theorem d_MO_areSame_7 : decode b_MO_areSame 7 = .ok (.invokevirtual 118, 3) := by decide +kernel
theorem d_MO_areSame_10 : decode b_MO_areSame 10 = .ok (.if_icmp .ne 7, 3) := by decide +kernel
theorem d_MO_areSame_13 : decode b_MO_areSame 13 = .ok (.iconst 1, 1) := by decide +kernel
theorem d_MO_areSame_14 : decode b_MO_areSame 14 = .ok (.goto 4, 3) := by decide +kernel
theorem d_MO_areSame_17 : decode b_MO_areSame 17 = .ok (.iconst 0, 1) := by decide +kernel
theorem d_MO_areSame_18 : decode b_MO_areSame 18 = .ok (.istore_n 3, 1) := by decide +kernel
theorem d_MO_areSame_19 : decode b_MO_areSame 19 = .ok (.iconst 0, 1) := by decide +kernel
theorem d_MO_areSame_20 : decode b_MO_areSame 20 = .ok (.istore 4, 2) := by decide +kernel
theorem d_MO_areSame_22 : decode b_MO_areSame 22 = .ok (.iload 4, 2) := by decide +kernel
theorem d_MO_areSame_24 : decode b_MO_areSame 24 = .ok (.aload_n 0, 1) := by decide +kernel
theorem d_MO_areSame_25 : decode b_MO_areSame 25 = .ok (.iload_n 1, 1) := by decide +kernel
theorem d_MO_areSame_26 : decode b_MO_areSame 26 = .ok (.invokevirtual 118, 3) := by decide +kernel
theorem d_MO_areSame_29 : decode b_MO_areSame 29 = .ok (.if_icmp .ge 48, 3) := by decide +kernel
theorem d_MO_areSame_32 : decode b_MO_areSame 32 = .ok (.iload_n 3, 1) := by decide +kernel
theorem d_MO_areSame_33 : decode b_MO_areSame 33 = .ok (.ifCond .eq 44, 3) := by decide +kernel
theorem d_MO_areSame_36 : decode b_MO_areSame 36 = .ok (.aload_n 0, 1) := by decide +kernel
theorem d_MO_areSame_37 : decode b_MO_areSame 37 = .ok (.aload_n 0, 1) := by decide +kernel
theorem d_MO_areSame_38 : decode b_MO_areSame 38 = .ok (.getfield 25, 3) := by decide +kernel
theorem d_MO_areSame_41 : decode b_MO_areSame 41 = .ok (.iload_n 1, 1) := by decide +kernel
theorem d_MO_areSame_42 : decode b_MO_areSame 42 = .ok (.iaload, 1) := by decide +kernel
theorem d_MO_areSame_43 : decode b_MO_areSame 43 = .ok (.iload 4, 2) := by decide +kernel
theorem d_MO_areSame_45 : decode b_MO_areSame 45 = .ok (.iadd, 1) := by decide +kernel
theorem d_MO_areSame_46 : decode b_MO_areSame 46 = .ok (.invokevirtual 64, 3) := by decide +kernel
theorem d_MO_areSame_49 : decode b_MO_areSame 49 = .ok (.aload_n 0, 1) := by decide +kernel
theorem d_MO_areSame_50 : decode b_MO_areSame 50 = .ok (.aload_n 0, 1) := by decide +kernel
theorem d_MO_areSame_51 : decode b_MO_areSame 51 = .ok (.getfield 25, 3) := by decide +kernel
theorem d_MO_areSame_54 : decode b_MO_areSame 54 = .ok (.iload_n 2, 1) := by decide +kernel
theorem d_MO_areSame_55 : decode b_MO_areSame 55 = .ok (.iaload, 1) := by decide +kernel
theorem d_MO_areSame_56 : decode b_MO_areSame 56 = .ok (.iload 4, 2) := by decide +kernel
theorem d_MO_areSame_58 : decode b_MO_areSame 58 = .ok (.iadd, 1) := by decide +kernel
theorem d_MO_areSame_59 : decode b_MO_areSame 59 = .ok (.invokevirtual 64, 3) := by decide +kernel
theorem d_MO_areSame_62 : decode b_MO_areSame 62 = .ok (.if_icmp .ne 7, 3) := by decide +kernel
theorem d_MO_areSame_65 : decode b_MO_areSame 65 = .ok (.iconst 1, 1) := by decide +kernel
theorem d_MO_areSame_66 : decode b_MO_areSame 66 = .ok (.goto 4, 3) := by decide +kernel
theorem d_MO_areSame_69 : decode b_MO_areSame 69 = .ok (.iconst 0, 1) := by decide +kernel
theorem d_MO_areSame_70 : decode b_MO_areSame 70 = .ok (.istore_n 3, 1) := by decide +kernel
theorem d_MO_areSame_71 : decode b_MO_areSame 71 = .ok (.iinc 4 1, 3) := by decide +kernel
theorem d_MO_areSame_74 : decode b_MO_areSame 74 = .ok (.goto (-52), 3) := by decide +kernel
theorem d_MO_areSame_77 : decode b_MO_areSame 77 = .ok (.iload_n 3, 1) := by decide +kernel
theorem d_MO_areSame_78 : decode b_MO_areSame 78 = .ok (.ireturn, 1) := by decide +kernel
theorem d_MO_finds_0 : decode b_MO_finds 0 = .ok (.aload_n 0, 1) := by decide +kernel
theorem d_MO_finds_1 : decode b_MO_finds 1 = .ok (.iconst 0, 1) := by decide +kernel
theorem d_MO_finds_2 : decode b_MO_finds 2 = .ok (.putfield 115, 3) := by decide +kernel
theorem d_MO_finds_5 : decode b_MO_finds 5 = .ok (.aload_n 0, 1) := by decide +kernel
theorem d_MO_finds_6 : decode b_MO_finds 6 = .ok (.iconst 0, 1) := by decide +kernel
theorem d_MO_finds_7 : decode b_MO_finds 7 = .ok (.putfield 112, 3) := by decide +kernel
theorem d_MO_finds_10 : decode b_MO_finds 10 = .ok (.iconst 0, 1) := by decide +kernel
theorem d_MO_finds_11 : decode b_MO_finds 11 = .ok (.istore_n 1, 1) := by decide +kernel
theorem d_MO_finds_12 : decode b_MO_finds 12 = .ok (.iload_n 1, 1) := by decide +kernel
theorem d_MO_finds_13 : decode b_MO_finds 13 = .ok (.aload_n 0, 1) := by decide +kernel
theorem d_MO_finds_14 : decode b_MO_finds 14 = .ok (.invokevirtual 60, 3) := by decide +kernel
theorem d_MO_finds_17 : decode b_MO_finds 17 = .ok (.if_icmp .ge 37, 3) := by decide +kernel
theorem d_MO_finds_20 : decode b_MO_finds 20 = .ok (.aload_n 0, 1) := by decide +kernel
theorem d_MO_finds_21 : decode b_MO_finds 21 = .ok (.iload_n 1, 1) := by decide +kernel
theorem d_MO_finds_22 : decode b_MO_finds 22 = .ok (.invokevirtual 121, 3) := by decide +kernel
theorem d_MO_finds_25 : decode b_MO_finds 25 = .ok (.ifCond .eq 23, 3) := by decide +kernel
theorem d_MO_finds_28 : decode b_MO_finds 28 = .ok (.aload_n 0, 1) := by decide +kernel
theorem d_MO_finds_29 : decode b_MO_finds 29 = .ok (.getfield 25, 3) := by decide +kernel
theorem d_MO_finds_32 : decode b_MO_finds 32 = .ok (.aload_n 0, 1) := by decide +kernel
theorem d_MO_finds_33 : decode b_MO_finds 33 = .ok (.getfield 115, 3) := by decide +kernel
theorem d_MO_finds_36 : decode b_MO_finds 36 = .ok (.iload_n 1, 1) := by decide +kernel
theorem d_MO_finds_37 : decode b_MO_finds 37 = .ok (.iastore, 1) := by decide +kernel
theorem d_MO_finds_38 : decode b_MO_finds 38 = .ok (.aload_n 0, 1) := by decide +kernel
theorem d_MO_finds_39 : decode b_MO_finds 39 = .ok (.dup, 1) := by decide +kernel
theorem d_MO_finds_40 : decode b_MO_finds 40 = .ok (.getfield 115, 3) := by decide +kernel
theorem d_MO_finds_43 : decode b_MO_finds 43 = .ok (.iconst 1, 1) := by decide +kernel
theorem d_MO_finds_44 : decode b_MO_finds 44 = .ok (.iadd, 1) := by decide +kernel
theorem d_MO_finds_45 : decode b_MO_finds 45 = .ok (.putfield 115, 3) := by decide +kernel
theorem d_MO_finds_48 : decode b_MO_finds 48 = .ok (.iinc 1 1, 3) := by decide +kernel
theorem d_MO_finds_51 : decode b_MO_finds 51 = .ok (.goto (-39), 3) := by decide +kernel
theorem d_MO_finds_54 : decode b_MO_finds 54 = .ok (.iconst 0, 1) := by decide +kernel
theorem d_MO_finds_55 : decode b_MO_finds 55 = .ok (.istore_n 1, 1) := by decide +kernel
theorem d_MO_finds_56 : decode b_MO_finds 56 = .ok (.iload_n 1, 1) := by decide +kernel
theorem d_MO_finds_57 : decode b_MO_finds 57 = .ok (.aload_n 0, 1) := by decide +kernel
theorem d_MO_finds_58 : decode b_MO_finds 58 = .ok (.getfield 115, 3) := by decide +kernel
theorem d_MO_finds_61 : decode b_MO_finds 61 = .ok (.iconst 1, 1) := by decide +kernel
theorem d_MO_finds_62 : decode b_MO_finds 62 = .ok (.isub, 1) := by decide +kernel
theorem d_MO_finds_63 : decode b_MO_finds 63 = .ok (.if_icmp .ge 74, 3) := by decide +kernel
theorem d_MO_finds_66 : decode b_MO_finds 66 = .ok (.iconst 0, 1) := by decide +kernel
theorem d_MO_finds_67 : decode b_MO_finds 67 = .ok (.istore_n 2, 1) := by decide +kernel
theorem d_MO_finds_68 : decode b_MO_finds 68 = .ok (.iload_n 2, 1) := by decide +kernel
theorem d_MO_finds_69 : decode b_MO_finds 69 = .ok (.iload_n 1, 1) := by decide +kernel
theorem d_MO_finds_70 : decode b_MO_finds 70 = .ok (.if_icmp .ge 18, 3) := by decide +kernel
theorem d_MO_finds_73 : decode b_MO_finds 73 = .ok (.aload_n 0, 1) := by decide +kernel
theorem d_MO_finds_74 : decode b_MO_finds 74 = .ok (.iload_n 1, 1) := by decide +kernel
theorem d_MO_finds_75 : decode b_MO_finds 75 = .ok (.iload_n 2, 1) := by decide +kernel
theorem d_MO_finds_76 : decode b_MO_finds 76 = .ok (.invokevirtual 124, 3) := by decide +kernel
theorem d_MO_finds_79 : decode b_MO_finds 79 = .ok (.ifCond .ne 9, 3) := by decide +kernel
theorem d_MO_finds_82 : decode b_MO_finds 82 = .ok (.iinc 2 1, 3) := by decide +kernel
theorem d_MO_finds_85 : decode b_MO_finds 85 = .ok (.goto (-17), 3) := by decide +kernel
theorem d_MO_finds_88 : decode b_MO_finds 88 = .ok (.aload_n 0, 1) := by decide +kernel
theorem d_MO_finds_89 : decode b_MO_finds 89 = .ok (.getfield 28, 3) := by decide +kernel
theorem d_MO_finds_92 : decode b_MO_finds 92 = .ok (.iload_n 1, 1) := by decide +kernel
theorem d_MO_finds_93 : decode b_MO_finds 93 = .ok (.iload_n 2, 1) := by decide +kernel
theorem d_MO_finds_94 : decode b_MO_finds 94 = .ok (.iload_n 1, 1) := by decide +kernel
theorem d_MO_finds_95 : decode b_MO_finds 95 = .ok (.if_icmp .ge 12, 3) := by decide +kernel
theorem d_MO_finds_98 : decode b_MO_finds 98 = .ok (.aload_n 0, 1) := by decide +kernel
theorem d_MO_finds_99 : decode b_MO_finds 99 = .ok (.getfield 28, 3) := by decide +kernel
theorem d_MO_finds_102 : decode b_MO_finds 102 = .ok (.iload_n 2, 1) := by decide +kernel
theorem d_MO_finds_103 : decode b_MO_finds 103 = .ok (.iaload, 1) := by decide +kernel
theorem d_MO_finds_104 : decode b_MO_finds 104 = .ok (.goto 7, 3) := by decide +kernel
theorem d_MO_finds_107 : decode b_MO_finds 107 = .ok (.aload_n 0, 1) := by decide +kernel
theorem d_MO_finds_108 : decode b_MO_finds 108 = .ok (.getfield 112, 3) := by decide +kernel
theorem d_MO_finds_111 : decode b_MO_finds 111 = .ok (.iastore, 1) := by decide +kernel
theorem d_MO_finds_112 : decode b_MO_finds 112 = .ok (.aload_n 0, 1) := by decide +kernel
theorem d_MO_finds_113 : decode b_MO_finds 113 = .ok (.dup, 1) := by decide +kernel
theorem d_MO_finds_114 : decode b_MO_finds 114 = .ok (.getfield 112, 3) := by decide +kernel
theorem d_MO_finds_117 : decode b_MO_finds 117 = .ok (.iload_n 2, 1) := by decide +kernel
theorem d_MO_finds_118 : decode b_MO_finds 118 = .ok (.iload_n 1, 1) := by decide +kernel
theorem d_MO_finds_119 : decode b_MO_finds 119 = .ok (.if_icmp .ge 7, 3) := by decide +kernel
theorem d_MO_finds_122 : decode b_MO_finds 122 = .ok (.iconst 0, 1) := by decide +kernel
theorem d_MO_finds_123 : decode b_MO_finds 123 = .ok (.goto 4, 3) := by decide +kernel
theorem d_MO_finds_126 : decode b_MO_finds 126 = .ok (.iconst 1, 1) := by decide +kernel
theorem d_MO_finds_127 : decode b_MO_finds 127 = .ok (.iadd, 1) := by decide +kernel
theorem d_MO_finds_128 : decode b_MO_finds 128 = .ok (.putfield 112, 3) := by decide +kernel
theorem d_MO_finds_131 : decode b_MO_finds 131 = .ok (.iinc 1 1, 3) := by decide +kernel
theorem d_MO_finds_134 : decode b_MO_finds 134 = .ok (.goto (-78), 3) := by decide +kernel
theorem d_MO_finds_137 : decode b_MO_finds 137 = .ok (.aload_n 0, 1) := by decide +kernel
theorem d_MO_finds_138 : decode b_MO_finds 138 = .ok (.getfield 115, 3) := by decide +kernel
theorem d_MO_finds_141 : decode b_MO_finds 141 = .ok (.ireturn, 1) := by decide +kernel
theorem d_MO_look_0 : decode b_MO_look 0 = .ok (.aload_n 0, 1) := by decide +kernel
theorem d_MO_look_1 : decode b_MO_look 1 = .ok (.invokevirtual 128, 3) := by decide +kernel
theorem d_MO_look_4 : decode b_MO_look 4 = .ok (.istore_n 1, 1) := by decide +kernel
theorem d_MO_look_5 : decode b_MO_look 5 = .ok (.iload_n 1, 1) := by decide +kernel
theorem d_MO_look_6 : decode b_MO_look 6 = .ok (.bipush (-5), 2) := by decide +kernel
theorem d_MO_look_8 : decode b_MO_look 8 = .ok (.if_icmp .ne 11, 3) := by decide +kernel
theorem d_MO_look_11 : decode b_MO_look 11 = .ok (.bipush (-100), 2) := by decide +kernel
theorem d_MO_look_13 : decode b_MO_look 13 = .ok (.aload_n 0, 1) := by decide +kernel
theorem d_MO_look_14 : decode b_MO_look 14 = .ok (.getfield 73, 3) := by decide +kernel
theorem d_MO_look_17 : decode b_MO_look 17 = .ok (.isub, 1) := by decide +kernel
theorem d_MO_look_18 : decode b_MO_look 18 = .ok (.ireturn, 1) := by decide +kernel
theorem d_MO_look_19 : decode b_MO_look 19 = .ok (.aload_n 0, 1) := by decide +kernel
theorem d_MO_look_20 : decode b_MO_look 20 = .ok (.getfield 7, 3) := by decide +kernel
theorem d_MO_look_23 : decode b_MO_look 23 = .ok (.sipush 337, 3) := by decide +kernel
theorem d_MO_look_26 : decode b_MO_look 26 = .ok (.iaload, 1) := by decide +kernel
theorem d_MO_look_27 : decode b_MO_look 27 = .ok (.iload_n 1, 1) := by decide +kernel
theorem d_MO_look_28 : decode b_MO_look 28 = .ok (.if_icmp .ne 7, 3) := by decide +kernel
theorem d_MO_look_31 : decode b_MO_look 31 = .ok (.iconst 1, 1) := by decide +kernel
theorem d_MO_look_32 : decode b_MO_look 32 = .ok (.goto 4, 3) := by decide +kernel
theorem d_MO_look_35 : decode b_MO_look 35 = .ok (.iconst 0, 1) := by decide +kernel
theorem d_MO_look_36 : decode b_MO_look 36 = .ok (.istore_n 2, 1) := by decide +kernel
theorem d_MO_look_37 : decode b_MO_look 37 = .ok (.iconst 0, 1) := by decide +kernel
theorem d_MO_look_38 : decode b_MO_look 38 = .ok (.istore_n 3, 1) := by decide +kernel
theorem d_MO_look_39 : decode b_MO_look 39 = .ok (.iload_n 3, 1) := by decide +kernel
theorem d_MO_look_40 : decode b_MO_look 40 = .ok (.iload_n 1, 1) := by decide +kernel
theorem d_MO_look_41 : decode b_MO_look 41 = .ok (.if_icmp .ge 41, 3) := by decide +kernel
theorem d_MO_look_44 : decode b_MO_look 44 = .ok (.iload_n 2, 1) := by decide +kernel
theorem d_MO_look_45 : decode b_MO_look 45 = .ok (.ifCond .eq 37, 3) := by decide +kernel
theorem d_MO_look_48 : decode b_MO_look 48 = .ok (.aload_n 0, 1) := by decide +kernel
theorem d_MO_look_49 : decode b_MO_look 49 = .ok (.getfield 7, 3) := by decide +kernel
theorem d_MO_look_52 : decode b_MO_look 52 = .ok (.sipush 338, 3) := by decide +kernel
theorem d_MO_look_55 : decode b_MO_look 55 = .ok (.iload_n 3, 1) := by decide +kernel
theorem d_MO_look_56 : decode b_MO_look 56 = .ok (.iadd, 1) := by decide +kernel
theorem d_MO_look_57 : decode b_MO_look 57 = .ok (.iaload, 1) := by decide +kernel
theorem d_MO_look_58 : decode b_MO_look 58 = .ok (.aload_n 0, 1) := by decide +kernel
theorem d_MO_look_59 : decode b_MO_look 59 = .ok (.getfield 31, 3) := by decide +kernel
theorem d_MO_look_62 : decode b_MO_look 62 = .ok (.iload_n 3, 1) := by decide +kernel
theorem d_MO_look_63 : decode b_MO_look 63 = .ok (.caload, 1) := by decide +kernel
theorem d_MO_look_64 : decode b_MO_look 64 = .ok (.bipush 97, 2) := by decide +kernel
theorem d_MO_look_66 : decode b_MO_look 66 = .ok (.isub, 1) := by decide +kernel
theorem d_MO_look_67 : decode b_MO_look 67 = .ok (.if_icmp .ne 7, 3) := by decide +kernel
theorem d_MO_look_70 : decode b_MO_look 70 = .ok (.iconst 1, 1) := by decide +kernel
theorem d_MO_look_71 : decode b_MO_look 71 = .ok (.goto 4, 3) := by decide +kernel
theorem d_MO_look_74 : decode b_MO_look 74 = .ok (.iconst 0, 1) := by decide +kernel
theorem d_MO_look_75 : decode b_MO_look 75 = .ok (.istore_n 2, 1) := by decide +kernel
theorem d_MO_look_76 : decode b_MO_look 76 = .ok (.iinc 3 1, 3) := by decide +kernel
theorem d_MO_look_79 : decode b_MO_look 79 = .ok (.goto (-40), 3) := by decide +kernel
theorem d_MO_look_82 : decode b_MO_look 82 = .ok (.iload_n 2, 1) := by decide +kernel
theorem d_MO_look_83 : decode b_MO_look 83 = .ok (.ifCond .eq 6, 3) := by decide +kernel
theorem d_MO_look_86 : decode b_MO_look 86 = .ok (.bipush (-5), 2) := by decide +kernel
theorem d_MO_look_88 : decode b_MO_look 88 = .ok (.ireturn, 1) := by decide +kernel
theorem d_MO_look_89 : decode b_MO_look 89 = .ok (.aload_n 0, 1) := by decide +kernel
theorem d_MO_look_90 : decode b_MO_look 90 = .ok (.invokevirtual 80, 3) := by decide +kernel
theorem d_MO_look_93 : decode b_MO_look 93 = .ok (.aload_n 0, 1) := by decide +kernel
theorem d_MO_look_94 : decode b_MO_look 94 = .ok (.getfield 7, 3) := by decide +kernel
theorem d_MO_look_97 : decode b_MO_look 97 = .ok (.sipush 337, 3) := by decide +kernel
theorem d_MO_look_100 : decode b_MO_look 100 = .ok (.iload_n 1, 1) := by decide +kernel
theorem d_MO_look_101 : decode b_MO_look 101 = .ok (.iastore, 1) := by decide +kernel
theorem d_MO_look_102 : decode b_MO_look 102 = .ok (.iconst 0, 1) := by decide +kernel
theorem d_MO_look_103 : decode b_MO_look 103 = .ok (.istore_n 3, 1) := by decide +kernel
theorem d_MO_look_104 : decode b_MO_look 104 = .ok (.iload_n 3, 1) := by decide +kernel
theorem d_MO_look_105 : decode b_MO_look 105 = .ok (.iload_n 1, 1) := by decide +kernel
theorem d_MO_look_106 : decode b_MO_look 106 = .ok (.if_icmp .ge 28, 3) := by decide +kernel
theorem d_MO_look_109 : decode b_MO_look 109 = .ok (.aload_n 0, 1) := by decide +kernel
theorem d_MO_look_110 : decode b_MO_look 110 = .ok (.getfield 7, 3) := by decide +kernel
theorem d_MO_look_113 : decode b_MO_look 113 = .ok (.sipush 338, 3) := by decide +kernel
theorem d_MO_look_116 : decode b_MO_look 116 = .ok (.iload_n 3, 1) := by decide +kernel
theorem d_MO_look_117 : decode b_MO_look 117 = .ok (.iadd, 1) := by decide +kernel
theorem d_MO_look_118 : decode b_MO_look 118 = .ok (.aload_n 0, 1) := by decide +kernel
theorem d_MO_look_119 : decode b_MO_look 119 = .ok (.getfield 31, 3) := by decide +kernel
theorem d_MO_look_122 : decode b_MO_look 122 = .ok (.iload_n 3, 1) := by decide +kernel
theorem d_MO_look_123 : decode b_MO_look 123 = .ok (.caload, 1) := by decide +kernel
theorem d_MO_look_124 : decode b_MO_look 124 = .ok (.bipush 97, 2) := by decide +kernel
theorem d_MO_look_126 : decode b_MO_look 126 = .ok (.isub, 1) := by decide +kernel
theorem d_MO_look_127 : decode b_MO_look 127 = .ok (.iastore, 1) := by decide +kernel
theorem d_MO_look_128 : decode b_MO_look 128 = .ok (.iinc 3 1, 3) := by decide +kernel
theorem d_MO_look_131 : decode b_MO_look 131 = .ok (.goto (-27), 3) := by decide +kernel
theorem d_MO_look_134 : decode b_MO_look 134 = .ok (.aload_n 0, 1) := by decide +kernel
theorem d_MO_look_135 : decode b_MO_look 135 = .ok (.invokevirtual 109, 3) := by decide +kernel
theorem d_MO_look_138 : decode b_MO_look 138 = .ok (.ireturn, 1) := by decide +kernel
theorem d_MO_type_0 : decode b_MO_type 0 = .ok (.aload_n 0, 1) := by decide +kernel
theorem d_MO_type_1 : decode b_MO_type 1 = .ok (.getfield 131, 3) := by decide +kernel
theorem d_MO_type_4 : decode b_MO_type 4 = .ok (.bipush 60, 2) := by decide +kernel
theorem d_MO_type_6 : decode b_MO_type 6 = .ok (.if_icmp .ne 6, 3) := by decide +kernel
theorem d_MO_type_9 : decode b_MO_type 9 = .ok (.bipush (-3), 2) := by decide +kernel
theorem d_MO_type_11 : decode b_MO_type 11 = .ok (.ireturn, 1) := by decide +kernel
theorem d_MO_type_12 : decode b_MO_type 12 = .ok (.aload_n 0, 1) := by decide +kernel
theorem d_MO_type_13 : decode b_MO_type 13 = .ok (.getfield 31, 3) := by decide +kernel
theorem d_MO_type_16 : decode b_MO_type 16 = .ok (.aload_n 0, 1) := by decide +kernel
theorem d_MO_type_17 : decode b_MO_type 17 = .ok (.getfield 131, 3) := by decide +kernel
theorem d_MO_type_20 : decode b_MO_type 20 = .ok (.iload_n 1, 1) := by decide +kernel
theorem d_MO_type_21 : decode b_MO_type 21 = .ok (.castore, 1) := by decide +kernel
theorem d_MO_type_22 : decode b_MO_type 22 = .ok (.aload_n 0, 1) := by decide +kernel
theorem d_MO_type_23 : decode b_MO_type 23 = .ok (.dup, 1) := by decide +kernel
theorem d_MO_type_24 : decode b_MO_type 24 = .ok (.getfield 131, 3) := by decide +kernel
theorem d_MO_type_27 : decode b_MO_type 27 = .ok (.iconst 1, 1) := by decide +kernel
theorem d_MO_type_28 : decode b_MO_type 28 = .ok (.iadd, 1) := by decide +kernel
theorem d_MO_type_29 : decode b_MO_type 29 = .ok (.putfield 131, 3) := by decide +kernel
theorem d_MO_type_32 : decode b_MO_type 32 = .ok (.aload_n 0, 1) := by decide +kernel
theorem d_MO_type_33 : decode b_MO_type 33 = .ok (.getfield 131, 3) := by decide +kernel
theorem d_MO_type_36 : decode b_MO_type 36 = .ok (.ireturn, 1) := by decide +kernel
theorem d_MO_clearText_0 : decode b_MO_clearText 0 = .ok (.aload_n 0, 1) := by decide +kernel
theorem d_MO_clearText_1 : decode b_MO_clearText 1 = .ok (.getfield 131, 3) := by decide +kernel
theorem d_MO_clearText_4 : decode b_MO_clearText 4 = .ok (.istore_n 1, 1) := by decide +kernel
theorem d_MO_clearText_5 : decode b_MO_clearText 5 = .ok (.aload_n 0, 1) := by decide +kernel
theorem d_MO_clearText_6 : decode b_MO_clearText 6 = .ok (.iconst 0, 1) := by decide +kernel
theorem d_MO_clearText_7 : decode b_MO_clearText 7 = .ok (.putfield 131, 3) := by decide +kernel
theorem d_MO_clearText_10 : decode b_MO_clearText 10 = .ok (.iload_n 1, 1) := by decide +kernel
theorem d_MO_clearText_11 : decode b_MO_clearText 11 = .ok (.ireturn, 1) := by decide +kernel
theorem d_MO_isLetter_0 : decode b_MO_isLetter 0 = .ok (.aload_n 0, 1) := by decide +kernel
theorem d_MO_isLetter_1 : decode b_MO_isLetter 1 = .ok (.getfield 73, 3) := by decide +kernel
theorem d_MO_isLetter_4 : decode b_MO_isLetter 4 = .ok (.aload_n 0, 1) := by decide +kernel
theorem d_MO_isLetter_5 : decode b_MO_isLetter 5 = .ok (.getfield 131, 3) := by decide +kernel
theorem d_MO_isLetter_8 : decode b_MO_isLetter 8 = .ok (.if_icmp .ge 26, 3) := by decide +kernel
theorem d_MO_isLetter_11 : decode b_MO_isLetter 11 = .ok (.aload_n 0, 1) := by decide +kernel
theorem d_MO_isLetter_12 : decode b_MO_isLetter 12 = .ok (.getfield 31, 3) := by decide +kernel
theorem d_MO_isLetter_15 : decode b_MO_isLetter 15 = .ok (.aload_n 0, 1) := by decide +kernel
theorem d_MO_isLetter_16 : decode b_MO_isLetter 16 = .ok (.getfield 73, 3) := by decide +kernel
theorem d_MO_isLetter_19 : decode b_MO_isLetter 19 = .ok (.caload, 1) := by decide +kernel
theorem d_MO_isLetter_20 : decode b_MO_isLetter 20 = .ok (.bipush 97, 2) := by decide +kernel
theorem d_MO_isLetter_22 : decode b_MO_isLetter 22 = .ok (.bipush 100, 2) := by decide +kernel
theorem d_MO_isLetter_24 : decode b_MO_isLetter 24 = .ok (.invokestatic 44, 3) := by decide +kernel
theorem d_MO_isLetter_27 : decode b_MO_isLetter 27 = .ok (.ifCond .eq 7, 3) := by decide +kernel
theorem d_MO_isLetter_30 : decode b_MO_isLetter 30 = .ok (.iconst 1, 1) := by decide +kernel
theorem d_MO_isLetter_31 : decode b_MO_isLetter 31 = .ok (.goto 4, 3) := by decide +kernel
theorem d_MO_isLetter_34 : decode b_MO_isLetter 34 = .ok (.iconst 0, 1) := by decide +kernel
theorem d_MO_isLetter_35 : decode b_MO_isLetter 35 = .ok (.ireturn, 1) := by decide +kernel
theorem d_MO_partsOfText_0 : decode b_MO_partsOfText 0 = .ok (.aload_n 0, 1) := by decide +kernel
theorem d_MO_partsOfText_1 : decode b_MO_partsOfText 1 = .ok (.iconst 0, 1) := by decide +kernel
theorem d_MO_partsOfText_2 : decode b_MO_partsOfText 2 = .ok (.putfield 73, 3) := by decide +kernel
theorem d_MO_partsOfText_5 : decode b_MO_partsOfText 5 = .ok (.iconst 0, 1) := by decide +kernel
theorem d_MO_partsOfText_6 : decode b_MO_partsOfText 6 = .ok (.istore_n 1, 1) := by decide +kernel
theorem d_MO_partsOfText_7 : decode b_MO_partsOfText 7 = .ok (.iconst 1, 1) := by decide +kernel
theorem d_MO_partsOfText_8 : decode b_MO_partsOfText 8 = .ok (.istore_n 2, 1) := by decide +kernel
theorem d_MO_partsOfText_9 : decode b_MO_partsOfText 9 = .ok (.iload_n 2, 1) := by decide +kernel
theorem d_MO_partsOfText_10 : decode b_MO_partsOfText 10 = .ok (.ifCond .eq 211, 3) := by decide +kernel
theorem d_MO_partsOfText_13 : decode b_MO_partsOfText 13 = .ok (.aload_n 0, 1) := by decide +kernel
theorem d_MO_partsOfText_14 : decode b_MO_partsOfText 14 = .ok (.invokevirtual 134, 3) := by decide +kernel
theorem d_MO_partsOfText_17 : decode b_MO_partsOfText 17 = .ok (.ifCond .ne 6, 3) := by decide +kernel
theorem d_MO_partsOfText_20 : decode b_MO_partsOfText 20 = .ok (.bipush (-5), 2) := by decide +kernel
theorem d_MO_partsOfText_22 : decode b_MO_partsOfText 22 = .ok (.ireturn, 1) := by decide +kernel
theorem d_MO_partsOfText_23 : decode b_MO_partsOfText 23 = .ok (.aload_n 0, 1) := by decide +kernel
theorem d_MO_partsOfText_24 : decode b_MO_partsOfText 24 = .ok (.getfield 31, 3) := by decide +kernel
theorem d_MO_partsOfText_27 : decode b_MO_partsOfText 27 = .ok (.aload_n 0, 1) := by decide +kernel
theorem d_MO_partsOfText_28 : decode b_MO_partsOfText 28 = .ok (.getfield 73, 3) := by decide +kernel
theorem d_MO_partsOfText_31 : decode b_MO_partsOfText 31 = .ok (.caload, 1) := by decide +kernel
theorem d_MO_partsOfText_32 : decode b_MO_partsOfText 32 = .ok (.bipush 97, 2) := by decide +kernel
theorem d_MO_partsOfText_34 : decode b_MO_partsOfText 34 = .ok (.isub, 1) := by decide +kernel
theorem d_MO_partsOfText_35 : decode b_MO_partsOfText 35 = .ok (.istore_n 3, 1) := by decide +kernel
theorem d_MO_partsOfText_36 : decode b_MO_partsOfText 36 = .ok (.aload_n 0, 1) := by decide +kernel
theorem d_MO_partsOfText_37 : decode b_MO_partsOfText 37 = .ok (.dup, 1) := by decide +kernel
theorem d_MO_partsOfText_38 : decode b_MO_partsOfText 38 = .ok (.getfield 73, 3) := by decide +kernel
theorem d_MO_partsOfText_41 : decode b_MO_partsOfText 41 = .ok (.iconst 1, 1) := by decide +kernel
theorem d_MO_partsOfText_42 : decode b_MO_partsOfText 42 = .ok (.iadd, 1) := by decide +kernel
theorem d_MO_partsOfText_43 : decode b_MO_partsOfText 43 = .ok (.putfield 73, 3) := by decide +kernel
theorem d_MO_partsOfText_46 : decode b_MO_partsOfText 46 = .ok (.aload_n 0, 1) := by decide +kernel
theorem d_MO_partsOfText_47 : decode b_MO_partsOfText 47 = .ok (.getfield 73, 3) := by decide +kernel
theorem d_MO_partsOfText_50 : decode b_MO_partsOfText 50 = .ok (.aload_n 0, 1) := by decide +kernel
theorem d_MO_partsOfText_51 : decode b_MO_partsOfText 51 = .ok (.getfield 131, 3) := by decide +kernel
theorem d_MO_partsOfText_54 : decode b_MO_partsOfText 54 = .ok (.if_icmp .eq 17, 3) := by decide +kernel
theorem d_MO_partsOfText_57 : decode b_MO_partsOfText 57 = .ok (.aload_n 0, 1) := by decide +kernel
theorem d_MO_partsOfText_58 : decode b_MO_partsOfText 58 = .ok (.getfield 31, 3) := by decide +kernel
theorem d_MO_partsOfText_61 : decode b_MO_partsOfText 61 = .ok (.aload_n 0, 1) := by decide +kernel
theorem d_MO_partsOfText_62 : decode b_MO_partsOfText 62 = .ok (.getfield 73, 3) := by decide +kernel
theorem d_MO_partsOfText_65 : decode b_MO_partsOfText 65 = .ok (.caload, 1) := by decide +kernel
theorem d_MO_partsOfText_66 : decode b_MO_partsOfText 66 = .ok (.bipush 61, 2) := by decide +kernel
theorem d_MO_partsOfText_68 : decode b_MO_partsOfText 68 = .ok (.if_icmp .eq 6, 3) := by decide +kernel
theorem d_MO_partsOfText_71 : decode b_MO_partsOfText 71 = .ok (.bipush (-5), 2) := by decide +kernel
theorem d_MO_partsOfText_73 : decode b_MO_partsOfText 73 = .ok (.ireturn, 1) := by decide +kernel
theorem d_MO_partsOfText_74 : decode b_MO_partsOfText 74 = .ok (.aload_n 0, 1) := by decide +kernel
theorem d_MO_partsOfText_75 : decode b_MO_partsOfText 75 = .ok (.dup, 1) := by decide +kernel
theorem d_MO_partsOfText_76 : decode b_MO_partsOfText 76 = .ok (.getfield 73, 3) := by decide +kernel
theorem d_MO_partsOfText_79 : decode b_MO_partsOfText 79 = .ok (.iconst 1, 1) := by decide +kernel
theorem d_MO_partsOfText_80 : decode b_MO_partsOfText 80 = .ok (.iadd, 1) := by decide +kernel
theorem d_MO_partsOfText_81 : decode b_MO_partsOfText 81 = .ok (.putfield 73, 3) := by decide +kernel
theorem d_MO_partsOfText_84 : decode b_MO_partsOfText 84 = .ok (.iconst 0, 1) := by decide +kernel
theorem d_MO_partsOfText_85 : decode b_MO_partsOfText 85 = .ok (.istore 4, 2) := by decide +kernel
theorem d_MO_partsOfText_87 : decode b_MO_partsOfText 87 = .ok (.iload 4, 2) := by decide +kernel
theorem d_MO_partsOfText_89 : decode b_MO_partsOfText 89 = .ok (.bipush 8, 2) := by decide +kernel
theorem d_MO_partsOfText_91 : decode b_MO_partsOfText 91 = .ok (.if_icmp .ge 52, 3) := by decide +kernel
theorem d_MO_partsOfText_94 : decode b_MO_partsOfText 94 = .ok (.aload_n 0, 1) := by decide +kernel
theorem d_MO_partsOfText_95 : decode b_MO_partsOfText 95 = .ok (.invokevirtual 134, 3) := by decide +kernel
theorem d_MO_partsOfText_98 : decode b_MO_partsOfText 98 = .ok (.ifCond .eq 45, 3) := by decide +kernel
theorem d_MO_partsOfText_101 : decode b_MO_partsOfText 101 = .ok (.aload_n 0, 1) := by decide +kernel
theorem d_MO_partsOfText_102 : decode b_MO_partsOfText 102 = .ok (.getfield 19, 3) := by decide +kernel
theorem d_MO_partsOfText_105 : decode b_MO_partsOfText 105 = .ok (.bipush 9, 2) := by decide +kernel
theorem d_MO_partsOfText_107 : decode b_MO_partsOfText 107 = .ok (.iload_n 3, 1) := by decide +kernel
theorem d_MO_partsOfText_108 : decode b_MO_partsOfText 108 = .ok (.imul, 1) := by decide +kernel
theorem d_MO_partsOfText_109 : decode b_MO_partsOfText 109 = .ok (.iconst 1, 1) := by decide +kernel
theorem d_MO_partsOfText_110 : decode b_MO_partsOfText 110 = .ok (.iadd, 1) := by decide +kernel
theorem d_MO_partsOfText_111 : decode b_MO_partsOfText 111 = .ok (.iload 4, 2) := by decide +kernel
theorem d_MO_partsOfText_113 : decode b_MO_partsOfText 113 = .ok (.iadd, 1) := by decide +kernel
theorem d_MO_partsOfText_114 : decode b_MO_partsOfText 114 = .ok (.aload_n 0, 1) := by decide +kernel
theorem d_MO_partsOfText_115 : decode b_MO_partsOfText 115 = .ok (.getfield 31, 3) := by decide +kernel
theorem d_MO_partsOfText_118 : decode b_MO_partsOfText 118 = .ok (.aload_n 0, 1) := by decide +kernel
theorem d_MO_partsOfText_119 : decode b_MO_partsOfText 119 = .ok (.getfield 73, 3) := by decide +kernel
theorem d_MO_partsOfText_122 : decode b_MO_partsOfText 122 = .ok (.caload, 1) := by decide +kernel
theorem d_MO_partsOfText_123 : decode b_MO_partsOfText 123 = .ok (.bipush 97, 2) := by decide +kernel
theorem d_MO_partsOfText_125 : decode b_MO_partsOfText 125 = .ok (.isub, 1) := by decide +kernel
theorem d_MO_partsOfText_126 : decode b_MO_partsOfText 126 = .ok (.iastore, 1) := by decide +kernel
theorem d_MO_partsOfText_127 : decode b_MO_partsOfText 127 = .ok (.iinc 4 1, 3) := by decide +kernel
theorem d_MO_partsOfText_130 : decode b_MO_partsOfText 130 = .ok (.aload_n 0, 1) := by decide +kernel
theorem d_MO_partsOfText_131 : decode b_MO_partsOfText 131 = .ok (.dup, 1) := by decide +kernel
theorem d_MO_partsOfText_132 : decode b_MO_partsOfText 132 = .ok (.getfield 73, 3) := by decide +kernel
theorem d_MO_partsOfText_135 : decode b_MO_partsOfText 135 = .ok (.iconst 1, 1) := by decide +kernel
theorem d_MO_partsOfText_136 : decode b_MO_partsOfText 136 = .ok (.iadd, 1) := by decide +kernel
theorem d_MO_partsOfText_137 : decode b_MO_partsOfText 137 = .ok (.putfield 73, 3) := by decide +kernel
theorem d_MO_partsOfText_140 : decode b_MO_partsOfText 140 = .ok (.goto (-53), 3) := by decide +kernel
theorem d_MO_partsOfText_143 : decode b_MO_partsOfText 143 = .ok (.aload_n 0, 1) := by decide +kernel
theorem d_MO_partsOfText_144 : decode b_MO_partsOfText 144 = .ok (.getfield 19, 3) := by decide +kernel
theorem d_MO_partsOfText_147 : decode b_MO_partsOfText 147 = .ok (.bipush 9, 2) := by decide +kernel
theorem d_MO_partsOfText_149 : decode b_MO_partsOfText 149 = .ok (.iload_n 3, 1) := by decide +kernel
theorem d_MO_partsOfText_150 : decode b_MO_partsOfText 150 = .ok (.imul, 1) := by decide +kernel
theorem d_MO_partsOfText_151 : decode b_MO_partsOfText 151 = .ok (.iload 4, 2) := by decide +kernel
theorem d_MO_partsOfText_153 : decode b_MO_partsOfText 153 = .ok (.iastore, 1) := by decide +kernel
theorem d_MO_partsOfText_154 : decode b_MO_partsOfText 154 = .ok (.iinc 1 1, 3) := by decide +kernel
theorem d_MO_partsOfText_157 : decode b_MO_partsOfText 157 = .ok (.aload_n 0, 1) := by decide +kernel
theorem d_MO_partsOfText_158 : decode b_MO_partsOfText 158 = .ok (.getfield 73, 3) := by decide +kernel
theorem d_MO_partsOfText_161 : decode b_MO_partsOfText 161 = .ok (.aload_n 0, 1) := by decide +kernel
theorem d_MO_partsOfText_162 : decode b_MO_partsOfText 162 = .ok (.getfield 131, 3) := by decide +kernel
theorem d_MO_partsOfText_165 : decode b_MO_partsOfText 165 = .ok (.if_icmp .ge 7, 3) := by decide +kernel
theorem d_MO_partsOfText_168 : decode b_MO_partsOfText 168 = .ok (.iconst 1, 1) := by decide +kernel
theorem d_MO_partsOfText_169 : decode b_MO_partsOfText 169 = .ok (.goto 4, 3) := by decide +kernel
theorem d_MO_partsOfText_172 : decode b_MO_partsOfText 172 = .ok (.iconst 0, 1) := by decide +kernel
theorem d_MO_partsOfText_173 : decode b_MO_partsOfText 173 = .ok (.istore_n 2, 1) := by decide +kernel
theorem d_MO_partsOfText_174 : decode b_MO_partsOfText 174 = .ok (.iload 4, 2) := by decide +kernel
theorem d_MO_partsOfText_176 : decode b_MO_partsOfText 176 = .ok (.ifCond .eq 21, 3) := by decide +kernel
theorem d_MO_partsOfText_179 : decode b_MO_partsOfText 179 = .ok (.iload_n 2, 1) := by decide +kernel
theorem d_MO_partsOfText_180 : decode b_MO_partsOfText 180 = .ok (.ifCond .eq 20, 3) := by decide +kernel
theorem d_MO_partsOfText_183 : decode b_MO_partsOfText 183 = .ok (.aload_n 0, 1) := by decide +kernel
theorem d_MO_partsOfText_184 : decode b_MO_partsOfText 184 = .ok (.getfield 31, 3) := by decide +kernel
theorem d_MO_partsOfText_187 : decode b_MO_partsOfText 187 = .ok (.aload_n 0, 1) := by decide +kernel
theorem d_MO_partsOfText_188 : decode b_MO_partsOfText 188 = .ok (.getfield 73, 3) := by decide +kernel
theorem d_MO_partsOfText_191 : decode b_MO_partsOfText 191 = .ok (.caload, 1) := by decide +kernel
theorem d_MO_partsOfText_192 : decode b_MO_partsOfText 192 = .ok (.bipush 59, 2) := by decide +kernel
theorem d_MO_partsOfText_194 : decode b_MO_partsOfText 194 = .ok (.if_icmp .eq 6, 3) := by decide +kernel
theorem d_MO_partsOfText_197 : decode b_MO_partsOfText 197 = .ok (.bipush (-5), 2) := by decide +kernel
theorem d_MO_partsOfText_199 : decode b_MO_partsOfText 199 = .ok (.ireturn, 1) := by decide +kernel
theorem d_MO_partsOfText_200 : decode b_MO_partsOfText 200 = .ok (.aload_n 0, 1) := by decide +kernel
theorem d_MO_partsOfText_201 : decode b_MO_partsOfText 201 = .ok (.dup, 1) := by decide +kernel
theorem d_MO_partsOfText_202 : decode b_MO_partsOfText 202 = .ok (.getfield 73, 3) := by decide +kernel
theorem d_MO_partsOfText_205 : decode b_MO_partsOfText 205 = .ok (.iload_n 2, 1) := by decide +kernel
theorem d_MO_partsOfText_206 : decode b_MO_partsOfText 206 = .ok (.ifCond .eq 7, 3) := by decide +kernel
theorem d_MO_partsOfText_209 : decode b_MO_partsOfText 209 = .ok (.iconst 1, 1) := by decide +kernel
theorem d_MO_partsOfText_210 : decode b_MO_partsOfText 210 = .ok (.goto 4, 3) := by decide +kernel
theorem d_MO_partsOfText_213 : decode b_MO_partsOfText 213 = .ok (.iconst 0, 1) := by decide +kernel
theorem d_MO_partsOfText_214 : decode b_MO_partsOfText 214 = .ok (.iadd, 1) := by decide +kernel
theorem d_MO_partsOfText_215 : decode b_MO_partsOfText 215 = .ok (.putfield 73, 3) := by decide +kernel
theorem d_MO_partsOfText_218 : decode b_MO_partsOfText 218 = .ok (.goto (-209), 3) := by decide +kernel
theorem d_MO_partsOfText_221 : decode b_MO_partsOfText 221 = .ok (.iload_n 1, 1) := by decide +kernel
theorem d_MO_partsOfText_222 : decode b_MO_partsOfText 222 = .ok (.ireturn, 1) := by decide +kernel
theorem d_MO_pieceOfText_0 : decode b_MO_pieceOfText 0 = .ok (.aload_n 0, 1) := by decide +kernel
theorem d_MO_pieceOfText_1 : decode b_MO_pieceOfText 1 = .ok (.iconst 0, 1) := by decide +kernel
theorem d_MO_pieceOfText_2 : decode b_MO_pieceOfText 2 = .ok (.putfield 73, 3) := by decide +kernel
theorem d_MO_pieceOfText_5 : decode b_MO_pieceOfText 5 = .ok (.aload_n 0, 1) := by decide +kernel
theorem d_MO_pieceOfText_6 : decode b_MO_pieceOfText 6 = .ok (.getfield 73, 3) := by decide +kernel
theorem d_MO_pieceOfText_9 : decode b_MO_pieceOfText 9 = .ok (.bipush 20, 2) := by decide +kernel
theorem d_MO_pieceOfText_11 : decode b_MO_pieceOfText 11 = .ok (.if_icmp .ge 23, 3) := by decide +kernel
theorem d_MO_pieceOfText_14 : decode b_MO_pieceOfText 14 = .ok (.aload_n 0, 1) := by decide +kernel
theorem d_MO_pieceOfText_15 : decode b_MO_pieceOfText 15 = .ok (.invokevirtual 134, 3) := by decide +kernel
theorem d_MO_pieceOfText_18 : decode b_MO_pieceOfText 18 = .ok (.ifCond .eq 16, 3) := by decide +kernel
theorem d_MO_pieceOfText_21 : decode b_MO_pieceOfText 21 = .ok (.aload_n 0, 1) := by decide +kernel
theorem d_MO_pieceOfText_22 : decode b_MO_pieceOfText 22 = .ok (.dup, 1) := by decide +kernel
theorem d_MO_pieceOfText_23 : decode b_MO_pieceOfText 23 = .ok (.getfield 73, 3) := by decide +kernel
theorem d_MO_pieceOfText_26 : decode b_MO_pieceOfText 26 = .ok (.iconst 1, 1) := by decide +kernel
theorem d_MO_pieceOfText_27 : decode b_MO_pieceOfText 27 = .ok (.iadd, 1) := by decide +kernel
theorem d_MO_pieceOfText_28 : decode b_MO_pieceOfText 28 = .ok (.putfield 73, 3) := by decide +kernel
theorem d_MO_pieceOfText_31 : decode b_MO_pieceOfText 31 = .ok (.goto (-26), 3) := by decide +kernel
theorem d_MO_pieceOfText_34 : decode b_MO_pieceOfText 34 = .ok (.aload_n 0, 1) := by decide +kernel
theorem d_MO_pieceOfText_35 : decode b_MO_pieceOfText 35 = .ok (.getfield 73, 3) := by decide +kernel
theorem d_MO_pieceOfText_38 : decode b_MO_pieceOfText 38 = .ok (.ifCond .eq 14, 3) := by decide +kernel
theorem d_MO_pieceOfText_41 : decode b_MO_pieceOfText 41 = .ok (.aload_n 0, 1) := by decide +kernel
theorem d_MO_pieceOfText_42 : decode b_MO_pieceOfText 42 = .ok (.getfield 73, 3) := by decide +kernel
theorem d_MO_pieceOfText_45 : decode b_MO_pieceOfText 45 = .ok (.aload_n 0, 1) := by decide +kernel
theorem d_MO_pieceOfText_46 : decode b_MO_pieceOfText 46 = .ok (.getfield 131, 3) := by decide +kernel
theorem d_MO_pieceOfText_49 : decode b_MO_pieceOfText 49 = .ok (.if_icmp .ge 8, 3) := by decide +kernel
theorem d_MO_pieceOfText_52 : decode b_MO_pieceOfText 52 = .ok (.bipush (-5), 2) := by decide +kernel
theorem d_MO_pieceOfText_54 : decode b_MO_pieceOfText 54 = .ok (.goto 7, 3) := by decide +kernel
theorem d_MO_pieceOfText_57 : decode b_MO_pieceOfText 57 = .ok (.aload_n 0, 1) := by decide +kernel
theorem d_MO_pieceOfText_58 : decode b_MO_pieceOfText 58 = .ok (.getfield 73, 3) := by decide +kernel
theorem d_MO_pieceOfText_61 : decode b_MO_pieceOfText 61 = .ok (.ireturn, 1) := by decide +kernel
theorem d_MO_undo_0 : decode b_MO_undo 0 = .ok (.aload_n 0, 1) := by decide +kernel
theorem d_MO_undo_1 : decode b_MO_undo 1 = .ok (.getfield 48, 3) := by decide +kernel
theorem d_MO_undo_4 : decode b_MO_undo 4 = .ok (.ifCond .ne 6, 3) := by decide +kernel
theorem d_MO_undo_7 : decode b_MO_undo 7 = .ok (.bipush (-5), 2) := by decide +kernel
theorem d_MO_undo_9 : decode b_MO_undo 9 = .ok (.ireturn, 1) := by decide +kernel
theorem d_MO_undo_10 : decode b_MO_undo 10 = .ok (.aload_n 0, 1) := by decide +kernel
theorem d_MO_undo_11 : decode b_MO_undo 11 = .ok (.dup, 1) := by decide +kernel
theorem d_MO_undo_12 : decode b_MO_undo 12 = .ok (.getfield 48, 3) := by decide +kernel
theorem d_MO_undo_15 : decode b_MO_undo 15 = .ok (.iconst 1, 1) := by decide +kernel
theorem d_MO_undo_16 : decode b_MO_undo 16 = .ok (.isub, 1) := by decide +kernel
theorem d_MO_undo_17 : decode b_MO_undo 17 = .ok (.putfield 48, 3) := by decide +kernel
theorem d_MO_undo_20 : decode b_MO_undo 20 = .ok (.iconst 0, 1) := by decide +kernel
theorem d_MO_undo_21 : decode b_MO_undo 21 = .ok (.istore_n 1, 1) := by decide +kernel
theorem d_MO_undo_22 : decode b_MO_undo 22 = .ok (.iload_n 1, 1) := by decide +kernel
theorem d_MO_undo_23 : decode b_MO_undo 23 = .ok (.sipush 358, 3) := by decide +kernel
theorem d_MO_undo_26 : decode b_MO_undo 26 = .ok (.if_icmp .ge 30, 3) := by decide +kernel
theorem d_MO_undo_29 : decode b_MO_undo 29 = .ok (.aload_n 0, 1) := by decide +kernel
theorem d_MO_undo_30 : decode b_MO_undo 30 = .ok (.getfield 7, 3) := by decide +kernel
theorem d_MO_undo_33 : decode b_MO_undo 33 = .ok (.iload_n 1, 1) := by decide +kernel
theorem d_MO_undo_34 : decode b_MO_undo 34 = .ok (.aload_n 0, 1) := by decide +kernel
theorem d_MO_undo_35 : decode b_MO_undo 35 = .ok (.getfield 13, 3) := by decide +kernel
theorem d_MO_undo_38 : decode b_MO_undo 38 = .ok (.sipush 358, 3) := by decide +kernel
theorem d_MO_undo_41 : decode b_MO_undo 41 = .ok (.aload_n 0, 1) := by decide +kernel
theorem d_MO_undo_42 : decode b_MO_undo 42 = .ok (.getfield 48, 3) := by decide +kernel
theorem d_MO_undo_45 : decode b_MO_undo 45 = .ok (.imul, 1) := by decide +kernel
theorem d_MO_undo_46 : decode b_MO_undo 46 = .ok (.iload_n 1, 1) := by decide +kernel
theorem d_MO_undo_47 : decode b_MO_undo 47 = .ok (.iadd, 1) := by decide +kernel
theorem d_MO_undo_48 : decode b_MO_undo 48 = .ok (.iaload, 1) := by decide +kernel
theorem d_MO_undo_49 : decode b_MO_undo 49 = .ok (.iastore, 1) := by decide +kernel
theorem d_MO_undo_50 : decode b_MO_undo 50 = .ok (.iinc 1 1, 3) := by decide +kernel
theorem d_MO_undo_53 : decode b_MO_undo 53 = .ok (.goto (-31), 3) := by decide +kernel
theorem d_MO_undo_56 : decode b_MO_undo 56 = .ok (.aload_n 0, 1) := by decide +kernel
theorem d_MO_undo_57 : decode b_MO_undo 57 = .ok (.getfield 48, 3) := by decide +kernel
theorem d_MO_undo_60 : decode b_MO_undo 60 = .ok (.ireturn, 1) := by decide +kernel
theorem d_MO_keep_0 : decode b_MO_keep 0 = .ok (.iconst 0, 1) := by decide +kernel
theorem d_MO_keep_1 : decode b_MO_keep 1 = .ok (.istore_n 1, 1) := by decide +kernel
theorem d_MO_keep_2 : decode b_MO_keep 2 = .ok (.iload_n 1, 1) := by decide +kernel
theorem d_MO_keep_3 : decode b_MO_keep 3 = .ok (.sipush 358, 3) := by decide +kernel
theorem d_MO_keep_6 : decode b_MO_keep 6 = .ok (.if_icmp .ge 21, 3) := by decide +kernel
theorem d_MO_keep_9 : decode b_MO_keep 9 = .ok (.aload_n 0, 1) := by decide +kernel
theorem d_MO_keep_10 : decode b_MO_keep 10 = .ok (.getfield 16, 3) := by decide +kernel
theorem d_MO_keep_13 : decode b_MO_keep 13 = .ok (.iload_n 1, 1) := by decide +kernel
theorem d_MO_keep_14 : decode b_MO_keep 14 = .ok (.aload_n 0, 1) := by decide +kernel
theorem d_MO_keep_15 : decode b_MO_keep 15 = .ok (.getfield 7, 3) := by decide +kernel
theorem d_MO_keep_18 : decode b_MO_keep 18 = .ok (.iload_n 1, 1) := by decide +kernel
theorem d_MO_keep_19 : decode b_MO_keep 19 = .ok (.iaload, 1) := by decide +kernel
theorem d_MO_keep_20 : decode b_MO_keep 20 = .ok (.iastore, 1) := by decide +kernel
theorem d_MO_keep_21 : decode b_MO_keep 21 = .ok (.iinc 1 1, 3) := by decide +kernel
theorem d_MO_keep_24 : decode b_MO_keep 24 = .ok (.goto (-22), 3) := by decide +kernel
theorem d_MO_keep_27 : decode b_MO_keep 27 = .ok (.aload_n 0, 1) := by decide +kernel
theorem d_MO_keep_28 : decode b_MO_keep 28 = .ok (.iconst 1, 1) := by decide +kernel
theorem d_MO_keep_29 : decode b_MO_keep 29 = .ok (.putfield 137, 3) := by decide +kernel
theorem d_MO_keep_32 : decode b_MO_keep 32 = .ok (.aload_n 0, 1) := by decide +kernel
theorem d_MO_keep_33 : decode b_MO_keep 33 = .ok (.invokevirtual 60, 3) := by decide +kernel
theorem d_MO_keep_36 : decode b_MO_keep 36 = .ok (.ireturn, 1) := by decide +kernel
theorem d_MO_restore_0 : decode b_MO_restore 0 = .ok (.aload_n 0, 1) := by decide +kernel
theorem d_MO_restore_1 : decode b_MO_restore 1 = .ok (.getfield 137, 3) := by decide +kernel
theorem d_MO_restore_4 : decode b_MO_restore 4 = .ok (.ifCond .ne 6, 3) := by decide +kernel
theorem d_MO_restore_7 : decode b_MO_restore 7 = .ok (.bipush (-5), 2) := by decide +kernel
theorem d_MO_restore_9 : decode b_MO_restore 9 = .ok (.ireturn, 1) := by decide +kernel
theorem d_MO_restore_10 : decode b_MO_restore 10 = .ok (.aload_n 0, 1) := by decide +kernel
theorem d_MO_restore_11 : decode b_MO_restore 11 = .ok (.invokevirtual 80, 3) := by decide +kernel
theorem d_MO_restore_14 : decode b_MO_restore 14 = .ok (.iconst 0, 1) := by decide +kernel
theorem d_MO_restore_15 : decode b_MO_restore 15 = .ok (.istore_n 1, 1) := by decide +kernel
theorem d_MO_restore_16 : decode b_MO_restore 16 = .ok (.iload_n 1, 1) := by decide +kernel
theorem d_MO_restore_17 : decode b_MO_restore 17 = .ok (.sipush 358, 3) := by decide +kernel
theorem d_MO_restore_20 : decode b_MO_restore 20 = .ok (.if_icmp .ge 21, 3) := by decide +kernel
theorem d_MO_restore_23 : decode b_MO_restore 23 = .ok (.aload_n 0, 1) := by decide +kernel
theorem d_MO_restore_24 : decode b_MO_restore 24 = .ok (.getfield 7, 3) := by decide +kernel
theorem d_MO_restore_27 : decode b_MO_restore 27 = .ok (.iload_n 1, 1) := by decide +kernel
theorem d_MO_restore_28 : decode b_MO_restore 28 = .ok (.aload_n 0, 1) := by decide +kernel
theorem d_MO_restore_29 : decode b_MO_restore 29 = .ok (.getfield 16, 3) := by decide +kernel
theorem d_MO_restore_32 : decode b_MO_restore 32 = .ok (.iload_n 1, 1) := by decide +kernel
theorem d_MO_restore_33 : decode b_MO_restore 33 = .ok (.iaload, 1) := by decide +kernel
theorem d_MO_restore_34 : decode b_MO_restore 34 = .ok (.iastore, 1) := by decide +kernel
theorem d_MO_restore_35 : decode b_MO_restore 35 = .ok (.iinc 1 1, 3) := by decide +kernel
theorem d_MO_restore_38 : decode b_MO_restore 38 = .ok (.goto (-22), 3) := by decide +kernel
theorem d_MO_restore_41 : decode b_MO_restore 41 = .ok (.aload_n 0, 1) := by decide +kernel
theorem d_MO_restore_42 : decode b_MO_restore 42 = .ok (.invokevirtual 60, 3) := by decide +kernel
theorem d_MO_restore_45 : decode b_MO_restore 45 = .ok (.ireturn, 1) := by decide +kernel
theorem d_MO_image_0 : decode b_MO_image 0 = .ok (.iload_n 1, 1) := by decide +kernel
theorem d_MO_image_1 : decode b_MO_image 1 = .ok (.invokestatic 89, 3) := by decide +kernel
theorem d_MO_image_4 : decode b_MO_image 4 = .ok (.ifCond .ne 18, 3) := by decide +kernel
theorem d_MO_image_7 : decode b_MO_image 7 = .ok (.iload_n 2, 1) := by decide +kernel
theorem d_MO_image_8 : decode b_MO_image 8 = .ok (.iconst 0, 1) := by decide +kernel
theorem d_MO_image_9 : decode b_MO_image 9 = .ok (.aload_n 0, 1) := by decide +kernel
theorem d_MO_image_10 : decode b_MO_image 10 = .ok (.iload_n 1, 1) := by decide +kernel
theorem d_MO_image_11 : decode b_MO_image 11 = .ok (.invokevirtual 52, 3) := by decide +kernel
theorem d_MO_image_14 : decode b_MO_image 14 = .ok (.iconst 1, 1) := by decide +kernel
theorem d_MO_image_15 : decode b_MO_image 15 = .ok (.isub, 1) := by decide +kernel
theorem d_MO_image_16 : decode b_MO_image 16 = .ok (.invokestatic 44, 3) := by decide +kernel
theorem d_MO_image_19 : decode b_MO_image 19 = .ok (.ifCond .ne 7, 3) := by decide +kernel
theorem d_MO_image_22 : decode b_MO_image 22 = .ok (.iconst (-1), 1) := by decide +kernel
theorem d_MO_image_23 : decode b_MO_image 23 = .ok (.goto 9, 3) := by decide +kernel
theorem d_MO_image_26 : decode b_MO_image 26 = .ok (.aload_n 0, 1) := by decide +kernel
theorem d_MO_image_27 : decode b_MO_image 27 = .ok (.iload_n 1, 1) := by decide +kernel
theorem d_MO_image_28 : decode b_MO_image 28 = .ok (.iload_n 2, 1) := by decide +kernel
theorem d_MO_image_29 : decode b_MO_image 29 = .ok (.invokevirtual 56, 3) := by decide +kernel
theorem d_MO_image_32 : decode b_MO_image 32 = .ok (.ireturn, 1) := by decide +kernel
theorem d_MO_lettersIn_0 : decode b_MO_lettersIn 0 = .ok (.iconst 0, 1) := by decide +kernel
theorem d_MO_lettersIn_1 : decode b_MO_lettersIn 1 = .ok (.istore_n 2, 1) := by decide +kernel
theorem d_MO_lettersIn_2 : decode b_MO_lettersIn 2 = .ok (.iconst 0, 1) := by decide +kernel
theorem d_MO_lettersIn_3 : decode b_MO_lettersIn 3 = .ok (.istore_n 3, 1) := by decide +kernel
theorem d_MO_lettersIn_4 : decode b_MO_lettersIn 4 = .ok (.iload_n 3, 1) := by decide +kernel
theorem d_MO_lettersIn_5 : decode b_MO_lettersIn 5 = .ok (.aload_n 0, 1) := by decide +kernel
theorem d_MO_lettersIn_6 : decode b_MO_lettersIn 6 = .ok (.iload_n 1, 1) := by decide +kernel
theorem d_MO_lettersIn_7 : decode b_MO_lettersIn 7 = .ok (.invokevirtual 52, 3) := by decide +kernel
theorem d_MO_lettersIn_10 : decode b_MO_lettersIn 10 = .ok (.if_icmp .ge 20, 3) := by decide +kernel
theorem d_MO_lettersIn_13 : decode b_MO_lettersIn 13 = .ok (.iload_n 2, 1) := by decide +kernel
theorem d_MO_lettersIn_14 : decode b_MO_lettersIn 14 = .ok (.iconst 1, 1) := by decide +kernel
theorem d_MO_lettersIn_15 : decode b_MO_lettersIn 15 = .ok (.aload_n 0, 1) := by decide +kernel
theorem d_MO_lettersIn_16 : decode b_MO_lettersIn 16 = .ok (.iload_n 1, 1) := by decide +kernel
theorem d_MO_lettersIn_17 : decode b_MO_lettersIn 17 = .ok (.iload_n 3, 1) := by decide +kernel
theorem d_MO_lettersIn_18 : decode b_MO_lettersIn 18 = .ok (.invokevirtual 56, 3) := by decide +kernel
theorem d_MO_lettersIn_21 : decode b_MO_lettersIn 21 = .ok (.ishl, 1) := by decide +kernel
theorem d_MO_lettersIn_22 : decode b_MO_lettersIn 22 = .ok (.ior, 1) := by decide +kernel
theorem d_MO_lettersIn_23 : decode b_MO_lettersIn 23 = .ok (.istore_n 2, 1) := by decide +kernel
theorem d_MO_lettersIn_24 : decode b_MO_lettersIn 24 = .ok (.iinc 3 1, 3) := by decide +kernel
theorem d_MO_lettersIn_27 : decode b_MO_lettersIn 27 = .ok (.goto (-23), 3) := by decide +kernel
theorem d_MO_lettersIn_30 : decode b_MO_lettersIn 30 = .ok (.iload_n 2, 1) := by decide +kernel
theorem d_MO_lettersIn_31 : decode b_MO_lettersIn 31 = .ok (.ireturn, 1) := by decide +kernel
theorem d_MO_ahead_0 : decode b_MO_ahead 0 = .ok (.iconst 0, 1) := by decide +kernel
theorem d_MO_ahead_1 : decode b_MO_ahead 1 = .ok (.istore_n 2, 1) := by decide +kernel
theorem d_MO_ahead_2 : decode b_MO_ahead 2 = .ok (.iconst 0, 1) := by decide +kernel
theorem d_MO_ahead_3 : decode b_MO_ahead 3 = .ok (.istore_n 3, 1) := by decide +kernel
theorem d_MO_ahead_4 : decode b_MO_ahead 4 = .ok (.iload_n 3, 1) := by decide +kernel
theorem d_MO_ahead_5 : decode b_MO_ahead 5 = .ok (.iconst 4, 1) := by decide +kernel
theorem d_MO_ahead_6 : decode b_MO_ahead 6 = .ok (.if_icmp .ge 30, 3) := by decide +kernel
theorem d_MO_ahead_9 : decode b_MO_ahead 9 = .ok (.iload_n 2, 1) := by decide +kernel
theorem d_MO_ahead_10 : decode b_MO_ahead 10 = .ok (.iload_n 1, 1) := by decide +kernel
theorem d_MO_ahead_11 : decode b_MO_ahead 11 = .ok (.iload_n 3, 1) := by decide +kernel
theorem d_MO_ahead_12 : decode b_MO_ahead 12 = .ok (.ishr, 1) := by decide +kernel
theorem d_MO_ahead_13 : decode b_MO_ahead 13 = .ok (.iconst 1, 1) := by decide +kernel
theorem d_MO_ahead_14 : decode b_MO_ahead 14 = .ok (.iand, 1) := by decide +kernel
theorem d_MO_ahead_15 : decode b_MO_ahead 15 = .ok (.iconst 1, 1) := by decide +kernel
theorem d_MO_ahead_16 : decode b_MO_ahead 16 = .ok (.if_icmp .ne 11, 3) := by decide +kernel
theorem d_MO_ahead_19 : decode b_MO_ahead 19 = .ok (.aload_n 0, 1) := by decide +kernel
theorem d_MO_ahead_20 : decode b_MO_ahead 20 = .ok (.iload_n 3, 1) := by decide +kernel
theorem d_MO_ahead_21 : decode b_MO_ahead 21 = .ok (.invokevirtual 141, 3) := by decide +kernel
theorem d_MO_ahead_24 : decode b_MO_ahead 24 = .ok (.goto 4, 3) := by decide +kernel
theorem d_MO_ahead_27 : decode b_MO_ahead 27 = .ok (.iconst 0, 1) := by decide +kernel
theorem d_MO_ahead_28 : decode b_MO_ahead 28 = .ok (.ior, 1) := by decide +kernel
theorem d_MO_ahead_29 : decode b_MO_ahead 29 = .ok (.istore_n 2, 1) := by decide +kernel
theorem d_MO_ahead_30 : decode b_MO_ahead 30 = .ok (.iinc 3 1, 3) := by decide +kernel
theorem d_MO_ahead_33 : decode b_MO_ahead 33 = .ok (.goto (-29), 3) := by decide +kernel
theorem d_MO_ahead_36 : decode b_MO_ahead 36 = .ok (.iload_n 2, 1) := by decide +kernel
theorem d_MO_ahead_37 : decode b_MO_ahead 37 = .ok (.ireturn, 1) := by decide +kernel
theorem d_MO_reached_0 : decode b_MO_reached 0 = .ok (.iconst 1, 1) := by decide +kernel
theorem d_MO_reached_1 : decode b_MO_reached 1 = .ok (.iload_n 1, 1) := by decide +kernel
theorem d_MO_reached_2 : decode b_MO_reached 2 = .ok (.ishl, 1) := by decide +kernel
theorem d_MO_reached_3 : decode b_MO_reached 3 = .ok (.istore_n 2, 1) := by decide +kernel
theorem d_MO_reached_4 : decode b_MO_reached 4 = .ok (.iconst 0, 1) := by decide +kernel
theorem d_MO_reached_5 : decode b_MO_reached 5 = .ok (.istore_n 3, 1) := by decide +kernel
theorem d_MO_reached_6 : decode b_MO_reached 6 = .ok (.iload_n 3, 1) := by decide +kernel
theorem d_MO_reached_7 : decode b_MO_reached 7 = .ok (.iconst 4, 1) := by decide +kernel
theorem d_MO_reached_8 : decode b_MO_reached 8 = .ok (.if_icmp .ge 17, 3) := by decide +kernel
theorem d_MO_reached_11 : decode b_MO_reached 11 = .ok (.iload_n 2, 1) := by decide +kernel
theorem d_MO_reached_12 : decode b_MO_reached 12 = .ok (.aload_n 0, 1) := by decide +kernel
theorem d_MO_reached_13 : decode b_MO_reached 13 = .ok (.iload_n 2, 1) := by decide +kernel
theorem d_MO_reached_14 : decode b_MO_reached 14 = .ok (.invokevirtual 144, 3) := by decide +kernel
theorem d_MO_reached_17 : decode b_MO_reached 17 = .ok (.ior, 1) := by decide +kernel
theorem d_MO_reached_18 : decode b_MO_reached 18 = .ok (.istore_n 2, 1) := by decide +kernel
theorem d_MO_reached_19 : decode b_MO_reached 19 = .ok (.iinc 3 1, 3) := by decide +kernel
theorem d_MO_reached_22 : decode b_MO_reached 22 = .ok (.goto (-16), 3) := by decide +kernel
theorem d_MO_reached_25 : decode b_MO_reached 25 = .ok (.iload_n 2, 1) := by decide +kernel
theorem d_MO_reached_26 : decode b_MO_reached 26 = .ok (.ireturn, 1) := by decide +kernel
theorem d_MO_rule_0 : decode b_MO_rule 0 = .ok (.iload_n 1, 1) := by decide +kernel
theorem d_MO_rule_1 : decode b_MO_rule 1 = .ok (.invokestatic 89, 3) := by decide +kernel
theorem d_MO_rule_4 : decode b_MO_rule 4 = .ok (.ifCond .eq 5, 3) := by decide +kernel
theorem d_MO_rule_7 : decode b_MO_rule 7 = .ok (.iconst (-1), 1) := by decide +kernel
theorem d_MO_rule_8 : decode b_MO_rule 8 = .ok (.ireturn, 1) := by decide +kernel
theorem d_MO_rule_9 : decode b_MO_rule 9 = .ok (.iload_n 2, 1) := by decide +kernel
theorem d_MO_rule_10 : decode b_MO_rule 10 = .ok (.tableswitch 73 0 3 #[30, 36, 42, 48], 30) := by decide +kernel
theorem d_MO_rule_40 : decode b_MO_rule 40 = .ok (.aload_n 0, 1) := by decide +kernel
theorem d_MO_rule_41 : decode b_MO_rule 41 = .ok (.iload_n 1, 1) := by decide +kernel
theorem d_MO_rule_42 : decode b_MO_rule 42 = .ok (.invokevirtual 52, 3) := by decide +kernel
theorem d_MO_rule_45 : decode b_MO_rule 45 = .ok (.ireturn, 1) := by decide +kernel
theorem d_MO_rule_46 : decode b_MO_rule 46 = .ok (.aload_n 0, 1) := by decide +kernel
theorem d_MO_rule_47 : decode b_MO_rule 47 = .ok (.iload_n 1, 1) := by decide +kernel
theorem d_MO_rule_48 : decode b_MO_rule 48 = .ok (.invokevirtual 141, 3) := by decide +kernel
theorem d_MO_rule_51 : decode b_MO_rule 51 = .ok (.ireturn, 1) := by decide +kernel
theorem d_MO_rule_52 : decode b_MO_rule 52 = .ok (.aload_n 0, 1) := by decide +kernel
theorem d_MO_rule_53 : decode b_MO_rule 53 = .ok (.iload_n 1, 1) := by decide +kernel
theorem d_MO_rule_54 : decode b_MO_rule 54 = .ok (.invokevirtual 147, 3) := by decide +kernel
theorem d_MO_rule_57 : decode b_MO_rule 57 = .ok (.ireturn, 1) := by decide +kernel
theorem d_MO_rule_58 : decode b_MO_rule 58 = .ok (.aload_n 0, 1) := by decide +kernel
theorem d_MO_rule_59 : decode b_MO_rule 59 = .ok (.iload_n 1, 1) := by decide +kernel
theorem d_MO_rule_60 : decode b_MO_rule 60 = .ok (.iconst 0, 1) := by decide +kernel
theorem d_MO_rule_61 : decode b_MO_rule 61 = .ok (.invokevirtual 56, 3) := by decide +kernel
theorem d_MO_rule_64 : decode b_MO_rule 64 = .ok (.iload_n 1, 1) := by decide +kernel
theorem d_MO_rule_65 : decode b_MO_rule 65 = .ok (.if_icmp .ne 16, 3) := by decide +kernel
theorem d_MO_rule_68 : decode b_MO_rule 68 = .ok (.aload_n 0, 1) := by decide +kernel
theorem d_MO_rule_69 : decode b_MO_rule 69 = .ok (.iload_n 1, 1) := by decide +kernel
theorem d_MO_rule_70 : decode b_MO_rule 70 = .ok (.invokevirtual 52, 3) := by decide +kernel
theorem d_MO_rule_73 : decode b_MO_rule 73 = .ok (.iconst 1, 1) := by decide +kernel
theorem d_MO_rule_74 : decode b_MO_rule 74 = .ok (.if_icmp .le 7, 3) := by decide +kernel
theorem d_MO_rule_77 : decode b_MO_rule 77 = .ok (.iconst 1, 1) := by decide +kernel
theorem d_MO_rule_78 : decode b_MO_rule 78 = .ok (.goto 4, 3) := by decide +kernel
theorem d_MO_rule_81 : decode b_MO_rule 81 = .ok (.iconst 0, 1) := by decide +kernel
theorem d_MO_rule_82 : decode b_MO_rule 82 = .ok (.ireturn, 1) := by decide +kernel
theorem d_MO_rule_83 : decode b_MO_rule 83 = .ok (.bipush (-2), 2) := by decide +kernel
theorem d_MO_rule_85 : decode b_MO_rule 85 = .ok (.ireturn, 1) := by decide +kernel
theorem d_MO_sum_0 : decode b_MO_sum 0 = .ok (.aload_n 0, 1) := by decide +kernel
theorem d_MO_sum_1 : decode b_MO_sum 1 = .ok (.getfield 35, 3) := by decide +kernel
theorem d_MO_sum_4 : decode b_MO_sum 4 = .ok (.iconst 4, 1) := by decide +kernel
theorem d_MO_sum_5 : decode b_MO_sum 5 = .ok (.iload_n 1, 1) := by decide +kernel
theorem d_MO_sum_6 : decode b_MO_sum 6 = .ok (.imul, 1) := by decide +kernel
theorem d_MO_sum_7 : decode b_MO_sum 7 = .ok (.iaload, 1) := by decide +kernel
theorem d_MO_sum_8 : decode b_MO_sum 8 = .ok (.aload_n 0, 1) := by decide +kernel
theorem d_MO_sum_9 : decode b_MO_sum 9 = .ok (.getfield 35, 3) := by decide +kernel
theorem d_MO_sum_12 : decode b_MO_sum 12 = .ok (.iconst 4, 1) := by decide +kernel
theorem d_MO_sum_13 : decode b_MO_sum 13 = .ok (.iload_n 1, 1) := by decide +kernel
theorem d_MO_sum_14 : decode b_MO_sum 14 = .ok (.imul, 1) := by decide +kernel
theorem d_MO_sum_15 : decode b_MO_sum 15 = .ok (.iconst 1, 1) := by decide +kernel
theorem d_MO_sum_16 : decode b_MO_sum 16 = .ok (.iadd, 1) := by decide +kernel
theorem d_MO_sum_17 : decode b_MO_sum 17 = .ok (.iaload, 1) := by decide +kernel
theorem d_MO_sum_18 : decode b_MO_sum 18 = .ok (.iadd, 1) := by decide +kernel
theorem d_MO_sum_19 : decode b_MO_sum 19 = .ok (.aload_n 0, 1) := by decide +kernel
theorem d_MO_sum_20 : decode b_MO_sum 20 = .ok (.getfield 35, 3) := by decide +kernel
theorem d_MO_sum_23 : decode b_MO_sum 23 = .ok (.iconst 4, 1) := by decide +kernel
theorem d_MO_sum_24 : decode b_MO_sum 24 = .ok (.iload_n 1, 1) := by decide +kernel
theorem d_MO_sum_25 : decode b_MO_sum 25 = .ok (.imul, 1) := by decide +kernel
theorem d_MO_sum_26 : decode b_MO_sum 26 = .ok (.iconst 2, 1) := by decide +kernel
theorem d_MO_sum_27 : decode b_MO_sum 27 = .ok (.iadd, 1) := by decide +kernel
theorem d_MO_sum_28 : decode b_MO_sum 28 = .ok (.iaload, 1) := by decide +kernel
theorem d_MO_sum_29 : decode b_MO_sum 29 = .ok (.iadd, 1) := by decide +kernel
theorem d_MO_sum_30 : decode b_MO_sum 30 = .ok (.aload_n 0, 1) := by decide +kernel
theorem d_MO_sum_31 : decode b_MO_sum 31 = .ok (.getfield 35, 3) := by decide +kernel
theorem d_MO_sum_34 : decode b_MO_sum 34 = .ok (.iconst 4, 1) := by decide +kernel
theorem d_MO_sum_35 : decode b_MO_sum 35 = .ok (.iload_n 1, 1) := by decide +kernel
theorem d_MO_sum_36 : decode b_MO_sum 36 = .ok (.imul, 1) := by decide +kernel
theorem d_MO_sum_37 : decode b_MO_sum 37 = .ok (.iconst 3, 1) := by decide +kernel
theorem d_MO_sum_38 : decode b_MO_sum 38 = .ok (.iadd, 1) := by decide +kernel
theorem d_MO_sum_39 : decode b_MO_sum 39 = .ok (.iaload, 1) := by decide +kernel
theorem d_MO_sum_40 : decode b_MO_sum 40 = .ok (.iadd, 1) := by decide +kernel
theorem d_MO_sum_41 : decode b_MO_sum 41 = .ok (.istore_n 2, 1) := by decide +kernel
theorem d_MO_sum_42 : decode b_MO_sum 42 = .ok (.iload_n 2, 1) := by decide +kernel
theorem d_MO_sum_43 : decode b_MO_sum 43 = .ok (.ldc 150, 2) := by decide +kernel
theorem d_MO_sum_45 : decode b_MO_sum 45 = .ok (.if_icmp .le 8, 3) := by decide +kernel
theorem d_MO_sum_48 : decode b_MO_sum 48 = .ok (.ldc 151, 2) := by decide +kernel
theorem d_MO_sum_50 : decode b_MO_sum 50 = .ok (.goto 4, 3) := by decide +kernel
theorem d_MO_sum_53 : decode b_MO_sum 53 = .ok (.iload_n 2, 1) := by decide +kernel
theorem d_MO_sum_54 : decode b_MO_sum 54 = .ok (.ireturn, 1) := by decide +kernel
theorem d_MO_images_0 : decode b_MO_images 0 = .ok (.iconst 0, 1) := by decide +kernel
theorem d_MO_images_1 : decode b_MO_images 1 = .ok (.istore_n 2, 1) := by decide +kernel
theorem d_MO_images_2 : decode b_MO_images 2 = .ok (.iload_n 2, 1) := by decide +kernel
theorem d_MO_images_3 : decode b_MO_images 3 = .ok (.bipush 16, 2) := by decide +kernel
theorem d_MO_images_5 : decode b_MO_images 5 = .ok (.if_icmp .ge 26, 3) := by decide +kernel
theorem d_MO_images_8 : decode b_MO_images 8 = .ok (.aload_n 0, 1) := by decide +kernel
theorem d_MO_images_9 : decode b_MO_images 9 = .ok (.getfield 35, 3) := by decide +kernel
theorem d_MO_images_12 : decode b_MO_images 12 = .ok (.iload_n 2, 1) := by decide +kernel
theorem d_MO_images_13 : decode b_MO_images 13 = .ok (.iload_n 2, 1) := by decide +kernel
theorem d_MO_images_14 : decode b_MO_images 14 = .ok (.iconst 5, 1) := by decide +kernel
theorem d_MO_images_15 : decode b_MO_images 15 = .ok (.irem, 1) := by decide +kernel
theorem d_MO_images_16 : decode b_MO_images 16 = .ok (.ifCond .ne 7, 3) := by decide +kernel
theorem d_MO_images_19 : decode b_MO_images 19 = .ok (.iconst 1, 1) := by decide +kernel
theorem d_MO_images_20 : decode b_MO_images 20 = .ok (.goto 4, 3) := by decide +kernel
theorem d_MO_images_23 : decode b_MO_images 23 = .ok (.iconst 0, 1) := by decide +kernel
theorem d_MO_images_24 : decode b_MO_images 24 = .ok (.iastore, 1) := by decide +kernel
theorem d_MO_images_25 : decode b_MO_images 25 = .ok (.iinc 2 1, 3) := by decide +kernel
theorem d_MO_images_28 : decode b_MO_images 28 = .ok (.goto (-26), 3) := by decide +kernel
theorem d_MO_images_31 : decode b_MO_images 31 = .ok (.iconst 0, 1) := by decide +kernel
theorem d_MO_images_32 : decode b_MO_images 32 = .ok (.istore_n 2, 1) := by decide +kernel
theorem d_MO_images_33 : decode b_MO_images 33 = .ok (.iload_n 2, 1) := by decide +kernel
theorem d_MO_images_34 : decode b_MO_images 34 = .ok (.iload_n 1, 1) := by decide +kernel
theorem d_MO_images_35 : decode b_MO_images 35 = .ok (.if_icmp .ge 118, 3) := by decide +kernel
theorem d_MO_images_38 : decode b_MO_images 38 = .ok (.iconst 0, 1) := by decide +kernel
theorem d_MO_images_39 : decode b_MO_images 39 = .ok (.istore_n 3, 1) := by decide +kernel
theorem d_MO_images_40 : decode b_MO_images 40 = .ok (.iload_n 3, 1) := by decide +kernel
theorem d_MO_images_41 : decode b_MO_images 41 = .ok (.bipush 16, 2) := by decide +kernel
theorem d_MO_images_43 : decode b_MO_images 43 = .ok (.if_icmp .ge 78, 3) := by decide +kernel
theorem d_MO_images_46 : decode b_MO_images 46 = .ok (.iconst 0, 1) := by decide +kernel
theorem d_MO_images_47 : decode b_MO_images 47 = .ok (.istore 4, 2) := by decide +kernel
theorem d_MO_images_49 : decode b_MO_images 49 = .ok (.iconst 0, 1) := by decide +kernel
theorem d_MO_images_50 : decode b_MO_images 50 = .ok (.istore 5, 2) := by decide +kernel
theorem d_MO_images_52 : decode b_MO_images 52 = .ok (.iload 5, 2) := by decide +kernel
theorem d_MO_images_54 : decode b_MO_images 54 = .ok (.aload_n 0, 1) := by decide +kernel
theorem d_MO_images_55 : decode b_MO_images 55 = .ok (.iload_n 3, 1) := by decide +kernel
theorem d_MO_images_56 : decode b_MO_images 56 = .ok (.iconst 4, 1) := by decide +kernel
theorem d_MO_images_57 : decode b_MO_images 57 = .ok (.idiv, 1) := by decide +kernel
theorem d_MO_images_58 : decode b_MO_images 58 = .ok (.invokevirtual 52, 3) := by decide +kernel
theorem d_MO_images_61 : decode b_MO_images 61 = .ok (.if_icmp .ge 34, 3) := by decide +kernel
theorem d_MO_images_64 : decode b_MO_images 64 = .ok (.iload 4, 2) := by decide +kernel
theorem d_MO_images_66 : decode b_MO_images 66 = .ok (.aload_n 0, 1) := by decide +kernel
theorem d_MO_images_67 : decode b_MO_images 67 = .ok (.getfield 35, 3) := by decide +kernel
theorem d_MO_images_70 : decode b_MO_images 70 = .ok (.iconst 4, 1) := by decide +kernel
theorem d_MO_images_71 : decode b_MO_images 71 = .ok (.aload_n 0, 1) := by decide +kernel
theorem d_MO_images_72 : decode b_MO_images 72 = .ok (.iload_n 3, 1) := by decide +kernel
theorem d_MO_images_73 : decode b_MO_images 73 = .ok (.iconst 4, 1) := by decide +kernel
theorem d_MO_images_74 : decode b_MO_images 74 = .ok (.idiv, 1) := by decide +kernel
theorem d_MO_images_75 : decode b_MO_images 75 = .ok (.iload 5, 2) := by decide +kernel
theorem d_MO_images_77 : decode b_MO_images 77 = .ok (.invokevirtual 56, 3) := by decide +kernel
theorem d_MO_images_80 : decode b_MO_images 80 = .ok (.imul, 1) := by decide +kernel
theorem d_MO_images_81 : decode b_MO_images 81 = .ok (.iload_n 3, 1) := by decide +kernel
theorem d_MO_images_82 : decode b_MO_images 82 = .ok (.iconst 4, 1) := by decide +kernel
theorem d_MO_images_83 : decode b_MO_images 83 = .ok (.irem, 1) := by decide +kernel
theorem d_MO_images_84 : decode b_MO_images 84 = .ok (.iadd, 1) := by decide +kernel
theorem d_MO_images_85 : decode b_MO_images 85 = .ok (.iaload, 1) := by decide +kernel
theorem d_MO_images_86 : decode b_MO_images 86 = .ok (.iadd, 1) := by decide +kernel
theorem d_MO_images_87 : decode b_MO_images 87 = .ok (.istore 4, 2) := by decide +kernel
theorem d_MO_images_89 : decode b_MO_images 89 = .ok (.iinc 5 1, 3) := by decide +kernel
theorem d_MO_images_92 : decode b_MO_images 92 = .ok (.goto (-40), 3) := by decide +kernel
theorem d_MO_images_95 : decode b_MO_images 95 = .ok (.aload_n 0, 1) := by decide +kernel
theorem d_MO_images_96 : decode b_MO_images 96 = .ok (.getfield 38, 3) := by decide +kernel
theorem d_MO_images_99 : decode b_MO_images 99 = .ok (.iload_n 3, 1) := by decide +kernel
theorem d_MO_images_100 : decode b_MO_images 100 = .ok (.iload 4, 2) := by decide +kernel
theorem d_MO_images_102 : decode b_MO_images 102 = .ok (.ldc 150, 2) := by decide +kernel
theorem d_MO_images_104 : decode b_MO_images 104 = .ok (.if_icmp .le 8, 3) := by decide +kernel
theorem d_MO_images_107 : decode b_MO_images 107 = .ok (.ldc 151, 2) := by decide +kernel
theorem d_MO_images_109 : decode b_MO_images 109 = .ok (.goto 5, 3) := by decide +kernel
theorem d_MO_images_112 : decode b_MO_images 112 = .ok (.iload 4, 2) := by decide +kernel
theorem d_MO_images_114 : decode b_MO_images 114 = .ok (.iastore, 1) := by decide +kernel
theorem d_MO_images_115 : decode b_MO_images 115 = .ok (.iinc 3 1, 3) := by decide +kernel
theorem d_MO_images_118 : decode b_MO_images 118 = .ok (.goto (-78), 3) := by decide +kernel
theorem d_MO_images_121 : decode b_MO_images 121 = .ok (.iconst 0, 1) := by decide +kernel
theorem d_MO_images_122 : decode b_MO_images 122 = .ok (.istore_n 3, 1) := by decide +kernel
theorem d_MO_images_123 : decode b_MO_images 123 = .ok (.iload_n 3, 1) := by decide +kernel
theorem d_MO_images_124 : decode b_MO_images 124 = .ok (.bipush 16, 2) := by decide +kernel
theorem d_MO_images_126 : decode b_MO_images 126 = .ok (.if_icmp .ge 21, 3) := by decide +kernel
theorem d_MO_images_129 : decode b_MO_images 129 = .ok (.aload_n 0, 1) := by decide +kernel
theorem d_MO_images_130 : decode b_MO_images 130 = .ok (.getfield 35, 3) := by decide +kernel
theorem d_MO_images_133 : decode b_MO_images 133 = .ok (.iload_n 3, 1) := by decide +kernel
theorem d_MO_images_134 : decode b_MO_images 134 = .ok (.aload_n 0, 1) := by decide +kernel
theorem d_MO_images_135 : decode b_MO_images 135 = .ok (.getfield 38, 3) := by decide +kernel
theorem d_MO_images_138 : decode b_MO_images 138 = .ok (.iload_n 3, 1) := by decide +kernel
theorem d_MO_images_139 : decode b_MO_images 139 = .ok (.iaload, 1) := by decide +kernel
theorem d_MO_images_140 : decode b_MO_images 140 = .ok (.iastore, 1) := by decide +kernel
theorem d_MO_images_141 : decode b_MO_images 141 = .ok (.iinc 3 1, 3) := by decide +kernel
theorem d_MO_images_144 : decode b_MO_images 144 = .ok (.goto (-21), 3) := by decide +kernel
theorem d_MO_images_147 : decode b_MO_images 147 = .ok (.iinc 2 1, 3) := by decide +kernel
theorem d_MO_images_150 : decode b_MO_images 150 = .ok (.goto (-117), 3) := by decide +kernel
theorem d_MO_images_153 : decode b_MO_images 153 = .ok (.return_, 1) := by decide +kernel
theorem d_MO_lengthBehind_0 : decode b_MO_lengthBehind 0 = .ok (.iload_n 1, 1) := by decide +kernel
theorem d_MO_lengthBehind_1 : decode b_MO_lengthBehind 1 = .ok (.invokestatic 89, 3) := by decide +kernel
theorem d_MO_lengthBehind_4 : decode b_MO_lengthBehind 4 = .ok (.ifCond .eq 5, 3) := by decide +kernel
theorem d_MO_lengthBehind_7 : decode b_MO_lengthBehind 7 = .ok (.iconst (-1), 1) := by decide +kernel
theorem d_MO_lengthBehind_8 : decode b_MO_lengthBehind 8 = .ok (.ireturn, 1) := by decide +kernel
theorem d_MO_lengthBehind_9 : decode b_MO_lengthBehind 9 = .ok (.iload_n 2, 1) := by decide +kernel
theorem d_MO_lengthBehind_10 : decode b_MO_lengthBehind 10 = .ok (.iconst 0, 1) := by decide +kernel
theorem d_MO_lengthBehind_11 : decode b_MO_lengthBehind 11 = .ok (.bipush 30, 2) := by decide +kernel
theorem d_MO_lengthBehind_13 : decode b_MO_lengthBehind 13 = .ok (.invokestatic 44, 3) := by decide +kernel
theorem d_MO_lengthBehind_16 : decode b_MO_lengthBehind 16 = .ok (.ifCond .ne 6, 3) := by decide +kernel
theorem d_MO_lengthBehind_19 : decode b_MO_lengthBehind 19 = .ok (.bipush (-2), 2) := by decide +kernel
theorem d_MO_lengthBehind_21 : decode b_MO_lengthBehind 21 = .ok (.ireturn, 1) := by decide +kernel
theorem d_MO_lengthBehind_22 : decode b_MO_lengthBehind 22 = .ok (.aload_n 0, 1) := by decide +kernel
theorem d_MO_lengthBehind_23 : decode b_MO_lengthBehind 23 = .ok (.iload_n 2, 1) := by decide +kernel
theorem d_MO_lengthBehind_24 : decode b_MO_lengthBehind 24 = .ok (.invokevirtual 152, 3) := by decide +kernel
theorem d_MO_lengthBehind_27 : decode b_MO_lengthBehind 27 = .ok (.aload_n 0, 1) := by decide +kernel
theorem d_MO_lengthBehind_28 : decode b_MO_lengthBehind 28 = .ok (.iload_n 1, 1) := by decide +kernel
theorem d_MO_lengthBehind_29 : decode b_MO_lengthBehind 29 = .ok (.invokevirtual 156, 3) := by decide +kernel
theorem d_MO_lengthBehind_32 : decode b_MO_lengthBehind 32 = .ok (.ldc 150, 2) := by decide +kernel
theorem d_MO_lengthBehind_34 : decode b_MO_lengthBehind 34 = .ok (.if_icmp .le 8, 3) := by decide +kernel
theorem d_MO_lengthBehind_37 : decode b_MO_lengthBehind 37 = .ok (.bipush (-3), 2) := by decide +kernel
theorem d_MO_lengthBehind_39 : decode b_MO_lengthBehind 39 = .ok (.goto 8, 3) := by decide +kernel
theorem d_MO_lengthBehind_42 : decode b_MO_lengthBehind 42 = .ok (.aload_n 0, 1) := by decide +kernel
theorem d_MO_lengthBehind_43 : decode b_MO_lengthBehind 43 = .ok (.iload_n 1, 1) := by decide +kernel
theorem d_MO_lengthBehind_44 : decode b_MO_lengthBehind 44 = .ok (.invokevirtual 156, 3) := by decide +kernel
theorem d_MO_lengthBehind_47 : decode b_MO_lengthBehind 47 = .ok (.ireturn, 1) := by decide +kernel
theorem d_MO_countBehind_0 : decode b_MO_countBehind 0 = .ok (.iload_n 1, 1) := by decide +kernel
theorem d_MO_countBehind_1 : decode b_MO_countBehind 1 = .ok (.invokestatic 89, 3) := by decide +kernel
theorem d_MO_countBehind_4 : decode b_MO_countBehind 4 = .ok (.ifCond .ne 10, 3) := by decide +kernel
theorem d_MO_countBehind_7 : decode b_MO_countBehind 7 = .ok (.iload_n 2, 1) := by decide +kernel
theorem d_MO_countBehind_8 : decode b_MO_countBehind 8 = .ok (.invokestatic 89, 3) := by decide +kernel
theorem d_MO_countBehind_11 : decode b_MO_countBehind 11 = .ok (.ifCond .eq 5, 3) := by decide +kernel
theorem d_MO_countBehind_14 : decode b_MO_countBehind 14 = .ok (.iconst (-1), 1) := by decide +kernel
theorem d_MO_countBehind_15 : decode b_MO_countBehind 15 = .ok (.ireturn, 1) := by decide +kernel
theorem d_MO_countBehind_16 : decode b_MO_countBehind 16 = .ok (.iload_n 3, 1) := by decide +kernel
theorem d_MO_countBehind_17 : decode b_MO_countBehind 17 = .ok (.iconst 0, 1) := by decide +kernel
theorem d_MO_countBehind_18 : decode b_MO_countBehind 18 = .ok (.bipush 30, 2) := by decide +kernel
theorem d_MO_countBehind_20 : decode b_MO_countBehind 20 = .ok (.invokestatic 44, 3) := by decide +kernel
theorem d_MO_countBehind_23 : decode b_MO_countBehind 23 = .ok (.ifCond .ne 6, 3) := by decide +kernel
theorem d_MO_countBehind_26 : decode b_MO_countBehind 26 = .ok (.bipush (-2), 2) := by decide +kernel
theorem d_MO_countBehind_28 : decode b_MO_countBehind 28 = .ok (.ireturn, 1) := by decide +kernel
theorem d_MO_countBehind_29 : decode b_MO_countBehind 29 = .ok (.aload_n 0, 1) := by decide +kernel
theorem d_MO_countBehind_30 : decode b_MO_countBehind 30 = .ok (.iload_n 3, 1) := by decide +kernel
theorem d_MO_countBehind_31 : decode b_MO_countBehind 31 = .ok (.invokevirtual 152, 3) := by decide +kernel
theorem d_MO_countBehind_34 : decode b_MO_countBehind 34 = .ok (.aload_n 0, 1) := by decide +kernel
theorem d_MO_countBehind_35 : decode b_MO_countBehind 35 = .ok (.iload_n 1, 1) := by decide +kernel
theorem d_MO_countBehind_36 : decode b_MO_countBehind 36 = .ok (.invokevirtual 156, 3) := by decide +kernel
theorem d_MO_countBehind_39 : decode b_MO_countBehind 39 = .ok (.ldc 150, 2) := by decide +kernel
theorem d_MO_countBehind_41 : decode b_MO_countBehind 41 = .ok (.if_icmp .le 8, 3) := by decide +kernel
theorem d_MO_countBehind_44 : decode b_MO_countBehind 44 = .ok (.bipush (-3), 2) := by decide +kernel
theorem d_MO_countBehind_46 : decode b_MO_countBehind 46 = .ok (.goto 13, 3) := by decide +kernel
theorem d_MO_countBehind_49 : decode b_MO_countBehind 49 = .ok (.aload_n 0, 1) := by decide +kernel
theorem d_MO_countBehind_50 : decode b_MO_countBehind 50 = .ok (.getfield 35, 3) := by decide +kernel
theorem d_MO_countBehind_53 : decode b_MO_countBehind 53 = .ok (.iconst 4, 1) := by decide +kernel
theorem d_MO_countBehind_54 : decode b_MO_countBehind 54 = .ok (.iload_n 1, 1) := by decide +kernel
theorem d_MO_countBehind_55 : decode b_MO_countBehind 55 = .ok (.imul, 1) := by decide +kernel
theorem d_MO_countBehind_56 : decode b_MO_countBehind 56 = .ok (.iload_n 2, 1) := by decide +kernel
theorem d_MO_countBehind_57 : decode b_MO_countBehind 57 = .ok (.iadd, 1) := by decide +kernel
theorem d_MO_countBehind_58 : decode b_MO_countBehind 58 = .ok (.iaload, 1) := by decide +kernel
theorem d_MO_countBehind_59 : decode b_MO_countBehind 59 = .ok (.ireturn, 1) := by decide +kernel
theorem d_MO_mixing_0 : decode b_MO_mixing 0 = .ok (.aload_n 0, 1) := by decide +kernel
theorem d_MO_mixing_1 : decode b_MO_mixing 1 = .ok (.iconst 0, 1) := by decide +kernel
theorem d_MO_mixing_2 : decode b_MO_mixing 2 = .ok (.invokevirtual 147, 3) := by decide +kernel
theorem d_MO_mixing_5 : decode b_MO_mixing 5 = .ok (.istore_n 1, 1) := by decide +kernel
theorem d_MO_mixing_6 : decode b_MO_mixing 6 = .ok (.iconst 0, 1) := by decide +kernel
theorem d_MO_mixing_7 : decode b_MO_mixing 7 = .ok (.istore_n 2, 1) := by decide +kernel
theorem d_MO_mixing_8 : decode b_MO_mixing 8 = .ok (.iload_n 2, 1) := by decide +kernel
theorem d_MO_mixing_9 : decode b_MO_mixing 9 = .ok (.iconst 4, 1) := by decide +kernel
theorem d_MO_mixing_10 : decode b_MO_mixing 10 = .ok (.if_icmp .ge 18, 3) := by decide +kernel
theorem d_MO_mixing_13 : decode b_MO_mixing 13 = .ok (.aload_n 0, 1) := by decide +kernel
theorem d_MO_mixing_14 : decode b_MO_mixing 14 = .ok (.getfield 41, 3) := by decide +kernel
theorem d_MO_mixing_17 : decode b_MO_mixing 17 = .ok (.iload_n 2, 1) := by decide +kernel
theorem d_MO_mixing_18 : decode b_MO_mixing 18 = .ok (.iconst 1, 1) := by decide +kernel
theorem d_MO_mixing_19 : decode b_MO_mixing 19 = .ok (.iload_n 2, 1) := by decide +kernel
theorem d_MO_mixing_20 : decode b_MO_mixing 20 = .ok (.ishl, 1) := by decide +kernel
theorem d_MO_mixing_21 : decode b_MO_mixing 21 = .ok (.iastore, 1) := by decide +kernel
theorem d_MO_mixing_22 : decode b_MO_mixing 22 = .ok (.iinc 2 1, 3) := by decide +kernel
theorem d_MO_mixing_25 : decode b_MO_mixing 25 = .ok (.goto (-17), 3) := by decide +kernel
theorem d_MO_mixing_28 : decode b_MO_mixing 28 = .ok (.iconst 1, 1) := by decide +kernel
theorem d_MO_mixing_29 : decode b_MO_mixing 29 = .ok (.istore_n 2, 1) := by decide +kernel
theorem d_MO_mixing_30 : decode b_MO_mixing 30 = .ok (.iload_n 2, 1) := by decide +kernel
theorem d_MO_mixing_31 : decode b_MO_mixing 31 = .ok (.bipush 16, 2) := by decide +kernel
theorem d_MO_mixing_33 : decode b_MO_mixing 33 = .ok (.if_icmp .gt 80, 3) := by decide +kernel
theorem d_MO_mixing_36 : decode b_MO_mixing 36 = .ok (.iconst 1, 1) := by decide +kernel
theorem d_MO_mixing_37 : decode b_MO_mixing 37 = .ok (.istore_n 3, 1) := by decide +kernel
theorem d_MO_mixing_38 : decode b_MO_mixing 38 = .ok (.iconst 0, 1) := by decide +kernel
theorem d_MO_mixing_39 : decode b_MO_mixing 39 = .ok (.istore 4, 2) := by decide +kernel
theorem d_MO_mixing_41 : decode b_MO_mixing 41 = .ok (.iload 4, 2) := by decide +kernel
theorem d_MO_mixing_43 : decode b_MO_mixing 43 = .ok (.iconst 4, 1) := by decide +kernel
theorem d_MO_mixing_44 : decode b_MO_mixing 44 = .ok (.if_icmp .ge 57, 3) := by decide +kernel
theorem d_MO_mixing_47 : decode b_MO_mixing 47 = .ok (.aload_n 0, 1) := by decide +kernel
theorem d_MO_mixing_48 : decode b_MO_mixing 48 = .ok (.getfield 41, 3) := by decide +kernel
theorem d_MO_mixing_51 : decode b_MO_mixing 51 = .ok (.iload 4, 2) := by decide +kernel
theorem d_MO_mixing_53 : decode b_MO_mixing 53 = .ok (.aload_n 0, 1) := by decide +kernel
theorem d_MO_mixing_54 : decode b_MO_mixing 54 = .ok (.aload_n 0, 1) := by decide +kernel
theorem d_MO_mixing_55 : decode b_MO_mixing 55 = .ok (.getfield 41, 3) := by decide +kernel
theorem d_MO_mixing_58 : decode b_MO_mixing 58 = .ok (.iload 4, 2) := by decide +kernel
theorem d_MO_mixing_60 : decode b_MO_mixing 60 = .ok (.iaload, 1) := by decide +kernel
theorem d_MO_mixing_61 : decode b_MO_mixing 61 = .ok (.invokevirtual 144, 3) := by decide +kernel
theorem d_MO_mixing_64 : decode b_MO_mixing 64 = .ok (.iastore, 1) := by decide +kernel
theorem d_MO_mixing_65 : decode b_MO_mixing 65 = .ok (.iload_n 3, 1) := by decide +kernel
theorem d_MO_mixing_66 : decode b_MO_mixing 66 = .ok (.iload_n 1, 1) := by decide +kernel
theorem d_MO_mixing_67 : decode b_MO_mixing 67 = .ok (.iload 4, 2) := by decide +kernel
theorem d_MO_mixing_69 : decode b_MO_mixing 69 = .ok (.ishr, 1) := by decide +kernel
theorem d_MO_mixing_70 : decode b_MO_mixing 70 = .ok (.iconst 1, 1) := by decide +kernel
theorem d_MO_mixing_71 : decode b_MO_mixing 71 = .ok (.iand, 1) := by decide +kernel
theorem d_MO_mixing_72 : decode b_MO_mixing 72 = .ok (.ifCond .eq 16, 3) := by decide +kernel
theorem d_MO_mixing_75 : decode b_MO_mixing 75 = .ok (.aload_n 0, 1) := by decide +kernel
theorem d_MO_mixing_76 : decode b_MO_mixing 76 = .ok (.getfield 41, 3) := by decide +kernel
theorem d_MO_mixing_79 : decode b_MO_mixing 79 = .ok (.iload 4, 2) := by decide +kernel
theorem d_MO_mixing_81 : decode b_MO_mixing 81 = .ok (.iaload, 1) := by decide +kernel
theorem d_MO_mixing_82 : decode b_MO_mixing 82 = .ok (.iload_n 1, 1) := by decide +kernel
theorem d_MO_mixing_83 : decode b_MO_mixing 83 = .ok (.iand, 1) := by decide +kernel
theorem d_MO_mixing_84 : decode b_MO_mixing 84 = .ok (.iload_n 1, 1) := by decide +kernel
theorem d_MO_mixing_85 : decode b_MO_mixing 85 = .ok (.if_icmp .ne 7, 3) := by decide +kernel
theorem d_MO_mixing_88 : decode b_MO_mixing 88 = .ok (.iconst 1, 1) := by decide +kernel
theorem d_MO_mixing_89 : decode b_MO_mixing 89 = .ok (.goto 4, 3) := by decide +kernel
theorem d_MO_mixing_92 : decode b_MO_mixing 92 = .ok (.iconst 0, 1) := by decide +kernel
theorem d_MO_mixing_93 : decode b_MO_mixing 93 = .ok (.iand, 1) := by decide +kernel
theorem d_MO_mixing_94 : decode b_MO_mixing 94 = .ok (.istore_n 3, 1) := by decide +kernel
theorem d_MO_mixing_95 : decode b_MO_mixing 95 = .ok (.iinc 4 1, 3) := by decide +kernel
theorem d_MO_mixing_98 : decode b_MO_mixing 98 = .ok (.goto (-57), 3) := by decide +kernel
theorem d_MO_mixing_101 : decode b_MO_mixing 101 = .ok (.iload_n 3, 1) := by decide +kernel
theorem d_MO_mixing_102 : decode b_MO_mixing 102 = .ok (.ifCond .eq 5, 3) := by decide +kernel
theorem d_MO_mixing_105 : decode b_MO_mixing 105 = .ok (.iload_n 2, 1) := by decide +kernel
theorem d_MO_mixing_106 : decode b_MO_mixing 106 = .ok (.ireturn, 1) := by decide +kernel
theorem d_MO_mixing_107 : decode b_MO_mixing 107 = .ok (.iinc 2 1, 3) := by decide +kernel
theorem d_MO_mixing_110 : decode b_MO_mixing 110 = .ok (.goto (-80), 3) := by decide +kernel
theorem d_MO_mixing_113 : decode b_MO_mixing 113 = .ok (.bipush (-5), 2) := by decide +kernel
theorem d_MO_mixing_115 : decode b_MO_mixing 115 = .ok (.ireturn, 1) := by decide +kernel
theorem d_MO_at_0 : decode b_MO_at 0 = .ok (.iload_n 1, 1) := by decide +kernel
theorem d_MO_at_1 : decode b_MO_at 1 = .ok (.iconst 0, 1) := by decide +kernel
theorem d_MO_at_2 : decode b_MO_at 2 = .ok (.aload_n 0, 1) := by decide +kernel
theorem d_MO_at_3 : decode b_MO_at 3 = .ok (.invokevirtual 60, 3) := by decide +kernel
theorem d_MO_at_6 : decode b_MO_at 6 = .ok (.iconst 1, 1) := by decide +kernel
theorem d_MO_at_7 : decode b_MO_at 7 = .ok (.isub, 1) := by decide +kernel
theorem d_MO_at_8 : decode b_MO_at 8 = .ok (.invokestatic 44, 3) := by decide +kernel
theorem d_MO_at_11 : decode b_MO_at 11 = .ok (.ifCond .eq 11, 3) := by decide +kernel
theorem d_MO_at_14 : decode b_MO_at 14 = .ok (.aload_n 0, 1) := by decide +kernel
theorem d_MO_at_15 : decode b_MO_at 15 = .ok (.iload_n 1, 1) := by decide +kernel
theorem d_MO_at_16 : decode b_MO_at 16 = .ok (.invokevirtual 64, 3) := by decide +kernel
theorem d_MO_at_19 : decode b_MO_at 19 = .ok (.goto 4, 3) := by decide +kernel
theorem d_MO_at_22 : decode b_MO_at 22 = .ok (.iconst (-1), 1) := by decide +kernel
theorem d_MO_at_23 : decode b_MO_at 23 = .ok (.ireturn, 1) := by decide +kernel
theorem d_MO_isSamePiece_0 : decode b_MO_isSamePiece 0 = .ok (.iconst 1, 1) := by decide +kernel
theorem d_MO_isSamePiece_1 : decode b_MO_isSamePiece 1 = .ok (.istore 4, 2) := by decide +kernel
theorem d_MO_isSamePiece_3 : decode b_MO_isSamePiece 3 = .ok (.iconst 0, 1) := by decide +kernel
theorem d_MO_isSamePiece_4 : decode b_MO_isSamePiece 4 = .ok (.istore 5, 2) := by decide +kernel
theorem d_MO_isSamePiece_6 : decode b_MO_isSamePiece 6 = .ok (.iload 5, 2) := by decide +kernel
theorem d_MO_isSamePiece_8 : decode b_MO_isSamePiece 8 = .ok (.iload_n 3, 1) := by decide +kernel
theorem d_MO_isSamePiece_9 : decode b_MO_isSamePiece 9 = .ok (.if_icmp .ge 40, 3) := by decide +kernel
theorem d_MO_isSamePiece_12 : decode b_MO_isSamePiece 12 = .ok (.iload 4, 2) := by decide +kernel
theorem d_MO_isSamePiece_14 : decode b_MO_isSamePiece 14 = .ok (.ifCond .eq 35, 3) := by decide +kernel
theorem d_MO_isSamePiece_17 : decode b_MO_isSamePiece 17 = .ok (.aload_n 0, 1) := by decide +kernel
theorem d_MO_isSamePiece_18 : decode b_MO_isSamePiece 18 = .ok (.iload_n 1, 1) := by decide +kernel
theorem d_MO_isSamePiece_19 : decode b_MO_isSamePiece 19 = .ok (.iload 5, 2) := by decide +kernel
theorem d_MO_isSamePiece_21 : decode b_MO_isSamePiece 21 = .ok (.iadd, 1) := by decide +kernel
theorem d_MO_isSamePiece_22 : decode b_MO_isSamePiece 22 = .ok (.invokevirtual 64, 3) := by decide +kernel
theorem d_MO_isSamePiece_25 : decode b_MO_isSamePiece 25 = .ok (.aload_n 0, 1) := by decide +kernel
theorem d_MO_isSamePiece_26 : decode b_MO_isSamePiece 26 = .ok (.iload_n 2, 1) := by decide +kernel
theorem d_MO_isSamePiece_27 : decode b_MO_isSamePiece 27 = .ok (.iload 5, 2) := by decide +kernel
theorem d_MO_isSamePiece_29 : decode b_MO_isSamePiece 29 = .ok (.iadd, 1) := by decide +kernel
theorem d_MO_isSamePiece_30 : decode b_MO_isSamePiece 30 = .ok (.invokevirtual 64, 3) := by decide +kernel
theorem d_MO_isSamePiece_33 : decode b_MO_isSamePiece 33 = .ok (.if_icmp .ne 7, 3) := by decide +kernel
theorem d_MO_isSamePiece_36 : decode b_MO_isSamePiece 36 = .ok (.iconst 1, 1) := by decide +kernel
theorem d_MO_isSamePiece_37 : decode b_MO_isSamePiece 37 = .ok (.goto 4, 3) := by decide +kernel
theorem d_MO_isSamePiece_40 : decode b_MO_isSamePiece 40 = .ok (.iconst 0, 1) := by decide +kernel
theorem d_MO_isSamePiece_41 : decode b_MO_isSamePiece 41 = .ok (.istore 4, 2) := by decide +kernel
theorem d_MO_isSamePiece_43 : decode b_MO_isSamePiece 43 = .ok (.iinc 5 1, 3) := by decide +kernel
theorem d_MO_isSamePiece_46 : decode b_MO_isSamePiece 46 = .ok (.goto (-40), 3) := by decide +kernel
theorem d_MO_isSamePiece_49 : decode b_MO_isSamePiece 49 = .ok (.iload 4, 2) := by decide +kernel
theorem d_MO_isSamePiece_51 : decode b_MO_isSamePiece 51 = .ok (.ireturn, 1) := by decide +kernel
theorem d_MO_isMirrored_0 : decode b_MO_isMirrored 0 = .ok (.iconst 1, 1) := by decide +kernel
theorem d_MO_isMirrored_1 : decode b_MO_isMirrored 1 = .ok (.istore_n 3, 1) := by decide +kernel
theorem d_MO_isMirrored_2 : decode b_MO_isMirrored 2 = .ok (.iconst 0, 1) := by decide +kernel
theorem d_MO_isMirrored_3 : decode b_MO_isMirrored 3 = .ok (.istore 4, 2) := by decide +kernel
theorem d_MO_isMirrored_5 : decode b_MO_isMirrored 5 = .ok (.iload 4, 2) := by decide +kernel
theorem d_MO_isMirrored_7 : decode b_MO_isMirrored 7 = .ok (.iload_n 2, 1) := by decide +kernel
theorem d_MO_isMirrored_8 : decode b_MO_isMirrored 8 = .ok (.iconst 2, 1) := by decide +kernel
theorem d_MO_isMirrored_9 : decode b_MO_isMirrored 9 = .ok (.idiv, 1) := by decide +kernel
theorem d_MO_isMirrored_10 : decode b_MO_isMirrored 10 = .ok (.if_icmp .ge 42, 3) := by decide +kernel
theorem d_MO_isMirrored_13 : decode b_MO_isMirrored 13 = .ok (.iload_n 3, 1) := by decide +kernel
theorem d_MO_isMirrored_14 : decode b_MO_isMirrored 14 = .ok (.ifCond .eq 38, 3) := by decide +kernel
theorem d_MO_isMirrored_17 : decode b_MO_isMirrored 17 = .ok (.aload_n 0, 1) := by decide +kernel
theorem d_MO_isMirrored_18 : decode b_MO_isMirrored 18 = .ok (.iload_n 1, 1) := by decide +kernel
theorem d_MO_isMirrored_19 : decode b_MO_isMirrored 19 = .ok (.iload 4, 2) := by decide +kernel
theorem d_MO_isMirrored_21 : decode b_MO_isMirrored 21 = .ok (.iadd, 1) := by decide +kernel
theorem d_MO_isMirrored_22 : decode b_MO_isMirrored 22 = .ok (.invokevirtual 64, 3) := by decide +kernel
theorem d_MO_isMirrored_25 : decode b_MO_isMirrored 25 = .ok (.aload_n 0, 1) := by decide +kernel
theorem d_MO_isMirrored_26 : decode b_MO_isMirrored 26 = .ok (.iload_n 1, 1) := by decide +kernel
theorem d_MO_isMirrored_27 : decode b_MO_isMirrored 27 = .ok (.iload_n 2, 1) := by decide +kernel
theorem d_MO_isMirrored_28 : decode b_MO_isMirrored 28 = .ok (.iadd, 1) := by decide +kernel
theorem d_MO_isMirrored_29 : decode b_MO_isMirrored 29 = .ok (.iconst 1, 1) := by decide +kernel
theorem d_MO_isMirrored_30 : decode b_MO_isMirrored 30 = .ok (.isub, 1) := by decide +kernel
theorem d_MO_isMirrored_31 : decode b_MO_isMirrored 31 = .ok (.iload 4, 2) := by decide +kernel
theorem d_MO_isMirrored_33 : decode b_MO_isMirrored 33 = .ok (.isub, 1) := by decide +kernel
theorem d_MO_isMirrored_34 : decode b_MO_isMirrored 34 = .ok (.invokevirtual 64, 3) := by decide +kernel
theorem d_MO_isMirrored_37 : decode b_MO_isMirrored 37 = .ok (.if_icmp .ne 7, 3) := by decide +kernel
theorem d_MO_isMirrored_40 : decode b_MO_isMirrored 40 = .ok (.iconst 1, 1) := by decide +kernel
theorem d_MO_isMirrored_41 : decode b_MO_isMirrored 41 = .ok (.goto 4, 3) := by decide +kernel
theorem d_MO_isMirrored_44 : decode b_MO_isMirrored 44 = .ok (.iconst 0, 1) := by decide +kernel
theorem d_MO_isMirrored_45 : decode b_MO_isMirrored 45 = .ok (.istore_n 3, 1) := by decide +kernel
theorem d_MO_isMirrored_46 : decode b_MO_isMirrored 46 = .ok (.iinc 4 1, 3) := by decide +kernel
theorem d_MO_isMirrored_49 : decode b_MO_isMirrored 49 = .ok (.goto (-44), 3) := by decide +kernel
theorem d_MO_isMirrored_52 : decode b_MO_isMirrored 52 = .ok (.iload_n 3, 1) := by decide +kernel
theorem d_MO_isMirrored_53 : decode b_MO_isMirrored 53 = .ok (.ireturn, 1) := by decide +kernel
theorem d_MO_around_0 : decode b_MO_around 0 = .ok (.iconst 0, 1) := by decide +kernel
theorem d_MO_around_1 : decode b_MO_around 1 = .ok (.istore 4, 2) := by decide +kernel
theorem d_MO_around_3 : decode b_MO_around 3 = .ok (.iconst 0, 1) := by decide +kernel
theorem d_MO_around_4 : decode b_MO_around 4 = .ok (.istore 5, 2) := by decide +kernel
theorem d_MO_around_6 : decode b_MO_around 6 = .ok (.iload 5, 2) := by decide +kernel
theorem d_MO_around_8 : decode b_MO_around 8 = .ok (.iload_n 2, 1) := by decide +kernel
theorem d_MO_around_9 : decode b_MO_around 9 = .ok (.iadd, 1) := by decide +kernel
theorem d_MO_around_10 : decode b_MO_around 10 = .ok (.aload_n 0, 1) := by decide +kernel
theorem d_MO_around_11 : decode b_MO_around 11 = .ok (.invokevirtual 60, 3) := by decide +kernel
theorem d_MO_around_14 : decode b_MO_around 14 = .ok (.if_icmp .gt 65, 3) := by decide +kernel
theorem d_MO_around_17 : decode b_MO_around 17 = .ok (.iload_n 3, 1) := by decide +kernel
theorem d_MO_around_18 : decode b_MO_around 18 = .ok (.ifCond .eq 10, 3) := by decide +kernel
theorem d_MO_around_21 : decode b_MO_around 21 = .ok (.iload 5, 2) := by decide +kernel
theorem d_MO_around_23 : decode b_MO_around 23 = .ok (.iconst 1, 1) := by decide +kernel
theorem d_MO_around_24 : decode b_MO_around 24 = .ok (.isub, 1) := by decide +kernel
theorem d_MO_around_25 : decode b_MO_around 25 = .ok (.goto 7, 3) := by decide +kernel
theorem d_MO_around_28 : decode b_MO_around 28 = .ok (.iload 5, 2) := by decide +kernel
theorem d_MO_around_30 : decode b_MO_around 30 = .ok (.iload_n 2, 1) := by decide +kernel
theorem d_MO_around_31 : decode b_MO_around 31 = .ok (.iadd, 1) := by decide +kernel
theorem d_MO_around_32 : decode b_MO_around 32 = .ok (.istore 6, 2) := by decide +kernel
theorem d_MO_around_34 : decode b_MO_around 34 = .ok (.iload 6, 2) := by decide +kernel
theorem d_MO_around_36 : decode b_MO_around 36 = .ok (.iconst 0, 1) := by decide +kernel
theorem d_MO_around_37 : decode b_MO_around 37 = .ok (.aload_n 0, 1) := by decide +kernel
theorem d_MO_around_38 : decode b_MO_around 38 = .ok (.invokevirtual 60, 3) := by decide +kernel
theorem d_MO_around_41 : decode b_MO_around 41 = .ok (.iconst 1, 1) := by decide +kernel
theorem d_MO_around_42 : decode b_MO_around 42 = .ok (.isub, 1) := by decide +kernel
theorem d_MO_around_43 : decode b_MO_around 43 = .ok (.invokestatic 44, 3) := by decide +kernel
theorem d_MO_around_46 : decode b_MO_around 46 = .ok (.ifCond .eq 27, 3) := by decide +kernel
theorem d_MO_around_49 : decode b_MO_around 49 = .ok (.aload_n 0, 1) := by decide +kernel
theorem d_MO_around_50 : decode b_MO_around 50 = .ok (.iload_n 1, 1) := by decide +kernel
theorem d_MO_around_51 : decode b_MO_around 51 = .ok (.iload 5, 2) := by decide +kernel
theorem d_MO_around_53 : decode b_MO_around 53 = .ok (.iload_n 2, 1) := by decide +kernel
theorem d_MO_around_54 : decode b_MO_around 54 = .ok (.invokevirtual 159, 3) := by decide +kernel
theorem d_MO_around_57 : decode b_MO_around 57 = .ok (.ifCond .eq 16, 3) := by decide +kernel
theorem d_MO_around_60 : decode b_MO_around 60 = .ok (.iload 4, 2) := by decide +kernel
theorem d_MO_around_62 : decode b_MO_around 62 = .ok (.iconst 1, 1) := by decide +kernel
theorem d_MO_around_63 : decode b_MO_around 63 = .ok (.aload_n 0, 1) := by decide +kernel
theorem d_MO_around_64 : decode b_MO_around 64 = .ok (.iload 6, 2) := by decide +kernel
theorem d_MO_around_66 : decode b_MO_around 66 = .ok (.invokevirtual 64, 3) := by decide +kernel
theorem d_MO_around_69 : decode b_MO_around 69 = .ok (.ishl, 1) := by decide +kernel
theorem d_MO_around_70 : decode b_MO_around 70 = .ok (.ior, 1) := by decide +kernel
theorem d_MO_around_71 : decode b_MO_around 71 = .ok (.istore 4, 2) := by decide +kernel
theorem d_MO_around_73 : decode b_MO_around 73 = .ok (.iinc 5 1, 3) := by decide +kernel
theorem d_MO_around_76 : decode b_MO_around 76 = .ok (.goto (-70), 3) := by decide +kernel
theorem d_MO_around_79 : decode b_MO_around 79 = .ok (.iload 4, 2) := by decide +kernel
theorem d_MO_around_81 : decode b_MO_around 81 = .ok (.ireturn, 1) := by decide +kernel
theorem d_MO_isMany_0 : decode b_MO_isMany 0 = .ok (.iload_n 0, 1) := by decide +kernel
theorem d_MO_isMany_1 : decode b_MO_isMany 1 = .ok (.iload_n 0, 1) := by decide +kernel
theorem d_MO_isMany_2 : decode b_MO_isMany 2 = .ok (.iconst 1, 1) := by decide +kernel
theorem d_MO_isMany_3 : decode b_MO_isMany 3 = .ok (.isub, 1) := by decide +kernel
theorem d_MO_isMany_4 : decode b_MO_isMany 4 = .ok (.iand, 1) := by decide +kernel
theorem d_MO_isMany_5 : decode b_MO_isMany 5 = .ok (.ifCond .eq 7, 3) := by decide +kernel
theorem d_MO_isMany_8 : decode b_MO_isMany 8 = .ok (.iconst 1, 1) := by decide +kernel
theorem d_MO_isMany_9 : decode b_MO_isMany 9 = .ok (.goto 4, 3) := by decide +kernel
theorem d_MO_isMany_12 : decode b_MO_isMany 12 = .ok (.iconst 0, 1) := by decide +kernel
theorem d_MO_isMany_13 : decode b_MO_isMany 13 = .ok (.ireturn, 1) := by decide +kernel
theorem d_MO_pieces_0 : decode b_MO_pieces 0 = .ok (.iload_n 1, 1) := by decide +kernel
theorem d_MO_pieces_1 : decode b_MO_pieces 1 = .ok (.iconst 1, 1) := by decide +kernel
theorem d_MO_pieces_2 : decode b_MO_pieces 2 = .ok (.bipush 20, 2) := by decide +kernel
theorem d_MO_pieces_4 : decode b_MO_pieces 4 = .ok (.invokestatic 44, 3) := by decide +kernel
theorem d_MO_pieces_7 : decode b_MO_pieces 7 = .ok (.ifCond .eq 12, 3) := by decide +kernel
theorem d_MO_pieces_10 : decode b_MO_pieces 10 = .ok (.iload_n 2, 1) := by decide +kernel
theorem d_MO_pieces_11 : decode b_MO_pieces 11 = .ok (.iconst 0, 1) := by decide +kernel
theorem d_MO_pieces_12 : decode b_MO_pieces 12 = .ok (.iconst 3, 1) := by decide +kernel
theorem d_MO_pieces_13 : decode b_MO_pieces 13 = .ok (.invokestatic 44, 3) := by decide +kernel
theorem d_MO_pieces_16 : decode b_MO_pieces 16 = .ok (.ifCond .ne 6, 3) := by decide +kernel
theorem d_MO_pieces_19 : decode b_MO_pieces 19 = .ok (.bipush (-2), 2) := by decide +kernel
theorem d_MO_pieces_21 : decode b_MO_pieces 21 = .ok (.ireturn, 1) := by decide +kernel
theorem d_MO_pieces_22 : decode b_MO_pieces 22 = .ok (.iconst 0, 1) := by decide +kernel
theorem d_MO_pieces_23 : decode b_MO_pieces 23 = .ok (.istore_n 3, 1) := by decide +kernel
theorem d_MO_pieces_24 : decode b_MO_pieces 24 = .ok (.iconst 0, 1) := by decide +kernel
theorem d_MO_pieces_25 : decode b_MO_pieces 25 = .ok (.istore 4, 2) := by decide +kernel
theorem d_MO_pieces_27 : decode b_MO_pieces 27 = .ok (.iload 4, 2) := by decide +kernel
theorem d_MO_pieces_29 : decode b_MO_pieces 29 = .ok (.iload_n 1, 1) := by decide +kernel
theorem d_MO_pieces_30 : decode b_MO_pieces 30 = .ok (.iadd, 1) := by decide +kernel
theorem d_MO_pieces_31 : decode b_MO_pieces 31 = .ok (.aload_n 0, 1) := by decide +kernel
theorem d_MO_pieces_32 : decode b_MO_pieces 32 = .ok (.invokevirtual 60, 3) := by decide +kernel
theorem d_MO_pieces_35 : decode b_MO_pieces 35 = .ok (.if_icmp .gt 118, 3) := by decide +kernel
theorem d_MO_pieces_38 : decode b_MO_pieces 38 = .ok (.iconst 1, 1) := by decide +kernel
theorem d_MO_pieces_39 : decode b_MO_pieces 39 = .ok (.istore 5, 2) := by decide +kernel
theorem d_MO_pieces_41 : decode b_MO_pieces 41 = .ok (.iconst 0, 1) := by decide +kernel
theorem d_MO_pieces_42 : decode b_MO_pieces 42 = .ok (.istore 6, 2) := by decide +kernel
theorem d_MO_pieces_44 : decode b_MO_pieces 44 = .ok (.iload 6, 2) := by decide +kernel
theorem d_MO_pieces_46 : decode b_MO_pieces 46 = .ok (.iload 4, 2) := by decide +kernel
theorem d_MO_pieces_48 : decode b_MO_pieces 48 = .ok (.if_icmp .ge 33, 3) := by decide +kernel
theorem d_MO_pieces_51 : decode b_MO_pieces 51 = .ok (.iload 5, 2) := by decide +kernel
theorem d_MO_pieces_53 : decode b_MO_pieces 53 = .ok (.ifCond .eq 28, 3) := by decide +kernel
theorem d_MO_pieces_56 : decode b_MO_pieces 56 = .ok (.aload_n 0, 1) := by decide +kernel
theorem d_MO_pieces_57 : decode b_MO_pieces 57 = .ok (.iload 4, 2) := by decide +kernel
theorem d_MO_pieces_59 : decode b_MO_pieces 59 = .ok (.iload 6, 2) := by decide +kernel
theorem d_MO_pieces_61 : decode b_MO_pieces 61 = .ok (.iload_n 1, 1) := by decide +kernel
theorem d_MO_pieces_62 : decode b_MO_pieces 62 = .ok (.invokevirtual 159, 3) := by decide +kernel
theorem d_MO_pieces_65 : decode b_MO_pieces 65 = .ok (.ifCond .ne 7, 3) := by decide +kernel
theorem d_MO_pieces_68 : decode b_MO_pieces 68 = .ok (.iconst 1, 1) := by decide +kernel
theorem d_MO_pieces_69 : decode b_MO_pieces 69 = .ok (.goto 4, 3) := by decide +kernel
theorem d_MO_pieces_72 : decode b_MO_pieces 72 = .ok (.iconst 0, 1) := by decide +kernel
theorem d_MO_pieces_73 : decode b_MO_pieces 73 = .ok (.istore 5, 2) := by decide +kernel
theorem d_MO_pieces_75 : decode b_MO_pieces 75 = .ok (.iinc 6 1, 3) := by decide +kernel
theorem d_MO_pieces_78 : decode b_MO_pieces 78 = .ok (.goto (-34), 3) := by decide +kernel
theorem d_MO_pieces_81 : decode b_MO_pieces 81 = .ok (.iload 5, 2) := by decide +kernel
theorem d_MO_pieces_83 : decode b_MO_pieces 83 = .ok (.ifCond .eq 20, 3) := by decide +kernel
theorem d_MO_pieces_86 : decode b_MO_pieces 86 = .ok (.iload_n 2, 1) := by decide +kernel
theorem d_MO_pieces_87 : decode b_MO_pieces 87 = .ok (.iconst 3, 1) := by decide +kernel
theorem d_MO_pieces_88 : decode b_MO_pieces 88 = .ok (.if_icmp .ne 15, 3) := by decide +kernel
theorem d_MO_pieces_91 : decode b_MO_pieces 91 = .ok (.aload_n 0, 1) := by decide +kernel
theorem d_MO_pieces_92 : decode b_MO_pieces 92 = .ok (.iload 4, 2) := by decide +kernel
theorem d_MO_pieces_94 : decode b_MO_pieces 94 = .ok (.iload_n 1, 1) := by decide +kernel
theorem d_MO_pieces_95 : decode b_MO_pieces 95 = .ok (.invokevirtual 162, 3) := by decide +kernel
theorem d_MO_pieces_98 : decode b_MO_pieces 98 = .ok (.istore 5, 2) := by decide +kernel
theorem d_MO_pieces_100 : decode b_MO_pieces 100 = .ok (.goto 34, 3) := by decide +kernel
theorem d_MO_pieces_103 : decode b_MO_pieces 103 = .ok (.iload 5, 2) := by decide +kernel
theorem d_MO_pieces_105 : decode b_MO_pieces 105 = .ok (.ifCond .eq 29, 3) := by decide +kernel
theorem d_MO_pieces_108 : decode b_MO_pieces 108 = .ok (.iload_n 2, 1) := by decide +kernel
theorem d_MO_pieces_109 : decode b_MO_pieces 109 = .ok (.ifCond .le 25, 3) := by decide +kernel
theorem d_MO_pieces_112 : decode b_MO_pieces 112 = .ok (.aload_n 0, 1) := by decide +kernel
theorem d_MO_pieces_113 : decode b_MO_pieces 113 = .ok (.iload 4, 2) := by decide +kernel
theorem d_MO_pieces_115 : decode b_MO_pieces 115 = .ok (.iload_n 1, 1) := by decide +kernel
theorem d_MO_pieces_116 : decode b_MO_pieces 116 = .ok (.iload_n 2, 1) := by decide +kernel
theorem d_MO_pieces_117 : decode b_MO_pieces 117 = .ok (.iconst 2, 1) := by decide +kernel
theorem d_MO_pieces_118 : decode b_MO_pieces 118 = .ok (.if_icmp .ne 7, 3) := by decide +kernel
theorem d_MO_pieces_121 : decode b_MO_pieces 121 = .ok (.iconst 1, 1) := by decide +kernel
theorem d_MO_pieces_122 : decode b_MO_pieces 122 = .ok (.goto 4, 3) := by decide +kernel
theorem d_MO_pieces_125 : decode b_MO_pieces 125 = .ok (.iconst 0, 1) := by decide +kernel
theorem d_MO_pieces_126 : decode b_MO_pieces 126 = .ok (.invokevirtual 165, 3) := by decide +kernel
theorem d_MO_pieces_129 : decode b_MO_pieces 129 = .ok (.invokestatic 169, 3) := by decide +kernel
theorem d_MO_pieces_132 : decode b_MO_pieces 132 = .ok (.istore 5, 2) := by decide +kernel
theorem d_MO_pieces_134 : decode b_MO_pieces 134 = .ok (.iload_n 3, 1) := by decide +kernel
theorem d_MO_pieces_135 : decode b_MO_pieces 135 = .ok (.iload 5, 2) := by decide +kernel
theorem d_MO_pieces_137 : decode b_MO_pieces 137 = .ok (.ifCond .eq 7, 3) := by decide +kernel
theorem d_MO_pieces_140 : decode b_MO_pieces 140 = .ok (.iconst 1, 1) := by decide +kernel
theorem d_MO_pieces_141 : decode b_MO_pieces 141 = .ok (.goto 4, 3) := by decide +kernel
theorem d_MO_pieces_144 : decode b_MO_pieces 144 = .ok (.iconst 0, 1) := by decide +kernel
theorem d_MO_pieces_145 : decode b_MO_pieces 145 = .ok (.iadd, 1) := by decide +kernel
theorem d_MO_pieces_146 : decode b_MO_pieces 146 = .ok (.istore_n 3, 1) := by decide +kernel
theorem d_MO_pieces_147 : decode b_MO_pieces 147 = .ok (.iinc 4 1, 3) := by decide +kernel
theorem d_MO_pieces_150 : decode b_MO_pieces 150 = .ok (.goto (-123), 3) := by decide +kernel
theorem d_MO_pieces_153 : decode b_MO_pieces 153 = .ok (.iload_n 3, 1) := by decide +kernel
theorem d_MO_pieces_154 : decode b_MO_pieces 154 = .ok (.ireturn, 1) := by decide +kernel
theorem d_MO_times_0 : decode b_MO_times 0 = .ok (.iconst 0, 1) := by decide +kernel
theorem d_MO_times_1 : decode b_MO_times 1 = .ok (.istore 4, 2) := by decide +kernel
theorem d_MO_times_3 : decode b_MO_times 3 = .ok (.iconst 0, 1) := by decide +kernel
theorem d_MO_times_4 : decode b_MO_times 4 = .ok (.istore 5, 2) := by decide +kernel
theorem d_MO_times_6 : decode b_MO_times 6 = .ok (.iload 5, 2) := by decide +kernel
theorem d_MO_times_8 : decode b_MO_times 8 = .ok (.iload_n 3, 1) := by decide +kernel
theorem d_MO_times_9 : decode b_MO_times 9 = .ok (.if_icmp .ge 31, 3) := by decide +kernel
theorem d_MO_times_12 : decode b_MO_times 12 = .ok (.iload 4, 2) := by decide +kernel
theorem d_MO_times_14 : decode b_MO_times 14 = .ok (.aload_n 0, 1) := by decide +kernel
theorem d_MO_times_15 : decode b_MO_times 15 = .ok (.iload_n 2, 1) := by decide +kernel
theorem d_MO_times_16 : decode b_MO_times 16 = .ok (.iload 5, 2) := by decide +kernel
theorem d_MO_times_18 : decode b_MO_times 18 = .ok (.iadd, 1) := by decide +kernel
theorem d_MO_times_19 : decode b_MO_times 19 = .ok (.invokevirtual 64, 3) := by decide +kernel
theorem d_MO_times_22 : decode b_MO_times 22 = .ok (.iload_n 1, 1) := by decide +kernel
theorem d_MO_times_23 : decode b_MO_times 23 = .ok (.if_icmp .ne 7, 3) := by decide +kernel
theorem d_MO_times_26 : decode b_MO_times 26 = .ok (.iconst 1, 1) := by decide +kernel
theorem d_MO_times_27 : decode b_MO_times 27 = .ok (.goto 4, 3) := by decide +kernel
theorem d_MO_times_30 : decode b_MO_times 30 = .ok (.iconst 0, 1) := by decide +kernel
theorem d_MO_times_31 : decode b_MO_times 31 = .ok (.iadd, 1) := by decide +kernel
theorem d_MO_times_32 : decode b_MO_times 32 = .ok (.istore 4, 2) := by decide +kernel
theorem d_MO_times_34 : decode b_MO_times 34 = .ok (.iinc 5 1, 3) := by decide +kernel
theorem d_MO_times_37 : decode b_MO_times 37 = .ok (.goto (-31), 3) := by decide +kernel
theorem d_MO_times_40 : decode b_MO_times 40 = .ok (.iload 4, 2) := by decide +kernel
theorem d_MO_times_42 : decode b_MO_times 42 = .ok (.ireturn, 1) := by decide +kernel
theorem d_MO_balance_0 : decode b_MO_balance 0 = .ok (.iload_n 1, 1) := by decide +kernel
theorem d_MO_balance_1 : decode b_MO_balance 1 = .ok (.invokestatic 89, 3) := by decide +kernel
theorem d_MO_balance_4 : decode b_MO_balance 4 = .ok (.ifCond .eq 5, 3) := by decide +kernel
theorem d_MO_balance_7 : decode b_MO_balance 7 = .ok (.iconst (-1), 1) := by decide +kernel
theorem d_MO_balance_8 : decode b_MO_balance 8 = .ok (.ireturn, 1) := by decide +kernel
theorem d_MO_balance_9 : decode b_MO_balance 9 = .ok (.iload_n 2, 1) := by decide +kernel
theorem d_MO_balance_10 : decode b_MO_balance 10 = .ok (.iconst 1, 1) := by decide +kernel
theorem d_MO_balance_11 : decode b_MO_balance 11 = .ok (.sipush 300, 3) := by decide +kernel
theorem d_MO_balance_14 : decode b_MO_balance 14 = .ok (.invokestatic 44, 3) := by decide +kernel
theorem d_MO_balance_17 : decode b_MO_balance 17 = .ok (.ifCond .ne 6, 3) := by decide +kernel
theorem d_MO_balance_20 : decode b_MO_balance 20 = .ok (.bipush (-2), 2) := by decide +kernel
theorem d_MO_balance_22 : decode b_MO_balance 22 = .ok (.ireturn, 1) := by decide +kernel
theorem d_MO_balance_23 : decode b_MO_balance 23 = .ok (.iconst (-1), 1) := by decide +kernel
theorem d_MO_balance_24 : decode b_MO_balance 24 = .ok (.istore_n 3, 1) := by decide +kernel
theorem d_MO_balance_25 : decode b_MO_balance 25 = .ok (.sipush 300, 3) := by decide +kernel
theorem d_MO_balance_28 : decode b_MO_balance 28 = .ok (.istore 4, 2) := by decide +kernel
theorem d_MO_balance_30 : decode b_MO_balance 30 = .ok (.iconst 0, 1) := by decide +kernel
theorem d_MO_balance_31 : decode b_MO_balance 31 = .ok (.istore 5, 2) := by decide +kernel
theorem d_MO_balance_33 : decode b_MO_balance 33 = .ok (.iload 5, 2) := by decide +kernel
theorem d_MO_balance_35 : decode b_MO_balance 35 = .ok (.iload_n 2, 1) := by decide +kernel
theorem d_MO_balance_36 : decode b_MO_balance 36 = .ok (.iadd, 1) := by decide +kernel
theorem d_MO_balance_37 : decode b_MO_balance 37 = .ok (.aload_n 0, 1) := by decide +kernel
theorem d_MO_balance_38 : decode b_MO_balance 38 = .ok (.invokevirtual 60, 3) := by decide +kernel
theorem d_MO_balance_41 : decode b_MO_balance 41 = .ok (.if_icmp .gt 48, 3) := by decide +kernel
theorem d_MO_balance_44 : decode b_MO_balance 44 = .ok (.aload_n 0, 1) := by decide +kernel
theorem d_MO_balance_45 : decode b_MO_balance 45 = .ok (.iload_n 1, 1) := by decide +kernel
theorem d_MO_balance_46 : decode b_MO_balance 46 = .ok (.iload 5, 2) := by decide +kernel
theorem d_MO_balance_48 : decode b_MO_balance 48 = .ok (.iload_n 2, 1) := by decide +kernel
theorem d_MO_balance_49 : decode b_MO_balance 49 = .ok (.invokevirtual 172, 3) := by decide +kernel
theorem d_MO_balance_52 : decode b_MO_balance 52 = .ok (.istore 6, 2) := by decide +kernel
theorem d_MO_balance_54 : decode b_MO_balance 54 = .ok (.iload 6, 2) := by decide +kernel
theorem d_MO_balance_56 : decode b_MO_balance 56 = .ok (.iload_n 3, 1) := by decide +kernel
theorem d_MO_balance_57 : decode b_MO_balance 57 = .ok (.if_icmp .le 8, 3) := by decide +kernel
theorem d_MO_balance_60 : decode b_MO_balance 60 = .ok (.iload 6, 2) := by decide +kernel
theorem d_MO_balance_62 : decode b_MO_balance 62 = .ok (.goto 4, 3) := by decide +kernel
theorem d_MO_balance_65 : decode b_MO_balance 65 = .ok (.iload_n 3, 1) := by decide +kernel
theorem d_MO_balance_66 : decode b_MO_balance 66 = .ok (.istore_n 3, 1) := by decide +kernel
theorem d_MO_balance_67 : decode b_MO_balance 67 = .ok (.iload 6, 2) := by decide +kernel
theorem d_MO_balance_69 : decode b_MO_balance 69 = .ok (.iload 4, 2) := by decide +kernel
theorem d_MO_balance_71 : decode b_MO_balance 71 = .ok (.if_icmp .ge 8, 3) := by decide +kernel
theorem d_MO_balance_74 : decode b_MO_balance 74 = .ok (.iload 6, 2) := by decide +kernel
theorem d_MO_balance_76 : decode b_MO_balance 76 = .ok (.goto 5, 3) := by decide +kernel
theorem d_MO_balance_79 : decode b_MO_balance 79 = .ok (.iload 4, 2) := by decide +kernel
theorem d_MO_balance_81 : decode b_MO_balance 81 = .ok (.istore 4, 2) := by decide +kernel
theorem d_MO_balance_83 : decode b_MO_balance 83 = .ok (.iinc 5 1, 3) := by decide +kernel
theorem d_MO_balance_86 : decode b_MO_balance 86 = .ok (.goto (-53), 3) := by decide +kernel
theorem d_MO_balance_89 : decode b_MO_balance 89 = .ok (.iload_n 3, 1) := by decide +kernel
theorem d_MO_balance_90 : decode b_MO_balance 90 = .ok (.ifCond .ge 8, 3) := by decide +kernel
theorem d_MO_balance_93 : decode b_MO_balance 93 = .ok (.bipush (-5), 2) := by decide +kernel
theorem d_MO_balance_95 : decode b_MO_balance 95 = .ok (.goto 7, 3) := by decide +kernel
theorem d_MO_balance_98 : decode b_MO_balance 98 = .ok (.iload_n 3, 1) := by decide +kernel
theorem d_MO_balance_99 : decode b_MO_balance 99 = .ok (.iload 4, 2) := by decide +kernel
theorem d_MO_balance_101 : decode b_MO_balance 101 = .ok (.isub, 1) := by decide +kernel
theorem d_MO_balance_102 : decode b_MO_balance 102 = .ok (.ireturn, 1) := by decide +kernel
theorem d_MO_divisor_0 : decode b_MO_divisor 0 = .ok (.iload_n 0, 1) := by decide +kernel
theorem d_MO_divisor_1 : decode b_MO_divisor 1 = .ok (.istore_n 2, 1) := by decide +kernel
theorem d_MO_divisor_2 : decode b_MO_divisor 2 = .ok (.iload_n 1, 1) := by decide +kernel
theorem d_MO_divisor_3 : decode b_MO_divisor 3 = .ok (.istore_n 3, 1) := by decide +kernel
theorem d_MO_divisor_4 : decode b_MO_divisor 4 = .ok (.iload_n 3, 1) := by decide +kernel
theorem d_MO_divisor_5 : decode b_MO_divisor 5 = .ok (.ifCond .le 16, 3) := by decide +kernel
theorem d_MO_divisor_8 : decode b_MO_divisor 8 = .ok (.iload_n 2, 1) := by decide +kernel
theorem d_MO_divisor_9 : decode b_MO_divisor 9 = .ok (.iload_n 3, 1) := by decide +kernel
theorem d_MO_divisor_10 : decode b_MO_divisor 10 = .ok (.irem, 1) := by decide +kernel
theorem d_MO_divisor_11 : decode b_MO_divisor 11 = .ok (.istore 4, 2) := by decide +kernel
theorem d_MO_divisor_13 : decode b_MO_divisor 13 = .ok (.iload_n 3, 1) := by decide +kernel
theorem d_MO_divisor_14 : decode b_MO_divisor 14 = .ok (.istore_n 2, 1) := by decide +kernel
theorem d_MO_divisor_15 : decode b_MO_divisor 15 = .ok (.iload 4, 2) := by decide +kernel
theorem d_MO_divisor_17 : decode b_MO_divisor 17 = .ok (.istore_n 3, 1) := by decide +kernel
theorem d_MO_divisor_18 : decode b_MO_divisor 18 = .ok (.goto (-14), 3) := by decide +kernel
theorem d_MO_divisor_21 : decode b_MO_divisor 21 = .ok (.iload_n 2, 1) := by decide +kernel
theorem d_MO_divisor_22 : decode b_MO_divisor 22 = .ok (.ireturn, 1) := by decide +kernel
theorem d_MO_share_0 : decode b_MO_share 0 = .ok (.iload_n 1, 1) := by decide +kernel
theorem d_MO_share_1 : decode b_MO_share 1 = .ok (.invokestatic 89, 3) := by decide +kernel
theorem d_MO_share_4 : decode b_MO_share 4 = .ok (.ifCond .eq 5, 3) := by decide +kernel
theorem d_MO_share_7 : decode b_MO_share 7 = .ok (.iconst (-1), 1) := by decide +kernel
theorem d_MO_share_8 : decode b_MO_share 8 = .ok (.ireturn, 1) := by decide +kernel
theorem d_MO_share_9 : decode b_MO_share 9 = .ok (.iload_n 2, 1) := by decide +kernel
theorem d_MO_share_10 : decode b_MO_share 10 = .ok (.iconst 0, 1) := by decide +kernel
theorem d_MO_share_11 : decode b_MO_share 11 = .ok (.iconst 1, 1) := by decide +kernel
theorem d_MO_share_12 : decode b_MO_share 12 = .ok (.invokestatic 44, 3) := by decide +kernel
theorem d_MO_share_15 : decode b_MO_share 15 = .ok (.ifCond .ne 6, 3) := by decide +kernel
theorem d_MO_share_18 : decode b_MO_share 18 = .ok (.bipush (-2), 2) := by decide +kernel
theorem d_MO_share_20 : decode b_MO_share 20 = .ok (.ireturn, 1) := by decide +kernel
theorem d_MO_share_21 : decode b_MO_share 21 = .ok (.aload_n 0, 1) := by decide +kernel
theorem d_MO_share_22 : decode b_MO_share 22 = .ok (.iload_n 1, 1) := by decide +kernel
theorem d_MO_share_23 : decode b_MO_share 23 = .ok (.iconst 0, 1) := by decide +kernel
theorem d_MO_share_24 : decode b_MO_share 24 = .ok (.aload_n 0, 1) := by decide +kernel
theorem d_MO_share_25 : decode b_MO_share 25 = .ok (.invokevirtual 60, 3) := by decide +kernel
theorem d_MO_share_28 : decode b_MO_share 28 = .ok (.invokevirtual 172, 3) := by decide +kernel
theorem d_MO_share_31 : decode b_MO_share 31 = .ok (.istore_n 3, 1) := by decide +kernel
theorem d_MO_share_32 : decode b_MO_share 32 = .ok (.iload_n 2, 1) := by decide +kernel
theorem d_MO_share_33 : decode b_MO_share 33 = .ok (.ifCond .ne 7, 3) := by decide +kernel
theorem d_MO_share_36 : decode b_MO_share 36 = .ok (.iload_n 3, 1) := by decide +kernel
theorem d_MO_share_37 : decode b_MO_share 37 = .ok (.goto 7, 3) := by decide +kernel
theorem d_MO_share_40 : decode b_MO_share 40 = .ok (.aload_n 0, 1) := by decide +kernel
theorem d_MO_share_41 : decode b_MO_share 41 = .ok (.invokevirtual 60, 3) := by decide +kernel
theorem d_MO_share_44 : decode b_MO_share 44 = .ok (.iload_n 3, 1) := by decide +kernel
theorem d_MO_share_45 : decode b_MO_share 45 = .ok (.aload_n 0, 1) := by decide +kernel
theorem d_MO_share_46 : decode b_MO_share 46 = .ok (.invokevirtual 60, 3) := by decide +kernel
theorem d_MO_share_49 : decode b_MO_share 49 = .ok (.invokestatic 175, 3) := by decide +kernel
theorem d_MO_share_52 : decode b_MO_share 52 = .ok (.idiv, 1) := by decide +kernel
theorem d_MO_share_53 : decode b_MO_share 53 = .ok (.ireturn, 1) := by decide +kernel
theorem d_MO_run_0 : decode b_MO_run 0 = .ok (.iload_n 1, 1) := by decide +kernel
theorem d_MO_run_1 : decode b_MO_run 1 = .ok (.iconst 0, 1) := by decide +kernel
theorem d_MO_run_2 : decode b_MO_run 2 = .ok (.iconst 4, 1) := by decide +kernel
theorem d_MO_run_3 : decode b_MO_run 3 = .ok (.invokestatic 44, 3) := by decide +kernel
theorem d_MO_run_6 : decode b_MO_run 6 = .ok (.ifCond .ne 6, 3) := by decide +kernel
theorem d_MO_run_9 : decode b_MO_run 9 = .ok (.bipush (-2), 2) := by decide +kernel
theorem d_MO_run_11 : decode b_MO_run 11 = .ok (.ireturn, 1) := by decide +kernel
theorem d_MO_run_12 : decode b_MO_run 12 = .ok (.iconst 1, 1) := by decide +kernel
theorem d_MO_run_13 : decode b_MO_run 13 = .ok (.istore_n 2, 1) := by decide +kernel
theorem d_MO_run_14 : decode b_MO_run 14 = .ok (.iconst 0, 1) := by decide +kernel
theorem d_MO_run_15 : decode b_MO_run 15 = .ok (.istore_n 3, 1) := by decide +kernel
theorem d_MO_run_16 : decode b_MO_run 16 = .ok (.iconst 1, 1) := by decide +kernel
theorem d_MO_run_17 : decode b_MO_run 17 = .ok (.istore 4, 2) := by decide +kernel
theorem d_MO_run_19 : decode b_MO_run 19 = .ok (.iconst 1, 1) := by decide +kernel
theorem d_MO_run_20 : decode b_MO_run 20 = .ok (.istore 5, 2) := by decide +kernel
theorem d_MO_run_22 : decode b_MO_run 22 = .ok (.iload 5, 2) := by decide +kernel
theorem d_MO_run_24 : decode b_MO_run 24 = .ok (.aload_n 0, 1) := by decide +kernel
theorem d_MO_run_25 : decode b_MO_run 25 = .ok (.invokevirtual 60, 3) := by decide +kernel
theorem d_MO_run_28 : decode b_MO_run 28 = .ok (.if_icmp .ge 94, 3) := by decide +kernel
theorem d_MO_run_31 : decode b_MO_run 31 = .ok (.iconst 0, 1) := by decide +kernel
theorem d_MO_run_32 : decode b_MO_run 32 = .ok (.istore 6, 2) := by decide +kernel
theorem d_MO_run_34 : decode b_MO_run 34 = .ok (.iconst 0, 1) := by decide +kernel
theorem d_MO_run_35 : decode b_MO_run 35 = .ok (.istore 7, 2) := by decide +kernel
theorem d_MO_run_37 : decode b_MO_run 37 = .ok (.iload 7, 2) := by decide +kernel
theorem d_MO_run_39 : decode b_MO_run 39 = .ok (.iload 5, 2) := by decide +kernel
theorem d_MO_run_41 : decode b_MO_run 41 = .ok (.iadd, 1) := by decide +kernel
theorem d_MO_run_42 : decode b_MO_run 42 = .ok (.aload_n 0, 1) := by decide +kernel
theorem d_MO_run_43 : decode b_MO_run 43 = .ok (.invokevirtual 60, 3) := by decide +kernel
theorem d_MO_run_46 : decode b_MO_run 46 = .ok (.if_icmp .ge 70, 3) := by decide +kernel
theorem d_MO_run_49 : decode b_MO_run 49 = .ok (.aload_n 0, 1) := by decide +kernel
theorem d_MO_run_50 : decode b_MO_run 50 = .ok (.iload 7, 2) := by decide +kernel
theorem d_MO_run_52 : decode b_MO_run 52 = .ok (.invokevirtual 64, 3) := by decide +kernel
theorem d_MO_run_55 : decode b_MO_run 55 = .ok (.aload_n 0, 1) := by decide +kernel
theorem d_MO_run_56 : decode b_MO_run 56 = .ok (.iload 7, 2) := by decide +kernel
theorem d_MO_run_58 : decode b_MO_run 58 = .ok (.iload 5, 2) := by decide +kernel
theorem d_MO_run_60 : decode b_MO_run 60 = .ok (.iadd, 1) := by decide +kernel
theorem d_MO_run_61 : decode b_MO_run 61 = .ok (.invokevirtual 64, 3) := by decide +kernel
theorem d_MO_run_64 : decode b_MO_run 64 = .ok (.if_icmp .ne 10, 3) := by decide +kernel
theorem d_MO_run_67 : decode b_MO_run 67 = .ok (.iload 6, 2) := by decide +kernel
theorem d_MO_run_69 : decode b_MO_run 69 = .ok (.iconst 1, 1) := by decide +kernel
theorem d_MO_run_70 : decode b_MO_run 70 = .ok (.iadd, 1) := by decide +kernel
theorem d_MO_run_71 : decode b_MO_run 71 = .ok (.goto 4, 3) := by decide +kernel
theorem d_MO_run_74 : decode b_MO_run 74 = .ok (.iconst 0, 1) := by decide +kernel
theorem d_MO_run_75 : decode b_MO_run 75 = .ok (.istore 6, 2) := by decide +kernel
theorem d_MO_run_77 : decode b_MO_run 77 = .ok (.iload 6, 2) := by decide +kernel
theorem d_MO_run_79 : decode b_MO_run 79 = .ok (.iload 5, 2) := by decide +kernel
theorem d_MO_run_81 : decode b_MO_run 81 = .ok (.iadd, 1) := by decide +kernel
theorem d_MO_run_82 : decode b_MO_run 82 = .ok (.iload_n 2, 1) := by decide +kernel
theorem d_MO_run_83 : decode b_MO_run 83 = .ok (.imul, 1) := by decide +kernel
theorem d_MO_run_84 : decode b_MO_run 84 = .ok (.iload 4, 2) := by decide +kernel
theorem d_MO_run_86 : decode b_MO_run 86 = .ok (.iload 5, 2) := by decide +kernel
theorem d_MO_run_88 : decode b_MO_run 88 = .ok (.imul, 1) := by decide +kernel
theorem d_MO_run_89 : decode b_MO_run 89 = .ok (.if_icmp .le 21, 3) := by decide +kernel
theorem d_MO_run_92 : decode b_MO_run 92 = .ok (.iload 5, 2) := by decide +kernel
theorem d_MO_run_94 : decode b_MO_run 94 = .ok (.istore_n 2, 1) := by decide +kernel
theorem d_MO_run_95 : decode b_MO_run 95 = .ok (.iload 7, 2) := by decide +kernel
theorem d_MO_run_97 : decode b_MO_run 97 = .ok (.iconst 1, 1) := by decide +kernel
theorem d_MO_run_98 : decode b_MO_run 98 = .ok (.iadd, 1) := by decide +kernel
theorem d_MO_run_99 : decode b_MO_run 99 = .ok (.iload 6, 2) := by decide +kernel
theorem d_MO_run_101 : decode b_MO_run 101 = .ok (.isub, 1) := by decide +kernel
theorem d_MO_run_102 : decode b_MO_run 102 = .ok (.istore_n 3, 1) := by decide +kernel
theorem d_MO_run_103 : decode b_MO_run 103 = .ok (.iload 6, 2) := by decide +kernel
theorem d_MO_run_105 : decode b_MO_run 105 = .ok (.iload 5, 2) := by decide +kernel
theorem d_MO_run_107 : decode b_MO_run 107 = .ok (.iadd, 1) := by decide +kernel
theorem d_MO_run_108 : decode b_MO_run 108 = .ok (.istore 4, 2) := by decide +kernel
theorem d_MO_run_110 : decode b_MO_run 110 = .ok (.iinc 7 1, 3) := by decide +kernel
theorem d_MO_run_113 : decode b_MO_run 113 = .ok (.goto (-76), 3) := by decide +kernel
theorem d_MO_run_116 : decode b_MO_run 116 = .ok (.iinc 5 1, 3) := by decide +kernel
theorem d_MO_run_119 : decode b_MO_run 119 = .ok (.goto (-97), 3) := by decide +kernel
theorem d_MO_run_122 : decode b_MO_run 122 = .ok (.iload 4, 2) := by decide +kernel
theorem d_MO_run_124 : decode b_MO_run 124 = .ok (.iload_n 2, 1) := by decide +kernel
theorem d_MO_run_125 : decode b_MO_run 125 = .ok (.invokestatic 175, 3) := by decide +kernel
theorem d_MO_run_128 : decode b_MO_run 128 = .ok (.istore 5, 2) := by decide +kernel
theorem d_MO_run_130 : decode b_MO_run 130 = .ok (.iload_n 1, 1) := by decide +kernel
theorem d_MO_run_131 : decode b_MO_run 131 = .ok (.ifCond .ne 7, 3) := by decide +kernel
theorem d_MO_run_134 : decode b_MO_run 134 = .ok (.iload_n 2, 1) := by decide +kernel
theorem d_MO_run_135 : decode b_MO_run 135 = .ok (.goto 36, 3) := by decide +kernel
theorem d_MO_run_138 : decode b_MO_run 138 = .ok (.iload_n 1, 1) := by decide +kernel
theorem d_MO_run_139 : decode b_MO_run 139 = .ok (.iconst 1, 1) := by decide +kernel
theorem d_MO_run_140 : decode b_MO_run 140 = .ok (.if_icmp .ne 7, 3) := by decide +kernel
theorem d_MO_run_143 : decode b_MO_run 143 = .ok (.iload_n 3, 1) := by decide +kernel
theorem d_MO_run_144 : decode b_MO_run 144 = .ok (.goto 27, 3) := by decide +kernel
theorem d_MO_run_147 : decode b_MO_run 147 = .ok (.iload_n 1, 1) := by decide +kernel
theorem d_MO_run_148 : decode b_MO_run 148 = .ok (.iconst 2, 1) := by decide +kernel
theorem d_MO_run_149 : decode b_MO_run 149 = .ok (.if_icmp .ne 8, 3) := by decide +kernel
theorem d_MO_run_152 : decode b_MO_run 152 = .ok (.iload 4, 2) := by decide +kernel
theorem d_MO_run_154 : decode b_MO_run 154 = .ok (.goto 17, 3) := by decide +kernel
theorem d_MO_run_157 : decode b_MO_run 157 = .ok (.iload_n 1, 1) := by decide +kernel
theorem d_MO_run_158 : decode b_MO_run 158 = .ok (.iconst 3, 1) := by decide +kernel
theorem d_MO_run_159 : decode b_MO_run 159 = .ok (.if_icmp .ne 8, 3) := by decide +kernel
theorem d_MO_run_162 : decode b_MO_run 162 = .ok (.iload 4, 2) := by decide +kernel
theorem d_MO_run_164 : decode b_MO_run 164 = .ok (.goto 4, 3) := by decide +kernel
theorem d_MO_run_167 : decode b_MO_run 167 = .ok (.iload_n 2, 1) := by decide +kernel
theorem d_MO_run_168 : decode b_MO_run 168 = .ok (.iload 5, 2) := by decide +kernel
theorem d_MO_run_170 : decode b_MO_run 170 = .ok (.idiv, 1) := by decide +kernel
theorem d_MO_run_171 : decode b_MO_run 171 = .ok (.ireturn, 1) := by decide +kernel
theorem d_MO_mirrored_0 : decode b_MO_mirrored 0 = .ok (.iload_n 1, 1) := by decide +kernel
theorem d_MO_mirrored_1 : decode b_MO_mirrored 1 = .ok (.iconst 0, 1) := by decide +kernel
theorem d_MO_mirrored_2 : decode b_MO_mirrored 2 = .ok (.iconst 1, 1) := by decide +kernel
theorem d_MO_mirrored_3 : decode b_MO_mirrored 3 = .ok (.invokestatic 44, 3) := by decide +kernel
theorem d_MO_mirrored_6 : decode b_MO_mirrored 6 = .ok (.ifCond .ne 6, 3) := by decide +kernel
theorem d_MO_mirrored_9 : decode b_MO_mirrored 9 = .ok (.bipush (-2), 2) := by decide +kernel
theorem d_MO_mirrored_11 : decode b_MO_mirrored 11 = .ok (.ireturn, 1) := by decide +kernel
theorem d_MO_mirrored_12 : decode b_MO_mirrored 12 = .ok (.iconst 0, 1) := by decide +kernel
theorem d_MO_mirrored_13 : decode b_MO_mirrored 13 = .ok (.istore_n 2, 1) := by decide +kernel
theorem d_MO_mirrored_14 : decode b_MO_mirrored 14 = .ok (.iconst 1, 1) := by decide +kernel
theorem d_MO_mirrored_15 : decode b_MO_mirrored 15 = .ok (.istore_n 3, 1) := by decide +kernel
theorem d_MO_mirrored_16 : decode b_MO_mirrored 16 = .ok (.iconst 0, 1) := by decide +kernel
theorem d_MO_mirrored_17 : decode b_MO_mirrored 17 = .ok (.istore 4, 2) := by decide +kernel
theorem d_MO_mirrored_19 : decode b_MO_mirrored 19 = .ok (.iload 4, 2) := by decide +kernel
theorem d_MO_mirrored_21 : decode b_MO_mirrored 21 = .ok (.aload_n 0, 1) := by decide +kernel
theorem d_MO_mirrored_22 : decode b_MO_mirrored 22 = .ok (.invokevirtual 60, 3) := by decide +kernel
theorem d_MO_mirrored_25 : decode b_MO_mirrored 25 = .ok (.if_icmp .ge 49, 3) := by decide +kernel
theorem d_MO_mirrored_28 : decode b_MO_mirrored 28 = .ok (.iload_n 3, 1) := by decide +kernel
theorem d_MO_mirrored_29 : decode b_MO_mirrored 29 = .ok (.iconst 1, 1) := by decide +kernel
theorem d_MO_mirrored_30 : decode b_MO_mirrored 30 = .ok (.iadd, 1) := by decide +kernel
theorem d_MO_mirrored_31 : decode b_MO_mirrored 31 = .ok (.istore 5, 2) := by decide +kernel
theorem d_MO_mirrored_33 : decode b_MO_mirrored 33 = .ok (.iload 4, 2) := by decide +kernel
theorem d_MO_mirrored_35 : decode b_MO_mirrored 35 = .ok (.iload 5, 2) := by decide +kernel
theorem d_MO_mirrored_37 : decode b_MO_mirrored 37 = .ok (.iadd, 1) := by decide +kernel
theorem d_MO_mirrored_38 : decode b_MO_mirrored 38 = .ok (.aload_n 0, 1) := by decide +kernel
theorem d_MO_mirrored_39 : decode b_MO_mirrored 39 = .ok (.invokevirtual 60, 3) := by decide +kernel
theorem d_MO_mirrored_42 : decode b_MO_mirrored 42 = .ok (.if_icmp .gt 26, 3) := by decide +kernel
theorem d_MO_mirrored_45 : decode b_MO_mirrored 45 = .ok (.aload_n 0, 1) := by decide +kernel
theorem d_MO_mirrored_46 : decode b_MO_mirrored 46 = .ok (.iload 4, 2) := by decide +kernel
theorem d_MO_mirrored_48 : decode b_MO_mirrored 48 = .ok (.iload 5, 2) := by decide +kernel
theorem d_MO_mirrored_50 : decode b_MO_mirrored 50 = .ok (.invokevirtual 162, 3) := by decide +kernel
theorem d_MO_mirrored_53 : decode b_MO_mirrored 53 = .ok (.ifCond .eq 9, 3) := by decide +kernel
theorem d_MO_mirrored_56 : decode b_MO_mirrored 56 = .ok (.iload 4, 2) := by decide +kernel
theorem d_MO_mirrored_58 : decode b_MO_mirrored 58 = .ok (.istore_n 2, 1) := by decide +kernel
theorem d_MO_mirrored_59 : decode b_MO_mirrored 59 = .ok (.iload 5, 2) := by decide +kernel
theorem d_MO_mirrored_61 : decode b_MO_mirrored 61 = .ok (.istore_n 3, 1) := by decide +kernel
theorem d_MO_mirrored_62 : decode b_MO_mirrored 62 = .ok (.iinc 5 1, 3) := by decide +kernel
theorem d_MO_mirrored_65 : decode b_MO_mirrored 65 = .ok (.goto (-32), 3) := by decide +kernel
theorem d_MO_mirrored_68 : decode b_MO_mirrored 68 = .ok (.iinc 4 1, 3) := by decide +kernel
theorem d_MO_mirrored_71 : decode b_MO_mirrored 71 = .ok (.goto (-52), 3) := by decide +kernel
theorem d_MO_mirrored_74 : decode b_MO_mirrored 74 = .ok (.iload_n 1, 1) := by decide +kernel
theorem d_MO_mirrored_75 : decode b_MO_mirrored 75 = .ok (.ifCond .ne 7, 3) := by decide +kernel
theorem d_MO_mirrored_78 : decode b_MO_mirrored 78 = .ok (.iload_n 2, 1) := by decide +kernel
theorem d_MO_mirrored_79 : decode b_MO_mirrored 79 = .ok (.goto 4, 3) := by decide +kernel
theorem d_MO_mirrored_82 : decode b_MO_mirrored 82 = .ok (.iload_n 3, 1) := by decide +kernel
theorem d_MO_mirrored_83 : decode b_MO_mirrored 83 = .ok (.ireturn, 1) := by decide +kernel
theorem d_MO_comes_0 : decode b_MO_comes 0 = .ok (.iload_n 1, 1) := by decide +kernel
theorem d_MO_comes_1 : decode b_MO_comes 1 = .ok (.ifCond .ge 6, 3) := by decide +kernel
theorem d_MO_comes_4 : decode b_MO_comes 4 = .ok (.bipush (-2), 2) := by decide +kernel
theorem d_MO_comes_6 : decode b_MO_comes 6 = .ok (.ireturn, 1) := by decide +kernel
theorem d_MO_comes_7 : decode b_MO_comes 7 = .ok (.aload_n 0, 1) := by decide +kernel
theorem d_MO_comes_8 : decode b_MO_comes 8 = .ok (.getfield 7, 3) := by decide +kernel
theorem d_MO_comes_11 : decode b_MO_comes 11 = .ok (.sipush 337, 3) := by decide +kernel
theorem d_MO_comes_14 : decode b_MO_comes 14 = .ok (.iaload, 1) := by decide +kernel
theorem d_MO_comes_15 : decode b_MO_comes 15 = .ok (.ifCond .ne 6, 3) := by decide +kernel
theorem d_MO_comes_18 : decode b_MO_comes 18 = .ok (.bipush (-4), 2) := by decide +kernel
theorem d_MO_comes_20 : decode b_MO_comes 20 = .ok (.ireturn, 1) := by decide +kernel
theorem d_MO_comes_21 : decode b_MO_comes 21 = .ok (.iload_n 1, 1) := by decide +kernel
theorem d_MO_comes_22 : decode b_MO_comes 22 = .ok (.aload_n 0, 1) := by decide +kernel
theorem d_MO_comes_23 : decode b_MO_comes 23 = .ok (.invokevirtual 109, 3) := by decide +kernel
theorem d_MO_comes_26 : decode b_MO_comes 26 = .ok (.if_icmp .ge 12, 3) := by decide +kernel
theorem d_MO_comes_29 : decode b_MO_comes 29 = .ok (.aload_n 0, 1) := by decide +kernel
theorem d_MO_comes_30 : decode b_MO_comes 30 = .ok (.getfield 25, 3) := by decide +kernel
theorem d_MO_comes_33 : decode b_MO_comes 33 = .ok (.iload_n 1, 1) := by decide +kernel
theorem d_MO_comes_34 : decode b_MO_comes 34 = .ok (.iaload, 1) := by decide +kernel
theorem d_MO_comes_35 : decode b_MO_comes 35 = .ok (.goto 5, 3) := by decide +kernel
theorem d_MO_comes_38 : decode b_MO_comes 38 = .ok (.bipush (-5), 2) := by decide +kernel
theorem d_MO_comes_40 : decode b_MO_comes 40 = .ok (.ireturn, 1) := by decide +kernel
theorem d_MO_returns_0 : decode b_MO_returns 0 = .ok (.iload_n 1, 1) := by decide +kernel
theorem d_MO_returns_1 : decode b_MO_returns 1 = .ok (.ifCond .lt 12, 3) := by decide +kernel
theorem d_MO_returns_4 : decode b_MO_returns 4 = .ok (.iload_n 2, 1) := by decide +kernel
theorem d_MO_returns_5 : decode b_MO_returns 5 = .ok (.iconst 0, 1) := by decide +kernel
theorem d_MO_returns_6 : decode b_MO_returns 6 = .ok (.iconst 2, 1) := by decide +kernel
theorem d_MO_returns_7 : decode b_MO_returns 7 = .ok (.invokestatic 44, 3) := by decide +kernel
theorem d_MO_returns_10 : decode b_MO_returns 10 = .ok (.ifCond .ne 6, 3) := by decide +kernel
theorem d_MO_returns_13 : decode b_MO_returns 13 = .ok (.bipush (-2), 2) := by decide +kernel
theorem d_MO_returns_15 : decode b_MO_returns 15 = .ok (.ireturn, 1) := by decide +kernel
theorem d_MO_returns_16 : decode b_MO_returns 16 = .ok (.aload_n 0, 1) := by decide +kernel
theorem d_MO_returns_17 : decode b_MO_returns 17 = .ok (.getfield 7, 3) := by decide +kernel
theorem d_MO_returns_20 : decode b_MO_returns 20 = .ok (.sipush 337, 3) := by decide +kernel
theorem d_MO_returns_23 : decode b_MO_returns 23 = .ok (.iaload, 1) := by decide +kernel
theorem d_MO_returns_24 : decode b_MO_returns 24 = .ok (.ifCond .ne 6, 3) := by decide +kernel
theorem d_MO_returns_27 : decode b_MO_returns 27 = .ok (.bipush (-4), 2) := by decide +kernel
theorem d_MO_returns_29 : decode b_MO_returns 29 = .ok (.ireturn, 1) := by decide +kernel
theorem d_MO_returns_30 : decode b_MO_returns 30 = .ok (.aload_n 0, 1) := by decide +kernel
theorem d_MO_returns_31 : decode b_MO_returns 31 = .ok (.invokevirtual 109, 3) := by decide +kernel
theorem d_MO_returns_34 : decode b_MO_returns 34 = .ok (.pop, 1) := by decide +kernel
theorem d_MO_returns_35 : decode b_MO_returns 35 = .ok (.bipush (-5), 2) := by decide +kernel
theorem d_MO_returns_37 : decode b_MO_returns 37 = .ok (.istore_n 3, 1) := by decide +kernel
theorem d_MO_returns_38 : decode b_MO_returns 38 = .ok (.iconst 0, 1) := by decide +kernel
theorem d_MO_returns_39 : decode b_MO_returns 39 = .ok (.istore 4, 2) := by decide +kernel
theorem d_MO_returns_41 : decode b_MO_returns 41 = .ok (.aload_n 0, 1) := by decide +kernel
theorem d_MO_returns_42 : decode b_MO_returns 42 = .ok (.getfield 115, 3) := by decide +kernel
theorem d_MO_returns_45 : decode b_MO_returns 45 = .ok (.iconst 2, 1) := by decide +kernel
theorem d_MO_returns_46 : decode b_MO_returns 46 = .ok (.isub, 1) := by decide +kernel
theorem d_MO_returns_47 : decode b_MO_returns 47 = .ok (.istore 5, 2) := by decide +kernel
theorem d_MO_returns_49 : decode b_MO_returns 49 = .ok (.iload 5, 2) := by decide +kernel
theorem d_MO_returns_51 : decode b_MO_returns 51 = .ok (.ifCond .lt 48, 3) := by decide +kernel
theorem d_MO_returns_54 : decode b_MO_returns 54 = .ok (.aload_n 0, 1) := by decide +kernel
theorem d_MO_returns_55 : decode b_MO_returns 55 = .ok (.getfield 28, 3) := by decide +kernel
theorem d_MO_returns_58 : decode b_MO_returns 58 = .ok (.iload 5, 2) := by decide +kernel
theorem d_MO_returns_60 : decode b_MO_returns 60 = .ok (.iaload, 1) := by decide +kernel
theorem d_MO_returns_61 : decode b_MO_returns 61 = .ok (.iload_n 1, 1) := by decide +kernel
theorem d_MO_returns_62 : decode b_MO_returns 62 = .ok (.if_icmp .ne 8, 3) := by decide +kernel
theorem d_MO_returns_65 : decode b_MO_returns 65 = .ok (.iload 5, 2) := by decide +kernel
theorem d_MO_returns_67 : decode b_MO_returns 67 = .ok (.goto 4, 3) := by decide +kernel
theorem d_MO_returns_70 : decode b_MO_returns 70 = .ok (.iload_n 3, 1) := by decide +kernel
theorem d_MO_returns_71 : decode b_MO_returns 71 = .ok (.istore_n 3, 1) := by decide +kernel
theorem d_MO_returns_72 : decode b_MO_returns 72 = .ok (.iload 4, 2) := by decide +kernel
theorem d_MO_returns_74 : decode b_MO_returns 74 = .ok (.aload_n 0, 1) := by decide +kernel
theorem d_MO_returns_75 : decode b_MO_returns 75 = .ok (.getfield 28, 3) := by decide +kernel
theorem d_MO_returns_78 : decode b_MO_returns 78 = .ok (.iload 5, 2) := by decide +kernel
theorem d_MO_returns_80 : decode b_MO_returns 80 = .ok (.iaload, 1) := by decide +kernel
theorem d_MO_returns_81 : decode b_MO_returns 81 = .ok (.iload_n 1, 1) := by decide +kernel
theorem d_MO_returns_82 : decode b_MO_returns 82 = .ok (.if_icmp .ne 7, 3) := by decide +kernel
theorem d_MO_returns_85 : decode b_MO_returns 85 = .ok (.iconst 1, 1) := by decide +kernel
theorem d_MO_returns_86 : decode b_MO_returns 86 = .ok (.goto 4, 3) := by decide +kernel
theorem d_MO_returns_89 : decode b_MO_returns 89 = .ok (.iconst 0, 1) := by decide +kernel
theorem d_MO_returns_90 : decode b_MO_returns 90 = .ok (.iadd, 1) := by decide +kernel
theorem d_MO_returns_91 : decode b_MO_returns 91 = .ok (.istore 4, 2) := by decide +kernel
theorem d_MO_returns_93 : decode b_MO_returns 93 = .ok (.iinc 5 (-1), 3) := by decide +kernel
theorem d_MO_returns_96 : decode b_MO_returns 96 = .ok (.goto (-47), 3) := by decide +kernel
theorem d_MO_returns_99 : decode b_MO_returns 99 = .ok (.iload_n 3, 1) := by decide +kernel
theorem d_MO_returns_100 : decode b_MO_returns 100 = .ok (.bipush (-5), 2) := by decide +kernel
theorem d_MO_returns_102 : decode b_MO_returns 102 = .ok (.if_icmp .ne 6, 3) := by decide +kernel
theorem d_MO_returns_105 : decode b_MO_returns 105 = .ok (.bipush (-5), 2) := by decide +kernel
theorem d_MO_returns_107 : decode b_MO_returns 107 = .ok (.ireturn, 1) := by decide +kernel
theorem d_MO_returns_108 : decode b_MO_returns 108 = .ok (.iload_n 2, 1) := by decide +kernel
theorem d_MO_returns_109 : decode b_MO_returns 109 = .ok (.ifCond .ne 11, 3) := by decide +kernel
theorem d_MO_returns_112 : decode b_MO_returns 112 = .ok (.aload_n 0, 1) := by decide +kernel
theorem d_MO_returns_113 : decode b_MO_returns 113 = .ok (.iload_n 3, 1) := by decide +kernel
theorem d_MO_returns_114 : decode b_MO_returns 114 = .ok (.invokevirtual 118, 3) := by decide +kernel
theorem d_MO_returns_117 : decode b_MO_returns 117 = .ok (.goto 19, 3) := by decide +kernel
theorem d_MO_returns_120 : decode b_MO_returns 120 = .ok (.iload_n 2, 1) := by decide +kernel
theorem d_MO_returns_121 : decode b_MO_returns 121 = .ok (.iconst 1, 1) := by decide +kernel
theorem d_MO_returns_122 : decode b_MO_returns 122 = .ok (.if_icmp .ne 12, 3) := by decide +kernel
theorem d_MO_returns_125 : decode b_MO_returns 125 = .ok (.aload_n 0, 1) := by decide +kernel
theorem d_MO_returns_126 : decode b_MO_returns 126 = .ok (.getfield 25, 3) := by decide +kernel
theorem d_MO_returns_129 : decode b_MO_returns 129 = .ok (.iload_n 3, 1) := by decide +kernel
theorem d_MO_returns_130 : decode b_MO_returns 130 = .ok (.iaload, 1) := by decide +kernel
theorem d_MO_returns_131 : decode b_MO_returns 131 = .ok (.goto 5, 3) := by decide +kernel
theorem d_MO_returns_134 : decode b_MO_returns 134 = .ok (.iload 4, 2) := by decide +kernel
theorem d_MO_returns_136 : decode b_MO_returns 136 = .ok (.ireturn, 1) := by decide +kernel
theorem d_MO_row_0 : decode b_MO_row 0 = .ok (.iload_n 1, 1) := by decide +kernel
theorem d_MO_row_1 : decode b_MO_row 1 = .ok (.ifCond .ge 6, 3) := by decide +kernel
theorem d_MO_row_4 : decode b_MO_row 4 = .ok (.bipush (-2), 2) := by decide +kernel
theorem d_MO_row_6 : decode b_MO_row 6 = .ok (.ireturn, 1) := by decide +kernel
theorem d_MO_row_7 : decode b_MO_row 7 = .ok (.aload_n 0, 1) := by decide +kernel
theorem d_MO_row_8 : decode b_MO_row 8 = .ok (.getfield 7, 3) := by decide +kernel
theorem d_MO_row_11 : decode b_MO_row 11 = .ok (.sipush 337, 3) := by decide +kernel
theorem d_MO_row_14 : decode b_MO_row 14 = .ok (.iaload, 1) := by decide +kernel
theorem d_MO_row_15 : decode b_MO_row 15 = .ok (.ifCond .ne 6, 3) := by decide +kernel
theorem d_MO_row_18 : decode b_MO_row 18 = .ok (.bipush (-4), 2) := by decide +kernel
theorem d_MO_row_20 : decode b_MO_row 20 = .ok (.ireturn, 1) := by decide +kernel
theorem d_MO_row_21 : decode b_MO_row 21 = .ok (.iload_n 1, 1) := by decide +kernel
theorem d_MO_row_22 : decode b_MO_row 22 = .ok (.aload_n 0, 1) := by decide +kernel
theorem d_MO_row_23 : decode b_MO_row 23 = .ok (.invokevirtual 109, 3) := by decide +kernel
theorem d_MO_row_26 : decode b_MO_row 26 = .ok (.iconst 1, 1) := by decide +kernel
theorem d_MO_row_27 : decode b_MO_row 27 = .ok (.isub, 1) := by decide +kernel
theorem d_MO_row_28 : decode b_MO_row 28 = .ok (.if_icmp .ge 12, 3) := by decide +kernel
theorem d_MO_row_31 : decode b_MO_row 31 = .ok (.aload_n 0, 1) := by decide +kernel
theorem d_MO_row_32 : decode b_MO_row 32 = .ok (.getfield 28, 3) := by decide +kernel
theorem d_MO_row_35 : decode b_MO_row 35 = .ok (.iload_n 1, 1) := by decide +kernel
theorem d_MO_row_36 : decode b_MO_row 36 = .ok (.iaload, 1) := by decide +kernel
theorem d_MO_row_37 : decode b_MO_row 37 = .ok (.goto 5, 3) := by decide +kernel
theorem d_MO_row_40 : decode b_MO_row 40 = .ok (.bipush (-5), 2) := by decide +kernel
theorem d_MO_row_42 : decode b_MO_row 42 = .ok (.ireturn, 1) := by decide +kernel
theorem d_MO_lettersOfWord_0 : decode b_MO_lettersOfWord 0 = .ok (.iconst 0, 1) := by decide +kernel
theorem d_MO_lettersOfWord_1 : decode b_MO_lettersOfWord 1 = .ok (.istore_n 1, 1) := by decide +kernel
theorem d_MO_lettersOfWord_2 : decode b_MO_lettersOfWord 2 = .ok (.iconst 0, 1) := by decide +kernel
theorem d_MO_lettersOfWord_3 : decode b_MO_lettersOfWord 3 = .ok (.istore_n 2, 1) := by decide +kernel
theorem d_MO_lettersOfWord_4 : decode b_MO_lettersOfWord 4 = .ok (.iload_n 2, 1) := by decide +kernel
theorem d_MO_lettersOfWord_5 : decode b_MO_lettersOfWord 5 = .ok (.aload_n 0, 1) := by decide +kernel
theorem d_MO_lettersOfWord_6 : decode b_MO_lettersOfWord 6 = .ok (.invokevirtual 60, 3) := by decide +kernel
theorem d_MO_lettersOfWord_9 : decode b_MO_lettersOfWord 9 = .ok (.if_icmp .ge 19, 3) := by decide +kernel
theorem d_MO_lettersOfWord_12 : decode b_MO_lettersOfWord 12 = .ok (.iload_n 1, 1) := by decide +kernel
theorem d_MO_lettersOfWord_13 : decode b_MO_lettersOfWord 13 = .ok (.iconst 1, 1) := by decide +kernel
theorem d_MO_lettersOfWord_14 : decode b_MO_lettersOfWord 14 = .ok (.aload_n 0, 1) := by decide +kernel
theorem d_MO_lettersOfWord_15 : decode b_MO_lettersOfWord 15 = .ok (.iload_n 2, 1) := by decide +kernel
theorem d_MO_lettersOfWord_16 : decode b_MO_lettersOfWord 16 = .ok (.invokevirtual 64, 3) := by decide +kernel
theorem d_MO_lettersOfWord_19 : decode b_MO_lettersOfWord 19 = .ok (.ishl, 1) := by decide +kernel
theorem d_MO_lettersOfWord_20 : decode b_MO_lettersOfWord 20 = .ok (.ior, 1) := by decide +kernel
theorem d_MO_lettersOfWord_21 : decode b_MO_lettersOfWord 21 = .ok (.istore_n 1, 1) := by decide +kernel
theorem d_MO_lettersOfWord_22 : decode b_MO_lettersOfWord 22 = .ok (.iinc 2 1, 3) := by decide +kernel
theorem d_MO_lettersOfWord_25 : decode b_MO_lettersOfWord 25 = .ok (.goto (-21), 3) := by decide +kernel
theorem d_MO_lettersOfWord_28 : decode b_MO_lettersOfWord 28 = .ok (.iload_n 1, 1) := by decide +kernel
theorem d_MO_lettersOfWord_29 : decode b_MO_lettersOfWord 29 = .ok (.ireturn, 1) := by decide +kernel
theorem d_MO_count_0 : decode b_MO_count 0 = .ok (.iload_n 1, 1) := by decide +kernel
theorem d_MO_count_1 : decode b_MO_count 1 = .ok (.tableswitch 128 0 7 #[47, 52, 57, 66, 87, 113, 118, 123], 47) := by decide +kernel
theorem d_MO_count_48 : decode b_MO_count 48 = .ok (.aload_n 0, 1) := by decide +kernel
theorem d_MO_count_49 : decode b_MO_count 49 = .ok (.invokevirtual 60, 3) := by decide +kernel
theorem d_MO_count_52 : decode b_MO_count 52 = .ok (.ireturn, 1) := by decide +kernel
theorem d_MO_count_53 : decode b_MO_count 53 = .ok (.aload_n 0, 1) := by decide +kernel
theorem d_MO_count_54 : decode b_MO_count 54 = .ok (.invokevirtual 178, 3) := by decide +kernel
theorem d_MO_count_57 : decode b_MO_count 57 = .ok (.ireturn, 1) := by decide +kernel
theorem d_MO_count_58 : decode b_MO_count 58 = .ok (.aload_n 0, 1) := by decide +kernel
theorem d_MO_count_59 : decode b_MO_count 59 = .ok (.getfield 7, 3) := by decide +kernel
theorem d_MO_count_62 : decode b_MO_count 62 = .ok (.sipush 337, 3) := by decide +kernel
theorem d_MO_count_65 : decode b_MO_count 65 = .ok (.iaload, 1) := by decide +kernel
theorem d_MO_count_66 : decode b_MO_count 66 = .ok (.ireturn, 1) := by decide +kernel
theorem d_MO_count_67 : decode b_MO_count 67 = .ok (.aload_n 0, 1) := by decide +kernel
theorem d_MO_count_68 : decode b_MO_count 68 = .ok (.getfield 7, 3) := by decide +kernel
theorem d_MO_count_71 : decode b_MO_count 71 = .ok (.sipush 337, 3) := by decide +kernel
theorem d_MO_count_74 : decode b_MO_count 74 = .ok (.iaload, 1) := by decide +kernel
theorem d_MO_count_75 : decode b_MO_count 75 = .ok (.ifCond .ne 8, 3) := by decide +kernel
theorem d_MO_count_78 : decode b_MO_count 78 = .ok (.bipush (-5), 2) := by decide +kernel
theorem d_MO_count_80 : decode b_MO_count 80 = .ok (.goto 7, 3) := by decide +kernel
theorem d_MO_count_83 : decode b_MO_count 83 = .ok (.aload_n 0, 1) := by decide +kernel
theorem d_MO_count_84 : decode b_MO_count 84 = .ok (.invokevirtual 109, 3) := by decide +kernel
theorem d_MO_count_87 : decode b_MO_count 87 = .ok (.ireturn, 1) := by decide +kernel
theorem d_MO_count_88 : decode b_MO_count 88 = .ok (.aload_n 0, 1) := by decide +kernel
theorem d_MO_count_89 : decode b_MO_count 89 = .ok (.invokevirtual 109, 3) := by decide +kernel
theorem d_MO_count_92 : decode b_MO_count 92 = .ok (.pop, 1) := by decide +kernel
theorem d_MO_count_93 : decode b_MO_count 93 = .ok (.aload_n 0, 1) := by decide +kernel
theorem d_MO_count_94 : decode b_MO_count 94 = .ok (.getfield 7, 3) := by decide +kernel
theorem d_MO_count_97 : decode b_MO_count 97 = .ok (.sipush 337, 3) := by decide +kernel
theorem d_MO_count_100 : decode b_MO_count 100 = .ok (.iaload, 1) := by decide +kernel
theorem d_MO_count_101 : decode b_MO_count 101 = .ok (.ifCond .ne 8, 3) := by decide +kernel
theorem d_MO_count_104 : decode b_MO_count 104 = .ok (.bipush (-5), 2) := by decide +kernel
theorem d_MO_count_106 : decode b_MO_count 106 = .ok (.goto 7, 3) := by decide +kernel
theorem d_MO_count_109 : decode b_MO_count 109 = .ok (.aload_n 0, 1) := by decide +kernel
theorem d_MO_count_110 : decode b_MO_count 110 = .ok (.getfield 112, 3) := by decide +kernel
theorem d_MO_count_113 : decode b_MO_count 113 = .ok (.ireturn, 1) := by decide +kernel
theorem d_MO_count_114 : decode b_MO_count 114 = .ok (.aload_n 0, 1) := by decide +kernel
theorem d_MO_count_115 : decode b_MO_count 115 = .ok (.invokevirtual 86, 3) := by decide +kernel
theorem d_MO_count_118 : decode b_MO_count 118 = .ok (.ireturn, 1) := by decide +kernel
theorem d_MO_count_119 : decode b_MO_count 119 = .ok (.aload_n 0, 1) := by decide +kernel
theorem d_MO_count_120 : decode b_MO_count 120 = .ok (.getfield 48, 3) := by decide +kernel
theorem d_MO_count_123 : decode b_MO_count 123 = .ok (.ireturn, 1) := by decide +kernel
theorem d_MO_count_124 : decode b_MO_count 124 = .ok (.aload_n 0, 1) := by decide +kernel
theorem d_MO_count_125 : decode b_MO_count 125 = .ok (.getfield 131, 3) := by decide +kernel
theorem d_MO_count_128 : decode b_MO_count 128 = .ok (.ireturn, 1) := by decide +kernel
theorem d_MO_count_129 : decode b_MO_count 129 = .ok (.bipush (-2), 2) := by decide +kernel
theorem d_MO_count_131 : decode b_MO_count 131 = .ok (.ireturn, 1) := by decide +kernel
end
section
-- whole numbers as ints of the machine
def zI (z : Int) : Int32 := Int32.ofInt z
abbrev zV (z : Int) : Value := .int (zI z)
theorem zI_add (a b : Int) : zI a + zI b = zI (a + b) := (Int32.ofInt_add a b).symm
theorem zI_sub (a b : Int) : zI a - zI b = zI (a - b) := (Int32.ofInt_sub a b).symm
theorem zI_mul (a b : Int) : zI a * zI b = zI (a * b) := (Int32.ofInt_mul a b).symm
theorem zI_toInt {a : Int} (h : -2147483648 ≤ a ∧ a ≤ 2147483647) : (zI a).toInt = a := Int32.toInt_ofInt_of_le (by omega) (by omega)
theorem zI_lt {a b : Int} (ha : -2147483648 ≤ a ∧ a ≤ 2147483647) (hb : -2147483648 ≤ b ∧ b ≤ 2147483647) : zI a < zI b ↔ a < b := by rw [Int32.lt_iff_toInt_lt, zI_toInt ha, zI_toInt hb]
theorem zI_le {a b : Int} (ha : -2147483648 ≤ a ∧ a ≤ 2147483647) (hb : -2147483648 ≤ b ∧ b ≤ 2147483647) : zI a ≤ zI b ↔ a ≤ b := by rw [Int32.le_iff_toInt_le, zI_toInt ha, zI_toInt hb]
theorem zI_eq {a b : Int} (ha : -2147483648 ≤ a ∧ a ≤ 2147483647) (hb : -2147483648 ≤ b ∧ b ≤ 2147483647) : zI a = zI b ↔ a = b := by
  rw [← Int32.toInt_inj, zI_toInt ha, zI_toInt hb]
theorem zI_0 : (0 : Int32) = zI 0 := by decide +kernel
theorem zI_n {a : Int} (h : 0 ≤ a ∧ a ≤ 2147483647) : (zI a).toNatClampNeg = a.toNat := Int32.toNatClampNeg_ofInt_of_le (by omega) (by omega)
theorem zI_of (x : Int32) : ∃ a : Int, x = zI a ∧ -2147483648 ≤ a ∧ a ≤ 2147483647 := ⟨x.toInt, (Int32.ofInt_toInt x).symm, by have := x.le_toInt; omega, by have := x.toInt_lt; omega⟩
theorem zI_nat (n : Nat) : Int32.ofNat n = zI (n : Int) := by
  unfold zI
  rw [Int32.ofInt_eq_ofNat]
theorem zI_in {a : Int} {n : Nat} (h0 : 0 ≤ a) (h1 : a < n) (h2 : a ≤ 2147483647) : vp_in (zI a) n := by
  unfold vp_in
  rw [zI_n ⟨h0, h2⟩, zI_0, zI_lt (by omega) (by omega)]
  omega
-- the machine's things that a walk carries along
abbrev MX : Type := Program × Launch × Env × State × MethodId × Array Value × List Frame × Method × Code
abbrev GG : Type := va_G × (Nat → ClassId)
def tys (D : GG) : List (ClassId × FieldType) := [(D.2 0, .int), (D.2 1, .long), (D.2 2, .char), (D.2 3, .object "MorphWords$Letters"), (D.2 4, .object "MorphWords$State")]
def KK (D : GG) (U : State) : Prop := va_K D.1 classes (tys D) U ∧ (∀ q ∈ nests, va_Nw (.methodLinkNest q.1 q.2.1 q.2.2.1 q.2.2.2) U) ∧ va_AO "MorphWords$Letters" U ∧ va_AO "MorphWords$State" U
theorem KK.warm {D : GG} {s U : State} (hW : s.WarmedH U.vm) (h : KK D s) : KK D U := ⟨va_K.moved hW.alike h.1, fun q hq => (h.2.1 q hq).warmM hW, va_AO.moved hW.alike h.2.2.1, va_AO.moved hW.alike h.2.2.2⟩
theorem KK.same {D : GG} {s U : State} (hv : s.vm = U.vm) (h : KK D s) : KK D U := by
  have ha : s.vm.Alike U.vm := by rw [hv]; exact Vm.Alike.refl _
  exact ⟨va_K.moved ha h.1, fun q hq => (h.2.1 q hq).same rfl hv, va_AO.moved ha h.2.2.1, va_AO.moved ha h.2.2.2⟩
def FR (A : Nat → Prop) (H0 H : Heap) (n : Nat) : Prop := H.size = H0.size + n ∧ ∀ q : Nat, q < H0.size → ¬ A q → H[q]? = H0[q]?
theorem FR.put {A : Nat → Prop} {H0 H H1 : Heap} {n a : Nat} (h : FR A H0 H n) (hz : H1.size = H.size) (hq : ∀ q : Nat, q ≠ a → H1[q]? = H[q]?) (ha : A a) : FR A H0 H1 n :=
  ⟨hz.trans h.1, fun q h1 h2 => by
    have hne : q ≠ a := fun e => h2 (by rw [e]; exact ha)
    rw [hq q hne]; exact h.2 q h1 h2⟩
theorem FR.call {A A1 : Nat → Prop} {H0 H H1 : Heap} {n k : Nat} (h : FR A H0 H n) (h1 : FR A1 H H1 k) (hs : ∀ q, A1 q → A q) : FR A H0 H1 (n + k) :=
  ⟨by rw [h1.1, h.1]; omega, fun q g1 g2 => by
    have hl : q < H.size := by have := h.1; omega
    rw [h1.2 q hl (fun z => g2 (hs q z))]; exact h.2 q g1 g2⟩
def X (M : MX) (R : Room) (nL : Nat) (A : Nat → Prop) (cs sl : Nat) (Q : State → Prop) (pc : Nat) (L : List (Nat × Value)) (st : List Value) (H : Heap) : Prop :=
  ∀ (ls : Array Slot) (locs : List Loc), lv_has ls nL L → (∀ q ∈ locs, A q.base) → FR A M.2.2.2.1.heap H cs → W M.1 M.2.1 M.2.2.1 R M.2.2.2.1 M.2.2.2.2.1 M.2.2.2.2.2.1 M.2.2.2.2.2.2.1 M.2.2.2.2.2.2.2.1 M.2.2.2.2.2.2.2.2 H locs cs sl Q (F0 M.2.2.2.2.1 pc ls st)
def Ok (D : GG) (M : MX) (cc : ByteArray) (nL : Nat) (own : String) : Prop :=
  M.1.tables.exec = Jvm.exec ∧ M.2.2.2.2.2.2.2.2.code = cc ∧ M.2.2.2.2.2.2.2.2.maxLocals = nL ∧ M.2.2.2.1.vm.findClass own = some M.2.2.2.2.1.cls ∧ (∀ w ∈ gtbl, w.before M.2.2.2.2.2.1 M.2.2.2.1 = true) ∧ KK D M.2.2.2.1 ∧ M.2.2.2.2.2.2.2.1.locks = false
section ROWS
variable {D : GG} {M : MX} {R : Room} {cc : ByteArray} {nL : Nat} {own : String} {A : Nat → Prop} {cs sl : Nat} {Q : State → Prop} {pc : Nat} {L : List (Nat × Value)} {st : List Value} {H : Heap}
theorem x_iconst (ho : Ok D M cc nL own) {n : Int} (hd : decode cc pc = .ok (.iconst n, 1)) (k : X M R nL A cs sl Q (pc + 1) L (zV n :: st) H) : X M R nL A cs sl Q pc L st H := fun ls locs h1 h2 h3 => lv_iconst ho.1 ho.2.1 hd rfl (k ls locs h1 h2 h3)
theorem x_bipush (ho : Ok D M cc nL own) {n z : Int} (hd : decode cc pc = .ok (.bipush n, 2)) (hv : (Int8.ofInt n).toInt32 = zI z) (k : X M R nL A cs sl Q (pc + 2) L (zV z :: st) H) : X M R nL A cs sl Q pc L st H := fun ls locs h1 h2 h3 => lv_bipush ho.1 ho.2.1 hd hv (k ls locs h1 h2 h3)
theorem x_sipush (ho : Ok D M cc nL own) {n z : Int} (hd : decode cc pc = .ok (.sipush n, 3)) (hv : (Int16.ofInt n).toInt32 = zI z) (k : X M R nL A cs sl Q (pc + 3) L (zV z :: st) H) : X M R nL A cs sl Q pc L st H := fun ls locs h1 h2 h3 => lv_sipush ho.1 ho.2.1 hd hv (k ls locs h1 h2 h3)
theorem x_ldc (ho : Ok D M cc nL own) {idx : Nat} {v : Int32} {z : Int} (hd : decode cc pc = .ok (.ldc idx, 2)) (hw : Cond.constant own idx v ∈ gtbl) (hv : v = zI z) (k : X M R nL A cs sl Q (pc + 2) L (zV z :: st) H) : X M R nL A cs sl Q pc L st H := fun ls locs h1 h2 h3 => lv_ldc ho.1 ho.2.1 ho.2.2.2.1 (ho.2.2.2.2.1 _ hw) hd (by subst hv; exact k ls locs h1 h2 h3)
theorem x_iload_n (ho : Ok D M cc nL own) {k : Fin 4} {x : Int32} (j : Nat) (hd : decode cc pc = .ok (.iload_n k, 1)) (hj : L[j]? = some (k.val, .int x)) (kk : X M R nL A cs sl Q (pc + 1) L (.int x :: st) H) : X M R nL A cs sl Q pc L st H := fun ls locs h1 h2 h3 => lv_iload_n ho.1 ho.2.1 hd rfl (lv_at h1 j hj) (kk ls locs h1 h2 h3)
theorem x_iload (ho : Ok D M cc nL own) {i : Nat} {x : Int32} (j : Nat) (hd : decode cc pc = .ok (.iload i, 2)) (hj : L[j]? = some (i, .int x)) (kk : X M R nL A cs sl Q (pc + 2) L (.int x :: st) H) : X M R nL A cs sl Q pc L st H := fun ls locs h1 h2 h3 => lv_iload ho.1 ho.2.1 hd (lv_at h1 j hj) (kk ls locs h1 h2 h3)
theorem x_aload_n (ho : Ok D M cc nL own) {k : Fin 4} {x : Nat} (j : Nat) (hd : decode cc pc = .ok (.aload_n k, 1)) (hj : L[j]? = some (k.val, .ref x)) (kk : X M R nL A cs sl Q (pc + 1) L (.ref x :: st) H) : X M R nL A cs sl Q pc L st H := fun ls locs h1 h2 h3 => lv_aload_n ho.1 ho.2.1 hd rfl (lv_at h1 j hj) (kk ls locs h1 h2 h3)
theorem x_aload (ho : Ok D M cc nL own) {i : Nat} {x : Nat} (j : Nat) (hd : decode cc pc = .ok (.aload i, 2)) (hj : L[j]? = some (i, .ref x)) (kk : X M R nL A cs sl Q (pc + 2) L (.ref x :: st) H) : X M R nL A cs sl Q pc L st H := fun ls locs h1 h2 h3 => lv_aload ho.1 ho.2.1 hd (lv_at h1 j hj) (kk ls locs h1 h2 h3)
theorem x_lload_n (ho : Ok D M cc nL own) {k : Fin 4} {x : Int64} (j : Nat) (hd : decode cc pc = .ok (.lload_n k, 1)) (hj : L[j]? = some (k.val, .long x)) (kk : X M R nL A cs sl Q (pc + 1) L (.long x :: st) H) : X M R nL A cs sl Q pc L st H := fun ls locs h1 h2 h3 => lv_lload_n ho.1 ho.2.1 hd rfl (lv_at h1 j hj) (kk ls locs h1 h2 h3)
theorem x_lload (ho : Ok D M cc nL own) {i : Nat} {x : Int64} (j : Nat) (hd : decode cc pc = .ok (.lload i, 2)) (hj : L[j]? = some (i, .long x)) (kk : X M R nL A cs sl Q (pc + 2) L (.long x :: st) H) : X M R nL A cs sl Q pc L st H := fun ls locs h1 h2 h3 => lv_lload ho.1 ho.2.1 hd (lv_at h1 j hj) (kk ls locs h1 h2 h3)
theorem x_istore_n (ho : Ok D M cc nL own) {k : Fin 4} {x : Int32} {L' : List (Nat × Value)} (hd : decode cc pc = .ok (.istore_n k, 1)) (hn : k.val < nL) (hl : (k.val, Value.int x) :: L.filter (fun q => !(q.1 == k.val) && !(q.1 + 1 == k.val && q.2.category == 2)) = L') (kk : X M R nL A cs sl Q (pc + 1) L' st H) : X M R nL A cs sl Q pc L (.int x :: st) H := fun ls locs h1 h2 h3 => lv_istore_n ho.1 ho.2.1 hd rfl h1 hn hl (fun ls' h' => kk ls' locs h' h2 h3)
theorem x_istore (ho : Ok D M cc nL own) {k : Nat} {x : Int32} {L' : List (Nat × Value)} (hd : decode cc pc = .ok (.istore k, 2)) (hn : k < nL) (hl : (k, Value.int x) :: L.filter (fun q => !(q.1 == k) && !(q.1 + 1 == k && q.2.category == 2)) = L') (kk : X M R nL A cs sl Q (pc + 2) L' st H) : X M R nL A cs sl Q pc L (.int x :: st) H := fun ls locs h1 h2 h3 => lv_istore ho.1 ho.2.1 hd h1 hn hl (fun ls' h' => kk ls' locs h' h2 h3)
theorem x_astore_n (ho : Ok D M cc nL own) {k : Fin 4} {x : Nat} {L' : List (Nat × Value)} (hd : decode cc pc = .ok (.astore_n k, 1)) (hn : k.val < nL) (hl : (k.val, Value.ref x) :: L.filter (fun q => !(q.1 == k.val) && !(q.1 + 1 == k.val && q.2.category == 2)) = L') (kk : X M R nL A cs sl Q (pc + 1) L' st H) : X M R nL A cs sl Q pc L (.ref x :: st) H := fun ls locs h1 h2 h3 => lv_astore_n ho.1 ho.2.1 hd rfl h1 hn hl (fun ls' h' => kk ls' locs h' h2 h3)
theorem x_lstore_n (ho : Ok D M cc nL own) {k : Fin 4} {x : Int64} {L' : List (Nat × Value)} (hd : decode cc pc = .ok (.lstore_n k, 1)) (hn : k.val + 1 < nL) (hl : (k.val, Value.long x) :: L.filter (fun q => !(q.1 == k.val) && (!(q.1 == k.val + 1) && !(q.1 + 1 == k.val && q.2.category == 2))) = L') (kk : X M R nL A cs sl Q (pc + 1) L' st H) : X M R nL A cs sl Q pc L (.long x :: st) H := fun ls locs h1 h2 h3 => lv_lstore_n ho.1 ho.2.1 hd rfl h1 hn hl (fun ls' h' => kk ls' locs h' h2 h3)
theorem x_lstore (ho : Ok D M cc nL own) {k : Nat} {x : Int64} {L' : List (Nat × Value)} (hd : decode cc pc = .ok (.lstore k, 2)) (hn : k + 1 < nL) (hl : (k, Value.long x) :: L.filter (fun q => !(q.1 == k) && (!(q.1 == k + 1) && !(q.1 + 1 == k && q.2.category == 2))) = L') (kk : X M R nL A cs sl Q (pc + 2) L' st H) : X M R nL A cs sl Q pc L (.long x :: st) H := fun ls locs h1 h2 h3 => lv_lstore ho.1 ho.2.1 hd h1 hn hl (fun ls' h' => kk ls' locs h' h2 h3)
theorem x_iinc (ho : Ok D M cc nL own) {i : Nat} {n x z : Int} {L' : List (Nat × Value)} (j : Nat) (hd : decode cc pc = .ok (.iinc i n, 3)) (hj : L[j]? = some (i, zV x)) (hz : x + n = z) (hn : i < nL) (hl : (i, zV z) :: L.filter (fun q => !(q.1 == i) && !(q.1 + 1 == i && q.2.category == 2)) = L') (kk : X M R nL A cs sl Q (pc + 3) L' st H) : X M R nL A cs sl Q pc L st H := fun ls locs h1 h2 h3 => lv_iinc ho.1 ho.2.1 hd h1 hj (by subst hz; exact zI_add x n) hn hl (fun ls' h' => kk ls' locs h' h2 h3)
theorem x_iadd (ho : Ok D M cc nL own) {a b : Int} (hd : decode cc pc = .ok (.iadd, 1)) (k : X M R nL A cs sl Q (pc + 1) L (zV (a + b) :: st) H) : X M R nL A cs sl Q pc L (zV b :: zV a :: st) H := fun ls locs h1 h2 h3 => lv_iadd ho.1 ho.2.1 hd (by rw [zI_add]; exact k ls locs h1 h2 h3)
theorem x_isub (ho : Ok D M cc nL own) {a b : Int} (hd : decode cc pc = .ok (.isub, 1)) (k : X M R nL A cs sl Q (pc + 1) L (zV (a - b) :: st) H) : X M R nL A cs sl Q pc L (zV b :: zV a :: st) H := fun ls locs h1 h2 h3 => lv_isub ho.1 ho.2.1 hd (by rw [zI_sub]; exact k ls locs h1 h2 h3)
theorem x_imul (ho : Ok D M cc nL own) {a b : Int} (hd : decode cc pc = .ok (.imul, 1)) (k : X M R nL A cs sl Q (pc + 1) L (zV (a * b) :: st) H) : X M R nL A cs sl Q pc L (zV b :: zV a :: st) H := fun ls locs h1 h2 h3 => lv_imul ho.1 ho.2.1 hd (by rw [zI_mul]; exact k ls locs h1 h2 h3)
theorem zI_div {a b : Int} (ha : 0 ≤ a ∧ a ≤ 2147483647) (hb : 0 < b ∧ b ≤ 2147483647) : zI a / zI b = zI (a / b) := by
  have h := Int32.ofInt_tdiv (a := a) (b := b) (by show (-2147483648 : Int) ≤ a; omega) (by show a ≤ (2147483647 : Int); omega) (by show (-2147483648 : Int) ≤ b; omega) (by show b ≤ (2147483647 : Int); omega)
  unfold zI
  rw [← h, Int.tdiv_eq_ediv_of_nonneg ha.1]
theorem zI_mod {a b : Int} (ha : 0 ≤ a ∧ a ≤ 2147483647) (hb : 0 < b ∧ b ≤ 2147483647) : zI a - zI a / zI b * zI b = zI (a % b) := by
  rw [zI_div ha hb, zI_mul, zI_sub, Int.emod_def, Int.mul_comm b]
theorem x_idiv (ho : Ok D M cc nL own) {a b : Int} (hd : decode cc pc = .ok (.idiv, 1)) (ha : 0 ≤ a ∧ a ≤ 2147483647) (hb : 0 < b ∧ b ≤ 2147483647) (k : X M R nL A cs sl Q (pc + 1) L (zV (a / b) :: st) H) : X M R nL A cs sl Q pc L (zV b :: zV a :: st) H := fun ls locs h1 h2 h3 => lv_idiv ho.1 ho.2.1 hd (by rw [zI_0, zI_eq (by omega) (by omega)]; omega) (by rw [zI_div ha hb]; exact k ls locs h1 h2 h3)
theorem x_irem (ho : Ok D M cc nL own) {a b : Int} (hd : decode cc pc = .ok (.irem, 1)) (ha : 0 ≤ a ∧ a ≤ 2147483647) (hb : 0 < b ∧ b ≤ 2147483647) (k : X M R nL A cs sl Q (pc + 1) L (zV (a % b) :: st) H) : X M R nL A cs sl Q pc L (zV b :: zV a :: st) H := fun ls locs h1 h2 h3 => lv_irem ho.1 ho.2.1 hd (by rw [zI_0, zI_eq (by omega) (by omega)]; omega) (by rw [zI_mod ha hb]; exact k ls locs h1 h2 h3)
theorem x_ineg (ho : Ok D M cc nL own) {a : Int} (hd : decode cc pc = .ok (.ineg, 1)) (k : X M R nL A cs sl Q (pc + 1) L (zV (-a) :: st) H) : X M R nL A cs sl Q pc L (zV a :: st) H := fun ls locs h1 h2 h3 => lv_ineg ho.1 ho.2.1 hd (by rw [show -zI a = zI (-a) from (Int32.ofInt_neg a).symm]; exact k ls locs h1 h2 h3)
theorem x_dup (ho : Ok D M cc nL own) {v : Value} (hd : decode cc pc = .ok (.dup, 1)) (hv : v.category = 1) (k : X M R nL A cs sl Q (pc + 1) L (v :: v :: st) H) : X M R nL A cs sl Q pc L (v :: st) H := fun ls locs h1 h2 h3 => lv_dup ho.1 ho.2.1 hd hv (k ls locs h1 h2 h3)
theorem x_dup2 (ho : Ok D M cc nL own) {v w : Value} (hd : decode cc pc = .ok (.dup2, 1)) (hv : v.category = 1) (hw : w.category = 1) (k : X M R nL A cs sl Q (pc + 1) L (v :: w :: v :: w :: st) H) : X M R nL A cs sl Q pc L (v :: w :: st) H := fun ls locs h1 h2 h3 => lv_dup2_11 ho.1 ho.2.1 hd hv hw (k ls locs h1 h2 h3)
theorem x_pop (ho : Ok D M cc nL own) {v : Value} (hd : decode cc pc = .ok (.pop, 1)) (hv : v.category = 1) (k : X M R nL A cs sl Q (pc + 1) L st H) : X M R nL A cs sl Q pc L (v :: st) H := fun ls locs h1 h2 h3 => lv_pop ho.1 ho.2.1 hd hv (k ls locs h1 h2 h3)
theorem x_goto (ho : Ok D M cc nL own) {off : Int} {tgt : Nat} (hd : decode cc pc = .ok (.goto off, 3)) (ht : (pc : Int) + off = (tgt : Int)) (k : X M R nL A cs sl Q tgt L st H) : X M R nL A cs sl Q pc L st H := fun ls locs h1 h2 h3 => lv_goto ho.1 ho.2.1 hd ht (k ls locs h1 h2 h3)
theorem x_icmp_lt (ho : Ok D M cc nL own) {a b : Int} {off : Int} {tgt : Nat} (hd : decode cc pc = .ok (.if_icmp .lt off, 3)) (ht : (pc : Int) + off = (tgt : Int)) (ha : -2147483648 ≤ a ∧ a ≤ 2147483647) (hb : -2147483648 ≤ b ∧ b ≤ 2147483647) (kt : a < b → X M R nL A cs sl Q tgt L st H) (kf : ¬ a < b → X M R nL A cs sl Q (pc + 3) L st H) : X M R nL A cs sl Q pc L (zV b :: zV a :: st) H := fun ls locs h1 h2 h3 => lv_icmp_lt ho.1 ho.2.1 hd ht (fun h => kt ((zI_lt ha hb).mp h) ls locs h1 h2 h3) (fun h => kf (fun q => h ((zI_lt ha hb).mpr q)) ls locs h1 h2 h3)
theorem x_icmp_ge (ho : Ok D M cc nL own) {a b : Int} {off : Int} {tgt : Nat} (hd : decode cc pc = .ok (.if_icmp .ge off, 3)) (ht : (pc : Int) + off = (tgt : Int)) (ha : -2147483648 ≤ a ∧ a ≤ 2147483647) (hb : -2147483648 ≤ b ∧ b ≤ 2147483647) (kt : b ≤ a → X M R nL A cs sl Q tgt L st H) (kf : ¬ b ≤ a → X M R nL A cs sl Q (pc + 3) L st H) : X M R nL A cs sl Q pc L (zV b :: zV a :: st) H := fun ls locs h1 h2 h3 => lv_icmp_ge ho.1 ho.2.1 hd ht (fun h => kt ((zI_le hb ha).mp h) ls locs h1 h2 h3) (fun h => kf (fun q => h ((zI_le hb ha).mpr q)) ls locs h1 h2 h3)
theorem x_icmp_gt (ho : Ok D M cc nL own) {a b : Int} {off : Int} {tgt : Nat} (hd : decode cc pc = .ok (.if_icmp .gt off, 3)) (ht : (pc : Int) + off = (tgt : Int)) (ha : -2147483648 ≤ a ∧ a ≤ 2147483647) (hb : -2147483648 ≤ b ∧ b ≤ 2147483647) (kt : b < a → X M R nL A cs sl Q tgt L st H) (kf : ¬ b < a → X M R nL A cs sl Q (pc + 3) L st H) : X M R nL A cs sl Q pc L (zV b :: zV a :: st) H := fun ls locs h1 h2 h3 => lv_icmp_gt ho.1 ho.2.1 hd ht (fun h => kt ((zI_lt hb ha).mp h) ls locs h1 h2 h3) (fun h => kf (fun q => h ((zI_lt hb ha).mpr q)) ls locs h1 h2 h3)
theorem x_icmp_le (ho : Ok D M cc nL own) {a b : Int} {off : Int} {tgt : Nat} (hd : decode cc pc = .ok (.if_icmp .le off, 3)) (ht : (pc : Int) + off = (tgt : Int)) (ha : -2147483648 ≤ a ∧ a ≤ 2147483647) (hb : -2147483648 ≤ b ∧ b ≤ 2147483647) (kt : a ≤ b → X M R nL A cs sl Q tgt L st H) (kf : ¬ a ≤ b → X M R nL A cs sl Q (pc + 3) L st H) : X M R nL A cs sl Q pc L (zV b :: zV a :: st) H := fun ls locs h1 h2 h3 => lv_icmp_le ho.1 ho.2.1 hd ht (fun h => kt ((zI_le ha hb).mp h) ls locs h1 h2 h3) (fun h => kf (fun q => h ((zI_le ha hb).mpr q)) ls locs h1 h2 h3)
theorem x_icmp_eq (ho : Ok D M cc nL own) {a b : Int} {off : Int} {tgt : Nat} (hd : decode cc pc = .ok (.if_icmp .eq off, 3)) (ht : (pc : Int) + off = (tgt : Int)) (ha : -2147483648 ≤ a ∧ a ≤ 2147483647) (hb : -2147483648 ≤ b ∧ b ≤ 2147483647) (kt : a = b → X M R nL A cs sl Q tgt L st H) (kf : ¬ a = b → X M R nL A cs sl Q (pc + 3) L st H) : X M R nL A cs sl Q pc L (zV b :: zV a :: st) H := fun ls locs h1 h2 h3 => lv_icmp_eq ho.1 ho.2.1 hd ht (fun h => kt ((zI_eq ha hb).mp h) ls locs h1 h2 h3) (fun h => kf (fun q => h ((zI_eq ha hb).mpr q)) ls locs h1 h2 h3)
theorem x_icmp_ne (ho : Ok D M cc nL own) {a b : Int} {off : Int} {tgt : Nat} (hd : decode cc pc = .ok (.if_icmp .ne off, 3)) (ht : (pc : Int) + off = (tgt : Int)) (ha : -2147483648 ≤ a ∧ a ≤ 2147483647) (hb : -2147483648 ≤ b ∧ b ≤ 2147483647) (kt : ¬ a = b → X M R nL A cs sl Q tgt L st H) (kf : a = b → X M R nL A cs sl Q (pc + 3) L st H) : X M R nL A cs sl Q pc L (zV b :: zV a :: st) H := fun ls locs h1 h2 h3 => lv_icmp_ne ho.1 ho.2.1 hd ht (fun h => kt (fun q => h ((zI_eq ha hb).mpr q)) ls locs h1 h2 h3) (fun h => kf ((zI_eq ha hb).mp h) ls locs h1 h2 h3)
theorem x_if_lt (ho : Ok D M cc nL own) {a : Int} {off : Int} {tgt : Nat} (hd : decode cc pc = .ok (.ifCond .lt off, 3)) (ht : (pc : Int) + off = (tgt : Int)) (ha : -2147483648 ≤ a ∧ a ≤ 2147483647) (kt : a < 0 → X M R nL A cs sl Q tgt L st H) (kf : ¬ a < 0 → X M R nL A cs sl Q (pc + 3) L st H) : X M R nL A cs sl Q pc L (zV a :: st) H := fun ls locs h1 h2 h3 => lv_if_lt ho.1 ho.2.1 hd ht (fun h => kt ((zI_lt ha (by omega)).mp (by rw [← zI_0]; exact h)) ls locs h1 h2 h3) (fun h => kf (fun q => h (by rw [zI_0]; exact (zI_lt ha (by omega)).mpr q)) ls locs h1 h2 h3)
theorem x_if_ge (ho : Ok D M cc nL own) {a : Int} {off : Int} {tgt : Nat} (hd : decode cc pc = .ok (.ifCond .ge off, 3)) (ht : (pc : Int) + off = (tgt : Int)) (ha : -2147483648 ≤ a ∧ a ≤ 2147483647) (kt : 0 ≤ a → X M R nL A cs sl Q tgt L st H) (kf : ¬ 0 ≤ a → X M R nL A cs sl Q (pc + 3) L st H) : X M R nL A cs sl Q pc L (zV a :: st) H := fun ls locs h1 h2 h3 => lv_if_ge ho.1 ho.2.1 hd ht (fun h => kt ((zI_le (by omega) ha).mp (by rw [← zI_0]; exact h)) ls locs h1 h2 h3) (fun h => kf (fun q => h (by rw [zI_0]; exact (zI_le (by omega) ha).mpr q)) ls locs h1 h2 h3)
theorem x_if_gt (ho : Ok D M cc nL own) {a : Int} {off : Int} {tgt : Nat} (hd : decode cc pc = .ok (.ifCond .gt off, 3)) (ht : (pc : Int) + off = (tgt : Int)) (ha : -2147483648 ≤ a ∧ a ≤ 2147483647) (kt : 0 < a → X M R nL A cs sl Q tgt L st H) (kf : ¬ 0 < a → X M R nL A cs sl Q (pc + 3) L st H) : X M R nL A cs sl Q pc L (zV a :: st) H := fun ls locs h1 h2 h3 => lv_if_gt ho.1 ho.2.1 hd ht (fun h => kt ((zI_lt (by omega) ha).mp (by rw [← zI_0]; exact h)) ls locs h1 h2 h3) (fun h => kf (fun q => h (by rw [zI_0]; exact (zI_lt (by omega) ha).mpr q)) ls locs h1 h2 h3)
theorem x_if_le (ho : Ok D M cc nL own) {a : Int} {off : Int} {tgt : Nat} (hd : decode cc pc = .ok (.ifCond .le off, 3)) (ht : (pc : Int) + off = (tgt : Int)) (ha : -2147483648 ≤ a ∧ a ≤ 2147483647) (kt : a ≤ 0 → X M R nL A cs sl Q tgt L st H) (kf : ¬ a ≤ 0 → X M R nL A cs sl Q (pc + 3) L st H) : X M R nL A cs sl Q pc L (zV a :: st) H := fun ls locs h1 h2 h3 => lv_if_le ho.1 ho.2.1 hd ht (fun h => kt ((zI_le ha (by omega)).mp (by rw [← zI_0]; exact h)) ls locs h1 h2 h3) (fun h => kf (fun q => h (by rw [zI_0]; exact (zI_le ha (by omega)).mpr q)) ls locs h1 h2 h3)
theorem x_if_eq (ho : Ok D M cc nL own) {a : Int} {off : Int} {tgt : Nat} (hd : decode cc pc = .ok (.ifCond .eq off, 3)) (ht : (pc : Int) + off = (tgt : Int)) (ha : -2147483648 ≤ a ∧ a ≤ 2147483647) (kt : a = 0 → X M R nL A cs sl Q tgt L st H) (kf : ¬ a = 0 → X M R nL A cs sl Q (pc + 3) L st H) : X M R nL A cs sl Q pc L (zV a :: st) H := fun ls locs h1 h2 h3 => lv_if_eq ho.1 ho.2.1 hd ht (fun h => kt ((zI_eq ha (by omega)).mp (by rw [← zI_0]; exact h)) ls locs h1 h2 h3) (fun h => kf (fun q => h (by rw [zI_0]; exact (zI_eq ha (by omega)).mpr q)) ls locs h1 h2 h3)
theorem x_if_ne (ho : Ok D M cc nL own) {a : Int} {off : Int} {tgt : Nat} (hd : decode cc pc = .ok (.ifCond .ne off, 3)) (ht : (pc : Int) + off = (tgt : Int)) (ha : -2147483648 ≤ a ∧ a ≤ 2147483647) (kt : ¬ a = 0 → X M R nL A cs sl Q tgt L st H) (kf : a = 0 → X M R nL A cs sl Q (pc + 3) L st H) : X M R nL A cs sl Q pc L (zV a :: st) H := fun ls locs h1 h2 h3 => lv_if_ne ho.1 ho.2.1 hd ht (fun h => kt (fun q => h (by rw [zI_0]; exact (zI_eq ha (by omega)).mpr q)) ls locs h1 h2 h3) (fun h => kf ((zI_eq ha (by omega)).mp (by rw [← zI_0]; exact h)) ls locs h1 h2 h3)
/-- fewer locals, in another order, or another name of the heap -/
theorem x_sub {L' : List (Nat × Value)} (ks : List Nat) (hl : lv_pick L ks = L') (k : X M R nL A cs sl Q pc L' st H) : X M R nL A cs sl Q pc L st H := fun ls locs h1 h2 h3 => k ls locs (lv_sub h1 ks hl) h2 h3
end ROWS
end
section
abbrev At (D : GG) (H : Heap) (a : Nat) (e : va_E) : Prop := va_at D.1 classes (a, e) H
abbrev oO (ci : Nat) (fs : List Value) : va_E := .inr (ci, fs)
abbrev oI (D : GG) (n : Nat) (f : Int → Int) : va_E := .inl (D.2 0, (n, .inl (fun j : Nat => zI (f (j : Int)))))
abbrev oC (D : GG) (n : Nat) (f : Int → Int) : va_E := .inl (D.2 2, (n, .inl (fun j : Nat => zI (f (j : Int)))))
abbrev oJ (D : GG) (n : Nat) (f : Int → Int64) : va_E := .inl (D.2 1, (n, .inr (.inl (fun j : Nat => f (j : Int)))))
abbrev oR (D : GG) (k n : Nat) (f : Int → Option Nat) : va_E := .inl (D.2 k, (n, .inr (.inr (.inr (.inr (fun j : Nat => f (j : Int)))))))
/-- a row with one place changed -/
def zU {α : Type} (f : Int → α) (i : Int) (v : α) : Int → α := fun j => if j = i then v else f j
theorem zU_s {α : Type} (f : Int → α) (i : Int) (v : α) : zU f i v i = v := if_pos rfl
theorem zU_n {α : Type} (f : Int → α) {i j : Int} (v : α) (h : j ≠ i) : zU f i v j = f j := if_neg h
theorem at_P {D : GG} {H : Heap} {a : Nat} {e : va_E} (h : At D H a e) : va_P D.1 classes [(a, e)] H := by
  intro k q hk
  have hz : k < 1 := (List.getElem?_eq_some_iff.mp hk).1
  rw [show k = 0 by omega] at hk
  cases hk
  exact h
theorem At.kept {D : GG} {H H1 : Heap} {a : Nat} {e : va_E} (h : At D H a e) (hq : H1[a]? = H[a]?) : At D H1 a e := va_at.kept h hq
theorem At.lt {D : GG} {H : Heap} {a : Nat} {e : va_E} (h : At D H a e) : a < H.size := va_at.lt h
/-- an object and an array aren't one cell; two fields lists of one address are those of one class -/
theorem At.ne {D : GG} {H : Heap} {a b : Nat} {n : Nat} {ci : Nat} {fs : List Value} {x : ClassId × vp_A} (hK : ∃ s : State, va_K D.1 classes (tys D) s) (h : a ≠ b) : a ≠ b := h
/-- what the tables say of a class -/
def Cl (ci : Nat) (C : String) (T : u_T) (N : Nat) (tf : Nat → FieldType) : Prop :=
  classes[ci]? = some (C, T, N) ∧ (∀ w ∈ u_ws C T N, w ∈ gtbl) ∧ (∀ k, k < N → parseFieldDescriptor (T k).2.2.1 = some (tf k)) ∧ ∀ a, a < N → ∀ b, b < N → a ≠ b → (T a).2.1 ≠ (T b).2.1
theorem cl_GR : Cl 0 R_GR F_GR 3 t_GR := ⟨rfl, i_GR, k_GR, n_GR⟩
theorem cl_HI : Cl 1 R_HI F_HI 2 t_HI := ⟨rfl, i_HI, k_HI, n_HI⟩
theorem cl_LE : Cl 2 R_LE F_LE 2 t_LE := ⟨rfl, i_LE, k_LE, n_LE⟩
theorem cl_LM : Cl 3 R_LM F_LM 2 t_LM := ⟨rfl, i_LM, k_LM, n_LM⟩
theorem cl_PT : Cl 4 R_PT F_PT 2 t_PT := ⟨rfl, i_PT, k_PT, n_PT⟩
theorem cl_PW : Cl 5 R_PW F_PW 2 t_PW := ⟨rfl, i_PW, k_PW, n_PW⟩
theorem cl_RT : Cl 6 R_RT F_RT 6 t_RT := ⟨rfl, i_RT, k_RT, n_RT⟩
theorem cl_RU : Cl 7 R_RU F_RU 2 t_RU := ⟨rfl, i_RU, k_RU, n_RU⟩
theorem cl_ST : Cl 8 R_ST F_ST 3 t_ST := ⟨rfl, i_ST, k_ST, n_ST⟩
theorem cl_TX : Cl 9 R_TX F_TX 2 t_TX := ⟨rfl, i_TX, k_TX, n_TX⟩
theorem cl_MW : Cl 10 R_MW F_MW 14 t_MW := ⟨rfl, i_MW, k_MW, n_MW⟩
theorem cl_MO : Cl 11 R_MO F_MO 17 t_MO := ⟨rfl, i_MO, k_MO, n_MO⟩
def QN (post : Option Value → Heap → Prop) (A : Nat → Prop) (n : Nat) : Array Value → State → Outcome → State → Prop := fun _ st oc t => ∃ v : Option Value, oc = .returned v ∧ post v t.heap ∧ FR A st.heap t.heap n
def Qof (M : MX) (A : Nat → Prop) (post : Option Value → Heap → Prop) (mc ms : Nat) : State → Prop := MQ M.2.2.2.2.2.2.1 (QN post A mc) M.2.2.2.2.2.1 M.2.2.2.1 mc ms A
/-- A METHOD'S CONTRACT: with these arguments, on a heap with 'pre', it returns, with 'post' of answer and heap; A: what it may change; mc, ms: what it makes -/
def Ct (l : Launch) (D : GG) (y : MethodName) (bytes : ByteArray) (maxL : Nat) (ret : Option FieldType) (rm : Room) (av : List Value) (pre : Heap → Prop) (A : Nat → Prop) (mc ms : Nat) (post : Option Value → Heap → Prop) : Prop :=
  Met l y (Cond.code y bytes maxL ret :: gtbl) rm (va_Pc av (fun U => pre U.heap ∧ KK D U)) (QN post A mc) mc ms A
theorem Ct.of {l : Launch} {D : GG} {y : MethodName} {bytes : ByteArray} {maxL : Nat} {ret : Option FieldType} {rm : Room} {av : List Value} {pre : Heap → Prop} {A : Nat → Prop} {mc ms : Nat} {post : Option Value → Heap → Prop} {L : List (Nat × Value)}
    (hy : plainName y.cls = true) (hs : (lg_sl av).length ≤ maxL) (hL : lv_args 0 av = L)
    (body : ∀ (M : MX) (H : Heap), Ok D M bytes maxL y.cls → M.2.2.2.2.2.2.2.1.sig.returnType = ret → M.2.2.2.2.2.2.2.1.name = y.name → M.2.2.2.1.heap = H → pre H → X M rm maxL A 0 0 (Qof M A post mc ms) 0 L [] H) : Ct l D y bytes maxL ret rm av pre A mc ms post := by
  refine Met.ofW (cc := bytes) (maxL := maxL) (ret := ret) hy rfl ?_
  intro p e s m args below meth c s₁ B hml hv
  obtain ⟨rfl, hpre, hK⟩ := hv
  have hts := atoms_spec (ws := Cond.code y bytes maxL ret :: gtbl) B.pre
  rw [lg_entry_eq]
  have hl := lv_entry av (n := maxL) hs
  rw [hL] at hl
  exact body (p, l, e, s, m, av.toArray, below, meth, c) s.heap ⟨B.exec, B.bytes, hml, findClass_of_methodNamed B.named, fun w hw => hts w (List.mem_cons_of_mem _ hw), hK, B.notSynchronized⟩ B.returns (name_of_methodNamed B.named B.method).1 rfl hpre _ [] hl (fun _ h => by cases h) ⟨rfl, fun _ _ _ => rfl⟩
/-- what the tables say of a method that is called -/
def Yv (y : MethodName) (bytes : ByteArray) (maxL : Nat) (ret : Option FieldType) (n : Nat) : Prop :=
  Cond.code y bytes maxL ret ∈ gtbl ∧ Cond.initialized y.cls ∈ gtbl ∧ (y.cls ≠ "java/lang/invoke/MethodHandle" ∧ y.cls ≠ "java/lang/invoke/VarHandle") ∧ (parseMethodDescriptor y.desc).map (fun d => d.parameters.length) = some n
section HROWS
variable {D : GG} {M : MX} {R : Room} {cc : ByteArray} {nL : Nat} {own : String} {A : Nat → Prop} {cs sl : Nat} {Q : State → Prop} {pc : Nat} {L : List (Nat × Value)} {st : List Value} {H : Heap}
theorem x_iret {post : Option Value → Heap → Prop} {a : Int} (ho : Ok D M cc nL own) (hr : M.2.2.2.2.2.2.2.1.sig.returnType = some .int) (hd : decode cc pc = .ok (.ireturn, 1)) (hp : post (some (zV a)) H) : X M R nL A cs sl (Qof M A post cs sl) pc L [zV a] H := by
  intro ls locs h1 h2 h3
  exact W.iret ho.1 ho.2.1 hr (fun t ht hW => ⟨_, rfl, by rw [ht]; exact hp, by rw [ht]; exact h3⟩) h2 hd ho.2.2.2.2.2.2
theorem x_zret {post : Option Value → Heap → Prop} {a : Int} (ho : Ok D M cc nL own) (hr : M.2.2.2.2.2.2.2.1.sig.returnType = some .boolean) (ha : a = 0 ∨ a = 1) (hd : decode cc pc = .ok (.ireturn, 1)) (hp : post (some (zV a)) H) : X M R nL A cs sl (Qof M A post cs sl) pc L [zV a] H := by
  intro ls locs h1 h2 h3
  exact W.zret ho.1 ho.2.1 hr (by rcases ha with rfl | rfl <;> rfl) (fun t ht hW => ⟨_, rfl, by rw [ht]; exact hp, by rw [ht]; exact h3⟩) h2 hd ho.2.2.2.2.2.2
theorem x_vret {post : Option Value → Heap → Prop} (ho : Ok D M cc nL own) (hr : M.2.2.2.2.2.2.2.1.sig.returnType = none) (hd : decode cc pc = .ok (.return_, 1)) (hp : post none H) : X M R nL A cs sl (Qof M A post cs sl) pc L [] H := by
  intro ls locs h1 h2 h3
  exact W.vret ho.1 ho.2.1 hr (fun t ht hW => ⟨_, rfl, by rw [ht]; exact hp, by rw [ht]; exact h3⟩) h2 hd ho.2.2.2.2.2.2
theorem x_aret {post : Option Value → Heap → Prop} {a : Nat} {C : String} (ho : Ok D M cc nL own) (hr : M.2.2.2.2.2.2.2.1.sig.returnType = some (.object C)) (hd : decode cc pc = .ok (.areturn, 1)) (hp : post (some (.ref a)) H) : X M R nL A cs sl (Qof M A post cs sl) pc L [.ref a] H := by
  intro ls locs h1 h2 h3
  exact W.aret ho.1 ho.2.1 hr (Or.inl ⟨_, rfl⟩) (Or.inr ⟨_, rfl⟩) (fun t ht hW => ⟨_, rfl, by rw [ht]; exact hp, by rw [ht]; exact h3⟩) h2 hd ho.2.2.2.2.2.2
theorem x_get {a ci idx N : Nat} {C : String} {T : u_T} {tf : Nat → FieldType} {fs : List Value} {v : Value} (k : Nat) (ho : Ok D M cc nL own) (hd : decode cc pc = .ok (.getfield idx, 3)) (hcl : Cl ci C T N tf) (hk : k < N) (hw : Cond.fieldLink own idx (T k).1 (T k).2.1 (T k).2.2.1 ∈ gtbl) (hat : At D H a (oO ci fs)) (hv : fs[k]? = some v) (kk : X M R nL A cs sl Q (pc + 3) L (v :: st) H) : X M R nL A cs sl Q pc L (.ref a :: st) H := fun ls locs h1 h2 h3 =>
  va_get ho.1 ho.2.1 ho.2.2.2.2.1 hcl.2.1 ho.2.2.2.1 ho.2.2.2.2.2.1.1 (at_P hat) 0 rfl hcl.1 k hk (ho.2.2.2.2.1 _ hw) (fun _ h => h) hv hd (kk ls locs h1 h2 h3)
theorem x_put {a ci idx N : Nat} {C : String} {T : u_T} {tf : Nat → FieldType} {fs : List Value} {v : Value} (k : Nat) (ho : Ok D M cc nL own) (hd : decode cc pc = .ok (.putfield idx, 3)) (hcl : Cl ci C T N tf) (hk : k < N) (hw : Cond.fieldLink own idx (T k).1 (T k).2.1 (T k).2.2.1 ∈ gtbl) (hat : At D H a (oO ci fs)) (hfin : (T k).2.2.2 = false) (hn : narrow (tf k) v = v) (hfit : fits (tf k) v = true) (hl : k < fs.length) (hA : A a)
    (kk : ∀ H1 : Heap, At D H1 a (oO ci (fs.set k v)) → H1.size = H.size → (∀ q : Nat, q ≠ a → H1[q]? = H[q]?) → X M R nL A cs sl Q (pc + 3) L st H1) : X M R nL A cs sl Q pc L (v :: .ref a :: st) H := by
  intro ls locs g1 g2 g3
  obtain ⟨hc, hin, hty, hnm⟩ := hcl
  have hts := ho.2.2.2.2.1
  have hK := ho.2.2.2.2.2.1.1
  have hap := va_apart (own := own) hts hin tf hty hnm hK hc
  obtain ⟨r, h1, cell, q1, q2, q3, q4⟩ := hat
  have hr : r = (C, T, N) := Option.some.inj (h1.symm.trans hc)
  subst hr
  obtain ⟨hS, hfc, kC, hkC, hkind⟩ := hK.1 ci _ hc
  obtain ⟨cf, kf, fi, f, hi, hsl⟩ := hS k hk
  have hlay := hts _ (hin _ (u_in_lay hk))
  unfold u_lay at hlay
  rw [if_neg (by rw [hfin]; decide)] at hlay
  have hst := (u_facts hfc hkC (u_lays hts hin hk) hi).1
  have h6 := u_store hfc hkC hkind hlay hi (hty k hk) hn hfit
  refine W.putK ho.1 ho.2.1 (f := f) ⟨ho.2.2.2.1, ho.2.2.2.2.1 _ hw, ⟨_, _, _, hi⟩, hst⟩ (by rw [q2]; exact h6) q1 q3 (by rw [hsl]; exact k2_hasslot (q4 k hk)) rfl rfl hd fun H' e1 e2 e3 => ?_
  rw [hsl] at e1
  refine kk H' ⟨_, hc, t_OB.to (V := updV (vp_V fs) k v) ⟨_, e1, q2, q3, t_set q4 hap hk v⟩ (fun j _ => vp_updV_set hl v j)⟩ e2 e3 ls _ g1 (fun q hq => ?_) (g3.put e2 e3 hA)
  rcases List.mem_append.mp hq with h | h
  · exact g2 q h
  · rw [List.mem_singleton.mp h]; exact hA
theorem x_putF {a ci idx N : Nat} {C : String} {T : u_T} {tf : Nat → FieldType} {fs : List Value} {v : Value} (k : Nat) (ho : Ok D M cc nL own) (hin2 : M.2.2.2.2.2.2.2.1.name = "<init>") (hd : decode cc pc = .ok (.putfield idx, 3)) (hcl : Cl ci C T N tf) (hk : k < N) (hw : Cond.fieldLink own idx (T k).1 (T k).2.1 (T k).2.2.1 ∈ gtbl) (hat : At D H a (oO ci fs)) (hfin : (T k).2.2.2 = true) (hdecl : (T k).1 = own) (hn : narrow (tf k) v = v) (hfit : fits (tf k) v = true) (hl : k < fs.length) (hA : A a)
    (kk : ∀ H1 : Heap, At D H1 a (oO ci (fs.set k v)) → H1.size = H.size → (∀ q : Nat, q ≠ a → H1[q]? = H[q]?) → X M R nL A cs sl Q (pc + 3) L st H1) : X M R nL A cs sl Q pc L (v :: .ref a :: st) H := by
  intro ls locs g1 g2 g3
  obtain ⟨hc, hin, hty, hnm⟩ := hcl
  have hts := ho.2.2.2.2.1
  have hK := ho.2.2.2.2.2.1.1
  have hown := ho.2.2.2.1
  have hap := va_apart (own := own) hts hin tf hty hnm hK hc
  obtain ⟨r, h1, cell, q1, q2, q3, q4⟩ := hat
  have hr : r = (C, T, N) := Option.some.inj (h1.symm.trans hc)
  subst hr
  obtain ⟨hS, hfc, kC, hkC, hkind⟩ := hK.1 ci _ hc
  obtain ⟨cf, kf, fi, f, hi, hsl⟩ := hS k hk
  have hlay := hts _ (hin _ (u_in_lay hk))
  unfold u_lay at hlay
  rw [if_pos hfin] at hlay
  have hst := (u_facts hfc hkC (u_lays hts hin hk) hi).1
  have hcf : M.2.2.2.2.1.cls = cf := by
    obtain ⟨_, _, c', _, _, _, -, -, hf', -, -, -, hown2, -⟩ := Cond.laysFinal_spec hlay
    have e1 : c' = cf := by have := hi.symm.trans hf'; simp at this; exact this.1.symm
    rw [hdecl] at hown2
    rw [← e1]; exact Option.some.inj (hown.symm.trans hown2)
  have h6 := u_fits hfc hkC hkind (Or.inr hlay) hi (hty k hk) hn hfit
  refine W.putFinK ho.1 ho.2.1 hown (hts _ hw) hi hst hcf hin2 (by rw [q2]; exact h6) q1 q3 (by rw [hsl]; exact k2_hasslot (q4 k hk)) rfl rfl hd fun H' e1 e2 e3 => ?_
  rw [hsl] at e1
  refine kk H' ⟨_, hc, t_OB.to (V := updV (vp_V fs) k v) ⟨_, e1, q2, q3, t_set q4 hap hk v⟩ (fun j _ => vp_updV_set hl v j)⟩ e2 e3 ls _ g1 (fun q hq => ?_) (g3.put e2 e3 hA)
  rcases List.mem_append.mp hq with h | h
  · exact g2 q h
  · rw [List.mem_singleton.mp h]; exact hA
theorem zN {i : Int} {n : Nat} (h0 : 0 ≤ i) (h1 : i < n) (hn : n ≤ 100000) : ((zI i).toNatClampNeg : Int) = i := by rw [zI_n (by omega)]; omega
theorem x_iald {a n : Nat} {f : Int → Int} {i : Int} (ho : Ok D M cc nL own) (hd : decode cc pc = .ok (.iaload, 1)) (hat : At D H a (oI D n f)) (h0 : 0 ≤ i) (h1 : i < n) (hn : n ≤ 100000) (kk : X M R nL A cs sl Q (pc + 1) L (zV (f i) :: st) H) : X M R nL A cs sl Q pc L (zV i :: .ref a :: st) H := fun ls locs g1 g2 g3 =>
  va_iald ho.1 ho.2.1 ho.2.2.2.2.2.1.1 (at_P hat) 0 0 rfl rfl (zI_in h0 h1 (by omega)) hd (by rw [zN h0 h1 hn]; exact kk ls locs g1 g2 g3)
theorem x_cald {a n : Nat} {f : Int → Int} {i : Int} (ho : Ok D M cc nL own) (hd : decode cc pc = .ok (.caload, 1)) (hat : At D H a (oC D n f)) (h0 : 0 ≤ i) (h1 : i < n) (hn : n ≤ 100000) (kk : X M R nL A cs sl Q (pc + 1) L (zV (f i) :: st) H) : X M R nL A cs sl Q pc L (zV i :: .ref a :: st) H := fun ls locs g1 g2 g3 =>
  va_cald ho.1 ho.2.1 ho.2.2.2.2.2.1.1 (at_P hat) 0 2 rfl rfl (zI_in h0 h1 (by omega)) hd (by rw [zN h0 h1 hn]; exact kk ls locs g1 g2 g3)
theorem x_lald {a n : Nat} {f : Int → Int64} {i : Int} (ho : Ok D M cc nL own) (hd : decode cc pc = .ok (.laload, 1)) (hat : At D H a (oJ D n f)) (h0 : 0 ≤ i) (h1 : i < n) (hn : n ≤ 100000) (kk : X M R nL A cs sl Q (pc + 1) L (.long (f i) :: st) H) : X M R nL A cs sl Q pc L (zV i :: .ref a :: st) H := fun ls locs g1 g2 g3 =>
  va_lald ho.1 ho.2.1 ho.2.2.2.2.2.1.1 (at_P hat) 0 1 rfl rfl (zI_in h0 h1 (by omega)) hd (by rw [zN h0 h1 hn]; exact kk ls locs g1 g2 g3)
theorem x_aald {a n k b : Nat} {C : String} {f : Int → Option Nat} {i : Int} (ho : Ok D M cc nL own) (hd : decode cc pc = .ok (.aaload, 1)) (hat : At D H a (oR D k n f)) (ht : (tys D)[k]? = some (D.2 k, .object C)) (h0 : 0 ≤ i) (h1 : i < n) (hn : n ≤ 100000) (hb : f i = some b) (kk : X M R nL A cs sl Q (pc + 1) L (.ref b :: st) H) : X M R nL A cs sl Q pc L (zV i :: .ref a :: st) H := fun ls locs g1 g2 g3 =>
  va_aldq ho.1 ho.2.1 ho.2.2.2.2.2.1.1 (at_P hat) 0 k rfl ht (zI_in h0 h1 (by omega)) hd (by rw [zN h0 h1 hn, hb]; exact kk ls locs g1 g2 g3)
theorem x_alen {a n : Nat} {f : Int → Int} (ho : Ok D M cc nL own) (hd : decode cc pc = .ok (.arraylength, 1)) (hat : At D H a (oI D n f)) (kk : X M R nL A cs sl Q (pc + 1) L (zV (n : Int) :: st) H) : X M R nL A cs sl Q pc L (.ref a :: st) H := fun ls locs g1 g2 g3 =>
  va_alen ho.1 ho.2.1 ho.2.2.2.2.2.1.1 (at_P hat) 0 0 rfl (ty := .int) rfl (zI_nat n) hd (kk ls locs g1 g2 g3)
theorem x_alenC {a n : Nat} {f : Int → Int} (ho : Ok D M cc nL own) (hd : decode cc pc = .ok (.arraylength, 1)) (hat : At D H a (oC D n f)) (kk : X M R nL A cs sl Q (pc + 1) L (zV (n : Int) :: st) H) : X M R nL A cs sl Q pc L (.ref a :: st) H := fun ls locs g1 g2 g3 =>
  va_alen ho.1 ho.2.1 ho.2.2.2.2.2.1.1 (at_P hat) 0 2 rfl (ty := .char) rfl (zI_nat n) hd (kk ls locs g1 g2 g3)
theorem x_alenJ {a n : Nat} {f : Int → Int64} (ho : Ok D M cc nL own) (hd : decode cc pc = .ok (.arraylength, 1)) (hat : At D H a (oJ D n f)) (kk : X M R nL A cs sl Q (pc + 1) L (zV (n : Int) :: st) H) : X M R nL A cs sl Q pc L (.ref a :: st) H := fun ls locs g1 g2 g3 =>
  va_alen ho.1 ho.2.1 ho.2.2.2.2.2.1.1 (at_P hat) 0 1 rfl (ty := .long) rfl (zI_nat n) hd (kk ls locs g1 g2 g3)
theorem zU_nat {α : Type} (f : Int → α) {i : Int} (h0 : 0 ≤ i) (v : α) (j : Nat) : zU f i v (j : Int) = if j = i.toNat then v else f j := by
  unfold zU
  by_cases h : (j : Int) = i
  · rw [if_pos h, if_pos (by omega)]
  · rw [if_neg h, if_neg (by omega)]
theorem mem_snoc {α : Type} {P : α → Prop} {l : List α} {x : α} (h : ∀ q ∈ l, P q) (hx : P x) : ∀ q ∈ l ++ [x], P q := by
  intro q hq
  rcases List.mem_append.mp hq with h' | h'
  · exact h q h'
  · rw [List.mem_singleton.mp h']; exact hx
theorem x_iast {a n : Nat} {f : Int → Int} {i v : Int} (ho : Ok D M cc nL own) (hd : decode cc pc = .ok (.iastore, 1)) (hat : At D H a (oI D n f)) (h0 : 0 ≤ i) (h1 : i < n) (hn : n ≤ 100000) (hA : A a)
    (kk : ∀ H1 : Heap, At D H1 a (oI D n (zU f i v)) → H1.size = H.size → (∀ q : Nat, q ≠ a → H1[q]? = H[q]?) → X M R nL A cs sl Q (pc + 1) L st H1) : X M R nL A cs sl Q pc L (zV v :: zV i :: .ref a :: st) H := by
  intro ls locs g1 g2 g3
  have hK := ho.2.2.2.2.2.1.1
  refine W.iast ho.1 ho.2.1 hat ((hK.2 0 _ rfl).1 n (fun j => .int (zI (f (j : Int))))) (fun q => by cases q) (by show ¬ (zI i < 0 ∨ (arrV _ _ _).slots.size ≤ _); rw [arrV_size]; exact zI_in h0 h1 (by omega)) rfl rfl hd fun H1 e z oq => ?_
  refine kk H1 ?_ z oq ls _ g1 (mem_snoc g2 hA) (g3.put z oq hA)
  show H1[a]? = some (vp_cell _ _)
  rw [e]
  show some ((vp_cell _ _).setSlot _ _) = _
  rw [vp_cell_i, vp_cell_i, arrV_store]
  congr 2
  funext q
  rw [zU_nat f h0, zI_n (by omega)]
  unfold updV
  split <;> rfl
theorem x_cast {a n : Nat} {f : Int → Int} {i v : Int} (ho : Ok D M cc nL own) (hd : decode cc pc = .ok (.castore, 1)) (hat : At D H a (oC D n f)) (h0 : 0 ≤ i) (h1 : i < n) (hn : n ≤ 100000) (hv : narrow .char (zV v) = zV v) (hA : A a)
    (kk : ∀ H1 : Heap, At D H1 a (oC D n (zU f i v)) → H1.size = H.size → (∀ q : Nat, q ≠ a → H1[q]? = H[q]?) → X M R nL A cs sl Q (pc + 1) L st H1) : X M R nL A cs sl Q pc L (zV v :: zV i :: .ref a :: st) H := by
  intro ls locs g1 g2 g3
  have hK := ho.2.2.2.2.2.1.1
  refine W.cast ho.1 ho.2.1 hat ((hK.2 2 _ rfl).1 n (fun j => .int (zI (f (j : Int))))) (fun q => by cases q) (by show ¬ (zI i < 0 ∨ (arrV _ _ _).slots.size ≤ _); rw [arrV_size]; exact zI_in h0 h1 (by omega)) rfl rfl hd fun H1 e z oq => ?_
  refine kk H1 ?_ z oq ls _ g1 (mem_snoc g2 hA) (g3.put z oq hA)
  show H1[a]? = some (vp_cell _ _)
  rw [e, hv]
  show some ((vp_cell _ _).setSlot _ _) = _
  rw [vp_cell_i, vp_cell_i, arrV_store]
  congr 2
  funext q
  rw [zU_nat f h0, zI_n (by omega)]
  unfold updV
  split <;> rfl
theorem x_last {a n : Nat} {f : Int → Int64} {i : Int} {v : Int64} (ho : Ok D M cc nL own) (hd : decode cc pc = .ok (.lastore, 1)) (hat : At D H a (oJ D n f)) (h0 : 0 ≤ i) (h1 : i < n) (hn : n ≤ 100000) (hA : A a)
    (kk : ∀ H1 : Heap, At D H1 a (oJ D n (zU f i v)) → H1.size = H.size → (∀ q : Nat, q ≠ a → H1[q]? = H[q]?) → X M R nL A cs sl Q (pc + 1) L st H1) : X M R nL A cs sl Q pc L (.long v :: zV i :: .ref a :: st) H := by
  intro ls locs g1 g2 g3
  have hK := ho.2.2.2.2.2.1.1
  refine W.last ho.1 ho.2.1 hat ((hK.2 1 _ rfl).1 n (fun j => .long (f (j : Int)))) (fun q => by cases q) (by show ¬ (zI i < 0 ∨ (arrV _ _ _).slots.size ≤ _); rw [arrV_size]; exact zI_in h0 h1 (by omega)) rfl rfl hd fun H1 e z oq => ?_
  refine kk H1 ?_ z oq ls _ g1 (mem_snoc g2 hA) (g3.put z oq hA)
  show H1[a]? = some (vp_cell _ _)
  rw [e]
  show some ((vp_cell _ _).setSlot _ _) = _
  rw [vp_cell_l, vp_cell_l, arrV_store]
  congr 2
  funext q
  rw [zU_nat f h0, zI_n (by omega)]
  unfold updV
  split <;> rfl
theorem x_aast {a n k b ci : Nat} {r : vw_C} {fs : List Value} {f : Int → Option Nat} {i : Int} (ho : Ok D M cc nL own) (hd : decode cc pc = .ok (.aastore, 1)) (hat : At D H a (oR D k n f)) (ht : (tys D)[k]? = some (D.2 k, .object r.1)) (hb : At D H b (oO ci fs)) (hc : classes[ci]? = some r) (h0 : 0 ≤ i) (h1 : i < n) (hn : n ≤ 100000) (hA : A a)
    (kk : ∀ H1 : Heap, At D H1 a (oR D k n (zU f i (some b))) → H1.size = H.size → (∀ q : Nat, q ≠ a → H1[q]? = H[q]?) → X M R nL A cs sl Q (pc + 1) L st H1) : X M R nL A cs sl Q pc L (.ref b :: zV i :: .ref a :: st) H := by
  intro ls locs g1 g2 g3
  have hK := ho.2.2.2.2.2.1.1
  obtain ⟨r', hr', cellV, e1, e2, e3, -⟩ := hb
  have hcls := (hK.1 ci r hc).2
  obtain ⟨kA, comp, k1, k2, k3, -⟩ := (hK.2 k _ ht).2
  have hcomp : comp = D.1.1 ci := Option.some.inj (k3.symm.trans hcls.1)
  subst hcomp
  obtain ⟨kC, hkC, -⟩ := hcls.2
  have hin := zI_in h0 h1 (by omega)
  refine W.aast ho.1 ho.2.1 hat (fun q h => by cases h) (fun h => by cases h) k1 k2 rfl hkC ⟨fun q => hin (Or.inl q), by show (zI i).toNatClampNeg < (arrV _ _ _).slots.size; rw [arrV_size, zI_n (a := i) ⟨h0, by omega⟩]; show i.toNat < n; omega⟩ e1 (fun q h => by rw [e3] at h; cases h) (by rw [e2]; exact hkC) (by rw [e2]; exact va_assign hcls) rfl rfl hd fun H1 e z oq => ?_
  refine kk H1 ?_ z oq ls _ g1 (mem_snoc g2 hA) (g3.put z oq hA)
  show H1[a]? = some (vp_cell _ _)
  rw [e]
  show some ((vp_cell _ _).setSlot _ _) = _
  rw [vp_cell_q, vp_cell_q, arrV_store]
  congr 2
  funext q
  rw [zU_nat f h0, zI_n (by omega)]
  unfold updV
  split <;> rfl
/-- any call: what the kit's call gives, with the callee's contract -/
theorem x_call {mc ms : Nat} {A1 : Nat → Prop} {post : Option Value → Heap → Prop} {st0 rest : List Value} {av : Array Value}
    (hrun : ∀ (ls : Array Slot) (locs : List Loc), ls.size = nL → va_Run M.1 M.2.1 M.2.2.1 R M.2.2.2.1 M.2.2.2.2.1 M.2.2.2.2.2.1 M.2.2.2.2.2.2.1 M.2.2.2.2.2.2.2.1 M.2.2.2.2.2.2.2.2 H locs cs sl mc ms (F0 M.2.2.2.2.1 pc ls st0) rest (QN post A1 mc av) A1) (hA : ∀ q, A1 q → A q)
    (kk : ∀ (v : Option Value) (H1 : Heap), post v H1 → FR A1 H H1 mc → X M R nL A (cs + mc) (sl + ms) Q (pc + 3) L (v.toList ++ rest) H1) : X M R nL A cs sl Q pc L st0 H := by
  intro ls locs g1 g2 g3 T hT XX
  obtain ⟨v, st₀, t, T', L', h0, X', hL, e1, e2, hQ, hst⟩ := hrun ls locs g1.1 T hT XX
  obtain ⟨v', hv, hp, hF⟩ := hQ
  cases hv
  rw [h0] at hF
  obtain ⟨t2, a1, b1⟩ := kk v T'.heap (by rw [e1]; exact hp) (by rw [e1]; exact hF) ls (locs ++ L') g1 (fun q hq => by
    rcases List.mem_append.mp hq with h | h
    · exact g2 q h
    · exact hA _ (hL q h)) (g3.call (by rw [e1]; exact hF) hA) T' rfl X'
  exact ⟨t2, hst t2 a1, b1⟩
theorem ct_blind {D : GG} {av : List Value} {pre : Heap → Prop} : FrameBlind (va_Pc av (fun U => pre U.heap ∧ KK D U)) := fun _ _ _ _ h => ⟨h.1, h.2.1, h.2.2.same rfl⟩
theorem yv_B {y : MethodName} {bytes : ByteArray} {maxL n mc ms : Nat} {ret : Option FieldType} {rm : Room} {idx : Nat} (ho : Ok D M cc nL own) (hy : Yv y bytes maxL ret n) (hlk : Cond.methodLink own idx y ∈ gtbl) (hc : rm.cells = mc) (hs : rm.slots = ms) (hr : rm.frames + 1 ≤ R.frames ∧ 8 + (maxL + 11) + rm.locals ≤ R.locals) : CallB R M.2.2.2.1 M.2.2.2.2.2.1 own idx y bytes maxL ret (Cond.code y bytes maxL ret :: gtbl) rm mc ms n := by
  have hts := ho.2.2.2.2.1
  have hG : GoodIn gtbl (Cond.code y bytes maxL ret :: gtbl) := fun w hw => by
    rcases List.mem_cons.mp hw with h | h
    · rw [h]; exact ⟨hy.1, gtbl_good' hy.1⟩
    · exact ⟨h, gtbl_good' h⟩
  refine ⟨hc, hs, hr.1, hr.2, pay_in hts hG, List.mem_cons_self, hts _ hy.1, hts _ hy.2.1, hy.2.2.1, fun sig h => ?_, hts _ hlk⟩
  have h2 := hy.2.2.2
  rw [h] at h2
  exact (Option.some.inj h2).symm
theorem yv_N {y : MethodName} {bytes : ByteArray} {maxL n mc ms : Nat} {ret : Option FieldType} {rm : Room} {idx : Nat} {host : String} (ho : Ok D M cc nL own) (hy : Yv y bytes maxL ret n) (hlk : (own, idx, y, host) ∈ nests) (hc : rm.cells = mc) (hs : rm.slots = ms) (hr : rm.frames + 1 ≤ R.frames ∧ 8 + (maxL + 11) + rm.locals ≤ R.locals) : va_CN R M.2.2.2.1 M.2.2.2.2.2.1 own idx y host bytes maxL ret (Cond.code y bytes maxL ret :: gtbl) rm mc ms n := by
  have hts := ho.2.2.2.2.1
  have hG : GoodIn gtbl (Cond.code y bytes maxL ret :: gtbl) := fun w hw => by
    rcases List.mem_cons.mp hw with h | h
    · rw [h]; exact ⟨hy.1, gtbl_good' hy.1⟩
    · exact ⟨h, gtbl_good' h⟩
  refine ⟨⟨hc, hs, hr.1, hr.2, pay_in hts hG, List.mem_cons_self⟩, hts _ hy.1, hts _ hy.2.1, hy.2.2.1, fun sig h => ?_, va_Nw.use rfl (ho.2.2.2.2.2.1.2.1 _ hlk)⟩
  have h2 := hy.2.2.2
  rw [h] at h2
  exact (Option.some.inj h2).symm
theorem at_recv {a ci : Nat} {fs : List Value} {r : vw_C} {s : State} (hK : KK D s) (hat : At D H a (oO ci fs)) (hc : classes[ci]? = some r) : ∃ cell : Cell, H[a]? = some cell ∧ cell.vm.isStatics = false ∧ s.vm.findClass r.1 = some cell.cls := va_recv hK.1 (at_P hat) (ci := ci) (q0 := 0) hc rfl
theorem x_fix (ho : Ok D M cc nL own) : CallFix M.1 M.2.2.2.2.1 M.2.2.2.2.2.2.2.2 cc nL M.2.2.2.1 M.2.2.2.2.2.1 gtbl own := ⟨ho.1, ho.2.1, ho.2.2.1, ho.2.2.2.1, ho.2.2.2.2.1⟩
/-- a call of an instance method (private ones too) -/
theorem x_callV {y : MethodName} {bytes : ByteArray} {maxL n mc ms b ci idx : Nat} {ret : Option FieldType} {rm : Room} {As st0 rest : List Value} {pre : Heap → Prop} {A1 : Nat → Prop} {post : Option Value → Heap → Prop} {fs : List Value} {r : vw_C}
    (ho : Ok D M cc nL own) (hd : decode cc pc = .ok (.invokevirtual idx, 3)) (hy : Yv y bytes maxL ret n) (hi : Cond.instanceMethod y ∈ gtbl) (hsel : Cond.selects y.cls y y ∈ gtbl) (hlk : Cond.methodLink own idx y ∈ gtbl) (hm : Ct M.2.1 D y bytes maxL ret rm (.ref b :: As) pre A1 mc ms post) (hc : rm.cells = mc) (hs : rm.slots = ms) (hr : rm.frames + 1 ≤ R.frames ∧ 8 + (maxL + 11) + rm.locals ≤ R.locals) (hf : cs + mc ≤ R.cells ∧ sl + ms ≤ R.slots) (hst : st0 = As.reverse ++ .ref b :: rest) (hn : As.length = n) (hcat : (rest.map fun v => v.category).sum ≤ 8) (hat : At D H b (oO ci fs)) (hci : classes[ci]? = some r) (hcls : r.1 = y.cls) (hpre : pre H) (hA : ∀ q, A1 q → A q)
    (kk : ∀ (v : Option Value) (H1 : Heap), post v H1 → FR A1 H H1 mc → X M R nL A (cs + mc) (sl + ms) Q (pc + 3) L (v.toList ++ rest) H1) : X M R nL A cs sl Q pc L st0 H :=
  x_call (fun ls locs hls => va_runV (As := As) (C := y.cls) (x_fix ho) hm ⟨yv_B ho hy hlk hc hs hr, ho.2.2.2.2.1 _ hi, ho.2.2.2.2.1 _ hsel⟩ ⟨ct_blind, by rw [← hcls]; exact at_recv ho.2.2.2.2.2.1 hat hci, fun U hU hW => ⟨rfl, by rw [hU]; exact hpre, ho.2.2.2.2.2.1.warm hW⟩⟩ rfl hn hls hst (lv_room hcat) hd hf) hA kk
theorem x_callS {y : MethodName} {bytes : ByteArray} {maxL n mc ms idx : Nat} {ret : Option FieldType} {rm : Room} {As st0 rest : List Value} {pre : Heap → Prop} {A1 : Nat → Prop} {post : Option Value → Heap → Prop}
    (ho : Ok D M cc nL own) (hd : decode cc pc = .ok (.invokestatic idx, 3)) (hy : Yv y bytes maxL ret n) (hi : Cond.static y ∈ gtbl) (hlk : Cond.methodLink own idx y ∈ gtbl) (hm : Ct M.2.1 D y bytes maxL ret rm As pre A1 mc ms post) (hc : rm.cells = mc) (hs : rm.slots = ms) (hr : rm.frames + 1 ≤ R.frames ∧ 8 + (maxL + 11) + rm.locals ≤ R.locals) (hf : cs + mc ≤ R.cells ∧ sl + ms ≤ R.slots) (hst : st0 = As.reverse ++ rest) (hn : As.length = n) (hcat : (rest.map fun v => v.category).sum ≤ 8) (hpre : pre H) (hA : ∀ q, A1 q → A q)
    (kk : ∀ (v : Option Value) (H1 : Heap), post v H1 → FR A1 H H1 mc → X M R nL A (cs + mc) (sl + ms) Q (pc + 3) L (v.toList ++ rest) H1) : X M R nL A cs sl Q pc L st0 H :=
  x_call (fun ls locs hls => va_runS (As := As) (x_fix ho) hm ⟨yv_B ho hy hlk hc hs hr, ho.2.2.2.2.1 _ hi⟩ ⟨ct_blind, fun U hU hW => ⟨rfl, by rw [hU]; exact hpre, ho.2.2.2.2.2.1.warm hW⟩⟩ rfl hn hls hst (lv_room hcat) hd hf) hA kk
theorem x_callSN {y : MethodName} {bytes : ByteArray} {maxL n mc ms idx : Nat} {host : String} {ret : Option FieldType} {rm : Room} {As st0 rest : List Value} {pre : Heap → Prop} {A1 : Nat → Prop} {post : Option Value → Heap → Prop}
    (ho : Ok D M cc nL own) (hd : decode cc pc = .ok (.invokestatic idx, 3)) (hy : Yv y bytes maxL ret n) (hi : Cond.static y ∈ gtbl) (hlk : (own, idx, y, host) ∈ nests) (hm : Ct M.2.1 D y bytes maxL ret rm As pre A1 mc ms post) (hc : rm.cells = mc) (hs : rm.slots = ms) (hr : rm.frames + 1 ≤ R.frames ∧ 8 + (maxL + 11) + rm.locals ≤ R.locals) (hf : cs + mc ≤ R.cells ∧ sl + ms ≤ R.slots) (hst : st0 = As.reverse ++ rest) (hn : As.length = n) (hcat : (rest.map fun v => v.category).sum ≤ 8) (hpre : pre H) (hA : ∀ q, A1 q → A q)
    (kk : ∀ (v : Option Value) (H1 : Heap), post v H1 → FR A1 H H1 mc → X M R nL A (cs + mc) (sl + ms) Q (pc + 3) L (v.toList ++ rest) H1) : X M R nL A cs sl Q pc L st0 H :=
  x_call (fun ls locs hls => va_runSN (As := As) (x_fix ho) hm ⟨yv_N ho hy hlk hc hs hr, ho.2.2.2.2.1 _ hi, trivial⟩ ⟨ct_blind, fun U hU hW => ⟨rfl, by rw [hU]; exact hpre, ho.2.2.2.2.2.1.warm hW⟩⟩ rfl hn hls hst (lv_room hcat) hd hf) hA kk
/-- a constructor's call -/
theorem x_callI {y : MethodName} {bytes : ByteArray} {maxL n mc ms b idx : Nat} {rm : Room} {As st0 rest : List Value} {pre : Heap → Prop} {A1 : Nat → Prop} {post : Option Value → Heap → Prop}
    (ho : Ok D M cc nL own) (hd : decode cc pc = .ok (.invokespecial idx, 3)) (hy : Yv y bytes maxL none n) (hnm : y.name = "<init>") (hi : Cond.instanceMethod y ∈ gtbl) (hlk : Cond.methodLink own idx y ∈ gtbl) (hm : Ct M.2.1 D y bytes maxL none rm (.ref b :: As) pre A1 mc ms post) (hc : rm.cells = mc) (hs : rm.slots = ms) (hr : rm.frames + 1 ≤ R.frames ∧ 8 + (maxL + 11) + rm.locals ≤ R.locals) (hf : cs + mc ≤ R.cells ∧ sl + ms ≤ R.slots) (hst : st0 = As.reverse ++ .ref b :: rest) (hn : As.length = n) (hcat : (rest.map fun v => v.category).sum ≤ 8) (hpre : pre H) (hA : ∀ q, A1 q → A q)
    (kk : ∀ (v : Option Value) (H1 : Heap), post v H1 → FR A1 H H1 mc → X M R nL A (cs + mc) (sl + ms) Q (pc + 3) L (v.toList ++ rest) H1) : X M R nL A cs sl Q pc L st0 H :=
  x_call (fun ls locs hls => va_runI (As := As) (x_fix ho) hm ⟨yv_B ho hy hlk hc hs hr, hnm, ho.2.2.2.2.1 _ hi⟩ ⟨ct_blind, fun U hU hW => ⟨rfl, by rw [hU]; exact hpre, ho.2.2.2.2.2.1.warm hW⟩⟩ rfl hn hls hst (lv_room hcat) hd hf) hA kk
theorem x_callIN {y : MethodName} {bytes : ByteArray} {maxL n mc ms b idx : Nat} {host : String} {rm : Room} {As st0 rest : List Value} {pre : Heap → Prop} {A1 : Nat → Prop} {post : Option Value → Heap → Prop}
    (ho : Ok D M cc nL own) (hd : decode cc pc = .ok (.invokespecial idx, 3)) (hy : Yv y bytes maxL none n) (hnm : y.name = "<init>") (hi : Cond.instanceMethod y ∈ gtbl) (hlk : (own, idx, y, host) ∈ nests) (hm : Ct M.2.1 D y bytes maxL none rm (.ref b :: As) pre A1 mc ms post) (hc : rm.cells = mc) (hs : rm.slots = ms) (hr : rm.frames + 1 ≤ R.frames ∧ 8 + (maxL + 11) + rm.locals ≤ R.locals) (hf : cs + mc ≤ R.cells ∧ sl + ms ≤ R.slots) (hst : st0 = As.reverse ++ .ref b :: rest) (hn : As.length = n) (hcat : (rest.map fun v => v.category).sum ≤ 8) (hpre : pre H) (hA : ∀ q, A1 q → A q)
    (kk : ∀ (v : Option Value) (H1 : Heap), post v H1 → FR A1 H H1 mc → X M R nL A (cs + mc) (sl + ms) Q (pc + 3) L (v.toList ++ rest) H1) : X M R nL A cs sl Q pc L st0 H :=
  x_call (fun ls locs hls => va_runIN (As := As) (x_fix ho) hm ⟨yv_N ho hy hlk hc hs hr, hnm, ho.2.2.2.2.1 _ hi⟩ ⟨ct_blind, fun U hU hW => ⟨rfl, by rw [hU]; exact hpre, ho.2.2.2.2.2.1.warm hW⟩⟩ rfl hn hls hst (lv_room hcat) hd hf) hA kk
/-- a method that changes nothing -/
def nA : Nat → Prop := fun _ => False
theorem fr_none {H H1 : Heap} (h : FR nA H H1 0) : H1 = H := by
  apply Array.ext_getElem?
  intro q
  by_cases hq : q < H.size
  · exact h.2 q hq (fun z => z)
  · have h1 := h.1
    rw [Array.getElem?_eq_none (by omega), Array.getElem?_eq_none (by omega)]
theorem fr_none' {A : Nat → Prop} : ∀ q : Nat, nA q → A q := fun _ h => h.elim
end HROWS
end
section
-- a truth as an int
noncomputable def bI (P : Prop) : Int := @ite Int P (Classical.propDecidable P) 1 0
theorem bI_t {P : Prop} (h : P) : bI P = 1 := by unfold bI; exact if_pos h
theorem bI_f {P : Prop} (h : ¬ P) : bI P = 0 := by unfold bI; exact if_neg h
theorem bI_01 (P : Prop) : bI P = 0 ∨ bI P = 1 := by
  rcases Classical.em P with h | h
  · exact Or.inr (bI_t h)
  · exact Or.inl (bI_f h)
theorem bI_r (P : Prop) : 0 ≤ bI P ∧ bI P ≤ 1 := by
  rcases bI_01 P with h | h <;> omega
theorem bI_iff {P Q : Prop} (h : P ↔ Q) : bI P = bI Q := by
  rcases Classical.em P with hp | hp
  · rw [bI_t hp, bI_t (h.mp hp)]
  · rw [bI_f hp, bI_f (fun q => hp (h.mpr q))]
theorem bI_1 {P : Prop} (h : bI P = 1) : P := Classical.not_not.mp fun p => by rw [bI_f p] at h; omega
theorem bI_0 {P : Prop} (h : bI P = 0) : ¬ P := fun p => by rw [bI_t p] at h; omega
theorem rI {a b : Int} (h : a = b) : (some (zV a) : Option Value) = some (zV b) := by rw [h]
theorem rT {P : Prop} (h : P) : (some (zV 1) : Option Value) = some (zV (bI P)) := by rw [bI_t h]
theorem rF {P : Prop} (h : ¬ P) : (some (zV 0) : Option Value) = some (zV (bI P)) := by rw [bI_f h]
def rA (lo hi : Nat) : Nat → Prop := fun q => lo ≤ q ∧ q < hi
theorem rA_in {lo hi q : Nat} (h : lo ≤ q) (h2 : q < hi) : rA lo hi q := ⟨h, h2⟩
theorem rA_no {lo hi q : Nat} (h : q < lo ∨ hi ≤ q) : ¬ rA lo hi q := fun z => by have := z.1; have := z.2; omega
theorem rA_sub {lo hi lo' hi' : Nat} (h : lo ≤ lo') (h2 : hi' ≤ hi) : ∀ q, rA lo' hi' q → rA lo hi q := fun q z => ⟨Nat.le_trans h z.1, Nat.lt_of_lt_of_le z.2 h2⟩
section BROWS
variable {D : GG} {M : MX} {R : Room} {cc : ByteArray} {nL : Nat} {own : String} {A : Nat → Prop} {cs sl : Nat} {Q : State → Prop} {pc : Nat} {L : List (Nat × Value)} {st : List Value} {H : Heap}
theorem x_if_eqB (ho : Ok D M cc nL own) {P : Prop} {off : Int} {tgt : Nat} (hd : decode cc pc = .ok (.ifCond .eq off, 3)) (ht : (pc : Int) + off = (tgt : Int)) (kt : ¬ P → X M R nL A cs sl Q tgt L st H) (kf : P → X M R nL A cs sl Q (pc + 3) L st H) : X M R nL A cs sl Q pc L (zV (bI P) :: st) H :=
  x_if_eq ho hd ht (by have := bI_r P; omega) (fun h => kt (bI_0 h)) (fun h => kf (Classical.not_not.mp fun p => h (bI_f p)))
theorem x_if_neB (ho : Ok D M cc nL own) {P : Prop} {off : Int} {tgt : Nat} (hd : decode cc pc = .ok (.ifCond .ne off, 3)) (ht : (pc : Int) + off = (tgt : Int)) (kt : P → X M R nL A cs sl Q tgt L st H) (kf : ¬ P → X M R nL A cs sl Q (pc + 3) L st H) : X M R nL A cs sl Q pc L (zV (bI P) :: st) H :=
  x_if_ne ho hd ht (by have := bI_r P; omega) (fun h => kt (Classical.not_not.mp fun p => h (bI_f p))) (fun h => kf (bI_0 h))
theorem x_eqI {a b : Int} (h : a = b) (k : X M R nL A cs sl Q pc L (zV b :: st) H) : X M R nL A cs sl Q pc L (zV a :: st) H := by rw [h]; exact k
theorem x_eqJ {a b : Int64} (h : a = b) (k : X M R nL A cs sl Q pc L (.long b :: st) H) : X M R nL A cs sl Q pc L (.long a :: st) H := by rw [h]; exact k
theorem x_rd {n k : Nat} {post : Option Value → Heap → Prop} {rest : List Value} (kk : ∀ v : Option Value, post v H → X M R nL A n k Q pc L (v.toList ++ rest) H) : ∀ (v : Option Value) (H1 : Heap), post v H1 → FR nA H H1 0 → X M R nL A n k Q pc L (v.toList ++ rest) H1 := fun v H1 hv hF => by
  have e := fr_none hF
  subst e
  exact kk v hv
end BROWS
-- words as lists of whole numbers
def gA (L : List Int) (z : Int) : Int := L.getD z.toNat 0
/-- the letter at a place, -1 outside -/
def lat (L : List Int) (z : Int) : Int := if 0 ≤ z ∧ z < (L.length : Int) then gA L z else -1
def wf (L : List Int) : Prop := ∀ x ∈ L, 0 ≤ x ∧ x < 4
/-- the first letters -/
def tk (L : List Int) (z : Int) : List Int := L.take z.toNat
theorem gA_get {L : List Int} {z : Int} (h0 : 0 ≤ z) (h1 : z < (L.length : Int)) : L[z.toNat]? = some (gA L z) := by
  have hl : z.toNat < L.length := by omega
  unfold gA
  rw [List.getD_eq_getElem?_getD, List.getElem?_eq_getElem hl]
  rfl
theorem gA_r {L : List Int} (h : wf L) (z : Int) : 0 ≤ gA L z ∧ gA L z < 4 := by
  unfold gA
  by_cases hz : z.toNat < L.length
  · rw [List.getD_eq_getElem?_getD, List.getElem?_eq_getElem hz]
    exact h _ (List.getElem_mem hz)
  · rw [List.getD_eq_getElem?_getD, List.getElem?_eq_none (by omega)]
    decide
theorem lat_in {L : List Int} {z : Int} (h0 : 0 ≤ z) (h1 : z < (L.length : Int)) : lat L z = gA L z := if_pos ⟨h0, h1⟩
theorem lat_out {L : List Int} {z : Int} (h : z < 0 ∨ (L.length : Int) ≤ z) : lat L z = -1 := if_neg (by omega)
theorem lat_r {L : List Int} (h : wf L) (z : Int) : -1 ≤ lat L z ∧ lat L z < 4 := by
  unfold lat
  have := gA_r h z
  split <;> omega
theorem gA_app1 {L K : List Int} {z : Int} (h0 : 0 ≤ z) (h : z < (L.length : Int)) : gA (L ++ K) z = gA L z := by
  unfold gA
  rw [List.getD_eq_getElem?_getD, List.getD_eq_getElem?_getD, List.getElem?_append_left (by omega)]
theorem gA_app2 {L K : List Int} {z : Int} (h : (L.length : Int) ≤ z) : gA (L ++ K) z = gA K (z - (L.length : Int)) := by
  unfold gA
  rw [List.getD_eq_getElem?_getD, List.getD_eq_getElem?_getD, List.getElem?_append_right (by omega)]
  congr 2
  omega
theorem gA_snoc {L : List Int} {x : Int} : gA (L ++ [x]) ((L.length : Int)) = x := by
  rw [gA_app2 (Int.le_refl _), Int.sub_self]
  rfl
theorem gA_tk {L : List Int} {i z : Int} (h0 : 0 ≤ z) (h : z < i) : gA (tk L i) z = gA L z := by
  unfold gA tk
  rw [List.getD_eq_getElem?_getD, List.getD_eq_getElem?_getD, List.getElem?_take_of_lt (by omega)]
theorem tk_len {L : List Int} {i : Int} (h0 : 0 ≤ i) (h : i ≤ (L.length : Int)) : ((tk L i).length : Int) = i := by
  unfold tk
  simp only [List.length_take]
  omega
theorem tk_0 {L : List Int} : tk L 0 = [] := by simp [tk]
theorem tk_all {L : List Int} {i : Int} (h : (L.length : Int) ≤ i) : tk L i = L := by
  unfold tk
  exact List.take_of_length_le (by omega)
theorem tk_succ {L : List Int} {i : Int} (h0 : 0 ≤ i) (h : i < (L.length : Int)) : tk L (i + 1) = tk L i ++ [gA L i] := by
  unfold tk
  rw [show (i + 1).toNat = i.toNat + 1 by omega, List.take_succ, gA_get h0 h]
  rfl
theorem tk_app {L K : List Int} {i : Int} (h : (L.length : Int) ≤ i) : tk (L ++ K) i = L ++ tk K (i - (L.length : Int)) := by
  unfold tk
  rw [List.take_append, List.take_of_length_le (by omega)]
  congr 2
  omega
theorem wf_app {L K : List Int} (h : wf L) (k : wf K) : wf (L ++ K) := fun x hx => by
  rcases List.mem_append.mp hx with q | q
  · exact h x q
  · exact k x q
theorem wf_one {x : Int} (h0 : 0 ≤ x) (h1 : x < 4) : wf [x] := fun y hy => by
  rw [List.mem_singleton.mp hy]; exact ⟨h0, h1⟩
theorem wf_tk {L : List Int} (h : wf L) (i : Int) : wf (tk L i) := fun x hx => h x (List.mem_of_mem_take hx)
theorem wf_nil : wf [] := fun _ h => by cases h
/-- two words are one if their letters are -/
theorem li_ext {L K : List Int} (h : (L.length : Int) = (K.length : Int)) (hg : ∀ j : Int, 0 ≤ j → j < (L.length : Int) → gA L j = gA K j) : L = K := by
  apply List.ext_getElem?
  intro n
  by_cases hn : n < L.length
  · have a1 := gA_get (L := L) (z := n) (by omega) (by omega)
    have a2 := gA_get (L := K) (z := n) (by omega) (by omega)
    rw [show ((n : Int)).toNat = n by omega] at a1 a2
    rw [a1, a2, hg n (by omega) (by omega)]
  · rw [List.getElem?_eq_none (by omega), List.getElem?_eq_none (by omega)]
/-- Letters at o, with room for n, with the word L -/
def isL (D : GG) (H : Heap) (o n : Nat) (L : List Int) : Prop :=
  At D H o (oO 2 [.ref (o + 1), zV ((L.length : Int))]) ∧ (∃ f : Int → Int, At D H (o + 1) (oI D n f) ∧ ∀ j : Int, 0 ≤ j → j < (L.length : Int) → f j = gA L j) ∧ L.length ≤ n ∧ n ≤ 300 ∧ wf L
theorem isL.kept {D : GG} {H H1 : Heap} {o n : Nat} {L : List Int} (h : isL D H o n L) (hq : ∀ q : Nat, o ≤ q → q < o + 2 → H1[q]? = H[q]?) : isL D H1 o n L := by
  obtain ⟨h1, ⟨f, h2, h3⟩, h4⟩ := h
  exact ⟨h1.kept (hq _ (by omega) (by omega)), ⟨f, h2.kept (hq _ (by omega) (by omega)), h3⟩, h4⟩
theorem isL.lt {D : GG} {H : Heap} {o n : Nat} {L : List Int} (h : isL D H o n L) : o + 1 < H.size := by
  obtain ⟨h1, ⟨f, h2, h3⟩, h4⟩ := h
  exact h2.lt
theorem isL.b {D : GG} {H : Heap} {o n : Nat} {L : List Int} (h : isL D H o n L) : L.length ≤ n ∧ n ≤ 300 := ⟨h.2.2.1, h.2.2.2.1⟩
theorem isL.w {D : GG} {H : Heap} {o n : Nat} {L : List Int} (h : isL D H o n L) : wf L := h.2.2.2.2
theorem isL_mk {D : GG} {H : Heap} {o n : Nat} {L : List Int} {m : Int} {f : Int → Int} (h1 : At D H o (oO 2 [.ref (o + 1), zV m])) (h2 : At D H (o + 1) (oI D n f)) (hm : m = (L.length : Int)) (hf : ∀ j : Int, 0 ≤ j → j < (L.length : Int) → f j = gA L j) (hn : L.length ≤ n) (h3 : n ≤ 300) (hw : wf L) : isL D H o n L := by
  subst hm
  exact ⟨h1, ⟨f, h2, hf⟩, hn, h3, hw⟩
theorem isL_push {D : GG} {H : Heap} {o n : Nat} {L : List Int} {x : Int} {f : Int → Int} (h1 : At D H o (oO 2 [.ref (o + 1), zV ((L.length : Int) + 1)])) (h2 : At D H (o + 1) (oI D n (zU f ((L.length : Int)) x))) (hf : ∀ j : Int, 0 ≤ j → j < (L.length : Int) → f j = gA L j) (hn : (L.length : Int) < n) (h3 : n ≤ 300) (hw : wf L) (h0 : 0 ≤ x) (h4 : x < 4) : isL D H o n (L ++ [x]) := by
  refine isL_mk h1 h2 (by simp) (fun j g0 g1 => ?_) (by simp; omega) h3 (wf_app hw (wf_one h0 h4))
  have g1' : j < (L.length : Int) + 1 := by simpa using g1
  by_cases hj : j = (L.length : Int)
  · subst hj
    rw [zU_s, gA_snoc]
  · rw [zU_n _ _ hj, gA_app1 g0 (by omega)]
    exact hf j g0 (by omega)
end
section
/-- a row with a stretch copied in -/
def zC {α : Type} (f g : Int → α) (sp dp n : Int) : Int → α := fun j => if dp ≤ j ∧ j < dp + n then f (sp + (j - dp)) else g j
theorem zC_in {α : Type} (f g : Int → α) {sp dp n j : Int} (h : dp ≤ j) (h2 : j < dp + n) : zC f g sp dp n j = f (sp + (j - dp)) := if_pos ⟨h, h2⟩
theorem zC_out {α : Type} (f g : Int → α) {sp dp n j : Int} (h : j < dp ∨ dp + n ≤ j) : zC f g sp dp n j = g j := if_neg (by omega)
section NATR
variable {D : GG} {M : MX} {R : Room} {cc : ByteArray} {nL : Nat} {own : String} {A : Nat → Prop} {cs sl : Nat} {Q : State → Prop} {pc : Nat} {L : List (Nat × Value)} {st : List Value} {H : Heap}
theorem x_mmax {a b : Int} {idx : Nat} (ho : Ok D M cc nL own) (hd : decode cc pc = .ok (.invokestatic idx, 3)) (hlk : Cond.methodLink own idx ⟨"java/lang/Math", "max", "(II)I"⟩ ∈ gtbl) (ha : -2147483648 ≤ a ∧ a ≤ 2147483647) (hb : -2147483648 ≤ b ∧ b ≤ 2147483647) (hfr : 1 ≤ R.frames) (hlo : (st.map fun v => v.category).sum + 13 ≤ R.locals) (hc : cs ≤ R.cells) (hs : sl ≤ R.slots) (kk : X M R nL A cs sl Q (pc + 3) L (zV (if a < b then b else a) :: st) H) : X M R nL A cs sl Q pc L (zV b :: zV a :: st) H := by
  intro ls locs h1 h2 h3
  refine va_mmax ho.1 ho.2.1 (by rw [ho.2.2.1, h1.1]) ho.2.2.2.1 (ho.2.2.2.2.1 _ hlk) (ho.2.2.2.2.1 _ g_93) (ho.2.2.2.2.1 _ g_55) (ho.2.2.2.2.1 _ g_94) hfr hlo hc hs hd ?_
  rw [show (if zI a < zI b then zI b else zI a) = zI (if a < b then b else a) by
    by_cases h : a < b
    · rw [if_pos h, if_pos ((zI_lt ha hb).mpr h)]
    · rw [if_neg h, if_neg (fun q => h ((zI_lt ha hb).mp q))]]
  exact kk ls locs h1 h2 h3
theorem x_mmin {a b : Int} {idx : Nat} (ho : Ok D M cc nL own) (hd : decode cc pc = .ok (.invokestatic idx, 3)) (hlk : Cond.methodLink own idx ⟨"java/lang/Math", "min", "(II)I"⟩ ∈ gtbl) (ha : -2147483648 ≤ a ∧ a ≤ 2147483647) (hb : -2147483648 ≤ b ∧ b ≤ 2147483647) (hfr : 1 ≤ R.frames) (hlo : (st.map fun v => v.category).sum + 13 ≤ R.locals) (hc : cs ≤ R.cells) (hs : sl ≤ R.slots) (kk : X M R nL A cs sl Q (pc + 3) L (zV (if b < a then b else a) :: st) H) : X M R nL A cs sl Q pc L (zV b :: zV a :: st) H := by
  intro ls locs h1 h2 h3
  refine va_mmin ho.1 ho.2.1 (by rw [ho.2.2.1, h1.1]) ho.2.2.2.1 (ho.2.2.2.2.1 _ hlk) (ho.2.2.2.2.1 _ g_300) (ho.2.2.2.2.1 _ g_55) (ho.2.2.2.2.1 _ g_301) hfr hlo hc hs hd ?_
  rw [show (if zI b < zI a then zI b else zI a) = zI (if b < a then b else a) by
    by_cases h : b < a
    · rw [if_pos h, if_pos ((zI_lt hb ha).mpr h)]
    · rw [if_neg h, if_neg (fun q => h ((zI_lt hb ha).mp q))]]
  exact kk ls locs h1 h2 h3
theorem x_copy {a0 a n0 n1 : Nat} {f g : Int → Int} {sp dp n : Int} {idx : Nat} (ho : Ok D M cc nL own) (hd : decode cc pc = .ok (.invokestatic idx, 3)) (hlk : Cond.methodLink own idx ⟨"java/lang/System", "arraycopy", "(Ljava/lang/Object;ILjava/lang/Object;II)V"⟩ ∈ gtbl) (h0 : At D H a0 (oI D n0 f)) (h1 : At D H a (oI D n1 g)) (b1 : 0 ≤ sp) (b2 : 0 ≤ dp) (b3 : 0 ≤ n) (b4 : sp + n ≤ n0) (b5 : dp + n ≤ n1) (b6 : n0 ≤ 100000) (b7 : n1 ≤ 100000) (hfr : 1 ≤ R.frames) (hlo : (st.map fun v => v.category).sum + (nativeFrameWords "java/lang/System" "arraycopy" 5 + 11) ≤ R.locals) (hA : A a)
    (kk : ∀ H1 : Heap, At D H1 a (oI D n1 (zC f g sp dp n)) → H1.size = H.size → (∀ q : Nat, q ≠ a → H1[q]? = H[q]?) → X M R nL A cs sl Q (pc + 3) L st H1) : X M R nL A cs sl Q pc L (zV n :: zV dp :: .ref a :: zV sp :: .ref a0 :: st) H := by
  intro ls locs g1 g2 g3 T hT XX
  have hK := ho.2.2.2.2.2.1.1
  have e_sp : (zI sp).toNatClampNeg = sp.toNat := zI_n (by omega)
  have e_dp : (zI dp).toNatClampNeg = dp.toNat := zI_n (by omega)
  have e_n : (zI n).toNatClampNeg = n.toNat := zI_n (by omega)
  have hc0 : H[a0]? = some (vp_cell (D.2 0) (n0, .inl (fun j : Nat => zI (f (j : Int))))) := h0
  have hc1 : H[a]? = some (vp_cell (D.2 0) (n1, .inl (fun j : Nat => zI (g (j : Int))))) := h1
  obtain ⟨-, k0, hk0, cm0, hkk0⟩ := (hK.2 0 _ rfl).1 n0 (fun j => .int (zI (f (j : Int))))
  obtain ⟨-, k1, hk1, cm1, hkk1⟩ := (hK.2 0 _ rfl).1 n1 (fun j => .int (zI (g (j : Int))))
  have nlt : ∀ z : Int, 0 ≤ z → z ≤ 2147483647 → ¬ zI z < 0 := fun z q1 q2 => by rw [zI_0, zI_lt (by omega) (by omega)]; omega
  obtain ⟨vm', X', step⟩ := XX.arraycopy ho.1 ho.2.2.2.1 (ho.2.2.2.2.1 _ hlk) (ho.2.2.2.2.1 _ g_304) (ho.2.2.2.2.1 _ g_303) (ho.2.2.2.2.1 _ g_64) (src := a0) (dst := a) (cs := vp_cell (D.2 0) (n0, .inl (fun j : Nat => zI (f (j : Int))))) (cd := vp_cell (D.2 0) (n1, .inl (fun j : Nat => zI (g (j : Int))))) (srcPos := zI sp) (destPos := zI dp) (n := zI n) (by rw [hT]; exact hc0) (by rw [hT]; exact hc1)
    (fun _ h => by cases h) (fun _ h => by cases h) (fun h => by cases h) (fun h => by cases h) hk0 hk1 hkk0 hkk1 (by simp [refKind]) (nlt sp b1 (by omega)) (nlt dp b2 (by omega)) (nlt n b3 (by omega))
    (by rw [zI_toInt (by omega), zI_toInt (by omega)]; show ¬ _ > ((arrV (D.2 0) n0 (fun j => .int (zI (f (j : Int))))).slots.size : Int); rw [arrV_size]; omega)
    (by rw [zI_toInt (by omega), zI_toInt (by omega)]; show ¬ _ > ((arrV (D.2 0) n1 (fun j => .int (zI (g (j : Int))))).slots.size : Int); rw [arrV_size]; omega)
    (fun vm₁ _ i hi => by
      rw [e_n] at hi
      have e : (vp_cell (D.2 0) (n0, .inl (fun j : Nat => zI (f (j : Int))))).slots.getD ((zI sp).toNatClampNeg + i) .null = .int (zI (f (((zI sp).toNatClampNeg + i : Nat) : Int))) := by
        show (arrV (D.2 0) n0 (fun j => .int (zI (f (j : Int))))).slots.getD _ _ = _
        rw [Array.getD_eq_getD_getElem?, arrV_read _ _ (by rw [e_sp]; omega)]
        rfl
      refine ⟨?_, ?_⟩
      · rw [e]; rfl
      · rw [e]; exact trivial)
    (g := F0 M.2.2.2.2.1 pc ls (zV n :: zV dp :: .ref a :: zV sp :: .ref a0 :: st)) rfl (by rw [ho.2.2.1, g1.1]) (rest := st) rfl (by rw [ho.2.1]; exact hd) hfr (by show 2 * 0 + _ + _ ≤ _; omega)
  have e1 : copied (vp_cell (D.2 0) (n0, .inl (fun j : Nat => zI (f (j : Int))))) (vp_cell (D.2 0) (n1, .inl (fun j : Nat => zI (g (j : Int))))) (zI sp) (zI dp) (zI n) = vp_cell (D.2 0) (n1, .inl (va_cpy (fun j : Nat => zI (f (j : Int))) (fun j : Nat => zI (g (j : Int))) (zI sp).toNatClampNeg (zI dp).toNatClampNeg (zI n).toNatClampNeg)) := va_copied (fun z => .int z) (D.2 0) (D.2 0) (fun j : Nat => zI (f (j : Int))) (fun j : Nat => zI (g (j : Int))) (by rw [e_sp, e_n]; omega)
  have e2 : va_cpy (fun j : Nat => zI (f (j : Int))) (fun j : Nat => zI (g (j : Int))) (zI sp).toNatClampNeg (zI dp).toNatClampNeg (zI n).toNatClampNeg = fun j : Nat => zI (zC f g sp dp n (j : Int)) := by
    funext j
    rw [e_sp, e_dp, e_n]
    unfold va_cpy zC
    by_cases h : dp.toNat ≤ j ∧ j < dp.toNat + n.toNat
    · rw [if_pos h, if_pos (by omega)]
      show zI (f _) = zI (f _)
      congr 2
      omega
    · rw [if_neg h, if_neg (by omega)]
  rw [e1, e2] at X' step
  have hl : a < H.size := (Array.getElem?_eq_some_iff.mp hc1).1
  have hheap : ((T.setVm vm').setCell a (vp_cell (D.2 0) (n1, .inl (fun j : Nat => zI (zC f g sp dp n (j : Int)))))).heap = H.setIfInBounds a (vp_cell (D.2 0) (n1, .inl (fun j : Nat => zI (zC f g sp dp n (j : Int))))) := by rw [← hT]; rfl
  have oq : ∀ q : Nat, q ≠ a → (H.setIfInBounds a (vp_cell (D.2 0) (n1, .inl (fun j : Nat => zI (zC f g sp dp n (j : Int))))))[q]? = H[q]? := fun q hq => by simp [Array.getElem?_setIfInBounds, Ne.symm hq]
  have hz : (H.setIfInBounds a (vp_cell (D.2 0) (n1, .inl (fun j : Nat => zI (zC f g sp dp n (j : Int)))))).size = H.size := by simp
  obtain ⟨t, a1, b1'⟩ := kk _ (show (H.setIfInBounds a _)[a]? = some _ by simp [Array.getElem?_setIfInBounds, hl]) hz oq ls _ g1 (fun q hq => by
      rcases List.mem_append.mp hq with h | h
      · exact g2 q h
      · obtain ⟨z, -, hz⟩ := List.mem_map.mp h
        rw [← hz]
        exact hA) (g3.put hz oq hA) _ hheap X'
  exact ⟨t, step t a1, b1'⟩
/-- sets of letters as whole numbers -/
def sh (x : Int) : Int := ((2 ^ x.toNat : Nat) : Int)
def orI (a b : Int) : Int := ((a.toNat ||| b.toNat : Nat) : Int)
def andI (a b : Int) : Int := ((a.toNat &&& b.toNat : Nat) : Int)
theorem sh_16 {x : Int} (h0 : 0 ≤ x) (h1 : x < 4) : 0 ≤ sh x ∧ sh x < 16 := by
  have h : x = 0 ∨ x = 1 ∨ x = 2 ∨ x = 3 := by omega
  rcases h with rfl | rfl | rfl | rfl <;> decide
theorem or_16N : ∀ a, a < 16 → ∀ b, b < 16 → zI ((a : Nat) : Int) ||| zI ((b : Nat) : Int) = zI (((a ||| b : Nat)) : Int) ∧ a ||| b < 16 := by decide +kernel
theorem and_16N : ∀ a, a < 16 → ∀ b, b < 16 → zI ((a : Nat) : Int) &&& zI ((b : Nat) : Int) = zI (((a &&& b : Nat)) : Int) ∧ a &&& b < 16 := by decide +kernel
theorem orI_16 {a b : Int} (ha : 0 ≤ a ∧ a < 16) (hb : 0 ≤ b ∧ b < 16) : 0 ≤ orI a b ∧ orI a b < 16 := by
  have := (or_16N a.toNat (by omega) b.toNat (by omega)).2
  unfold orI
  omega
theorem andI_16 {a b : Int} (ha : 0 ≤ a ∧ a < 16) (hb : 0 ≤ b ∧ b < 16) : 0 ≤ andI a b ∧ andI a b < 16 := by
  have := (and_16N a.toNat (by omega) b.toNat (by omega)).2
  unfold andI
  omega
theorem shl_N : ∀ k, k < 4 → zI 1 <<< (zI ((k : Nat) : Int) &&& 31) = zI (sh (k : Int)) := by decide +kernel
theorem x_shl1 {x : Int} (ho : Ok D M cc nL own) (hd : decode cc pc = .ok (.ishl, 1)) (h : 0 ≤ x ∧ x < 4) (k : X M R nL A cs sl Q (pc + 1) L (zV (sh x) :: st) H) : X M R nL A cs sl Q pc L (zV x :: zV 1 :: st) H := fun ls locs h1 h2 h3 => by
  refine lv_ishl ho.1 ho.2.1 hd ?_
  have e := shl_N x.toNat (by omega)
  rw [show ((x.toNat : Nat) : Int) = x by omega] at e
  rw [e]
  exact k ls locs h1 h2 h3
theorem x_or16 {a b : Int} (ho : Ok D M cc nL own) (hd : decode cc pc = .ok (.ior, 1)) (ha : 0 ≤ a ∧ a < 16) (hb : 0 ≤ b ∧ b < 16) (k : X M R nL A cs sl Q (pc + 1) L (zV (orI a b) :: st) H) : X M R nL A cs sl Q pc L (zV b :: zV a :: st) H := fun ls locs h1 h2 h3 => by
  refine lv_ior ho.1 ho.2.1 hd ?_
  have e := (or_16N a.toNat (by omega) b.toNat (by omega)).1
  rw [show ((a.toNat : Nat) : Int) = a by omega, show ((b.toNat : Nat) : Int) = b by omega] at e
  rw [e]
  exact k ls locs h1 h2 h3
theorem x_and16 {a b : Int} (ho : Ok D M cc nL own) (hd : decode cc pc = .ok (.iand, 1)) (ha : 0 ≤ a ∧ a < 16) (hb : 0 ≤ b ∧ b < 16) (k : X M R nL A cs sl Q (pc + 1) L (zV (andI a b) :: st) H) : X M R nL A cs sl Q pc L (zV b :: zV a :: st) H := fun ls locs h1 h2 h3 => by
  refine lv_iand ho.1 ho.2.1 hd ?_
  have e := (and_16N a.toNat (by omega) b.toNat (by omega)).1
  rw [show ((a.toNat : Nat) : Int) = a by omega, show ((b.toNat : Nat) : Int) = b by omega] at e
  rw [e]
  exact k ls locs h1 h2 h3
end NATR
/-- the letters of a word as a set -/
def bitL (L : List Int) : Int := L.foldl (fun a x => orI a (sh x)) 0
theorem bitL_snoc (L : List Int) (x : Int) : bitL (L ++ [x]) = orI (bitL L) (sh x) := by
  unfold bitL
  rw [List.foldl_append]
  rfl
theorem bitL_16 {L : List Int} (h : wf L) : 0 ≤ bitL L ∧ bitL L < 16 := by
  have key : ∀ (K : List Int) (a : Int), (0 ≤ a ∧ a < 16) → wf K → 0 ≤ K.foldl (fun a x => orI a (sh x)) a ∧ K.foldl (fun a x => orI a (sh x)) a < 16 := by
    intro K
    induction K with
    | nil => intro a ha _; exact ha
    | cons x K ih =>
      intro a ha hw
      have hx := hw x List.mem_cons_self
      exact ih _ (orI_16 ha (sh_16 hx.1 hx.2)) (fun y hy => hw y (List.mem_cons_of_mem _ hy))
  exact key L 0 (by decide) h
/-- how often a letter comes -/
def cn (L : List Int) (z : Int) : Int := (L.count z : Int)
theorem cn_nil (z : Int) : cn [] z = 0 := rfl
theorem cn_snoc (L : List Int) (x z : Int) : cn (L ++ [x]) z = cn L z + if x = z then 1 else 0 := by
  unfold cn
  rw [List.count_append]
  by_cases h : x = z
  · subst h
    simp
  · simp [h]
theorem cn_r (L : List Int) (z : Int) : 0 ≤ cn L z ∧ cn L z ≤ (L.length : Int) := by
  unfold cn
  have := List.count_le_length (a := z) (l := L)
  omega
/-- an exchange of two letters -/
def sw (a b x : Int) : Int := if x = a then b else if x = b then a else x
theorem gA_map {L : List Int} {f : Int → Int} {z : Int} (h0 : 0 ≤ z) (h1 : z < (L.length : Int)) : gA (L.map f) z = f (gA L z) := by
  have a1 := gA_get h0 h1
  unfold gA at *
  rw [List.getD_eq_getElem?_getD, List.getElem?_map, a1]
  rfl
theorem wf_map {L : List Int} {f : Int → Int} (h : ∀ x, x ∈ L → 0 ≤ f x ∧ f x < 4) : wf (L.map f) := fun y hy => by
  obtain ⟨x, hx, rfl⟩ := List.mem_map.mp hy
  exact h x hx
theorem sw_r {a b x : Int} (ha : 0 ≤ a ∧ a < 4) (hb : 0 ≤ b ∧ b < 4) (hx : 0 ≤ x ∧ x < 4) : 0 ≤ sw a b x ∧ sw a b x < 4 := by
  unfold sw
  split
  · exact hb
  · split
    · exact ha
    · exact hx
/-- the first letter behind the others, or the last one ahead -/
def rot1 (L : List Int) : List Int := L.drop 1 ++ L.take 1
def rot2 (L : List Int) : List Int := L.drop (L.length - 1) ++ L.take (L.length - 1)
noncomputable def rot (right : Prop) (L : List Int) : List Int := @ite _ right (Classical.propDecidable right) (rot2 L) (rot1 L)
theorem rot_t {P : Prop} (h : P) (L : List Int) : rot P L = rot2 L := by unfold rot; exact if_pos h
theorem rot_f {P : Prop} (h : ¬ P) (L : List Int) : rot P L = rot1 L := by unfold rot; exact if_neg h
theorem gA_drop {L : List Int} {k : Nat} {z : Int} (h0 : 0 ≤ z) : gA (L.drop k) z = gA L (z + k) := by
  unfold gA
  rw [List.getD_eq_getElem?_getD, List.getD_eq_getElem?_getD, List.getElem?_drop]
  congr 2
  omega
theorem gA_take {L : List Int} {k : Nat} {z : Int} (h0 : 0 ≤ z) (h1 : z < k) : gA (L.take k) z = gA L z := by
  unfold gA
  rw [List.getD_eq_getElem?_getD, List.getD_eq_getElem?_getD, List.getElem?_take_of_lt (by omega)]
theorem rot1_len (L : List Int) : (rot1 L).length = L.length := by
  unfold rot1; simp; omega
theorem rot2_len (L : List Int) : (rot2 L).length = L.length := by
  unfold rot2; simp
theorem rot1_wf {L : List Int} (h : wf L) : wf (rot1 L) := wf_app (fun x hx => h x (List.mem_of_mem_drop hx)) (fun x hx => h x (List.mem_of_mem_take hx))
theorem rot2_wf {L : List Int} (h : wf L) : wf (rot2 L) := wf_app (fun x hx => h x (List.mem_of_mem_drop hx)) (fun x hx => h x (List.mem_of_mem_take hx))
theorem rot1_g {L : List Int} {z : Int} (h0 : 0 ≤ z) (h1 : z < (L.length : Int)) : gA (rot1 L) z = if z = (L.length : Int) - 1 then gA L 0 else gA L (z + 1) := by
  unfold rot1
  have hd : ((L.drop 1).length : Int) = (L.length : Int) - 1 := by simp; omega
  by_cases h : z = (L.length : Int) - 1
  · rw [if_pos h, gA_app2 (by omega), gA_take (by omega) (by omega)]
    congr 1
    omega
  · rw [if_neg h, gA_app1 h0 (by omega), gA_drop h0]
    rfl
theorem rot2_g {L : List Int} {z : Int} (h0 : 0 ≤ z) (h1 : z < (L.length : Int)) : gA (rot2 L) z = if z = 0 then gA L ((L.length : Int) - 1) else gA L (z - 1) := by
  unfold rot2
  have hd : ((L.drop (L.length - 1)).length : Int) = 1 := by simp; omega
  by_cases h : z = 0
  · rw [if_pos h, gA_app1 h0 (by omega), gA_drop h0]
    congr 1
    omega
  · rw [if_neg h, gA_app2 (by omega), gA_take (by omega) (by omega)]
    congr 1
    omega
theorem rot_one {L : List Int} (h : L.length < 2) : rot1 L = L ∧ rot2 L = L := by
  match L, h with
  | [], _ => exact ⟨rfl, rfl⟩
  | [x], _ => exact ⟨rfl, rfl⟩
end
section
def q_MW_isLetter (D : GG) (x : Int) : Option Value → Heap → Prop := fun v H => (v = some (zV (bI (0 ≤ x ∧ x < 4))))
theorem yv_MW_isLetter : Yv y_MW_isLetter b_MW_isLetter 1 (Option.some FieldType.boolean) 1 := ⟨g_108, g_51, by decide, by decide +kernel⟩
set_option maxHeartbeats 4000000 in
set_option maxRecDepth 100000 in
theorem c_MW_isLetter (l : Launch) (D : GG) (x : Int) (hx : -2147483648 ≤ x ∧ x ≤ 2147483647) : Ct l D y_MW_isLetter b_MW_isLetter 1 (Option.some FieldType.boolean) ({ frames := 0, cells := 0, slots := 0, locals := 0 } : Room) [zV x] (fun H => True) nA 0 0 (q_MW_isLetter D x) := by
  refine Ct.of (L := [(0, zV x)]) (by decide) (Nat.le_of_ble_eq_true rfl) rfl (fun M H ho hr hnm hH hpre => ?_)
  refine x_iload_n ho 0 d_MW_isLetter_0 rfl ?_
  refine x_if_lt (tgt := 13) ho d_MW_isLetter_1 (by decide) (by omega) (fun c_1 => ?_) (fun c_1 => ?_)
  ·
    refine x_iconst ho d_MW_isLetter_13 ?_
    refine x_zret ho hr (Or.inl rfl) d_MW_isLetter_14 ?_
    exact rF (by omega)
  ·
    refine x_iload_n ho 0 d_MW_isLetter_4 rfl ?_
    refine x_iconst ho d_MW_isLetter_5 ?_
    refine x_icmp_ge (tgt := 13) ho d_MW_isLetter_6 (by decide) (by omega) (by omega) (fun c_6 => ?_) (fun c_6 => ?_)
    ·
      refine x_iconst ho d_MW_isLetter_13 ?_
      refine x_zret ho hr (Or.inl rfl) d_MW_isLetter_14 ?_
      exact rF (by omega)
    ·
      refine x_iconst ho d_MW_isLetter_9 ?_
      refine x_goto (tgt := 14) ho d_MW_isLetter_10 (by decide) ?_
      refine x_zret ho hr (Or.inr rfl) d_MW_isLetter_14 ?_
      exact rT (by omega)
def q_LE_length (D : GG) (o : Nat) (n : Nat) (L : List Int) : Option Value → Heap → Prop := fun v H => v = some (zV ((L.length : Int)))
theorem yv_LE_length : Yv y_LE_length b_LE_length 1 (Option.some FieldType.int) 0 := ⟨g_323, g_54, by decide, by decide +kernel⟩
set_option maxHeartbeats 4000000 in
set_option maxRecDepth 100000 in
theorem c_LE_length (l : Launch) (D : GG) (o : Nat) (n : Nat) (L : List Int)  : Ct l D y_LE_length b_LE_length 1 (Option.some FieldType.int) ({ frames := 0, cells := 0, slots := 0, locals := 0 } : Room) [.ref o] (fun H => isL D H o n L) nA 0 0 (q_LE_length D o n L) := by
  refine Ct.of (L := [(0, .ref o)]) (by decide) (Nat.le_of_ble_eq_true rfl) rfl (fun M H ho hr hnm hH hpre => ?_)
  have hL := hpre
  refine x_aload_n ho 0 d_LE_length_0 rfl ?_
  refine x_get 1 ho d_LE_length_1 cl_LE (by decide) g_96 hL.1 rfl ?_
  refine x_iret ho hr d_LE_length_4 ?_
  exact rfl
def q_LE_letterAt (D : GG) (o : Nat) (n : Nat) (L : List Int) (z : Int) : Option Value → Heap → Prop := fun v H => v = some (zV (lat L z)) ∧ (-1 ≤ lat L z ∧ lat L z < 4)
theorem yv_LE_letterAt : Yv y_LE_letterAt b_LE_letterAt 2 (Option.some FieldType.int) 1 := ⟨g_343, g_54, by decide, by decide +kernel⟩
set_option maxHeartbeats 4000000 in
set_option maxRecDepth 100000 in
theorem c_LE_letterAt (l : Launch) (D : GG) (o : Nat) (n : Nat) (L : List Int) (z : Int) (hz : -2147483648 ≤ z ∧ z ≤ 2147483647) : Ct l D y_LE_letterAt b_LE_letterAt 2 (Option.some FieldType.int) ({ frames := 0, cells := 0, slots := 0, locals := 0 } : Room) [.ref o, zV z] (fun H => isL D H o n L) nA 0 0 (q_LE_letterAt D o n L z) := by
  refine Ct.of (L := [(0, .ref o), (1, zV z)]) (by decide) (Nat.le_of_ble_eq_true rfl) rfl (fun M H ho hr hnm hH hpre => ?_)
  have hL := hpre
  obtain ⟨h_o, ⟨f, h_a, h_f⟩, h_n, h_3, h_w⟩ := id hL
  refine x_iload_n ho 1 d_LE_letterAt_0 rfl ?_
  refine x_if_lt (tgt := 21) ho d_LE_letterAt_1 (by decide) (by omega) (fun c_1 => ?_) (fun c_1 => ?_)
  ·
    refine x_iconst ho d_LE_letterAt_21 ?_
    refine x_iret ho hr d_LE_letterAt_22 ?_
    exact ⟨rI (by exact (lat_out (by omega)).symm), (by exact lat_r h_w z)⟩
  ·
    refine x_iload_n ho 1 d_LE_letterAt_4 rfl ?_
    refine x_aload_n ho 0 d_LE_letterAt_5 rfl ?_
    refine x_get 1 ho d_LE_letterAt_6 cl_LE (by decide) g_96 h_o rfl ?_
    refine x_icmp_ge (tgt := 21) ho d_LE_letterAt_9 (by decide) (by omega) (by omega) (fun c_9 => ?_) (fun c_9 => ?_)
    ·
      refine x_iconst ho d_LE_letterAt_21 ?_
      refine x_iret ho hr d_LE_letterAt_22 ?_
      exact ⟨rI (by exact (lat_out (by omega)).symm), (by exact lat_r h_w z)⟩
    ·
      refine x_aload_n ho 0 d_LE_letterAt_12 rfl ?_
      refine x_get 0 ho d_LE_letterAt_13 cl_LE (by decide) g_95 h_o rfl ?_
      refine x_iload_n ho 1 d_LE_letterAt_16 rfl ?_
      refine x_iald ho d_LE_letterAt_17 h_a (by omega) (by omega) (by omega) ?_
      refine x_eqI (b := gA L z) (by exact h_f _ (by omega) (by omega)) ?_
      refine x_goto (tgt := 22) ho d_LE_letterAt_18 (by decide) ?_
      refine x_iret ho hr d_LE_letterAt_22 ?_
      exact ⟨rI (by exact (lat_in (by omega) (by omega)).symm), (by exact lat_r h_w z)⟩
def q_LE_clear (D : GG) (o : Nat) (n : Nat) (L : List Int) : Option Value → Heap → Prop := fun v H => v = none ∧ isL D H o n ([])
theorem yv_LE_clear : Yv y_LE_clear b_LE_clear 1 (Option.none : Option FieldType) 0 := ⟨g_316, g_54, by decide, by decide +kernel⟩
set_option maxHeartbeats 4000000 in
set_option maxRecDepth 100000 in
theorem c_LE_clear (l : Launch) (D : GG) (o : Nat) (n : Nat) (L : List Int)  : Ct l D y_LE_clear b_LE_clear 1 (Option.none : Option FieldType) ({ frames := 0, cells := 0, slots := 0, locals := 0 } : Room) [.ref o] (fun H => isL D H o n L) (rA o (o + 2)) 0 0 (q_LE_clear D o n L) := by
  refine Ct.of (L := [(0, .ref o)]) (by decide) (Nat.le_of_ble_eq_true rfl) rfl (fun M H ho hr hnm hH hpre => ?_)
  have hL := hpre
  obtain ⟨h_o, ⟨f, h_a, h_f⟩, h_n, h_3, h_w⟩ := id hL
  refine x_aload_n ho 0 d_LE_clear_0 rfl ?_
  refine x_iconst ho d_LE_clear_1 ?_
  refine x_put 1 ho d_LE_clear_2 cl_LE (by decide) g_96 h_o rfl rfl rfl (Nat.le_of_ble_eq_true rfl) (rA_in (by omega) (by omega)) (fun H_1 p_2 z_3 q_4 => ?_)
  have k_5 := h_a.kept (q_4 _ (by omega))
  refine x_vret ho hr d_LE_clear_5 ?_
  exact ⟨rfl, isL_mk p_2 k_5 rfl (fun j h0 h1 => by simp at h1; omega) (Nat.zero_le _) h_3 wf_nil⟩
def q_LE_add (D : GG) (o : Nat) (n : Nat) (L : List Int) (x : Int) : Option Value → Heap → Prop := fun v H => (v = some (zV 1) ∧ (0 ≤ x ∧ x < 4 ∧ (L.length : Int) < n) ∧ isL D H o n (L ++ [x])) ∨ (v = some (zV 0) ∧ (¬ (0 ≤ x ∧ x < 4 ∧ (L.length : Int) < n)) ∧ isL D H o n L)
theorem yv_LE_add : Yv y_LE_add b_LE_add 2 (Option.some FieldType.boolean) 1 := ⟨g_106, g_54, by decide, by decide +kernel⟩
set_option maxHeartbeats 4000000 in
set_option maxRecDepth 100000 in
theorem c_LE_add (l : Launch) (D : GG) (o : Nat) (n : Nat) (L : List Int) (x : Int) (hx : -2147483648 ≤ x ∧ x ≤ 2147483647) : Ct l D y_LE_add b_LE_add 2 (Option.some FieldType.boolean) ({ frames := 1, cells := 0, slots := 0, locals := 20 } : Room) [.ref o, zV x] (fun H => isL D H o n L) (rA o (o + 2)) 0 0 (q_LE_add D o n L x) := by
  refine Ct.of (L := [(0, .ref o), (1, zV x)]) (by decide) (Nat.le_of_ble_eq_true rfl) rfl (fun M H ho hr hnm hH hpre => ?_)
  have hL := hpre
  obtain ⟨h_o, ⟨f, h_a, h_f⟩, h_n, h_3, h_w⟩ := id hL
  refine x_iload_n ho 1 d_LE_add_0 rfl ?_
  refine x_callSN (host := "MorphWords") (rest := []) ho d_LE_add_1 yv_MW_isLetter g_107 (List.mem_of_getElem? (i := 0) rfl) (c_MW_isLetter M.2.1 D x (by omega)) rfl rfl ⟨Nat.le_of_ble_eq_true rfl, Nat.le_of_ble_eq_true rfl⟩ ⟨Nat.le_of_ble_eq_true rfl, Nat.le_of_ble_eq_true rfl⟩ rfl rfl (Nat.le_of_ble_eq_true rfl) trivial fr_none' (x_rd (fun v_1 hv_1 => ?_))
  obtain rfl := hv_1
  show X _ _ _ _ _ _ _ _ _ [zV (bI (0 ≤ x ∧ x < 4))] _
  refine x_if_eqB (tgt := 19) ho d_LE_add_4 (by decide) (fun c_4 => ?_) (fun c_4 => ?_)
  ·
    refine x_iconst ho d_LE_add_19 ?_
    refine x_zret ho hr (Or.inl rfl) d_LE_add_20 ?_
    exact Or.inr ⟨rfl, by omega, hL⟩
  ·
    refine x_aload_n ho 0 d_LE_add_7 rfl ?_
    refine x_get 1 ho d_LE_add_8 cl_LE (by decide) g_96 h_o rfl ?_
    refine x_aload_n ho 0 d_LE_add_11 rfl ?_
    refine x_get 0 ho d_LE_add_12 cl_LE (by decide) g_95 h_o rfl ?_
    refine x_alen ho d_LE_add_15 h_a ?_
    refine x_icmp_lt (tgt := 21) ho d_LE_add_16 (by decide) (by omega) (by omega) (fun c_16 => ?_) (fun c_16 => ?_)
    ·
      refine x_aload_n ho 0 d_LE_add_21 rfl ?_
      refine x_get 0 ho d_LE_add_22 cl_LE (by decide) g_95 h_o rfl ?_
      refine x_aload_n ho 0 d_LE_add_25 rfl ?_
      refine x_get 1 ho d_LE_add_26 cl_LE (by decide) g_96 h_o rfl ?_
      refine x_iload_n ho 1 d_LE_add_29 rfl ?_
      refine x_iast ho d_LE_add_30 h_a (by omega) (by omega) (by omega) (rA_in (by omega) (by omega)) (fun H_3 p_4 z_5 q_6 => ?_)
      have k_7 := h_o.kept (q_6 _ (by omega))
      refine x_aload_n ho 0 d_LE_add_31 rfl ?_
      refine x_dup ho d_LE_add_32 rfl ?_
      refine x_get 1 ho d_LE_add_33 cl_LE (by decide) g_96 k_7 rfl ?_
      refine x_iconst ho d_LE_add_36 ?_
      refine x_iadd ho d_LE_add_37 ?_
      refine x_put 1 ho d_LE_add_38 cl_LE (by decide) g_96 k_7 rfl rfl rfl (Nat.le_of_ble_eq_true rfl) (rA_in (by omega) (by omega)) (fun H_8 p_9 z_10 q_11 => ?_)
      have k_12 := p_4.kept (q_11 _ (by omega))
      refine x_iconst ho d_LE_add_41 ?_
      refine x_zret ho hr (Or.inr rfl) d_LE_add_42 ?_
      exact Or.inl ⟨rfl, by omega, isL_push p_9 k_12 h_f (by omega) h_3 h_w (by omega) (by omega)⟩
    ·
      refine x_iconst ho d_LE_add_19 ?_
      refine x_zret ho hr (Or.inl rfl) d_LE_add_20 ?_
      exact Or.inr ⟨rfl, by omega, hL⟩
def q_LE_addAll (D : GG) (o : Nat) (n : Nat) (L : List Int) (p : Nat) (m : Nat) (K : List Int) : Option Value → Heap → Prop := fun v H => v = some (zV (bI ((L.length : Int) + (K.length : Int) ≤ n))) ∧ isL D H o n (tk (L ++ K) n) ∧ isL D H p m K
theorem yv_LE_addAll : Yv y_LE_addAll b_LE_addAll 3 (Option.some FieldType.boolean) 1 := ⟨g_379, g_54, by decide, by decide +kernel⟩
set_option maxHeartbeats 4000000 in
set_option maxRecDepth 100000 in
theorem c_LE_addAll (l : Launch) (D : GG) (o : Nat) (n : Nat) (L : List Int) (p : Nat) (m : Nat) (K : List Int) (hd : o + 2 ≤ p ∨ p + 2 ≤ o) : Ct l D y_LE_addAll b_LE_addAll 3 (Option.some FieldType.boolean) ({ frames := 2, cells := 0, slots := 0, locals := 41 } : Room) [.ref o, .ref p] (fun H => isL D H o n L ∧ isL D H p m K) (rA o (o + 2)) 0 0 (q_LE_addAll D o n L p m K) := by
  refine Ct.of (L := [(0, .ref o), (1, .ref p)]) (by decide) (Nat.le_of_ble_eq_true rfl) rfl (fun M H ho hr hnm hH hpre => ?_)
  obtain ⟨hL, hK⟩ := hpre
  have h_n := hL.b
  have h_w := hL.w
  have k_n := hK.b
  have k_w := hK.w
  refine x_iconst ho d_LE_addAll_0 ?_
  refine x_istore_n (L' := [(2, zV 0), (0, .ref o), (1, .ref p)]) ho d_LE_addAll_1 (by decide) rfl ?_
  have loop_2 : ∀ (kk : Nat) (i : Int) (H_1 : Heap) (gL : isL D H_1 o n (L ++ tk K i)) (gK : isL D H_1 p m K) (i0 : 0 ≤ i ∧ i ≤ (K.length : Int) ∧ (L.length : Int) + i ≤ n), ((K.length : Int) - i).toNat < kk → X M ({ frames := 2, cells := 0, slots := 0, locals := 41 } : Room) 3 (rA o (o + 2)) 0 0 (Qof M (rA o (o + 2)) (q_LE_addAll D o n L p m K) 0 0) 2 [(2, zV i), (0, .ref o), (1, .ref p)] [] H_1 := by
    intro kk
    induction kk with
    | zero => intro i H_1 gL gK i0 hk; exact absurd hk (Nat.not_lt_zero _)
    | succ kk ih_2 =>
      intro i H_1 gL gK i0 hk_2
      refine x_iload_n ho 0 d_LE_addAll_2 rfl ?_
      refine x_aload_n ho 2 d_LE_addAll_3 rfl ?_
      refine x_get 1 ho d_LE_addAll_4 cl_LE (by decide) g_96 gK.1 rfl ?_
      refine x_icmp_ge (tgt := 30) ho d_LE_addAll_7 (by decide) (by omega) (by omega) (fun c_7 => ?_) (fun c_7 => ?_)
      ·
        refine x_iconst ho d_LE_addAll_30 ?_
        refine x_zret ho hr (Or.inr rfl) d_LE_addAll_31 ?_
        exact ⟨rT (by omega), by rw [tk_app (by omega), show (n : Int) - (L.length : Int) = n - (L.length : Int) from rfl, tk_all (by omega)]; rw [tk_all (by omega)] at gL; exact gL, gK⟩
      ·
        refine x_aload_n ho 1 d_LE_addAll_10 rfl ?_
        refine x_aload_n ho 2 d_LE_addAll_11 rfl ?_
        refine x_iload_n ho 0 d_LE_addAll_12 rfl ?_
        refine x_callV (rest := [.ref o]) ho d_LE_addAll_13 yv_LE_letterAt g_341 g_342 g_340 (c_LE_letterAt M.2.1 D p m K i (by omega)) rfl rfl ⟨Nat.le_of_ble_eq_true rfl, Nat.le_of_ble_eq_true rfl⟩ ⟨Nat.le_of_ble_eq_true rfl, Nat.le_of_ble_eq_true rfl⟩ rfl rfl (Nat.le_of_ble_eq_true rfl) gK.1 rfl rfl gK fr_none' (x_rd (fun v_2 hv_2 => ?_))
        obtain ⟨rfl, hr_4⟩ := hv_2
        show X _ _ _ _ _ _ _ _ _ [zV (lat K i), .ref o] _
        refine x_eqI (b := gA K i) (by exact lat_in (by omega) (by omega)) ?_
        have hg := gA_r k_w i
        have hl : ((L ++ tk K i).length : Int) = (L.length : Int) + i := by rw [List.length_append]; have := tk_len (L := K) (i := i) (by omega) (by omega); omega
        refine x_callV (rest := []) ho d_LE_addAll_16 yv_LE_add g_104 g_105 g_380 (c_LE_add M.2.1 D o n (L ++ tk K i) (gA K i) (by omega)) rfl rfl ⟨Nat.le_of_ble_eq_true rfl, Nat.le_of_ble_eq_true rfl⟩ ⟨Nat.le_of_ble_eq_true rfl, Nat.le_of_ble_eq_true rfl⟩ rfl rfl (Nat.le_of_ble_eq_true rfl) gL.1 rfl rfl gL (rA_sub (by omega) (by omega)) (fun v_5 H_7 hv_5 f_6 => ?_)
        have k_8 := gK.kept (fun q g1 g2 => f_6.2 q (by have := gK.lt; omega) (rA_no (by omega)))
        rcases hv_5 with ⟨rfl, hp_9, hL_10⟩ | ⟨rfl, hp_11, hL_12⟩
        ·
          show X _ _ _ _ _ _ _ _ _ [zV 1] _
          refine x_if_ne (tgt := 24) ho d_LE_addAll_19 (by decide) (by omega) (fun _ => ?_) (fun c => absurd c (by decide))
          refine x_iinc (L' := [(2, zV (i + 1)), (0, .ref o), (1, .ref p)]) ho 0 d_LE_addAll_24 rfl rfl (by decide) rfl ?_
          refine x_goto (tgt := 2) ho d_LE_addAll_27 (by decide) ?_
          exact ih_2 (i + 1) H_7 (by rw [tk_succ (by omega) (by omega), ← List.append_assoc]; exact hL_10) k_8 (by omega) (by omega)
        ·
          show X _ _ _ _ _ _ _ _ _ [zV 0] _
          refine x_if_ne (tgt := 24) ho d_LE_addAll_19 (by decide) (by omega) (fun c => absurd c (by decide)) (fun _ => ?_)
          refine x_iconst ho d_LE_addAll_22 ?_
          refine x_zret ho hr (Or.inl rfl) d_LE_addAll_23 ?_
          exact ⟨rF (by omega), by rw [tk_app (by omega), show (n : Int) - (L.length : Int) = i by omega]; exact hL_12, k_8⟩
  exact loop_2 _ 0 H (by rw [tk_0, List.append_nil]; exact hL) hK (by omega) (Nat.lt_succ_self _)
def q_LE_shorten (D : GG) (o : Nat) (n : Nat) (L : List Int) (t : Int) : Option Value → Heap → Prop := fun v H => v = none ∧ isL D H o n (tk L t)
theorem yv_LE_shorten : Yv y_LE_shorten b_LE_shorten 2 (Option.none : Option FieldType) 1 := ⟨g_446, g_54, by decide, by decide +kernel⟩
set_option maxHeartbeats 4000000 in
set_option maxRecDepth 100000 in
theorem c_LE_shorten (l : Launch) (D : GG) (o : Nat) (n : Nat) (L : List Int) (t : Int) (ht : -2147483648 ≤ t ∧ t ≤ 2147483647) (h1 : 1 ≤ t) : Ct l D y_LE_shorten b_LE_shorten 2 (Option.none : Option FieldType) ({ frames := 0, cells := 0, slots := 0, locals := 0 } : Room) [.ref o, zV t] (fun H => isL D H o n L) (rA o (o + 2)) 0 0 (q_LE_shorten D o n L t) := by
  refine Ct.of (L := [(0, .ref o), (1, zV t)]) (by decide) (Nat.le_of_ble_eq_true rfl) rfl (fun M H ho hr hnm hH hpre => ?_)
  have hL := hpre
  obtain ⟨h_o, ⟨f, h_a, h_f⟩, h_n, h_3, h_w⟩ := id hL
  refine x_iload_n ho 1 d_LE_shorten_0 rfl ?_
  refine x_if_lt (tgt := 17) ho d_LE_shorten_1 (by decide) (by omega) (fun c_1 => ?_) (fun c_1 => ?_)
  ·
    refine x_vret ho hr d_LE_shorten_17 ?_
    exact absurd c_1 (by omega)
  ·
    refine x_iload_n ho 1 d_LE_shorten_4 rfl ?_
    refine x_aload_n ho 0 d_LE_shorten_5 rfl ?_
    refine x_get 1 ho d_LE_shorten_6 cl_LE (by decide) g_96 h_o rfl ?_
    refine x_icmp_ge (tgt := 17) ho d_LE_shorten_9 (by decide) (by omega) (by omega) (fun c_9 => ?_) (fun c_9 => ?_)
    ·
      refine x_vret ho hr d_LE_shorten_17 ?_
      exact ⟨rfl, by rw [tk_all (by omega)]; exact hL⟩
    ·
      refine x_aload_n ho 0 d_LE_shorten_12 rfl ?_
      refine x_iload_n ho 1 d_LE_shorten_13 rfl ?_
      refine x_put 1 ho d_LE_shorten_14 cl_LE (by decide) g_96 h_o rfl rfl rfl (Nat.le_of_ble_eq_true rfl) (rA_in (by omega) (by omega)) (fun H_1 p_2 z_3 q_4 => ?_)
      have k_5 := h_a.kept (q_4 _ (by omega))
      refine x_vret ho hr d_LE_shorten_17 ?_
      exact ⟨rfl, isL_mk p_2 k_5 (tk_len (by omega) (by omega)).symm (fun j h0 h1 => by rw [tk_len (by omega) (by omega)] at h1; rw [gA_tk h0 h1]; exact h_f j h0 (by omega)) (by have := tk_len (L := L) (i := t) (by omega) (by omega); omega) h_3 (wf_tk h_w t)⟩
def q_LE_become (D : GG) (o : Nat) (n : Nat) (L : List Int) (p : Nat) (m : Nat) (K : List Int) : Option Value → Heap → Prop := fun v H => v = none ∧ isL D H o n K ∧ isL D H p m K
theorem yv_LE_become : Yv y_LE_become b_LE_become 3 (Option.none : Option FieldType) 1 := ⟨g_298, g_54, by decide, by decide +kernel⟩
set_option maxHeartbeats 4000000 in
set_option maxRecDepth 100000 in
theorem c_LE_become (l : Launch) (D : GG) (o : Nat) (n : Nat) (L : List Int) (p : Nat) (m : Nat) (K : List Int) (hd : o + 2 ≤ p ∨ p + 2 ≤ o) (hm : (K.length : Int) ≤ n) : Ct l D y_LE_become b_LE_become 3 (Option.none : Option FieldType) ({ frames := 1, cells := 0, slots := 0, locals := 60 } : Room) [.ref o, .ref p] (fun H => isL D H o n L ∧ isL D H p m K) (rA o (o + 2)) 0 0 (q_LE_become D o n L p m K) := by
  refine Ct.of (L := [(0, .ref o), (1, .ref p)]) (by decide) (Nat.le_of_ble_eq_true rfl) rfl (fun M H ho hr hnm hH hpre => ?_)
  obtain ⟨hL, hK⟩ := hpre
  obtain ⟨h_o, ⟨f, h_a, h_f⟩, h_n, h_3, h_w⟩ := id hL
  obtain ⟨k_o, ⟨g, k_a, k_f⟩, k_n, k_3, k_w⟩ := id hK
  refine x_aload_n ho 1 d_LE_become_0 rfl ?_
  refine x_get 1 ho d_LE_become_1 cl_LE (by decide) g_96 k_o rfl ?_
  refine x_aload_n ho 0 d_LE_become_4 rfl ?_
  refine x_get 0 ho d_LE_become_5 cl_LE (by decide) g_95 h_o rfl ?_
  refine x_alen ho d_LE_become_8 h_a ?_
  refine x_mmin ho d_LE_become_9 g_299 (by omega) (by omega) (Nat.le_of_ble_eq_true rfl) (Nat.le_of_ble_eq_true rfl) (Nat.zero_le _) (Nat.zero_le _) ?_
  refine x_eqI (b := (K.length : Int)) (by exact if_neg (by omega)) ?_
  refine x_istore_n (L' := [(2, zV ((K.length : Int))), (0, .ref o), (1, .ref p)]) ho d_LE_become_12 (by decide) rfl ?_
  refine x_aload_n ho 2 d_LE_become_13 rfl ?_
  refine x_get 0 ho d_LE_become_14 cl_LE (by decide) g_95 k_o rfl ?_
  refine x_iconst ho d_LE_become_17 ?_
  refine x_aload_n ho 1 d_LE_become_18 rfl ?_
  refine x_get 0 ho d_LE_become_19 cl_LE (by decide) g_95 h_o rfl ?_
  refine x_iconst ho d_LE_become_22 ?_
  refine x_iload_n ho 0 d_LE_become_23 rfl ?_
  refine x_copy ho d_LE_become_24 g_302 k_a h_a (by omega) (by omega) (by omega) (by omega) (by omega) (by omega) (by omega) (Nat.le_of_ble_eq_true rfl) (Nat.le_of_ble_eq_true rfl) (rA_in (by omega) (by omega)) (fun H_1 p_2 z_3 q_4 => ?_)
  have k_5 := h_o.kept (q_4 _ (by omega))
  have k_6 := k_o.kept (q_4 _ (by omega))
  have k_7 := k_a.kept (q_4 _ (by omega))
  refine x_aload_n ho 1 d_LE_become_27 rfl ?_
  refine x_iload_n ho 0 d_LE_become_28 rfl ?_
  refine x_put 1 ho d_LE_become_29 cl_LE (by decide) g_96 k_5 rfl rfl rfl (Nat.le_of_ble_eq_true rfl) (rA_in (by omega) (by omega)) (fun H_8 p_9 z_10 q_11 => ?_)
  have k_12 := k_6.kept (q_11 _ (by omega))
  have k_13 := k_7.kept (q_11 _ (by omega))
  have k_14 := p_2.kept (q_11 _ (by omega))
  refine x_vret ho hr d_LE_become_32 ?_
  exact ⟨rfl, isL_mk p_9 k_14 rfl (fun j h0 h1 => by rw [zC_in _ _ (by omega) (by omega), show (0 : Int) + (j - 0) = j by omega]; exact k_f j h0 h1) (by omega) h_3 k_w, isL_mk k_12 k_13 rfl k_f k_n k_3 k_w⟩
def q_LE_hasFrom (D : GG) (o : Nat) (n : Nat) (L : List Int) (z : Int) (p : Nat) (m : Nat) (K : List Int) : Option Value → Heap → Prop := fun v H => (v = some (zV (bI (∀ j : Int, 0 ≤ j → j < (K.length : Int) → lat L (z + j) = gA K j))))
theorem yv_LE_hasFrom : Yv y_LE_hasFrom b_LE_hasFrom 4 (Option.some FieldType.boolean) 2 := ⟨g_339, g_54, by decide, by decide +kernel⟩
set_option maxHeartbeats 4000000 in
set_option maxRecDepth 100000 in
theorem c_LE_hasFrom (l : Launch) (D : GG) (o : Nat) (n : Nat) (L : List Int) (z : Int) (p : Nat) (m : Nat) (K : List Int) (hz : -1000 ≤ z ∧ z ≤ 1000) : Ct l D y_LE_hasFrom b_LE_hasFrom 4 (Option.some FieldType.boolean) ({ frames := 1, cells := 0, slots := 0, locals := 21 } : Room) [.ref o, zV z, .ref p] (fun H => isL D H o n L ∧ isL D H p m K) nA 0 0 (q_LE_hasFrom D o n L z p m K) := by
  refine Ct.of (L := [(0, .ref o), (1, zV z), (2, .ref p)]) (by decide) (Nat.le_of_ble_eq_true rfl) rfl (fun M H ho hr hnm hH hpre => ?_)
  obtain ⟨hL, hK⟩ := hpre
  have h_n := hL.b
  have h_w := hL.w
  have k_n := hK.b
  have k_w := hK.w
  refine x_iconst ho d_LE_hasFrom_0 ?_
  refine x_istore_n (L' := [(3, zV 0), (0, .ref o), (1, zV z), (2, .ref p)]) ho d_LE_hasFrom_1 (by decide) rfl ?_
  have loop_2 : ∀ (kk : Nat) (i : Int) (i0 : 0 ≤ i ∧ i ≤ (K.length : Int)) (hj : ∀ j : Int, 0 ≤ j → j < i → lat L (z + j) = gA K j), ((K.length : Int) - i).toNat < kk → X M ({ frames := 1, cells := 0, slots := 0, locals := 21 } : Room) 4 nA 0 0 (Qof M nA (q_LE_hasFrom D o n L z p m K) 0 0) 2 [(3, zV i), (0, .ref o), (1, zV z), (2, .ref p)] [] H := by
    intro kk
    induction kk with
    | zero => intro i i0 hj hk; exact absurd hk (Nat.not_lt_zero _)
    | succ kk ih_2 =>
      intro i i0 hj hk_2
      refine x_iload_n ho 0 d_LE_hasFrom_2 rfl ?_
      refine x_aload_n ho 3 d_LE_hasFrom_3 rfl ?_
      refine x_get 1 ho d_LE_hasFrom_4 cl_LE (by decide) g_96 hK.1 rfl ?_
      refine x_icmp_ge (tgt := 33) ho d_LE_hasFrom_7 (by decide) (by omega) (by omega) (fun c_7 => ?_) (fun c_7 => ?_)
      ·
        refine x_iconst ho d_LE_hasFrom_33 ?_
        refine x_zret ho hr (Or.inr rfl) d_LE_hasFrom_34 ?_
        exact rT (by intro j h0 h1; exact hj j h0 (by omega))
      ·
        refine x_aload_n ho 1 d_LE_hasFrom_10 rfl ?_
        refine x_iload_n ho 2 d_LE_hasFrom_11 rfl ?_
        refine x_iload_n ho 0 d_LE_hasFrom_12 rfl ?_
        refine x_iadd ho d_LE_hasFrom_13 ?_
        refine x_callV (rest := []) ho d_LE_hasFrom_14 yv_LE_letterAt g_341 g_342 g_340 (c_LE_letterAt M.2.1 D o n L (z + i) (by omega)) rfl rfl ⟨Nat.le_of_ble_eq_true rfl, Nat.le_of_ble_eq_true rfl⟩ ⟨Nat.le_of_ble_eq_true rfl, Nat.le_of_ble_eq_true rfl⟩ rfl rfl (Nat.le_of_ble_eq_true rfl) hL.1 rfl rfl hL fr_none' (x_rd (fun v_1 hv_1 => ?_))
        obtain ⟨rfl, hr_3⟩ := hv_1
        show X _ _ _ _ _ _ _ _ _ [zV (lat L (z + i))] _
        refine x_aload_n ho 3 d_LE_hasFrom_17 rfl ?_
        refine x_iload_n ho 0 d_LE_hasFrom_18 rfl ?_
        refine x_callV (rest := [zV (lat L (z + i))]) ho d_LE_hasFrom_19 yv_LE_letterAt g_341 g_342 g_340 (c_LE_letterAt M.2.1 D p m K i (by omega)) rfl rfl ⟨Nat.le_of_ble_eq_true rfl, Nat.le_of_ble_eq_true rfl⟩ ⟨Nat.le_of_ble_eq_true rfl, Nat.le_of_ble_eq_true rfl⟩ rfl rfl (Nat.le_of_ble_eq_true rfl) hK.1 rfl rfl hK fr_none' (x_rd (fun v_4 hv_4 => ?_))
        obtain ⟨rfl, hr_6⟩ := hv_4
        show X _ _ _ _ _ _ _ _ _ [zV (lat K i), zV (lat L (z + i))] _
        refine x_eqI (b := gA K i) (by exact lat_in (by omega) (by omega)) ?_
        have hg := gA_r k_w i
        refine x_icmp_eq (tgt := 27) ho d_LE_hasFrom_22 (by decide) (by omega) (by omega) (fun c_22 => ?_) (fun c_22 => ?_)
        ·
          refine x_iinc (L' := [(3, zV (i + 1)), (0, .ref o), (1, zV z), (2, .ref p)]) ho 0 d_LE_hasFrom_27 rfl rfl (by decide) rfl ?_
          refine x_goto (tgt := 2) ho d_LE_hasFrom_30 (by decide) ?_
          exact ih_2 (i + 1) (by omega) (by intro j h0 h1; rcases (show j < i ∨ j = i by omega) with h | h; exact hj j h0 h; subst h; exact c_22) (by omega)
        ·
          refine x_iconst ho d_LE_hasFrom_25 ?_
          refine x_zret ho hr (Or.inl rfl) d_LE_hasFrom_26 ?_
          exact rF (by intro h; exact c_22 (h i (by omega) (by omega)))
  exact loop_2 _ 0 (by omega) (by intro j h0 h1; omega) (Nat.lt_succ_self _)
def q_LE_same (D : GG) (o : Nat) (n : Nat) (L : List Int) (p : Nat) (m : Nat) (K : List Int) : Option Value → Heap → Prop := fun v H => v = some (zV (bI (L = K)))
theorem yv_LE_same : Yv y_LE_same b_LE_same 2 (Option.some FieldType.boolean) 1 := ⟨g_335, g_54, by decide, by decide +kernel⟩
set_option maxHeartbeats 4000000 in
set_option maxRecDepth 100000 in
theorem c_LE_same (l : Launch) (D : GG) (o : Nat) (n : Nat) (L : List Int) (p : Nat) (m : Nat) (K : List Int)  : Ct l D y_LE_same b_LE_same 2 (Option.some FieldType.boolean) ({ frames := 2, cells := 0, slots := 0, locals := 44 } : Room) [.ref o, .ref p] (fun H => isL D H o n L ∧ isL D H p m K) nA 0 0 (q_LE_same D o n L p m K) := by
  refine Ct.of (L := [(0, .ref o), (1, .ref p)]) (by decide) (Nat.le_of_ble_eq_true rfl) rfl (fun M H ho hr hnm hH hpre => ?_)
  obtain ⟨hL, hK⟩ := hpre
  have h_n := hL.b
  have h_w := hL.w
  have k_n := hK.b
  have k_w := hK.w
  refine x_aload_n ho 0 d_LE_same_0 rfl ?_
  refine x_get 1 ho d_LE_same_1 cl_LE (by decide) g_96 hL.1 rfl ?_
  refine x_aload_n ho 1 d_LE_same_4 rfl ?_
  refine x_get 1 ho d_LE_same_5 cl_LE (by decide) g_96 hK.1 rfl ?_
  refine x_icmp_ne (tgt := 24) ho d_LE_same_8 (by decide) (by omega) (by omega) (fun c_8 => ?_) (fun c_8 => ?_)
  ·
    refine x_iconst ho d_LE_same_24 ?_
    refine x_zret ho hr (Or.inl rfl) d_LE_same_25 ?_
    exact rF (fun h => c_8 (by rw [h]))
  ·
    refine x_aload_n ho 0 d_LE_same_11 rfl ?_
    refine x_iconst ho d_LE_same_12 ?_
    refine x_aload_n ho 1 d_LE_same_13 rfl ?_
    refine x_callV (rest := []) ho d_LE_same_14 yv_LE_hasFrom g_337 g_338 g_336 (c_LE_hasFrom M.2.1 D o n L 0 p m K (by omega)) rfl rfl ⟨Nat.le_of_ble_eq_true rfl, Nat.le_of_ble_eq_true rfl⟩ ⟨Nat.le_of_ble_eq_true rfl, Nat.le_of_ble_eq_true rfl⟩ rfl rfl (Nat.le_of_ble_eq_true rfl) hL.1 rfl rfl ⟨hL, hK⟩ fr_none' (x_rd (fun v_1 hv_1 => ?_))
    obtain rfl := hv_1
    show X _ _ _ _ _ _ _ _ _ [zV (bI (∀ j : Int, 0 ≤ j → j < (K.length : Int) → lat L (0 + j) = gA K j))] _
    refine x_if_eqB (tgt := 24) ho d_LE_same_17 (by decide) (fun c_17 => ?_) (fun c_17 => ?_)
    ·
      refine x_iconst ho d_LE_same_24 ?_
      refine x_zret ho hr (Or.inl rfl) d_LE_same_25 ?_
      exact rF (fun h => c_17 (fun j h0 h1 => by subst h; rw [Int.zero_add]; exact lat_in h0 h1))
    ·
      refine x_iconst ho d_LE_same_20 ?_
      refine x_goto (tgt := 25) ho d_LE_same_21 (by decide) ?_
      refine x_zret ho hr (Or.inr rfl) d_LE_same_25 ?_
      exact rT (li_ext c_8 (fun j h0 h1 => by have := c_17 j h0 (by omega); rw [Int.zero_add, lat_in h0 h1] at this; exact this))
def q_LE_repeats (D : GG) (o : Nat) (n : Nat) (L : List Int) (a : Int) (b : Int) (s : Int) : Option Value → Heap → Prop := fun v H => (v = some (zV (bI (∀ j : Int, 0 ≤ j → j < s → lat L (a + j) = lat L (b + j)))))
theorem yv_LE_repeats : Yv y_LE_repeats b_LE_repeats 5 (Option.some FieldType.boolean) 3 := ⟨g_478, g_54, by decide, by decide +kernel⟩
set_option maxHeartbeats 4000000 in
set_option maxRecDepth 100000 in
theorem c_LE_repeats (l : Launch) (D : GG) (o : Nat) (n : Nat) (L : List Int) (a : Int) (b : Int) (s : Int) (ha : -1000 ≤ a ∧ a ≤ 1000) (hb : -1000 ≤ b ∧ b ≤ 1000) (hs : -1000 ≤ s ∧ s ≤ 1000) : Ct l D y_LE_repeats b_LE_repeats 5 (Option.some FieldType.boolean) ({ frames := 1, cells := 0, slots := 0, locals := 21 } : Room) [.ref o, zV a, zV b, zV s] (fun H => isL D H o n L) nA 0 0 (q_LE_repeats D o n L a b s) := by
  refine Ct.of (L := [(0, .ref o), (1, zV a), (2, zV b), (3, zV s)]) (by decide) (Nat.le_of_ble_eq_true rfl) rfl (fun M H ho hr hnm hH hpre => ?_)
  have hL := hpre
  have h_n := hL.b
  have h_w := hL.w
  refine x_iconst ho d_LE_repeats_0 ?_
  refine x_istore (L' := [(4, zV 0), (0, .ref o), (1, zV a), (2, zV b), (3, zV s)]) ho d_LE_repeats_1 (by decide) rfl ?_
  have loop_3 : ∀ (kk : Nat) (i : Int) (i0 : 0 ≤ i ∧ (i ≤ s ∨ i = 0)) (hj : ∀ j : Int, 0 ≤ j → j < i → lat L (a + j) = lat L (b + j)), (s - i).toNat < kk → X M ({ frames := 1, cells := 0, slots := 0, locals := 21 } : Room) 5 nA 0 0 (Qof M nA (q_LE_repeats D o n L a b s) 0 0) 3 [(4, zV i), (0, .ref o), (1, zV a), (2, zV b), (3, zV s)] [] H := by
    intro kk
    induction kk with
    | zero => intro i i0 hj hk; exact absurd hk (Nat.not_lt_zero _)
    | succ kk ih_3 =>
      intro i i0 hj hk_3
      refine x_iload ho 0 d_LE_repeats_3 rfl ?_
      refine x_iload_n ho 4 d_LE_repeats_5 rfl ?_
      refine x_icmp_ge (tgt := 36) ho d_LE_repeats_6 (by decide) (by omega) (by omega) (fun c_6 => ?_) (fun c_6 => ?_)
      ·
        refine x_iconst ho d_LE_repeats_36 ?_
        refine x_zret ho hr (Or.inr rfl) d_LE_repeats_37 ?_
        exact rT (by intro j h0 h1; exact hj j h0 (by omega))
      ·
        refine x_aload_n ho 1 d_LE_repeats_9 rfl ?_
        refine x_iload_n ho 2 d_LE_repeats_10 rfl ?_
        refine x_iload ho 0 d_LE_repeats_11 rfl ?_
        refine x_iadd ho d_LE_repeats_13 ?_
        refine x_callV (rest := []) ho d_LE_repeats_14 yv_LE_letterAt g_341 g_342 g_340 (c_LE_letterAt M.2.1 D o n L (a + i) (by omega)) rfl rfl ⟨Nat.le_of_ble_eq_true rfl, Nat.le_of_ble_eq_true rfl⟩ ⟨Nat.le_of_ble_eq_true rfl, Nat.le_of_ble_eq_true rfl⟩ rfl rfl (Nat.le_of_ble_eq_true rfl) hL.1 rfl rfl hL fr_none' (x_rd (fun v_1 hv_1 => ?_))
        obtain ⟨rfl, hr_3⟩ := hv_1
        show X _ _ _ _ _ _ _ _ _ [zV (lat L (a + i))] _
        refine x_aload_n ho 1 d_LE_repeats_17 rfl ?_
        refine x_iload_n ho 3 d_LE_repeats_18 rfl ?_
        refine x_iload ho 0 d_LE_repeats_19 rfl ?_
        refine x_iadd ho d_LE_repeats_21 ?_
        refine x_callV (rest := [zV (lat L (a + i))]) ho d_LE_repeats_22 yv_LE_letterAt g_341 g_342 g_340 (c_LE_letterAt M.2.1 D o n L (b + i) (by omega)) rfl rfl ⟨Nat.le_of_ble_eq_true rfl, Nat.le_of_ble_eq_true rfl⟩ ⟨Nat.le_of_ble_eq_true rfl, Nat.le_of_ble_eq_true rfl⟩ rfl rfl (Nat.le_of_ble_eq_true rfl) hL.1 rfl rfl hL fr_none' (x_rd (fun v_4 hv_4 => ?_))
        obtain ⟨rfl, hr_6⟩ := hv_4
        show X _ _ _ _ _ _ _ _ _ [zV (lat L (b + i)), zV (lat L (a + i))] _
        refine x_icmp_eq (tgt := 30) ho d_LE_repeats_25 (by decide) (by omega) (by omega) (fun c_25 => ?_) (fun c_25 => ?_)
        ·
          refine x_iinc (L' := [(4, zV (i + 1)), (0, .ref o), (1, zV a), (2, zV b), (3, zV s)]) ho 0 d_LE_repeats_30 rfl rfl (by decide) rfl ?_
          refine x_goto (tgt := 3) ho d_LE_repeats_33 (by decide) ?_
          exact ih_3 (i + 1) (by omega) (by intro j h0 h1; rcases (show j < i ∨ j = i by omega) with h | h; exact hj j h0 h; subst h; exact c_25) (by omega)
        ·
          refine x_iconst ho d_LE_repeats_28 ?_
          refine x_zret ho hr (Or.inl rfl) d_LE_repeats_29 ?_
          exact rF (by intro h; exact c_25 (h i (by omega) (by omega)))
  exact loop_3 _ 0 (by omega) (by intro j h0 h1; omega) (Nat.lt_succ_self _)
def q_LE_isMirrored (D : GG) (o : Nat) (n : Nat) (L : List Int) (a : Int) (s : Int) : Option Value → Heap → Prop := fun v H => (v = some (zV (bI (∀ j : Int, 0 ≤ j → j < s / 2 → lat L (a + j) = lat L (a + s - 1 - j)))))
theorem yv_LE_isMirrored : Yv y_LE_isMirrored b_LE_isMirrored 4 (Option.some FieldType.boolean) 2 := ⟨g_640, g_54, by decide, by decide +kernel⟩
set_option maxHeartbeats 4000000 in
set_option maxRecDepth 100000 in
theorem c_LE_isMirrored (l : Launch) (D : GG) (o : Nat) (n : Nat) (L : List Int) (a : Int) (s : Int) (ha : 0 ≤ a ∧ a ≤ 1000) (hs : 0 ≤ s ∧ s ≤ 1000) : Ct l D y_LE_isMirrored b_LE_isMirrored 4 (Option.some FieldType.boolean) ({ frames := 1, cells := 0, slots := 0, locals := 21 } : Room) [.ref o, zV a, zV s] (fun H => isL D H o n L) nA 0 0 (q_LE_isMirrored D o n L a s) := by
  refine Ct.of (L := [(0, .ref o), (1, zV a), (2, zV s)]) (by decide) (Nat.le_of_ble_eq_true rfl) rfl (fun M H ho hr hnm hH hpre => ?_)
  have hL := hpre
  have h_n := hL.b
  have h_w := hL.w
  refine x_iconst ho d_LE_isMirrored_0 ?_
  refine x_istore_n (L' := [(3, zV 0), (0, .ref o), (1, zV a), (2, zV s)]) ho d_LE_isMirrored_1 (by decide) rfl ?_
  have loop_2 : ∀ (kk : Nat) (i : Int) (i0 : 0 ≤ i ∧ i ≤ s / 2) (hj : ∀ j : Int, 0 ≤ j → j < i → lat L (a + j) = lat L (a + s - 1 - j)), (s / 2 - i).toNat < kk → X M ({ frames := 1, cells := 0, slots := 0, locals := 21 } : Room) 4 nA 0 0 (Qof M nA (q_LE_isMirrored D o n L a s) 0 0) 2 [(3, zV i), (0, .ref o), (1, zV a), (2, zV s)] [] H := by
    intro kk
    induction kk with
    | zero => intro i i0 hj hk; exact absurd hk (Nat.not_lt_zero _)
    | succ kk ih_2 =>
      intro i i0 hj hk_2
      refine x_iload_n ho 0 d_LE_isMirrored_2 rfl ?_
      refine x_iload_n ho 3 d_LE_isMirrored_3 rfl ?_
      refine x_iconst ho d_LE_isMirrored_4 ?_
      refine x_idiv ho d_LE_isMirrored_5 (by omega) (by omega) ?_
      refine x_icmp_ge (tgt := 38) ho d_LE_isMirrored_6 (by decide) (by omega) (by omega) (fun c_6 => ?_) (fun c_6 => ?_)
      ·
        refine x_iconst ho d_LE_isMirrored_38 ?_
        refine x_zret ho hr (Or.inr rfl) d_LE_isMirrored_39 ?_
        exact rT (by intro j h0 h1; exact hj j h0 (by omega))
      ·
        refine x_aload_n ho 1 d_LE_isMirrored_9 rfl ?_
        refine x_iload_n ho 2 d_LE_isMirrored_10 rfl ?_
        refine x_iload_n ho 0 d_LE_isMirrored_11 rfl ?_
        refine x_iadd ho d_LE_isMirrored_12 ?_
        refine x_callV (rest := []) ho d_LE_isMirrored_13 yv_LE_letterAt g_341 g_342 g_340 (c_LE_letterAt M.2.1 D o n L (a + i) (by omega)) rfl rfl ⟨Nat.le_of_ble_eq_true rfl, Nat.le_of_ble_eq_true rfl⟩ ⟨Nat.le_of_ble_eq_true rfl, Nat.le_of_ble_eq_true rfl⟩ rfl rfl (Nat.le_of_ble_eq_true rfl) hL.1 rfl rfl hL fr_none' (x_rd (fun v_1 hv_1 => ?_))
        obtain ⟨rfl, hr_3⟩ := hv_1
        show X _ _ _ _ _ _ _ _ _ [zV (lat L (a + i))] _
        refine x_aload_n ho 1 d_LE_isMirrored_16 rfl ?_
        refine x_iload_n ho 2 d_LE_isMirrored_17 rfl ?_
        refine x_iload_n ho 3 d_LE_isMirrored_18 rfl ?_
        refine x_iadd ho d_LE_isMirrored_19 ?_
        refine x_iconst ho d_LE_isMirrored_20 ?_
        refine x_isub ho d_LE_isMirrored_21 ?_
        refine x_iload_n ho 0 d_LE_isMirrored_22 rfl ?_
        refine x_isub ho d_LE_isMirrored_23 ?_
        refine x_callV (rest := [zV (lat L (a + i))]) ho d_LE_isMirrored_24 yv_LE_letterAt g_341 g_342 g_340 (c_LE_letterAt M.2.1 D o n L (((a + s) - 1) - i) (by omega)) rfl rfl ⟨Nat.le_of_ble_eq_true rfl, Nat.le_of_ble_eq_true rfl⟩ ⟨Nat.le_of_ble_eq_true rfl, Nat.le_of_ble_eq_true rfl⟩ rfl rfl (Nat.le_of_ble_eq_true rfl) hL.1 rfl rfl hL fr_none' (x_rd (fun v_4 hv_4 => ?_))
        obtain ⟨rfl, hr_6⟩ := hv_4
        show X _ _ _ _ _ _ _ _ _ [zV (lat L (((a + s) - 1) - i)), zV (lat L (a + i))] _
        refine x_icmp_eq (tgt := 32) ho d_LE_isMirrored_27 (by decide) (by omega) (by omega) (fun c_27 => ?_) (fun c_27 => ?_)
        ·
          refine x_iinc (L' := [(3, zV (i + 1)), (0, .ref o), (1, zV a), (2, zV s)]) ho 0 d_LE_isMirrored_32 rfl rfl (by decide) rfl ?_
          refine x_goto (tgt := 2) ho d_LE_isMirrored_35 (by decide) ?_
          exact ih_2 (i + 1) (by omega) (by intro j h0 h1; rcases (show j < i ∨ j = i by omega) with h | h; exact hj j h0 h; subst h; exact c_27) (by omega)
        ·
          refine x_iconst ho d_LE_isMirrored_30 ?_
          refine x_zret ho hr (Or.inl rfl) d_LE_isMirrored_31 ?_
          exact rF (by intro h; exact c_27 (h i (by omega) (by omega)))
  exact loop_2 _ 0 (by omega) (by intro j h0 h1; omega) (Nat.lt_succ_self _)
def q_LE_bits (D : GG) (o : Nat) (n : Nat) (L : List Int) : Option Value → Heap → Prop := fun v H => v = some (zV (bitL L)) ∧ (0 ≤ bitL L ∧ bitL L < 16)
theorem yv_LE_bits : Yv y_LE_bits b_LE_bits 3 (Option.some FieldType.int) 0 := ⟨g_554, g_54, by decide, by decide +kernel⟩
set_option maxHeartbeats 4000000 in
set_option maxRecDepth 100000 in
theorem c_LE_bits (l : Launch) (D : GG) (o : Nat) (n : Nat) (L : List Int)  : Ct l D y_LE_bits b_LE_bits 3 (Option.some FieldType.int) ({ frames := 1, cells := 0, slots := 0, locals := 21 } : Room) [.ref o] (fun H => isL D H o n L) nA 0 0 (q_LE_bits D o n L) := by
  refine Ct.of (L := [(0, .ref o)]) (by decide) (Nat.le_of_ble_eq_true rfl) rfl (fun M H ho hr hnm hH hpre => ?_)
  have hL := hpre
  have h_n := hL.b
  have h_w := hL.w
  refine x_iconst ho d_LE_bits_0 ?_
  refine x_istore_n (L' := [(1, zV 0), (0, .ref o)]) ho d_LE_bits_1 (by decide) rfl ?_
  refine x_iconst ho d_LE_bits_2 ?_
  refine x_istore_n (L' := [(2, zV 0), (1, zV 0), (0, .ref o)]) ho d_LE_bits_3 (by decide) rfl ?_
  have loop_4 : ∀ (kk : Nat) (i : Int) (b : Int) (i0 : 0 ≤ i ∧ i ≤ (L.length : Int)) (hb : b = bitL (tk L i)), ((L.length : Int) - i).toNat < kk → X M ({ frames := 1, cells := 0, slots := 0, locals := 21 } : Room) 3 nA 0 0 (Qof M nA (q_LE_bits D o n L) 0 0) 4 [(2, zV i), (1, zV b), (0, .ref o)] [] H := by
    intro kk
    induction kk with
    | zero => intro i b i0 hb hk; exact absurd hk (Nat.not_lt_zero _)
    | succ kk ih_4 =>
      intro i b i0 hb hk_4
      refine x_iload_n ho 0 d_LE_bits_4 rfl ?_
      refine x_aload_n ho 2 d_LE_bits_5 rfl ?_
      refine x_get 1 ho d_LE_bits_6 cl_LE (by decide) g_96 hL.1 rfl ?_
      refine x_icmp_ge (tgt := 28) ho d_LE_bits_9 (by decide) (by omega) (by omega) (fun c_9 => ?_) (fun c_9 => ?_)
      ·
        refine x_iload_n ho 1 d_LE_bits_28 rfl ?_
        refine x_iret ho hr d_LE_bits_29 ?_
        rw [tk_all (by omega)] at hb; subst hb; exact ⟨rfl, bitL_16 h_w⟩
      ·
        refine x_iload_n ho 1 d_LE_bits_12 rfl ?_
        refine x_iconst ho d_LE_bits_13 ?_
        refine x_aload_n ho 2 d_LE_bits_14 rfl ?_
        refine x_iload_n ho 0 d_LE_bits_15 rfl ?_
        refine x_callV (rest := [zV 1, zV b]) ho d_LE_bits_16 yv_LE_letterAt g_341 g_342 g_340 (c_LE_letterAt M.2.1 D o n L i (by omega)) rfl rfl ⟨Nat.le_of_ble_eq_true rfl, Nat.le_of_ble_eq_true rfl⟩ ⟨Nat.le_of_ble_eq_true rfl, Nat.le_of_ble_eq_true rfl⟩ rfl rfl (Nat.le_of_ble_eq_true rfl) hL.1 rfl rfl hL fr_none' (x_rd (fun v_1 hv_1 => ?_))
        obtain ⟨rfl, hr_3⟩ := hv_1
        show X _ _ _ _ _ _ _ _ _ [zV (lat L i), zV 1, zV b] _
        refine x_eqI (b := gA L i) (by exact lat_in (by omega) (by omega)) ?_
        have hg := gA_r h_w i
        have hs := sh_16 hg.1 hg.2
        have hb16 := bitL_16 (wf_tk h_w i)
        rw [← hb] at hb16
        refine x_shl1 ho d_LE_bits_19 hg ?_
        refine x_or16 ho d_LE_bits_20 hb16 hs ?_
        refine x_istore_n (L' := [(1, zV (orI b (sh (gA L i)))), (2, zV i), (0, .ref o)]) ho d_LE_bits_21 (by decide) rfl ?_
        refine x_iinc (L' := [(2, zV (i + 1)), (1, zV (orI b (sh (gA L i)))), (0, .ref o)]) ho 1 d_LE_bits_22 rfl rfl (by decide) rfl ?_
        refine x_goto (tgt := 4) ho d_LE_bits_25 (by decide) ?_
        exact ih_4 (i + 1) (orI b (sh (gA L i))) (by omega) (by rw [tk_succ (by omega) (by omega), bitL_snoc, ← hb]) (by omega)
  exact loop_4 _ 0 0 (by omega) (by rw [tk_0]; rfl) (Nat.lt_succ_self _)
def q_LE_countOf (D : GG) (o : Nat) (n : Nat) (L : List Int) (z : Int) : Option Value → Heap → Prop := fun v H => v = some (zV (cn L z)) ∧ (0 ≤ cn L z ∧ cn L z ≤ (L.length : Int))
theorem yv_LE_countOf : Yv y_LE_countOf b_LE_countOf 4 (Option.some FieldType.int) 1 := ⟨g_412, g_54, by decide, by decide +kernel⟩
set_option maxHeartbeats 4000000 in
set_option maxRecDepth 100000 in
theorem c_LE_countOf (l : Launch) (D : GG) (o : Nat) (n : Nat) (L : List Int) (z : Int) (hz : -2147483648 ≤ z ∧ z ≤ 2147483647) : Ct l D y_LE_countOf b_LE_countOf 4 (Option.some FieldType.int) ({ frames := 1, cells := 0, slots := 0, locals := 21 } : Room) [.ref o, zV z] (fun H => isL D H o n L) nA 0 0 (q_LE_countOf D o n L z) := by
  refine Ct.of (L := [(0, .ref o), (1, zV z)]) (by decide) (Nat.le_of_ble_eq_true rfl) rfl (fun M H ho hr hnm hH hpre => ?_)
  have hL := hpre
  have h_n := hL.b
  have h_w := hL.w
  refine x_iconst ho d_LE_countOf_0 ?_
  refine x_istore_n (L' := [(2, zV 0), (0, .ref o), (1, zV z)]) ho d_LE_countOf_1 (by decide) rfl ?_
  refine x_iconst ho d_LE_countOf_2 ?_
  refine x_istore_n (L' := [(3, zV 0), (2, zV 0), (0, .ref o), (1, zV z)]) ho d_LE_countOf_3 (by decide) rfl ?_
  have loop_4 : ∀ (kk : Nat) (i : Int) (t : Int) (i0 : 0 ≤ i ∧ i ≤ (L.length : Int)) (ht : t = cn (tk L i) z), ((L.length : Int) - i).toNat < kk → X M ({ frames := 1, cells := 0, slots := 0, locals := 21 } : Room) 4 nA 0 0 (Qof M nA (q_LE_countOf D o n L z) 0 0) 4 [(3, zV i), (2, zV t), (0, .ref o), (1, zV z)] [] H := by
    intro kk
    induction kk with
    | zero => intro i t i0 ht hk; exact absurd hk (Nat.not_lt_zero _)
    | succ kk ih_4 =>
      intro i t i0 ht hk_4
      refine x_iload_n ho 0 d_LE_countOf_4 rfl ?_
      refine x_aload_n ho 2 d_LE_countOf_5 rfl ?_
      refine x_get 1 ho d_LE_countOf_6 cl_LE (by decide) g_96 hL.1 rfl ?_
      refine x_icmp_ge (tgt := 30) ho d_LE_countOf_9 (by decide) (by omega) (by omega) (fun c_9 => ?_) (fun c_9 => ?_)
      ·
        refine x_iload_n ho 1 d_LE_countOf_30 rfl ?_
        refine x_iret ho hr d_LE_countOf_31 ?_
        rw [tk_all (by omega)] at ht; subst ht; exact ⟨rfl, cn_r L z⟩
      ·
        refine x_aload_n ho 2 d_LE_countOf_12 rfl ?_
        refine x_iload_n ho 0 d_LE_countOf_13 rfl ?_
        refine x_callV (rest := []) ho d_LE_countOf_14 yv_LE_letterAt g_341 g_342 g_340 (c_LE_letterAt M.2.1 D o n L i (by omega)) rfl rfl ⟨Nat.le_of_ble_eq_true rfl, Nat.le_of_ble_eq_true rfl⟩ ⟨Nat.le_of_ble_eq_true rfl, Nat.le_of_ble_eq_true rfl⟩ rfl rfl (Nat.le_of_ble_eq_true rfl) hL.1 rfl rfl hL fr_none' (x_rd (fun v_1 hv_1 => ?_))
        obtain ⟨rfl, hr_3⟩ := hv_1
        show X _ _ _ _ _ _ _ _ _ [zV (lat L i)] _
        refine x_eqI (b := gA L i) (by exact lat_in (by omega) (by omega)) ?_
        have hg := gA_r h_w i
        refine x_iload_n ho 3 d_LE_countOf_17 rfl ?_
        refine x_icmp_ne (tgt := 24) ho d_LE_countOf_18 (by decide) (by omega) (by omega) (fun c_18 => ?_) (fun c_18 => ?_)
        ·
          refine x_iinc (L' := [(3, zV (i + 1)), (2, zV t), (0, .ref o), (1, zV z)]) ho 0 d_LE_countOf_24 rfl rfl (by decide) rfl ?_
          refine x_goto (tgt := 4) ho d_LE_countOf_27 (by decide) ?_
          exact ih_4 (i + 1) t (by omega) (by rw [tk_succ (by omega) (by omega), cn_snoc, ← ht]; first | rw [if_pos c_18] | (rw [if_neg c_18]; omega)) (by omega)
        ·
          refine x_iinc (L' := [(2, zV (t + 1)), (3, zV i), (0, .ref o), (1, zV z)]) ho 1 d_LE_countOf_21 rfl rfl (by decide) rfl ?_
          refine x_iinc (L' := [(3, zV (i + 1)), (2, zV (t + 1)), (0, .ref o), (1, zV z)]) ho 1 d_LE_countOf_24 rfl rfl (by decide) rfl ?_
          refine x_goto (tgt := 4) ho d_LE_countOf_27 (by decide) ?_
          exact ih_4 (i + 1) (t + 1) (by omega) (by rw [tk_succ (by omega) (by omega), cn_snoc, ← ht]; first | rw [if_pos c_18] | (rw [if_neg c_18]; omega)) (by omega)
  exact loop_4 _ 0 0 (by omega) (by rw [tk_0]; rfl) (Nat.lt_succ_self _)
def q_LE_exchange (D : GG) (o : Nat) (n : Nat) (L : List Int) (a : Int) (b : Int) : Option Value → Heap → Prop := fun v H => v = none ∧ isL D H o n (L.map (sw a b))
theorem yv_LE_exchange : Yv y_LE_exchange b_LE_exchange 4 (Option.none : Option FieldType) 2 := ⟨g_420, g_54, by decide, by decide +kernel⟩
set_option maxHeartbeats 4000000 in
set_option maxRecDepth 100000 in
theorem c_LE_exchange (l : Launch) (D : GG) (o : Nat) (n : Nat) (L : List Int) (a : Int) (b : Int) (ha : 0 ≤ a ∧ a < 4) (hb : 0 ≤ b ∧ b < 4) : Ct l D y_LE_exchange b_LE_exchange 4 (Option.none : Option FieldType) ({ frames := 0, cells := 0, slots := 0, locals := 0 } : Room) [.ref o, zV a, zV b] (fun H => isL D H o n L) (rA o (o + 2)) 0 0 (q_LE_exchange D o n L a b) := by
  refine Ct.of (L := [(0, .ref o), (1, zV a), (2, zV b)]) (by decide) (Nat.le_of_ble_eq_true rfl) rfl (fun M H ho hr hnm hH hpre => ?_)
  have hL := hpre
  obtain ⟨h_o, ⟨f, h_a, h_f⟩, h_n, h_3, h_w⟩ := id hL
  refine x_iconst ho d_LE_exchange_0 ?_
  refine x_istore_n (L' := [(3, zV 0), (0, .ref o), (1, zV a), (2, zV b)]) ho d_LE_exchange_1 (by decide) rfl ?_
  have loop_2 : ∀ (kk : Nat) (i : Int) (g : Int → Int) (H_1 : Heap) (k_o : At D H_1 o (oO 2 [.ref (o + 1), zV ((L.length : Int))])) (k_a : At D H_1 (o + 1) (oI D n g)) (i0 : 0 ≤ i ∧ i ≤ (L.length : Int)) (hg : ∀ j : Int, 0 ≤ j → j < (L.length : Int) → g j = if j < i then sw a b (gA L j) else gA L j), ((L.length : Int) - i).toNat < kk → X M ({ frames := 0, cells := 0, slots := 0, locals := 0 } : Room) 4 (rA o (o + 2)) 0 0 (Qof M (rA o (o + 2)) (q_LE_exchange D o n L a b) 0 0) 2 [(3, zV i), (0, .ref o), (1, zV a), (2, zV b)] [] H_1 := by
    intro kk
    induction kk with
    | zero => intro i g H_1 k_o k_a i0 hg hk; exact absurd hk (Nat.not_lt_zero _)
    | succ kk ih_2 =>
      intro i g H_1 k_o k_a i0 hg hk_2
      refine x_iload_n ho 0 d_LE_exchange_2 rfl ?_
      refine x_aload_n ho 1 d_LE_exchange_3 rfl ?_
      refine x_get 1 ho d_LE_exchange_4 cl_LE (by decide) g_96 k_o rfl ?_
      refine x_icmp_ge (tgt := 62) ho d_LE_exchange_7 (by decide) (by omega) (by omega) (fun c_7 => ?_) (fun c_7 => ?_)
      ·
        refine x_vret ho hr d_LE_exchange_62 ?_
        exact ⟨rfl, isL_mk k_o k_a (by simp) (fun j h0 h1 => by rw [List.length_map] at h1; rw [hg j h0 h1, if_pos (by omega), gA_map h0 h1]) (by simp; exact h_n) h_3 (wf_map (fun x hx => sw_r ha hb (h_w x hx)))⟩
      ·
        refine x_iload_n ho 0 d_LE_exchange_10 rfl ?_
        refine x_aload_n ho 1 d_LE_exchange_11 rfl ?_
        refine x_get 0 ho d_LE_exchange_12 cl_LE (by decide) g_95 k_o rfl ?_
        refine x_alen ho d_LE_exchange_15 k_a ?_
        refine x_icmp_ge (tgt := 62) ho d_LE_exchange_16 (by decide) (by omega) (by omega) (fun c_16 => ?_) (fun c_16 => ?_)
        ·
          refine x_vret ho hr d_LE_exchange_62 ?_
          exact absurd c_16 (by omega)
        ·
          refine x_aload_n ho 1 d_LE_exchange_19 rfl ?_
          refine x_get 0 ho d_LE_exchange_20 cl_LE (by decide) g_95 k_o rfl ?_
          refine x_iload_n ho 0 d_LE_exchange_23 rfl ?_
          refine x_iald ho d_LE_exchange_24 k_a (by omega) (by omega) (by omega) ?_
          refine x_eqI (b := gA L i) (by rw [hg i (by omega) (by omega), if_neg (by omega)]) ?_
          have hw := gA_r h_w i
          refine x_iload_n ho 2 d_LE_exchange_25 rfl ?_
          refine x_icmp_ne (tgt := 39) ho d_LE_exchange_26 (by decide) (by omega) (by omega) (fun c_26 => ?_) (fun c_26 => ?_)
          ·
            refine x_aload_n ho 1 d_LE_exchange_39 rfl ?_
            refine x_get 0 ho d_LE_exchange_40 cl_LE (by decide) g_95 k_o rfl ?_
            refine x_iload_n ho 0 d_LE_exchange_43 rfl ?_
            refine x_iald ho d_LE_exchange_44 k_a (by omega) (by omega) (by omega) ?_
            refine x_eqI (b := gA L i) (by rw [hg i (by omega) (by omega), if_neg (by omega)]) ?_
            refine x_iload_n ho 3 d_LE_exchange_45 rfl ?_
            refine x_icmp_ne (tgt := 56) ho d_LE_exchange_46 (by decide) (by omega) (by omega) (fun c_46 => ?_) (fun c_46 => ?_)
            ·
              refine x_iinc (L' := [(3, zV (i + 1)), (0, .ref o), (1, zV a), (2, zV b)]) ho 0 d_LE_exchange_56 rfl rfl (by decide) rfl ?_
              refine x_goto (tgt := 2) ho d_LE_exchange_59 (by decide) ?_
              exact ih_2 (i + 1) g H_1 k_o k_a (by omega) (by
                  intro j h0 h1
                  rw [hg j h0 h1]
                  by_cases h : j = i
                  · subst h; rw [if_neg (by omega), if_pos (by omega)]; unfold sw; rw [if_neg c_26, if_neg c_46]
                  · by_cases h2 : j < i
                    · rw [if_pos h2, if_pos (by omega)]
                    · rw [if_neg h2, if_neg (by omega)]) (by omega)
            ·
              refine x_aload_n ho 1 d_LE_exchange_49 rfl ?_
              refine x_get 0 ho d_LE_exchange_50 cl_LE (by decide) g_95 k_o rfl ?_
              refine x_iload_n ho 0 d_LE_exchange_53 rfl ?_
              refine x_iload_n ho 2 d_LE_exchange_54 rfl ?_
              refine x_iast ho d_LE_exchange_55 k_a (by omega) (by omega) (by omega) (rA_in (by omega) (by omega)) (fun H_2 p_3 z_4 q_5 => ?_)
              have k_6 := k_o.kept (q_5 _ (by omega))
              refine x_iinc (L' := [(3, zV (i + 1)), (0, .ref o), (1, zV a), (2, zV b)]) ho 0 d_LE_exchange_56 rfl rfl (by decide) rfl ?_
              refine x_goto (tgt := 2) ho d_LE_exchange_59 (by decide) ?_
              exact ih_2 (i + 1) (zU g i a) H_2 k_6 p_3 (by omega) (by
                  intro j h0 h1
                  by_cases h : j = i
                  · subst h; rw [zU_s, if_pos (by omega)]; unfold sw; rw [if_neg c_26, if_pos c_46]
                  · rw [zU_n _ _ h, hg j h0 h1]
                    by_cases h2 : j < i
                    · rw [if_pos h2, if_pos (by omega)]
                    · rw [if_neg h2, if_neg (by omega)]) (by omega)
          ·
            refine x_aload_n ho 1 d_LE_exchange_29 rfl ?_
            refine x_get 0 ho d_LE_exchange_30 cl_LE (by decide) g_95 k_o rfl ?_
            refine x_iload_n ho 0 d_LE_exchange_33 rfl ?_
            refine x_iload_n ho 3 d_LE_exchange_34 rfl ?_
            refine x_iast ho d_LE_exchange_35 k_a (by omega) (by omega) (by omega) (rA_in (by omega) (by omega)) (fun H_7 p_8 z_9 q_10 => ?_)
            have k_11 := k_o.kept (q_10 _ (by omega))
            refine x_goto (tgt := 56) ho d_LE_exchange_36 (by decide) ?_
            refine x_iinc (L' := [(3, zV (i + 1)), (0, .ref o), (1, zV a), (2, zV b)]) ho 0 d_LE_exchange_56 rfl rfl (by decide) rfl ?_
            refine x_goto (tgt := 2) ho d_LE_exchange_59 (by decide) ?_
            exact ih_2 (i + 1) (zU g i b) H_7 k_11 p_8 (by omega) (by
                intro j h0 h1
                by_cases h : j = i
                · subst h; rw [zU_s, if_pos (by omega)]; unfold sw; rw [if_pos c_26]
                · rw [zU_n _ _ h, hg j h0 h1]
                  by_cases h2 : j < i
                  · rw [if_pos h2, if_pos (by omega)]
                  · rw [if_neg h2, if_neg (by omega)]) (by omega)
  exact loop_2 _ 0 f H h_o h_a (by omega) (by intro j h0 h1; rw [if_neg (by omega)]; exact h_f j h0 h1) (Nat.lt_succ_self _)
def q_LE_rotate (D : GG) (o : Nat) (n : Nat) (L : List Int) (P : Prop) : Option Value → Heap → Prop := fun v H => v = none ∧ isL D H o n (rot P L)
theorem yv_LE_rotate : Yv y_LE_rotate b_LE_rotate 3 (Option.none : Option FieldType) 1 := ⟨g_403, g_54, by decide, by decide +kernel⟩
set_option maxHeartbeats 4000000 in
set_option maxRecDepth 100000 in
theorem c_LE_rotate (l : Launch) (D : GG) (o : Nat) (n : Nat) (L : List Int) (P : Prop)  : Ct l D y_LE_rotate b_LE_rotate 3 (Option.none : Option FieldType) ({ frames := 1, cells := 0, slots := 0, locals := 60 } : Room) [.ref o, zV (bI P)] (fun H => isL D H o n L) (rA o (o + 2)) 0 0 (q_LE_rotate D o n L P) := by
  refine Ct.of (L := [(0, .ref o), (1, zV (bI P))]) (by decide) (Nat.le_of_ble_eq_true rfl) rfl (fun M H ho hr hnm hH hpre => ?_)
  have hL := hpre
  obtain ⟨h_o, ⟨f, h_a, h_f⟩, h_n, h_3, h_w⟩ := id hL
  refine x_aload_n ho 0 d_LE_rotate_0 rfl ?_
  refine x_get 1 ho d_LE_rotate_1 cl_LE (by decide) g_96 h_o rfl ?_
  refine x_iconst ho d_LE_rotate_4 ?_
  refine x_icmp_lt (tgt := 20) ho d_LE_rotate_5 (by decide) (by omega) (by omega) (fun c_5 => ?_) (fun c_5 => ?_)
  ·
    refine x_vret ho hr d_LE_rotate_20 ?_
    have h2 : rot P L = L := by rcases Classical.em P with h | h; rw [rot_t h]; exact (rot_one (by omega)).2; rw [rot_f h]; exact (rot_one (by omega)).1
    exact ⟨rfl, by rw [h2]; exact hL⟩
  ·
    refine x_aload_n ho 0 d_LE_rotate_8 rfl ?_
    refine x_get 1 ho d_LE_rotate_9 cl_LE (by decide) g_96 h_o rfl ?_
    refine x_aload_n ho 0 d_LE_rotate_12 rfl ?_
    refine x_get 0 ho d_LE_rotate_13 cl_LE (by decide) g_95 h_o rfl ?_
    refine x_alen ho d_LE_rotate_16 h_a ?_
    refine x_icmp_le (tgt := 21) ho d_LE_rotate_17 (by decide) (by omega) (by omega) (fun c_17 => ?_) (fun c_17 => ?_)
    ·
      refine x_iload_n ho 1 d_LE_rotate_21 rfl ?_
      refine x_if_eqB (tgt := 66) ho d_LE_rotate_22 (by decide) (fun c_22 => ?_) (fun c_22 => ?_)
      ·
        refine x_aload_n ho 0 d_LE_rotate_66 rfl ?_
        refine x_get 0 ho d_LE_rotate_67 cl_LE (by decide) g_95 h_o rfl ?_
        refine x_iconst ho d_LE_rotate_70 ?_
        refine x_iald ho d_LE_rotate_71 h_a (by omega) (by omega) (by omega) ?_
        refine x_eqI (b := gA L 0) (by exact h_f _ (by omega) (by omega)) ?_
        refine x_istore_n (L' := [(2, zV (gA L 0)), (0, .ref o), (1, zV (bI P))]) ho d_LE_rotate_72 (by decide) rfl ?_
        refine x_aload_n ho 1 d_LE_rotate_73 rfl ?_
        refine x_get 0 ho d_LE_rotate_74 cl_LE (by decide) g_95 h_o rfl ?_
        refine x_iconst ho d_LE_rotate_77 ?_
        refine x_aload_n ho 1 d_LE_rotate_78 rfl ?_
        refine x_get 0 ho d_LE_rotate_79 cl_LE (by decide) g_95 h_o rfl ?_
        refine x_iconst ho d_LE_rotate_82 ?_
        refine x_aload_n ho 1 d_LE_rotate_83 rfl ?_
        refine x_get 1 ho d_LE_rotate_84 cl_LE (by decide) g_96 h_o rfl ?_
        refine x_iconst ho d_LE_rotate_87 ?_
        refine x_isub ho d_LE_rotate_88 ?_
        refine x_copy ho d_LE_rotate_89 g_302 h_a h_a (by omega) (by omega) (by omega) (by omega) (by omega) (by omega) (by omega) (Nat.le_of_ble_eq_true rfl) (Nat.le_of_ble_eq_true rfl) (rA_in (by omega) (by omega)) (fun H_1 p_2 z_3 q_4 => ?_)
        have k_5 := h_o.kept (q_4 _ (by omega))
        refine x_aload_n ho 1 d_LE_rotate_92 rfl ?_
        refine x_get 0 ho d_LE_rotate_93 cl_LE (by decide) g_95 k_5 rfl ?_
        refine x_aload_n ho 1 d_LE_rotate_96 rfl ?_
        refine x_get 1 ho d_LE_rotate_97 cl_LE (by decide) g_96 k_5 rfl ?_
        refine x_iconst ho d_LE_rotate_100 ?_
        refine x_isub ho d_LE_rotate_101 ?_
        refine x_iload_n ho 0 d_LE_rotate_102 rfl ?_
        refine x_iast ho d_LE_rotate_103 p_2 (by omega) (by omega) (by omega) (rA_in (by omega) (by omega)) (fun H_6 p_7 z_8 q_9 => ?_)
        have k_10 := k_5.kept (q_9 _ (by omega))
        refine x_vret ho hr d_LE_rotate_104 ?_
        refine ⟨rfl, ?_⟩
        rw [rot_f c_22]
        refine isL_mk k_10 p_7 (by rw [rot1_len]) (fun j h0 h1 => ?_) (by rw [rot1_len]; exact h_n) h_3 (rot1_wf h_w)
        rw [rot1_len] at h1
        rw [rot1_g h0 h1]
        by_cases h : j = (L.length : Int) - 1
        · rw [if_pos h, h, zU_s]
        · rw [if_neg h, zU_n _ _ h, zC_in _ _ (by omega) (by omega), show (1 : Int) + (j - 0) = j + 1 by omega]; exact h_f _ (by omega) (by omega)
      ·
        refine x_aload_n ho 0 d_LE_rotate_25 rfl ?_
        refine x_get 0 ho d_LE_rotate_26 cl_LE (by decide) g_95 h_o rfl ?_
        refine x_aload_n ho 0 d_LE_rotate_29 rfl ?_
        refine x_get 1 ho d_LE_rotate_30 cl_LE (by decide) g_96 h_o rfl ?_
        refine x_iconst ho d_LE_rotate_33 ?_
        refine x_isub ho d_LE_rotate_34 ?_
        refine x_iald ho d_LE_rotate_35 h_a (by omega) (by omega) (by omega) ?_
        refine x_eqI (b := gA L (((L.length : Int)) - 1)) (by exact h_f _ (by omega) (by omega)) ?_
        refine x_istore_n (L' := [(2, zV (gA L (((L.length : Int)) - 1))), (0, .ref o), (1, zV (bI P))]) ho d_LE_rotate_36 (by decide) rfl ?_
        refine x_aload_n ho 1 d_LE_rotate_37 rfl ?_
        refine x_get 0 ho d_LE_rotate_38 cl_LE (by decide) g_95 h_o rfl ?_
        refine x_iconst ho d_LE_rotate_41 ?_
        refine x_aload_n ho 1 d_LE_rotate_42 rfl ?_
        refine x_get 0 ho d_LE_rotate_43 cl_LE (by decide) g_95 h_o rfl ?_
        refine x_iconst ho d_LE_rotate_46 ?_
        refine x_aload_n ho 1 d_LE_rotate_47 rfl ?_
        refine x_get 1 ho d_LE_rotate_48 cl_LE (by decide) g_96 h_o rfl ?_
        refine x_iconst ho d_LE_rotate_51 ?_
        refine x_isub ho d_LE_rotate_52 ?_
        refine x_copy ho d_LE_rotate_53 g_302 h_a h_a (by omega) (by omega) (by omega) (by omega) (by omega) (by omega) (by omega) (Nat.le_of_ble_eq_true rfl) (Nat.le_of_ble_eq_true rfl) (rA_in (by omega) (by omega)) (fun H_11 p_12 z_13 q_14 => ?_)
        have k_15 := h_o.kept (q_14 _ (by omega))
        refine x_aload_n ho 1 d_LE_rotate_56 rfl ?_
        refine x_get 0 ho d_LE_rotate_57 cl_LE (by decide) g_95 k_15 rfl ?_
        refine x_iconst ho d_LE_rotate_60 ?_
        refine x_iload_n ho 0 d_LE_rotate_61 rfl ?_
        refine x_iast ho d_LE_rotate_62 p_12 (by omega) (by omega) (by omega) (rA_in (by omega) (by omega)) (fun H_16 p_17 z_18 q_19 => ?_)
        have k_20 := k_15.kept (q_19 _ (by omega))
        refine x_goto (tgt := 104) ho d_LE_rotate_63 (by decide) ?_
        refine x_vret ho hr d_LE_rotate_104 ?_
        refine ⟨rfl, ?_⟩
        rw [rot_t c_22]
        refine isL_mk k_20 p_17 (by rw [rot2_len]) (fun j h0 h1 => ?_) (by rw [rot2_len]; exact h_n) h_3 (rot2_wf h_w)
        rw [rot2_len] at h1
        rw [rot2_g h0 h1]
        by_cases h : j = 0
        · rw [if_pos h, h, zU_s]
        · rw [if_neg h, zU_n _ _ h, zC_in _ _ (by omega) (by omega), show (0 : Int) + (j - 1) = j - 1 by omega]; exact h_f _ (by omega) (by omega)
    ·
      refine x_vret ho hr d_LE_rotate_20 ?_
      exact absurd c_17 (by omega)
end
section
/-- one letter more -/
theorem cn_lat {L : List Int} {i z : Int} (hz : 0 ≤ z) (h : i < (L.length : Int)) : cn (tk L (i + 1)) z = cn (tk L i) z + bI (lat L i = z) := by
  by_cases h0 : 0 ≤ i
  · rw [tk_succ h0 h, cn_snoc, lat_in h0 h]
    by_cases e : gA L i = z
    · rw [bI_t e, if_pos e]
    · rw [bI_f e, if_neg e]
  · have e1 : tk L (i + 1) = [] := by unfold tk; rw [show (i + 1).toNat = 0 by omega]; rfl
    have e2 : tk L i = [] := by unfold tk; rw [show i.toNat = 0 by omega]; rfl
    rw [e1, e2, lat_out (by omega), bI_f (by omega)]
    rfl
/-- how often a letter comes in a stretch -/
def cw (L : List Int) (z s p : Int) : Int := cn (tk L (p + s)) z - cn (tk L p) z
theorem cw_r {L : List Int} {z p : Int} (hz : 0 ≤ z) : ∀ (k : Nat), p + k ≤ (L.length : Int) → 0 ≤ cw L z k p ∧ cw L z k p ≤ k := by
  intro k
  induction k with
  | zero => intro _; unfold cw; rw [show p + ((0 : Nat) : Int) = p by omega]; omega
  | succ k ih =>
    intro h
    have h1 := ih (by omega)
    have h2 := cn_lat (L := L) (i := p + k) hz (by omega)
    have h3 := bI_r (lat L (p + k) = z)
    unfold cw at *
    rw [show p + ((k + 1 : Nat) : Int) = p + k + 1 by omega, h2]
    omega
theorem cw_r' {L : List Int} {z s p : Int} (hz : 0 ≤ z) (hs : 0 ≤ s) (h : p + s ≤ (L.length : Int)) : 0 ≤ cw L z s p ∧ cw L z s p ≤ s := by
  have := cw_r (L := L) (p := p) hz s.toNat (by omega)
  rw [show ((s.toNat : Nat) : Int) = s by omega] at this
  exact this
/-- of all stretches of a length that end by e: how often a letter comes at most, at least -/
def isMM (L : List Int) (z s e mx mn : Int) : Prop := (∀ p : Int, 0 ≤ p → p + s ≤ e → mn ≤ cw L z s p ∧ cw L z s p ≤ mx) ∧ (∃ p : Int, 0 ≤ p ∧ p + s ≤ e ∧ cw L z s p = mx) ∧ ∃ p : Int, 0 ≤ p ∧ p + s ≤ e ∧ cw L z s p = mn
theorem isMM_one {L : List Int} {z s e mx mn a : Int} (he : e = s) (ha : a = cw L z s 0) (h1 : mx = a) (h2 : mn = a) : isMM L z s e mx mn := by
  subst he; subst h1; subst h2
  refine ⟨fun p h0 h1 => ?_, ⟨0, by omega, by omega, ha.symm⟩, ⟨0, by omega, by omega, ha.symm⟩⟩
  rw [show p = 0 by omega, ← ha]
  omega
theorem isMM_next {L : List Int} {z s e mx mn a mx' mn' : Int} (h : isMM L z s e mx mn) (hs : s ≤ e) (ha : a = cw L z s (e + 1 - s)) (h1 : mx' = if mx < a then a else mx) (h2 : mn' = if a < mn then a else mn) : isMM L z s (e + 1) mx' mn' := by
  obtain ⟨g1, ⟨p, p0, p1, p2⟩, ⟨q, q0, q1, q2⟩⟩ := h
  have hb := g1 p p0 p1
  refine ⟨fun r h0 hr => ?_, ?_, ?_⟩
  · by_cases hr' : r + s ≤ e
    · have := g1 r h0 hr'
      omega
    · rw [show r = e + 1 - s by omega, ← ha]
      omega
  · by_cases c : mx < a
    · rw [if_pos c] at h1
      exact ⟨e + 1 - s, by omega, by omega, by omega⟩
    · rw [if_neg c] at h1
      exact ⟨p, p0, by omega, by omega⟩
  · by_cases c : a < mn
    · rw [if_pos c] at h2
      exact ⟨e + 1 - s, by omega, by omega, by omega⟩
    · rw [if_neg c] at h2
      exact ⟨q, q0, by omega, by omega⟩
theorem isMM_u {L : List Int} {z s e a b c d : Int} (h : isMM L z s e a b) (k : isMM L z s e c d) : a = c ∧ b = d := by
  obtain ⟨g1, ⟨p, p0, p1, p2⟩, ⟨q, q0, q1, q2⟩⟩ := h
  obtain ⟨k1, ⟨r, r0, r1, r2⟩, ⟨t, t0, t1, t2⟩⟩ := k
  have a1 := g1 r r0 r1
  have a2 := g1 t t0 t1
  have a3 := k1 p p0 p1
  have a4 := k1 q q0 q1
  omega
theorem cn_d {L : List Int} {z s i : Int} (hz : 0 ≤ z) (hs : 0 ≤ s) (h0 : 0 ≤ i) (h1 : i ≤ (L.length : Int)) : 0 ≤ cn (tk L i) z - cn (tk L (i - s)) z ∧ cn (tk L i) z - cn (tk L (i - s)) z ≤ i := by
  by_cases h : s ≤ i
  · have := cw_r' (L := L) (z := z) (s := s) (p := i - s) hz hs (by omega)
    unfold cw at this
    rw [show i - s + s = i by omega] at this
    omega
  · have e : tk L (i - s) = [] := by unfold tk; rw [show (i - s).toNat = 0 by omega]; rfl
    have h2 := cn_r (tk L i) z
    have h3 := tk_len (L := L) h0 h1
    rw [e, cn_nil]
    omega
theorem isMM_step {L : List Int} {z s i t mo le : Int} (hz : 0 ≤ z) (hs : 1 ≤ s) (hi : s ≤ i + 1) (hl : i + 1 ≤ (L.length : Int)) (ht : t = cn (tk L (i + 1)) z - cn (tk L (i + 1 - s)) z) (h1 : i < s → mo = 0 ∧ le = s) (h2 : s ≤ i → isMM L z s i mo le) : isMM L z s (i + 1) (if mo < t then t else mo) (if t < le then t else le) := by
  have ha : t = cw L z s (i + 1 - s) := by unfold cw; rw [show i + 1 - s + s = i + 1 by omega]; exact ht
  have hr := cw_r' (L := L) (z := z) (s := s) (p := i + 1 - s) hz (by omega) (by omega)
  rw [← ha] at hr
  by_cases h : s ≤ i
  · exact isMM_next (h2 h) h ha rfl rfl
  · obtain ⟨e1, e2⟩ := h1 (by omega)
    exact isMM_one (a := t) (by omega) (by rw [show (0 : Int) = i + 1 - s by omega]; exact ha) (by omega) (by omega)
end
section
def q_LE_imbalance (D : GG) (o : Nat) (n : Nat) (L : List Int) (z : Int) (s : Int) : Option Value → Heap → Prop := fun v H => ∃ (mx : Int) (mn : Int), v = some (zV (mx - mn)) ∧ isMM L z s ((L.length : Int)) mx mn
theorem yv_LE_imbalance : Yv y_LE_imbalance b_LE_imbalance 7 (Option.some FieldType.int) 2 := ⟨g_648, g_54, by decide, by decide +kernel⟩
set_option maxHeartbeats 4000000 in
set_option maxRecDepth 100000 in
theorem c_LE_imbalance (l : Launch) (D : GG) (o : Nat) (n : Nat) (L : List Int) (z : Int) (s : Int) (hz : 0 ≤ z ∧ z < 4) (hs : 1 ≤ s ∧ s ≤ (L.length : Int)) : Ct l D y_LE_imbalance b_LE_imbalance 7 (Option.some FieldType.int) ({ frames := 1, cells := 0, slots := 0, locals := 21 } : Room) [.ref o, zV z, zV s] (fun H => isL D H o n L) nA 0 0 (q_LE_imbalance D o n L z s) := by
  refine Ct.of (L := [(0, .ref o), (1, zV z), (2, zV s)]) (by decide) (Nat.le_of_ble_eq_true rfl) rfl (fun M H ho hr hnm hH hpre => ?_)
  have hL := hpre
  have h_n := hL.b
  have h_w := hL.w
  refine x_iconst ho d_LE_imbalance_0 ?_
  refine x_istore_n (L' := [(3, zV 0), (0, .ref o), (1, zV z), (2, zV s)]) ho d_LE_imbalance_1 (by decide) rfl ?_
  refine x_iconst ho d_LE_imbalance_2 ?_
  refine x_istore (L' := [(4, zV 0), (3, zV 0), (0, .ref o), (1, zV z), (2, zV s)]) ho d_LE_imbalance_3 (by decide) rfl ?_
  refine x_iload_n ho 4 d_LE_imbalance_5 rfl ?_
  refine x_istore (L' := [(5, zV s), (4, zV 0), (3, zV 0), (0, .ref o), (1, zV z), (2, zV s)]) ho d_LE_imbalance_6 (by decide) rfl ?_
  refine x_iconst ho d_LE_imbalance_8 ?_
  refine x_istore (L' := [(6, zV 0), (5, zV s), (4, zV 0), (3, zV 0), (0, .ref o), (1, zV z), (2, zV s)]) ho d_LE_imbalance_9 (by decide) rfl ?_
  have loop_11 : ∀ (kk : Nat) (i : Int) (t : Int) (mo : Int) (le : Int) (i0 : 0 ≤ i ∧ i ≤ (L.length : Int)) (ht : t = cn (tk L i) z - cn (tk L (i - s)) z) (hb : 0 ≤ mo ∧ mo ≤ 300 ∧ 0 ≤ le ∧ le ≤ 300) (h1 : i < s → mo = 0 ∧ le = s) (h2 : s ≤ i → isMM L z s i mo le), ((L.length : Int) - i).toNat < kk → X M ({ frames := 1, cells := 0, slots := 0, locals := 21 } : Room) 7 nA 0 0 (Qof M nA (q_LE_imbalance D o n L z s) 0 0) 11 [(6, zV i), (5, zV le), (4, zV mo), (3, zV t), (0, .ref o), (1, zV z), (2, zV s)] [] H := by
    intro kk
    induction kk with
    | zero => intro i t mo le i0 ht hb h1 h2 hk; exact absurd hk (Nat.not_lt_zero _)
    | succ kk ih_11 =>
      intro i t mo le i0 ht hb h1 h2 hk_11
      refine x_iload ho 0 d_LE_imbalance_11 rfl ?_
      refine x_aload_n ho 4 d_LE_imbalance_13 rfl ?_
      refine x_get 1 ho d_LE_imbalance_14 cl_LE (by decide) g_96 hL.1 rfl ?_
      refine x_icmp_ge (tgt := 78) ho d_LE_imbalance_17 (by decide) (by omega) (by omega) (fun c_17 => ?_) (fun c_17 => ?_)
      ·
        refine x_iload ho 2 d_LE_imbalance_78 rfl ?_
        refine x_iload ho 1 d_LE_imbalance_80 rfl ?_
        refine x_isub ho d_LE_imbalance_82 ?_
        refine x_iret ho hr d_LE_imbalance_83 ?_
        rw [show i = (L.length : Int) by omega] at h2
        exact ⟨mo, le, rfl, h2 (by omega)⟩
      ·
        have a1 := cn_lat (L := L) (i := i) hz.1 (by omega)
        have a2 := cn_lat (L := L) (i := i - s) hz.1 (by omega)
        have hq := cn_d (L := L) (z := z) (s := s) (i := i + 1) hz.1 (by omega) (by omega) (by omega)
        rw [show i + 1 - s = i - s + 1 by omega, a1, a2] at hq
        refine x_aload_n ho 4 d_LE_imbalance_20 rfl ?_
        refine x_iload ho 0 d_LE_imbalance_21 rfl ?_
        refine x_callV (rest := []) ho d_LE_imbalance_23 yv_LE_letterAt g_341 g_342 g_340 (c_LE_letterAt M.2.1 D o n L i (by omega)) rfl rfl ⟨Nat.le_of_ble_eq_true rfl, Nat.le_of_ble_eq_true rfl⟩ ⟨Nat.le_of_ble_eq_true rfl, Nat.le_of_ble_eq_true rfl⟩ rfl rfl (Nat.le_of_ble_eq_true rfl) hL.1 rfl rfl hL fr_none' (x_rd (fun v_1 hv_1 => ?_))
        obtain ⟨rfl, hr_3⟩ := hv_1
        show X _ _ _ _ _ _ _ _ _ [zV (lat L i)] _
        refine x_iload_n ho 5 d_LE_imbalance_26 rfl ?_
        refine x_icmp_ne (tgt := 33) ho d_LE_imbalance_27 (by decide) (by omega) (by omega) (fun c_27 => ?_) (fun c_27 => ?_)
        ·
          rw [bI_f c_27] at a1 hq
          refine x_aload_n ho 4 d_LE_imbalance_33 rfl ?_
          refine x_iload ho 0 d_LE_imbalance_34 rfl ?_
          refine x_iload_n ho 6 d_LE_imbalance_36 rfl ?_
          refine x_isub ho d_LE_imbalance_37 ?_
          refine x_callV (rest := []) ho d_LE_imbalance_38 yv_LE_letterAt g_341 g_342 g_340 (c_LE_letterAt M.2.1 D o n L (i - s) (by omega)) rfl rfl ⟨Nat.le_of_ble_eq_true rfl, Nat.le_of_ble_eq_true rfl⟩ ⟨Nat.le_of_ble_eq_true rfl, Nat.le_of_ble_eq_true rfl⟩ rfl rfl (Nat.le_of_ble_eq_true rfl) hL.1 rfl rfl hL fr_none' (x_rd (fun v_4 hv_4 => ?_))
          obtain ⟨rfl, hr_6⟩ := hv_4
          show X _ _ _ _ _ _ _ _ _ [zV (lat L (i - s))] _
          refine x_iload_n ho 5 d_LE_imbalance_41 rfl ?_
          refine x_icmp_ne (tgt := 48) ho d_LE_imbalance_42 (by decide) (by omega) (by omega) (fun c_42 => ?_) (fun c_42 => ?_)
          ·
            rw [bI_f c_42] at a2 hq
            refine x_iload ho 0 d_LE_imbalance_48 rfl ?_
            refine x_iload_n ho 6 d_LE_imbalance_50 rfl ?_
            refine x_iconst ho d_LE_imbalance_51 ?_
            refine x_isub ho d_LE_imbalance_52 ?_
            refine x_icmp_lt (tgt := 72) ho d_LE_imbalance_53 (by decide) (by omega) (by omega) (fun c_53 => ?_) (fun c_53 => ?_)
            ·
              refine x_iinc (L' := [(6, zV (i + 1)), (5, zV le), (4, zV mo), (3, zV t), (0, .ref o), (1, zV z), (2, zV s)]) ho 0 d_LE_imbalance_72 rfl rfl (by decide) rfl ?_
              refine x_goto (tgt := 11) ho d_LE_imbalance_75 (by decide) ?_
              exact ih_11 (i + 1) t mo le (by omega) (by rw [show i + 1 - s = i - s + 1 by omega, a1, a2]; omega) (by omega) (by intro h; exact h1 (by omega)) (by intro h; omega) (by omega)
            ·
              refine x_iload ho 2 d_LE_imbalance_56 rfl ?_
              refine x_iload_n ho 3 d_LE_imbalance_58 rfl ?_
              refine x_mmax ho d_LE_imbalance_59 g_92 (by omega) (by omega) (Nat.le_of_ble_eq_true rfl) (Nat.le_of_ble_eq_true rfl) (Nat.zero_le _) (Nat.zero_le _) ?_
              refine x_istore (L' := [(4, zV (if mo < t then t else mo)), (6, zV i), (5, zV le), (3, zV t), (0, .ref o), (1, zV z), (2, zV s)]) ho d_LE_imbalance_62 (by decide) rfl ?_
              refine x_iload ho 2 d_LE_imbalance_64 rfl ?_
              refine x_iload_n ho 3 d_LE_imbalance_66 rfl ?_
              refine x_mmin ho d_LE_imbalance_67 g_299 (by omega) (by omega) (Nat.le_of_ble_eq_true rfl) (Nat.le_of_ble_eq_true rfl) (Nat.zero_le _) (Nat.zero_le _) ?_
              refine x_istore (L' := [(5, zV (if t < le then t else le)), (4, zV (if mo < t then t else mo)), (6, zV i), (3, zV t), (0, .ref o), (1, zV z), (2, zV s)]) ho d_LE_imbalance_70 (by decide) rfl ?_
              refine x_iinc (L' := [(6, zV (i + 1)), (5, zV (if t < le then t else le)), (4, zV (if mo < t then t else mo)), (3, zV t), (0, .ref o), (1, zV z), (2, zV s)]) ho 2 d_LE_imbalance_72 rfl rfl (by decide) rfl ?_
              refine x_goto (tgt := 11) ho d_LE_imbalance_75 (by decide) ?_
              exact ih_11 (i + 1) t (if mo < t then t else mo) (if t < le then t else le) (by omega) (by rw [show i + 1 - s = i - s + 1 by omega, a1, a2]; omega) (by omega) (by intro h; omega) (by intro h; exact isMM_step hz.1 (by omega) (by omega) (by omega) (by rw [show i + 1 - s = i - s + 1 by omega, a1, a2]; omega) h1 h2) (by omega)
          ·
            rw [bI_t c_42] at a2 hq
            refine x_iinc (L' := [(3, zV (t + (-1))), (6, zV i), (5, zV le), (4, zV mo), (0, .ref o), (1, zV z), (2, zV s)]) ho 3 d_LE_imbalance_45 rfl rfl (by decide) rfl ?_
            refine x_iload ho 1 d_LE_imbalance_48 rfl ?_
            refine x_iload_n ho 6 d_LE_imbalance_50 rfl ?_
            refine x_iconst ho d_LE_imbalance_51 ?_
            refine x_isub ho d_LE_imbalance_52 ?_
            refine x_icmp_lt (tgt := 72) ho d_LE_imbalance_53 (by decide) (by omega) (by omega) (fun c_53 => ?_) (fun c_53 => ?_)
            ·
              refine x_iinc (L' := [(6, zV (i + 1)), (3, zV (t + (-1))), (5, zV le), (4, zV mo), (0, .ref o), (1, zV z), (2, zV s)]) ho 1 d_LE_imbalance_72 rfl rfl (by decide) rfl ?_
              refine x_goto (tgt := 11) ho d_LE_imbalance_75 (by decide) ?_
              refine x_sub (L' := [(6, zV (i + 1)), (5, zV le), (4, zV mo), (3, zV (t + (-1))), (0, .ref o), (1, zV z), (2, zV s)]) [0, 2, 3, 1, 4, 5, 6] rfl ?_
              exact ih_11 (i + 1) (t + (-1)) mo le (by omega) (by rw [show i + 1 - s = i - s + 1 by omega, a1, a2]; omega) (by omega) (by intro h; exact h1 (by omega)) (by intro h; omega) (by omega)
            ·
              refine x_iload ho 3 d_LE_imbalance_56 rfl ?_
              refine x_iload_n ho 0 d_LE_imbalance_58 rfl ?_
              refine x_mmax ho d_LE_imbalance_59 g_92 (by omega) (by omega) (Nat.le_of_ble_eq_true rfl) (Nat.le_of_ble_eq_true rfl) (Nat.zero_le _) (Nat.zero_le _) ?_
              refine x_istore (L' := [(4, zV (if mo < (t + (-1)) then (t + (-1)) else mo)), (3, zV (t + (-1))), (6, zV i), (5, zV le), (0, .ref o), (1, zV z), (2, zV s)]) ho d_LE_imbalance_62 (by decide) rfl ?_
              refine x_iload ho 3 d_LE_imbalance_64 rfl ?_
              refine x_iload_n ho 1 d_LE_imbalance_66 rfl ?_
              refine x_mmin ho d_LE_imbalance_67 g_299 (by omega) (by omega) (Nat.le_of_ble_eq_true rfl) (Nat.le_of_ble_eq_true rfl) (Nat.zero_le _) (Nat.zero_le _) ?_
              refine x_istore (L' := [(5, zV (if (t + (-1)) < le then (t + (-1)) else le)), (4, zV (if mo < (t + (-1)) then (t + (-1)) else mo)), (3, zV (t + (-1))), (6, zV i), (0, .ref o), (1, zV z), (2, zV s)]) ho d_LE_imbalance_70 (by decide) rfl ?_
              refine x_iinc (L' := [(6, zV (i + 1)), (5, zV (if (t + (-1)) < le then (t + (-1)) else le)), (4, zV (if mo < (t + (-1)) then (t + (-1)) else mo)), (3, zV (t + (-1))), (0, .ref o), (1, zV z), (2, zV s)]) ho 3 d_LE_imbalance_72 rfl rfl (by decide) rfl ?_
              refine x_goto (tgt := 11) ho d_LE_imbalance_75 (by decide) ?_
              exact ih_11 (i + 1) (t + (-1)) (if mo < (t + (-1)) then (t + (-1)) else mo) (if (t + (-1)) < le then (t + (-1)) else le) (by omega) (by rw [show i + 1 - s = i - s + 1 by omega, a1, a2]; omega) (by omega) (by intro h; omega) (by intro h; exact isMM_step hz.1 (by omega) (by omega) (by omega) (by rw [show i + 1 - s = i - s + 1 by omega, a1, a2]; omega) h1 h2) (by omega)
        ·
          rw [bI_t c_27] at a1 hq
          refine x_iinc (L' := [(3, zV (t + 1)), (6, zV i), (5, zV le), (4, zV mo), (0, .ref o), (1, zV z), (2, zV s)]) ho 3 d_LE_imbalance_30 rfl rfl (by decide) rfl ?_
          refine x_aload_n ho 4 d_LE_imbalance_33 rfl ?_
          refine x_iload ho 1 d_LE_imbalance_34 rfl ?_
          refine x_iload_n ho 6 d_LE_imbalance_36 rfl ?_
          refine x_isub ho d_LE_imbalance_37 ?_
          refine x_callV (rest := []) ho d_LE_imbalance_38 yv_LE_letterAt g_341 g_342 g_340 (c_LE_letterAt M.2.1 D o n L (i - s) (by omega)) rfl rfl ⟨Nat.le_of_ble_eq_true rfl, Nat.le_of_ble_eq_true rfl⟩ ⟨Nat.le_of_ble_eq_true rfl, Nat.le_of_ble_eq_true rfl⟩ rfl rfl (Nat.le_of_ble_eq_true rfl) hL.1 rfl rfl hL fr_none' (x_rd (fun v_7 hv_7 => ?_))
          obtain ⟨rfl, hr_9⟩ := hv_7
          show X _ _ _ _ _ _ _ _ _ [zV (lat L (i - s))] _
          refine x_iload_n ho 5 d_LE_imbalance_41 rfl ?_
          refine x_icmp_ne (tgt := 48) ho d_LE_imbalance_42 (by decide) (by omega) (by omega) (fun c_42 => ?_) (fun c_42 => ?_)
          ·
            rw [bI_f c_42] at a2 hq
            refine x_iload ho 1 d_LE_imbalance_48 rfl ?_
            refine x_iload_n ho 6 d_LE_imbalance_50 rfl ?_
            refine x_iconst ho d_LE_imbalance_51 ?_
            refine x_isub ho d_LE_imbalance_52 ?_
            refine x_icmp_lt (tgt := 72) ho d_LE_imbalance_53 (by decide) (by omega) (by omega) (fun c_53 => ?_) (fun c_53 => ?_)
            ·
              refine x_iinc (L' := [(6, zV (i + 1)), (3, zV (t + 1)), (5, zV le), (4, zV mo), (0, .ref o), (1, zV z), (2, zV s)]) ho 1 d_LE_imbalance_72 rfl rfl (by decide) rfl ?_
              refine x_goto (tgt := 11) ho d_LE_imbalance_75 (by decide) ?_
              refine x_sub (L' := [(6, zV (i + 1)), (5, zV le), (4, zV mo), (3, zV (t + 1)), (0, .ref o), (1, zV z), (2, zV s)]) [0, 2, 3, 1, 4, 5, 6] rfl ?_
              exact ih_11 (i + 1) (t + 1) mo le (by omega) (by rw [show i + 1 - s = i - s + 1 by omega, a1, a2]; omega) (by omega) (by intro h; exact h1 (by omega)) (by intro h; omega) (by omega)
            ·
              refine x_iload ho 3 d_LE_imbalance_56 rfl ?_
              refine x_iload_n ho 0 d_LE_imbalance_58 rfl ?_
              refine x_mmax ho d_LE_imbalance_59 g_92 (by omega) (by omega) (Nat.le_of_ble_eq_true rfl) (Nat.le_of_ble_eq_true rfl) (Nat.zero_le _) (Nat.zero_le _) ?_
              refine x_istore (L' := [(4, zV (if mo < (t + 1) then (t + 1) else mo)), (3, zV (t + 1)), (6, zV i), (5, zV le), (0, .ref o), (1, zV z), (2, zV s)]) ho d_LE_imbalance_62 (by decide) rfl ?_
              refine x_iload ho 3 d_LE_imbalance_64 rfl ?_
              refine x_iload_n ho 1 d_LE_imbalance_66 rfl ?_
              refine x_mmin ho d_LE_imbalance_67 g_299 (by omega) (by omega) (Nat.le_of_ble_eq_true rfl) (Nat.le_of_ble_eq_true rfl) (Nat.zero_le _) (Nat.zero_le _) ?_
              refine x_istore (L' := [(5, zV (if (t + 1) < le then (t + 1) else le)), (4, zV (if mo < (t + 1) then (t + 1) else mo)), (3, zV (t + 1)), (6, zV i), (0, .ref o), (1, zV z), (2, zV s)]) ho d_LE_imbalance_70 (by decide) rfl ?_
              refine x_iinc (L' := [(6, zV (i + 1)), (5, zV (if (t + 1) < le then (t + 1) else le)), (4, zV (if mo < (t + 1) then (t + 1) else mo)), (3, zV (t + 1)), (0, .ref o), (1, zV z), (2, zV s)]) ho 3 d_LE_imbalance_72 rfl rfl (by decide) rfl ?_
              refine x_goto (tgt := 11) ho d_LE_imbalance_75 (by decide) ?_
              exact ih_11 (i + 1) (t + 1) (if mo < (t + 1) then (t + 1) else mo) (if (t + 1) < le then (t + 1) else le) (by omega) (by rw [show i + 1 - s = i - s + 1 by omega, a1, a2]; omega) (by omega) (by intro h; omega) (by intro h; exact isMM_step hz.1 (by omega) (by omega) (by omega) (by rw [show i + 1 - s = i - s + 1 by omega, a1, a2]; omega) h1 h2) (by omega)
          ·
            rw [bI_t c_42] at a2 hq
            refine x_iinc (L' := [(3, zV ((t + 1) + (-1))), (6, zV i), (5, zV le), (4, zV mo), (0, .ref o), (1, zV z), (2, zV s)]) ho 0 d_LE_imbalance_45 rfl rfl (by decide) rfl ?_
            refine x_iload ho 1 d_LE_imbalance_48 rfl ?_
            refine x_iload_n ho 6 d_LE_imbalance_50 rfl ?_
            refine x_iconst ho d_LE_imbalance_51 ?_
            refine x_isub ho d_LE_imbalance_52 ?_
            refine x_icmp_lt (tgt := 72) ho d_LE_imbalance_53 (by decide) (by omega) (by omega) (fun c_53 => ?_) (fun c_53 => ?_)
            ·
              refine x_iinc (L' := [(6, zV (i + 1)), (3, zV ((t + 1) + (-1))), (5, zV le), (4, zV mo), (0, .ref o), (1, zV z), (2, zV s)]) ho 1 d_LE_imbalance_72 rfl rfl (by decide) rfl ?_
              refine x_goto (tgt := 11) ho d_LE_imbalance_75 (by decide) ?_
              refine x_sub (L' := [(6, zV (i + 1)), (5, zV le), (4, zV mo), (3, zV ((t + 1) + (-1))), (0, .ref o), (1, zV z), (2, zV s)]) [0, 2, 3, 1, 4, 5, 6] rfl ?_
              exact ih_11 (i + 1) ((t + 1) + (-1)) mo le (by omega) (by rw [show i + 1 - s = i - s + 1 by omega, a1, a2]; omega) (by omega) (by intro h; exact h1 (by omega)) (by intro h; omega) (by omega)
            ·
              refine x_iload ho 3 d_LE_imbalance_56 rfl ?_
              refine x_iload_n ho 0 d_LE_imbalance_58 rfl ?_
              refine x_mmax ho d_LE_imbalance_59 g_92 (by omega) (by omega) (Nat.le_of_ble_eq_true rfl) (Nat.le_of_ble_eq_true rfl) (Nat.zero_le _) (Nat.zero_le _) ?_
              refine x_istore (L' := [(4, zV (if mo < ((t + 1) + (-1)) then ((t + 1) + (-1)) else mo)), (3, zV ((t + 1) + (-1))), (6, zV i), (5, zV le), (0, .ref o), (1, zV z), (2, zV s)]) ho d_LE_imbalance_62 (by decide) rfl ?_
              refine x_iload ho 3 d_LE_imbalance_64 rfl ?_
              refine x_iload_n ho 1 d_LE_imbalance_66 rfl ?_
              refine x_mmin ho d_LE_imbalance_67 g_299 (by omega) (by omega) (Nat.le_of_ble_eq_true rfl) (Nat.le_of_ble_eq_true rfl) (Nat.zero_le _) (Nat.zero_le _) ?_
              refine x_istore (L' := [(5, zV (if ((t + 1) + (-1)) < le then ((t + 1) + (-1)) else le)), (4, zV (if mo < ((t + 1) + (-1)) then ((t + 1) + (-1)) else mo)), (3, zV ((t + 1) + (-1))), (6, zV i), (0, .ref o), (1, zV z), (2, zV s)]) ho d_LE_imbalance_70 (by decide) rfl ?_
              refine x_iinc (L' := [(6, zV (i + 1)), (5, zV (if ((t + 1) + (-1)) < le then ((t + 1) + (-1)) else le)), (4, zV (if mo < ((t + 1) + (-1)) then ((t + 1) + (-1)) else mo)), (3, zV ((t + 1) + (-1))), (0, .ref o), (1, zV z), (2, zV s)]) ho 3 d_LE_imbalance_72 rfl rfl (by decide) rfl ?_
              refine x_goto (tgt := 11) ho d_LE_imbalance_75 (by decide) ?_
              exact ih_11 (i + 1) ((t + 1) + (-1)) (if mo < ((t + 1) + (-1)) then ((t + 1) + (-1)) else mo) (if ((t + 1) + (-1)) < le then ((t + 1) + (-1)) else le) (by omega) (by rw [show i + 1 - s = i - s + 1 by omega, a1, a2]; omega) (by omega) (by intro h; omega) (by intro h; exact isMM_step hz.1 (by omega) (by omega) (by omega) (by rw [show i + 1 - s = i - s + 1 by omega, a1, a2]; omega) h1 h2) (by omega)
  exact loop_11 _ 0 0 0 s (by omega) (by unfold tk; rw [show (0 - s).toNat = 0 by omega]; simp) (by omega) (by intro _; exact ⟨rfl, rfl⟩) (by intro h; omega) (Nat.lt_succ_self _)
end
section
/-- a Rule at r: image i is the Letters at p i, with the word c i -/
def isR (D : GG) (H : Heap) (r : Nat) (p : Int → Nat) (c : Int → List Int) : Prop :=
  At D H r (oO 7 [.ref (r + 1), .ref (r + 2)]) ∧ At D H (r + 1) (oR D 3 4 (fun i => some (p i))) ∧ isL D H (r + 2) 0 [] ∧ (∀ i : Int, 0 ≤ i → i < 4 → isL D H (p i) 8 (c i)) ∧ (∀ i : Int, 0 ≤ i → i < 4 → r + 4 ≤ p i ∧ p i + 2 ≤ r + 12) ∧ ∀ i j : Int, 0 ≤ i → i < 4 → 0 ≤ j → j < 4 → i ≠ j → p i + 2 ≤ p j ∨ p j + 2 ≤ p i
theorem isR.im {D : GG} {H : Heap} {r : Nat} {p : Int → Nat} {c : Int → List Int} (h : isR D H r p c) {i : Int} (h0 : 0 ≤ i) (h1 : i < 4) : isL D H (p i) 8 (c i) := h.2.2.2.1 i h0 h1
theorem isR.bd {D : GG} {H : Heap} {r : Nat} {p : Int → Nat} {c : Int → List Int} (h : isR D H r p c) {i : Int} (h0 : 0 ≤ i) (h1 : i < 4) : r + 4 ≤ p i ∧ p i + 2 ≤ r + 12 := h.2.2.2.2.1 i h0 h1
theorem isR.lt {D : GG} {H : Heap} {r : Nat} {p : Int → Nat} {c : Int → List Int} (h : isR D H r p c) : r + 11 < H.size := by
  have h0 := (h.im (i := 0) (by decide) (by decide)).lt
  have h1 := (h.im (i := 1) (by decide) (by decide)).lt
  have h2 := (h.im (i := 2) (by decide) (by decide)).lt
  have h3 := (h.im (i := 3) (by decide) (by decide)).lt
  have b0 := h.bd (i := 0) (by decide) (by decide)
  have b1 := h.bd (i := 1) (by decide) (by decide)
  have b2 := h.bd (i := 2) (by decide) (by decide)
  have b3 := h.bd (i := 3) (by decide) (by decide)
  have d01 := h.2.2.2.2.2 0 1 (by decide) (by decide) (by decide) (by decide) (by decide)
  have d02 := h.2.2.2.2.2 0 2 (by decide) (by decide) (by decide) (by decide) (by decide)
  have d03 := h.2.2.2.2.2 0 3 (by decide) (by decide) (by decide) (by decide) (by decide)
  have d12 := h.2.2.2.2.2 1 2 (by decide) (by decide) (by decide) (by decide) (by decide)
  have d13 := h.2.2.2.2.2 1 3 (by decide) (by decide) (by decide) (by decide) (by decide)
  have d23 := h.2.2.2.2.2 2 3 (by decide) (by decide) (by decide) (by decide) (by decide)
  omega
theorem isR.kept {D : GG} {H H1 : Heap} {r : Nat} {p : Int → Nat} {c : Int → List Int} (h : isR D H r p c) (hq : ∀ q : Nat, r ≤ q → q < r + 12 → H1[q]? = H[q]?) : isR D H1 r p c := by
  obtain ⟨h1, h2, h3, h4, h5, h6⟩ := h
  exact ⟨h1.kept (hq _ (by omega) (by omega)), h2.kept (hq _ (by omega) (by omega)), h3.kept (fun q a b => hq q (by omega) (by omega)), fun i a b => (h4 i a b).kept (fun q c d => by have := h5 i a b; exact hq q (by omega) (by omega)), h5, h6⟩
theorem isR_set {D : GG} {H H1 : Heap} {r : Nat} {p : Int → Nat} {c : Int → List Int} (h : isR D H r p c) {x : Int} {K : List Int} (h0 : 0 ≤ x) (h1 : x < 4) (hn : isL D H1 (p x) 8 K) (hF : FR (rA (p x) (p x + 2)) H H1 0) : isR D H1 r p (zU c x K) := by
  have hl := h.lt
  obtain ⟨g1, g2, g3, g4, g5, g6⟩ := h
  have bx := g5 x h0 h1
  refine ⟨g1.kept (hF.2 _ (by omega) (rA_no (by omega))), g2.kept (hF.2 _ (by omega) (rA_no (by omega))), g3.kept (fun q a b => hF.2 q (by omega) (rA_no (by omega))), fun i a b => ?_, g5, g6⟩
  by_cases hi : i = x
  · subst hi
    rw [zU_s]
    exact hn
  · rw [zU_n _ _ hi]
    have bi := g5 i a b
    have dj := g6 i x a b h0 h1 hi
    exact (g4 i a b).kept (fun q c d => hF.2 q (by omega) (rA_no (by omega)))
theorem isR.c {D : GG} {H : Heap} {r : Nat} {p : Int → Nat} {c c' : Int → List Int} (h : isR D H r p c) (hc : ∀ i : Int, 0 ≤ i → i < 4 → c i = c' i) : isR D H r p c' := by
  obtain ⟨h1, h2, h3, h4, h5, h6⟩ := h
  exact ⟨h1, h2, h3, fun i a b => by rw [← hc i a b]; exact h4 i a b, h5, h6⟩
theorem isR.w {D : GG} {H : Heap} {r : Nat} {p : Int → Nat} {c : Int → List Int} (h : isR D H r p c) {i : Int} (h0 : 0 ≤ i) (h1 : i < 4) : wf (c i) ∧ (c i).length ≤ 8 := ⟨(h.im h0 h1).w, (h.im h0 h1).b.1⟩
def totN (c : Int → List Int) : Nat → Int
  | 0 => 0
  | n + 1 => totN c n + ((c (n : Int)).length : Int)
/-- the letters of all images together -/
def tot (c : Int → List Int) : Int := totN c 4
theorem tot_r {c : Int → List Int} (h : ∀ i : Int, 0 ≤ i → i < 4 → (c i).length ≤ 8) : 0 ≤ tot c ∧ tot c ≤ 32 := by
  have h0 := h 0 (by decide) (by decide)
  have h1 := h 1 (by decide) (by decide)
  have h2 := h 2 (by decide) (by decide)
  have h3 := h 3 (by decide) (by decide)
  have e : tot c = 0 + ((c 0).length : Int) + ((c 1).length : Int) + ((c 2).length : Int) + ((c 3).length : Int) := rfl
  omega
/-- the letter that a word begins or ends with -/
noncomputable def ende (P : Prop) (L : List Int) : Int := lat L (@ite _ P (Classical.propDecidable P) ((L.length : Int) - 1) 0)
theorem ende_t {P : Prop} (h : P) {L : List Int} : ende P L = lat L ((L.length : Int) - 1) := by unfold ende; rw [if_pos h]
theorem ende_f {P : Prop} (h : ¬ P) {L : List Int} : ende P L = lat L 0 := by unfold ende; rw [if_neg h]
noncomputable def comE (P : Prop) (c : Int → List Int) : Int := @ite _ (∀ i : Int, 1 ≤ i → i < 4 → ende P (c i) = ende P (c 0)) (Classical.propDecidable _) (ende P (c 0)) (-1)
theorem comE_t {P : Prop} {c : Int → List Int} (h : ∀ i : Int, 1 ≤ i → i < 4 → ende P (c i) = ende P (c 0)) : comE P c = ende P (c 0) := by unfold comE; rw [if_pos h]
theorem comE_f {P : Prop} {c : Int → List Int} {i : Int} (h0 : 1 ≤ i) (h1 : i < 4) (h : ¬ ende P (c i) = ende P (c 0)) : comE P c = -1 := by unfold comE; rw [if_neg (fun q => h (q i h0 h1))]
end
section
def q_RU_imageOf (D : GG) (r : Nat) (p : Int → Nat) (c : Int → List Int) (x : Int) : Option Value → Heap → Prop := fun v H => v = some (.ref (p x)) ∧ (r + 4 ≤ p x ∧ p x + 2 ≤ r + 12) ∧ isL D H (p x) 8 (c x)
theorem yv_RU_imageOf : Yv y_RU_imageOf b_RU_imageOf 2 (Option.some (FieldType.object "MorphWords$Letters")) 1 := ⟨g_294, g_53, by decide, by decide +kernel⟩
set_option maxHeartbeats 4000000 in
set_option maxRecDepth 100000 in
theorem c_RU_imageOf (l : Launch) (D : GG) (r : Nat) (p : Int → Nat) (c : Int → List Int) (x : Int) (hx : 0 ≤ x ∧ x < 4) : Ct l D y_RU_imageOf b_RU_imageOf 2 (Option.some (FieldType.object "MorphWords$Letters")) ({ frames := 1, cells := 0, slots := 0, locals := 20 } : Room) [.ref r, zV x] (fun H => isR D H r p c) nA 0 0 (q_RU_imageOf D r p c x) := by
  refine Ct.of (L := [(0, .ref r), (1, zV x)]) (by decide) (Nat.le_of_ble_eq_true rfl) rfl (fun M H ho hr hnm hH hpre => ?_)
  have hR := hpre
  obtain ⟨h_o, h_a, h_n, h_4, h_b, h_d⟩ := id hR
  refine x_iload_n ho 1 d_RU_imageOf_0 rfl ?_
  refine x_callSN (host := "MorphWords") (rest := []) ho d_RU_imageOf_1 yv_MW_isLetter g_107 (List.mem_of_getElem? (i := 7) rfl) (c_MW_isLetter M.2.1 D x (by omega)) rfl rfl ⟨Nat.le_of_ble_eq_true rfl, Nat.le_of_ble_eq_true rfl⟩ ⟨Nat.le_of_ble_eq_true rfl, Nat.le_of_ble_eq_true rfl⟩ rfl rfl (Nat.le_of_ble_eq_true rfl) trivial fr_none' (x_rd (fun v_1 hv_1 => ?_))
  obtain rfl := hv_1
  show X _ _ _ _ _ _ _ _ _ [zV (bI (0 ≤ x ∧ x < 4))] _
  refine x_if_eqB (tgt := 16) ho d_RU_imageOf_4 (by decide) (fun c_4 => ?_) (fun c_4 => ?_)
  ·
    exact absurd hx c_4
  ·
    refine x_aload_n ho 0 d_RU_imageOf_7 rfl ?_
    refine x_get 0 ho d_RU_imageOf_8 cl_RU (by decide) g_109 hR.1 rfl ?_
    refine x_iload_n ho 1 d_RU_imageOf_11 rfl ?_
    refine x_aald (b := p x) ho d_RU_imageOf_12 h_a rfl (by omega) (by omega) (by omega) (by rfl) ?_
    refine x_goto (tgt := 20) ho d_RU_imageOf_13 (by decide) ?_
    refine x_aret ho hr d_RU_imageOf_20 ?_
    exact ⟨rfl, h_b x hx.1 hx.2, h_4 x hx.1 hx.2⟩
def q_RU_imageOf_g (D : GG) (r : Nat) (p : Int → Nat) (c : Int → List Int) (x : Int) : Option Value → Heap → Prop := fun v H => (v = some (.ref (p x)) ∧ (0 ≤ x ∧ x < 4) ∧ (r + 4 ≤ p x ∧ p x + 2 ≤ r + 12) ∧ isL D H (p x) 8 (c x)) ∨ (v = some (.ref (r + 2)) ∧ (¬ (0 ≤ x ∧ x < 4)) ∧ isL D H (r + 2) 0 ([]))
set_option maxHeartbeats 4000000 in
set_option maxRecDepth 100000 in
theorem c_RU_imageOf_g (l : Launch) (D : GG) (r : Nat) (p : Int → Nat) (c : Int → List Int) (x : Int) (hx : -2147483648 ≤ x ∧ x ≤ 2147483647) : Ct l D y_RU_imageOf b_RU_imageOf 2 (Option.some (FieldType.object "MorphWords$Letters")) ({ frames := 1, cells := 0, slots := 0, locals := 20 } : Room) [.ref r, zV x] (fun H => isR D H r p c) nA 0 0 (q_RU_imageOf_g D r p c x) := by
  refine Ct.of (L := [(0, .ref r), (1, zV x)]) (by decide) (Nat.le_of_ble_eq_true rfl) rfl (fun M H ho hr hnm hH hpre => ?_)
  have hR := hpre
  obtain ⟨h_o, h_a, h_n, h_4, h_b, h_d⟩ := id hR
  refine x_iload_n ho 1 d_RU_imageOf_0 rfl ?_
  refine x_callSN (host := "MorphWords") (rest := []) ho d_RU_imageOf_1 yv_MW_isLetter g_107 (List.mem_of_getElem? (i := 7) rfl) (c_MW_isLetter M.2.1 D x (by omega)) rfl rfl ⟨Nat.le_of_ble_eq_true rfl, Nat.le_of_ble_eq_true rfl⟩ ⟨Nat.le_of_ble_eq_true rfl, Nat.le_of_ble_eq_true rfl⟩ rfl rfl (Nat.le_of_ble_eq_true rfl) trivial fr_none' (x_rd (fun v_1 hv_1 => ?_))
  obtain rfl := hv_1
  show X _ _ _ _ _ _ _ _ _ [zV (bI (0 ≤ x ∧ x < 4))] _
  refine x_if_eqB (tgt := 16) ho d_RU_imageOf_4 (by decide) (fun c_4 => ?_) (fun c_4 => ?_)
  ·
    refine x_aload_n ho 0 d_RU_imageOf_16 rfl ?_
    refine x_get 1 ho d_RU_imageOf_17 cl_RU (by decide) g_110 hR.1 rfl ?_
    refine x_aret ho hr d_RU_imageOf_20 ?_
    exact Or.inr ⟨rfl, c_4, h_n⟩
  ·
    refine x_aload_n ho 0 d_RU_imageOf_7 rfl ?_
    refine x_get 0 ho d_RU_imageOf_8 cl_RU (by decide) g_109 hR.1 rfl ?_
    refine x_iload_n ho 1 d_RU_imageOf_11 rfl ?_
    refine x_aald (b := p x) ho d_RU_imageOf_12 h_a rfl (by omega) (by omega) (by omega) (by rfl) ?_
    refine x_goto (tgt := 20) ho d_RU_imageOf_13 (by decide) ?_
    refine x_aret ho hr d_RU_imageOf_20 ?_
    exact Or.inl ⟨rfl, c_4, h_b x c_4.1 c_4.2, h_4 x c_4.1 c_4.2⟩
def q_RU_become (D : GG) (r : Nat) (p : Int → Nat) (c : Int → List Int) (r2 : Nat) (p2 : Int → Nat) (c2 : Int → List Int) : Option Value → Heap → Prop := fun v H => v = none ∧ isR D H r p c2 ∧ isR D H r2 p2 c2
theorem yv_RU_become : Yv y_RU_become b_RU_become 3 (Option.none : Option FieldType) 1 := ⟨g_290, g_53, by decide, by decide +kernel⟩
set_option maxHeartbeats 4000000 in
set_option maxRecDepth 100000 in
theorem c_RU_become (l : Launch) (D : GG) (r : Nat) (p : Int → Nat) (c : Int → List Int) (r2 : Nat) (p2 : Int → Nat) (c2 : Int → List Int) (hd : r + 12 ≤ r2 ∨ r2 + 12 ≤ r) : Ct l D y_RU_become b_RU_become 3 (Option.none : Option FieldType) ({ frames := 2, cells := 0, slots := 0, locals := 82 } : Room) [.ref r, .ref r2] (fun H => isR D H r p c ∧ isR D H r2 p2 c2) (rA r (r + 12)) 0 0 (q_RU_become D r p c r2 p2 c2) := by
  refine Ct.of (L := [(0, .ref r), (1, .ref r2)]) (by decide) (Nat.le_of_ble_eq_true rfl) rfl (fun M H ho hr hnm hH hpre => ?_)
  obtain ⟨hR, hS⟩ := hpre
  refine x_iconst ho d_RU_become_0 ?_
  refine x_istore_n (L' := [(2, zV 0), (0, .ref r), (1, .ref r2)]) ho d_RU_become_1 (by decide) rfl ?_
  have loop_2 : ∀ (kk : Nat) (i : Int) (g : Int → List Int) (H_1 : Heap) (gR : isR D H_1 r p g) (gS : isR D H_1 r2 p2 c2) (i0 : 0 ≤ i ∧ i ≤ 4) (hg : ∀ j : Int, 0 ≤ j → j < i → g j = c2 j), (4 - i).toNat < kk → X M ({ frames := 2, cells := 0, slots := 0, locals := 82 } : Room) 3 (rA r (r + 12)) 0 0 (Qof M (rA r (r + 12)) (q_RU_become D r p c r2 p2 c2) 0 0) 2 [(2, zV i), (0, .ref r), (1, .ref r2)] [] H_1 := by
    intro kk
    induction kk with
    | zero => intro i g H_1 gR gS i0 hg hk; exact absurd hk (Nat.not_lt_zero _)
    | succ kk ih_2 =>
      intro i g H_1 gR gS i0 hg hk_2
      refine x_iload_n ho 0 d_RU_become_2 rfl ?_
      refine x_iconst ho d_RU_become_3 ?_
      refine x_icmp_ge (tgt := 26) ho d_RU_become_4 (by decide) (by omega) (by omega) (fun c_4 => ?_) (fun c_4 => ?_)
      ·
        refine x_vret ho hr d_RU_become_26 ?_
        exact ⟨rfl, gR.c (fun j h0 h1 => hg j h0 (by omega)), gS⟩
      ·
        refine x_aload_n ho 1 d_RU_become_7 rfl ?_
        refine x_iload_n ho 0 d_RU_become_8 rfl ?_
        refine x_callV (rest := []) ho d_RU_become_9 yv_RU_imageOf g_292 g_293 g_291 (c_RU_imageOf M.2.1 D r p g i (by omega)) rfl rfl ⟨Nat.le_of_ble_eq_true rfl, Nat.le_of_ble_eq_true rfl⟩ ⟨Nat.le_of_ble_eq_true rfl, Nat.le_of_ble_eq_true rfl⟩ rfl rfl (Nat.le_of_ble_eq_true rfl) gR.1 rfl rfl gR fr_none' (x_rd (fun v_2 hv_2 => ?_))
        obtain ⟨rfl, hb_4, hI_5⟩ := hv_2
        show X _ _ _ _ _ _ _ _ _ [.ref (p i)] _
        refine x_aload_n ho 2 d_RU_become_12 rfl ?_
        refine x_iload_n ho 0 d_RU_become_13 rfl ?_
        refine x_callV (rest := [.ref (p i)]) ho d_RU_become_14 yv_RU_imageOf g_292 g_293 g_291 (c_RU_imageOf M.2.1 D r2 p2 c2 i (by omega)) rfl rfl ⟨Nat.le_of_ble_eq_true rfl, Nat.le_of_ble_eq_true rfl⟩ ⟨Nat.le_of_ble_eq_true rfl, Nat.le_of_ble_eq_true rfl⟩ rfl rfl (Nat.le_of_ble_eq_true rfl) gS.1 rfl rfl gS fr_none' (x_rd (fun v_6 hv_6 => ?_))
        obtain ⟨rfl, hb_8, hI_9⟩ := hv_6
        show X _ _ _ _ _ _ _ _ _ [.ref (p2 i), .ref (p i)] _
        have kw := (gS.w (i := i) (by omega) (by omega)).2
        refine x_callV (rest := []) ho d_RU_become_17 yv_LE_become g_296 g_297 g_295 (c_LE_become M.2.1 D (p i) 8 (g i) (p2 i) 8 (c2 i) (by omega) (by omega)) rfl rfl ⟨Nat.le_of_ble_eq_true rfl, Nat.le_of_ble_eq_true rfl⟩ ⟨Nat.le_of_ble_eq_true rfl, Nat.le_of_ble_eq_true rfl⟩ rfl rfl (Nat.le_of_ble_eq_true rfl) hI_5.1 rfl rfl ⟨hI_5, hI_9⟩ (rA_sub (by omega) (by omega)) (fun v_10 H_12 hv_10 f_11 => ?_)
        have k_13 := gS.kept (fun q g1 g2 => f_11.2 q (by have := gS.lt; omega) (rA_no (by omega)))
        obtain ⟨rfl, hL_14, hK_15⟩ := hv_10
        have r_16 : isR D H_12 r p (zU g i (c2 i)) := isR_set gR (by omega) (by omega) hL_14 f_11
        show X _ _ _ _ _ _ _ _ _ [] _
        refine x_iinc (L' := [(2, zV (i + 1)), (0, .ref r), (1, .ref r2)]) ho 0 d_RU_become_20 rfl rfl (by decide) rfl ?_
        refine x_goto (tgt := 2) ho d_RU_become_23 (by decide) ?_
        exact ih_2 (i + 1) (zU g i (c2 i)) H_12 r_16 k_13 (by omega) (by
            intro j h0 h1
            by_cases h : j = i
            · subst h; rw [zU_s]
            · rw [zU_n _ _ h]; exact hg j h0 (by omega)) (by omega)
  exact loop_2 _ 0 c H hR hS (by omega) (by intro j h0 h1; omega) (Nat.lt_succ_self _)
def q_RU_same (D : GG) (r : Nat) (p : Int → Nat) (c : Int → List Int) (r2 : Nat) (p2 : Int → Nat) (c2 : Int → List Int) : Option Value → Heap → Prop := fun v H => (v = some (zV (bI (∀ j : Int, 0 ≤ j → j < 4 → c j = c2 j))))
theorem yv_RU_same : Yv y_RU_same b_RU_same 3 (Option.some FieldType.boolean) 1 := ⟨g_331, g_53, by decide, by decide +kernel⟩
set_option maxHeartbeats 4000000 in
set_option maxRecDepth 100000 in
theorem c_RU_same (l : Launch) (D : GG) (r : Nat) (p : Int → Nat) (c : Int → List Int) (r2 : Nat) (p2 : Int → Nat) (c2 : Int → List Int)  : Ct l D y_RU_same b_RU_same 3 (Option.some FieldType.boolean) ({ frames := 3, cells := 0, slots := 0, locals := 65 } : Room) [.ref r, .ref r2] (fun H => isR D H r p c ∧ isR D H r2 p2 c2) nA 0 0 (q_RU_same D r p c r2 p2 c2) := by
  refine Ct.of (L := [(0, .ref r), (1, .ref r2)]) (by decide) (Nat.le_of_ble_eq_true rfl) rfl (fun M H ho hr hnm hH hpre => ?_)
  obtain ⟨hR, hS⟩ := hpre
  refine x_iconst ho d_RU_same_0 ?_
  refine x_istore_n (L' := [(2, zV 0), (0, .ref r), (1, .ref r2)]) ho d_RU_same_1 (by decide) rfl ?_
  have loop_2 : ∀ (kk : Nat) (i : Int) (i0 : 0 ≤ i ∧ i ≤ 4) (hj : ∀ j : Int, 0 ≤ j → j < i → c j = c2 j), (4 - i).toNat < kk → X M ({ frames := 3, cells := 0, slots := 0, locals := 65 } : Room) 3 nA 0 0 (Qof M nA (q_RU_same D r p c r2 p2 c2) 0 0) 2 [(2, zV i), (0, .ref r), (1, .ref r2)] [] H := by
    intro kk
    induction kk with
    | zero => intro i i0 hj hk; exact absurd hk (Nat.not_lt_zero _)
    | succ kk ih_2 =>
      intro i i0 hj hk_2
      refine x_iload_n ho 0 d_RU_same_2 rfl ?_
      refine x_iconst ho d_RU_same_3 ?_
      refine x_icmp_ge (tgt := 31) ho d_RU_same_4 (by decide) (by omega) (by omega) (fun c_4 => ?_) (fun c_4 => ?_)
      ·
        refine x_iconst ho d_RU_same_31 ?_
        refine x_zret ho hr (Or.inr rfl) d_RU_same_32 ?_
        exact rT (by intro j h0 h1; exact hj j h0 (by omega))
      ·
        refine x_aload_n ho 1 d_RU_same_7 rfl ?_
        refine x_iload_n ho 0 d_RU_same_8 rfl ?_
        refine x_callV (rest := []) ho d_RU_same_9 yv_RU_imageOf g_292 g_293 g_291 (c_RU_imageOf M.2.1 D r p c i (by omega)) rfl rfl ⟨Nat.le_of_ble_eq_true rfl, Nat.le_of_ble_eq_true rfl⟩ ⟨Nat.le_of_ble_eq_true rfl, Nat.le_of_ble_eq_true rfl⟩ rfl rfl (Nat.le_of_ble_eq_true rfl) hR.1 rfl rfl hR fr_none' (x_rd (fun v_1 hv_1 => ?_))
        obtain ⟨rfl, hb_3, hI_4⟩ := hv_1
        show X _ _ _ _ _ _ _ _ _ [.ref (p i)] _
        refine x_aload_n ho 2 d_RU_same_12 rfl ?_
        refine x_iload_n ho 0 d_RU_same_13 rfl ?_
        refine x_callV (rest := [.ref (p i)]) ho d_RU_same_14 yv_RU_imageOf g_292 g_293 g_291 (c_RU_imageOf M.2.1 D r2 p2 c2 i (by omega)) rfl rfl ⟨Nat.le_of_ble_eq_true rfl, Nat.le_of_ble_eq_true rfl⟩ ⟨Nat.le_of_ble_eq_true rfl, Nat.le_of_ble_eq_true rfl⟩ rfl rfl (Nat.le_of_ble_eq_true rfl) hS.1 rfl rfl hS fr_none' (x_rd (fun v_5 hv_5 => ?_))
        obtain ⟨rfl, hb_7, hI_8⟩ := hv_5
        show X _ _ _ _ _ _ _ _ _ [.ref (p2 i), .ref (p i)] _
        refine x_callV (rest := []) ho d_RU_same_17 yv_LE_same g_333 g_334 g_332 (c_LE_same M.2.1 D (p i) 8 (c i) (p2 i) 8 (c2 i) ) rfl rfl ⟨Nat.le_of_ble_eq_true rfl, Nat.le_of_ble_eq_true rfl⟩ ⟨Nat.le_of_ble_eq_true rfl, Nat.le_of_ble_eq_true rfl⟩ rfl rfl (Nat.le_of_ble_eq_true rfl) hI_4.1 rfl rfl ⟨hI_4, hI_8⟩ fr_none' (x_rd (fun v_9 hv_9 => ?_))
        obtain rfl := hv_9
        show X _ _ _ _ _ _ _ _ _ [zV (bI ((c i) = (c2 i)))] _
        refine x_if_neB (tgt := 25) ho d_RU_same_20 (by decide) (fun c_20 => ?_) (fun c_20 => ?_)
        ·
          refine x_iinc (L' := [(2, zV (i + 1)), (0, .ref r), (1, .ref r2)]) ho 0 d_RU_same_25 rfl rfl (by decide) rfl ?_
          refine x_goto (tgt := 2) ho d_RU_same_28 (by decide) ?_
          exact ih_2 (i + 1) (by omega) (by intro j h0 h1; rcases (show j < i ∨ j = i by omega) with h | h; exact hj j h0 h; subst h; exact c_20) (by omega)
        ·
          refine x_iconst ho d_RU_same_23 ?_
          refine x_zret ho hr (Or.inl rfl) d_RU_same_24 ?_
          exact rF (by intro h; exact c_20 (h i (by omega) (by omega)))
  exact loop_2 _ 0 (by omega) (by intro j h0 h1; omega) (Nat.lt_succ_self _)
def q_RU_total (D : GG) (r : Nat) (p : Int → Nat) (c : Int → List Int) : Option Value → Heap → Prop := fun v H => v = some (zV (tot c)) ∧ (0 ≤ tot c ∧ tot c ≤ 32)
theorem yv_RU_total : Yv y_RU_total b_RU_total 3 (Option.some FieldType.int) 0 := ⟨g_384, g_53, by decide, by decide +kernel⟩
set_option maxHeartbeats 4000000 in
set_option maxRecDepth 100000 in
theorem c_RU_total (l : Launch) (D : GG) (r : Nat) (p : Int → Nat) (c : Int → List Int)  : Ct l D y_RU_total b_RU_total 3 (Option.some FieldType.int) ({ frames := 2, cells := 0, slots := 0, locals := 41 } : Room) [.ref r] (fun H => isR D H r p c) nA 0 0 (q_RU_total D r p c) := by
  refine Ct.of (L := [(0, .ref r)]) (by decide) (Nat.le_of_ble_eq_true rfl) rfl (fun M H ho hr hnm hH hpre => ?_)
  have hR := hpre
  refine x_iconst ho d_RU_total_0 ?_
  refine x_istore_n (L' := [(1, zV 0), (0, .ref r)]) ho d_RU_total_1 (by decide) rfl ?_
  refine x_iconst ho d_RU_total_2 ?_
  refine x_istore_n (L' := [(2, zV 0), (1, zV 0), (0, .ref r)]) ho d_RU_total_3 (by decide) rfl ?_
  have loop_4 : ∀ (kk : Nat) (i : Int) (t : Int) (i0 : 0 ≤ i ∧ i ≤ 4) (ht : t = totN c i.toNat), (4 - i).toNat < kk → X M ({ frames := 2, cells := 0, slots := 0, locals := 41 } : Room) 3 nA 0 0 (Qof M nA (q_RU_total D r p c) 0 0) 4 [(2, zV i), (1, zV t), (0, .ref r)] [] H := by
    intro kk
    induction kk with
    | zero => intro i t i0 ht hk; exact absurd hk (Nat.not_lt_zero _)
    | succ kk ih_4 =>
      intro i t i0 ht hk_4
      refine x_iload_n ho 0 d_RU_total_4 rfl ?_
      refine x_iconst ho d_RU_total_5 ?_
      refine x_icmp_ge (tgt := 26) ho d_RU_total_6 (by decide) (by omega) (by omega) (fun c_6 => ?_) (fun c_6 => ?_)
      ·
        refine x_iload_n ho 1 d_RU_total_26 rfl ?_
        refine x_iret ho hr d_RU_total_27 ?_
        rw [show i.toNat = 4 by omega] at ht; subst ht; exact ⟨rfl, tot_r (fun j h0 h1 => (hR.w h0 h1).2)⟩
      ·
        refine x_iload_n ho 1 d_RU_total_9 rfl ?_
        refine x_aload_n ho 2 d_RU_total_10 rfl ?_
        refine x_iload_n ho 0 d_RU_total_11 rfl ?_
        refine x_callV (rest := [zV t]) ho d_RU_total_12 yv_RU_imageOf g_292 g_293 g_291 (c_RU_imageOf M.2.1 D r p c i (by omega)) rfl rfl ⟨Nat.le_of_ble_eq_true rfl, Nat.le_of_ble_eq_true rfl⟩ ⟨Nat.le_of_ble_eq_true rfl, Nat.le_of_ble_eq_true rfl⟩ rfl rfl (Nat.le_of_ble_eq_true rfl) hR.1 rfl rfl hR fr_none' (x_rd (fun v_1 hv_1 => ?_))
        obtain ⟨rfl, hb_3, hI_4⟩ := hv_1
        show X _ _ _ _ _ _ _ _ _ [.ref (p i), zV t] _
        refine x_callV (rest := [zV t]) ho d_RU_total_15 yv_LE_length g_321 g_322 g_374 (c_LE_length M.2.1 D (p i) 8 (c i) ) rfl rfl ⟨Nat.le_of_ble_eq_true rfl, Nat.le_of_ble_eq_true rfl⟩ ⟨Nat.le_of_ble_eq_true rfl, Nat.le_of_ble_eq_true rfl⟩ rfl rfl (Nat.le_of_ble_eq_true rfl) hI_4.1 rfl rfl hI_4 fr_none' (x_rd (fun v_5 hv_5 => ?_))
        obtain rfl := hv_5
        show X _ _ _ _ _ _ _ _ _ [zV (((c i).length : Int)), zV t] _
        refine x_iadd ho d_RU_total_18 ?_
        refine x_istore_n (L' := [(1, zV (t + (((c i).length : Int)))), (2, zV i), (0, .ref r)]) ho d_RU_total_19 (by decide) rfl ?_
        refine x_iinc (L' := [(2, zV (i + 1)), (1, zV (t + (((c i).length : Int)))), (0, .ref r)]) ho 1 d_RU_total_20 rfl rfl (by decide) rfl ?_
        refine x_goto (tgt := 4) ho d_RU_total_23 (by decide) ?_
        exact ih_4 (i + 1) (t + (((c i).length : Int))) (by omega) (by rw [show (i + 1).toNat = i.toNat + 1 by omega]; unfold totN; rw [show ((i.toNat : Nat) : Int) = i by omega]; omega) (by omega)
  exact loop_4 _ 0 0 (by omega) (by rfl) (Nat.lt_succ_self _)
def q_RU_rotate (D : GG) (r : Nat) (p : Int → Nat) (c : Int → List Int) (P : Prop) : Option Value → Heap → Prop := fun v H => v = none ∧ isR D H r p (fun i => rot P (c i))
theorem yv_RU_rotate : Yv y_RU_rotate b_RU_rotate 3 (Option.none : Option FieldType) 1 := ⟨g_399, g_53, by decide, by decide +kernel⟩
set_option maxHeartbeats 4000000 in
set_option maxRecDepth 100000 in
theorem c_RU_rotate (l : Launch) (D : GG) (r : Nat) (p : Int → Nat) (c : Int → List Int) (P : Prop)  : Ct l D y_RU_rotate b_RU_rotate 3 (Option.none : Option FieldType) ({ frames := 2, cells := 0, slots := 0, locals := 82 } : Room) [.ref r, zV (bI P)] (fun H => isR D H r p c) (rA r (r + 12)) 0 0 (q_RU_rotate D r p c P) := by
  refine Ct.of (L := [(0, .ref r), (1, zV (bI P))]) (by decide) (Nat.le_of_ble_eq_true rfl) rfl (fun M H ho hr hnm hH hpre => ?_)
  have hR := hpre
  refine x_iconst ho d_RU_rotate_0 ?_
  refine x_istore_n (L' := [(2, zV 0), (0, .ref r), (1, zV (bI P))]) ho d_RU_rotate_1 (by decide) rfl ?_
  have loop_2 : ∀ (kk : Nat) (i : Int) (g : Int → List Int) (H_1 : Heap) (gR : isR D H_1 r p g) (i0 : 0 ≤ i ∧ i ≤ 4) (hg : ∀ j : Int, 0 ≤ j → j < 4 → g j = if j < i then rot P (c j) else c j), (4 - i).toNat < kk → X M ({ frames := 2, cells := 0, slots := 0, locals := 82 } : Room) 3 (rA r (r + 12)) 0 0 (Qof M (rA r (r + 12)) (q_RU_rotate D r p c P) 0 0) 2 [(2, zV i), (0, .ref r), (1, zV (bI P))] [] H_1 := by
    intro kk
    induction kk with
    | zero => intro i g H_1 gR i0 hg hk; exact absurd hk (Nat.not_lt_zero _)
    | succ kk ih_2 =>
      intro i g H_1 gR i0 hg hk_2
      refine x_iload_n ho 0 d_RU_rotate_2 rfl ?_
      refine x_iconst ho d_RU_rotate_3 ?_
      refine x_icmp_ge (tgt := 22) ho d_RU_rotate_4 (by decide) (by omega) (by omega) (fun c_4 => ?_) (fun c_4 => ?_)
      ·
        refine x_vret ho hr d_RU_rotate_22 ?_
        exact ⟨rfl, gR.c (fun j h0 h1 => by rw [hg j h0 h1, if_pos (by omega)])⟩
      ·
        refine x_aload_n ho 1 d_RU_rotate_7 rfl ?_
        refine x_iload_n ho 0 d_RU_rotate_8 rfl ?_
        refine x_callV (rest := []) ho d_RU_rotate_9 yv_RU_imageOf g_292 g_293 g_291 (c_RU_imageOf M.2.1 D r p g i (by omega)) rfl rfl ⟨Nat.le_of_ble_eq_true rfl, Nat.le_of_ble_eq_true rfl⟩ ⟨Nat.le_of_ble_eq_true rfl, Nat.le_of_ble_eq_true rfl⟩ rfl rfl (Nat.le_of_ble_eq_true rfl) gR.1 rfl rfl gR fr_none' (x_rd (fun v_2 hv_2 => ?_))
        obtain ⟨rfl, hb_4, hI_5⟩ := hv_2
        show X _ _ _ _ _ _ _ _ _ [.ref (p i)] _
        refine x_iload_n ho 2 d_RU_rotate_12 rfl ?_
        refine x_callV (rest := []) ho d_RU_rotate_13 yv_LE_rotate g_401 g_402 g_400 (c_LE_rotate M.2.1 D (p i) 8 (g i) P ) rfl rfl ⟨Nat.le_of_ble_eq_true rfl, Nat.le_of_ble_eq_true rfl⟩ ⟨Nat.le_of_ble_eq_true rfl, Nat.le_of_ble_eq_true rfl⟩ rfl rfl (Nat.le_of_ble_eq_true rfl) hI_5.1 rfl rfl hI_5 (rA_sub (by omega) (by omega)) (fun v_6 H_8 hv_6 f_7 => ?_)
        obtain ⟨rfl, hL_9⟩ := hv_6
        have r_10 : isR D H_8 r p (zU g i (rot P (g i))) := isR_set gR (by omega) (by omega) hL_9 f_7
        show X _ _ _ _ _ _ _ _ _ [] _
        refine x_iinc (L' := [(2, zV (i + 1)), (0, .ref r), (1, zV (bI P))]) ho 0 d_RU_rotate_16 rfl rfl (by decide) rfl ?_
        refine x_goto (tgt := 2) ho d_RU_rotate_19 (by decide) ?_
        exact ih_2 (i + 1) (zU g i (rot P (g i))) H_8 r_10 (by omega) (by
            intro j h0 h1
            by_cases h : j = i
            · subst h; rw [zU_s, if_pos (by omega), hg j h0 h1, if_neg (by omega)]
            · rw [zU_n _ _ h, hg j h0 h1]
              by_cases h2 : j < i
              · rw [if_pos h2, if_pos (by omega)]
              · rw [if_neg h2, if_neg (by omega)]) (by omega)
  exact loop_2 _ 0 c H hR (by omega) (by intro j h0 h1; rw [if_neg (by omega)]) (Nat.lt_succ_self _)
def q_RU_endOf (D : GG) (r : Nat) (p : Int → Nat) (c : Int → List Int) (x : Int) (P : Prop) : Option Value → Heap → Prop := fun v H => v = some (zV (ende P (c x))) ∧ (-1 ≤ ende P (c x) ∧ ende P (c x) < 4)
theorem yv_RU_endOf : Yv y_RU_endOf b_RU_endOf 4 (Option.some FieldType.int) 2 := ⟨g_395, g_53, by decide, by decide +kernel⟩
set_option maxHeartbeats 4000000 in
set_option maxRecDepth 100000 in
theorem c_RU_endOf (l : Launch) (D : GG) (r : Nat) (p : Int → Nat) (c : Int → List Int) (x : Int) (P : Prop) (hx : 0 ≤ x ∧ x < 4) : Ct l D y_RU_endOf b_RU_endOf 4 (Option.some FieldType.int) ({ frames := 2, cells := 0, slots := 0, locals := 41 } : Room) [.ref r, zV x, zV (bI P)] (fun H => isR D H r p c) nA 0 0 (q_RU_endOf D r p c x P) := by
  refine Ct.of (L := [(0, .ref r), (1, zV x), (2, zV (bI P))]) (by decide) (Nat.le_of_ble_eq_true rfl) rfl (fun M H ho hr hnm hH hpre => ?_)
  have hR := hpre
  refine x_aload_n ho 0 d_RU_endOf_0 rfl ?_
  refine x_iload_n ho 1 d_RU_endOf_1 rfl ?_
  refine x_callV (rest := []) ho d_RU_endOf_2 yv_RU_imageOf g_292 g_293 g_291 (c_RU_imageOf M.2.1 D r p c x (by omega)) rfl rfl ⟨Nat.le_of_ble_eq_true rfl, Nat.le_of_ble_eq_true rfl⟩ ⟨Nat.le_of_ble_eq_true rfl, Nat.le_of_ble_eq_true rfl⟩ rfl rfl (Nat.le_of_ble_eq_true rfl) hR.1 rfl rfl hR fr_none' (x_rd (fun v_1 hv_1 => ?_))
  obtain ⟨rfl, hb_3, hI_4⟩ := hv_1
  show X _ _ _ _ _ _ _ _ _ [.ref (p x)] _
  refine x_astore_n (L' := [(3, .ref (p x)), (0, .ref r), (1, zV x), (2, zV (bI P))]) ho d_RU_endOf_5 (by decide) rfl ?_
  refine x_aload_n ho 0 d_RU_endOf_6 rfl ?_
  refine x_iload_n ho 3 d_RU_endOf_7 rfl ?_
  refine x_if_eqB (tgt := 20) ho d_RU_endOf_8 (by decide) (fun c_8 => ?_) (fun c_8 => ?_)
  ·
    refine x_iconst ho d_RU_endOf_20 ?_
    have kw := (hR.w hx.1 hx.2)
    refine x_callV (rest := []) ho d_RU_endOf_21 yv_LE_letterAt g_341 g_342 g_375 (c_LE_letterAt M.2.1 D (p x) 8 (c x) 0 (by omega)) rfl rfl ⟨Nat.le_of_ble_eq_true rfl, Nat.le_of_ble_eq_true rfl⟩ ⟨Nat.le_of_ble_eq_true rfl, Nat.le_of_ble_eq_true rfl⟩ rfl rfl (Nat.le_of_ble_eq_true rfl) hI_4.1 rfl rfl hI_4 fr_none' (x_rd (fun v_5 hv_5 => ?_))
    obtain ⟨rfl, hr_7⟩ := hv_5
    show X _ _ _ _ _ _ _ _ _ [zV (lat (c x) 0)] _
    refine x_iret ho hr d_RU_endOf_24 ?_
    exact ⟨rI (by exact (ende_f c_8).symm), (by rw [ende_f c_8]; exact lat_r kw.1 _)⟩
  ·
    refine x_aload_n ho 0 d_RU_endOf_11 rfl ?_
    refine x_callV (rest := [.ref (p x)]) ho d_RU_endOf_12 yv_LE_length g_321 g_322 g_374 (c_LE_length M.2.1 D (p x) 8 (c x) ) rfl rfl ⟨Nat.le_of_ble_eq_true rfl, Nat.le_of_ble_eq_true rfl⟩ ⟨Nat.le_of_ble_eq_true rfl, Nat.le_of_ble_eq_true rfl⟩ rfl rfl (Nat.le_of_ble_eq_true rfl) hI_4.1 rfl rfl hI_4 fr_none' (x_rd (fun v_8 hv_8 => ?_))
    obtain rfl := hv_8
    show X _ _ _ _ _ _ _ _ _ [zV (((c x).length : Int)), .ref (p x)] _
    have kw8 := (hR.w hx.1 hx.2).2
    refine x_iconst ho d_RU_endOf_15 ?_
    refine x_isub ho d_RU_endOf_16 ?_
    refine x_goto (tgt := 21) ho d_RU_endOf_17 (by decide) ?_
    have kw := (hR.w hx.1 hx.2)
    refine x_callV (rest := []) ho d_RU_endOf_21 yv_LE_letterAt g_341 g_342 g_375 (c_LE_letterAt M.2.1 D (p x) 8 (c x) ((((c x).length : Int)) - 1) (by omega)) rfl rfl ⟨Nat.le_of_ble_eq_true rfl, Nat.le_of_ble_eq_true rfl⟩ ⟨Nat.le_of_ble_eq_true rfl, Nat.le_of_ble_eq_true rfl⟩ rfl rfl (Nat.le_of_ble_eq_true rfl) hI_4.1 rfl rfl hI_4 fr_none' (x_rd (fun v_10 hv_10 => ?_))
    obtain ⟨rfl, hr_12⟩ := hv_10
    show X _ _ _ _ _ _ _ _ _ [zV (lat (c x) ((((c x).length : Int)) - 1))] _
    refine x_iret ho hr d_RU_endOf_24 ?_
    exact ⟨rI (by exact (ende_t c_8).symm), (by rw [ende_t c_8]; exact lat_r kw.1 _)⟩
def q_RU_commonEnd (D : GG) (r : Nat) (p : Int → Nat) (c : Int → List Int) (P : Prop) : Option Value → Heap → Prop := fun v H => v = some (zV (comE P c)) ∧ (-1 ≤ comE P c ∧ comE P c < 4)
theorem yv_RU_commonEnd : Yv y_RU_commonEnd b_RU_commonEnd 4 (Option.some FieldType.int) 1 := ⟨g_392, g_53, by decide, by decide +kernel⟩
set_option maxHeartbeats 4000000 in
set_option maxRecDepth 100000 in
theorem c_RU_commonEnd (l : Launch) (D : GG) (r : Nat) (p : Int → Nat) (c : Int → List Int) (P : Prop)  : Ct l D y_RU_commonEnd b_RU_commonEnd 4 (Option.some FieldType.int) ({ frames := 3, cells := 0, slots := 0, locals := 64 } : Room) [.ref r, zV (bI P)] (fun H => isR D H r p c) nA 0 0 (q_RU_commonEnd D r p c P) := by
  refine Ct.of (L := [(0, .ref r), (1, zV (bI P))]) (by decide) (Nat.le_of_ble_eq_true rfl) rfl (fun M H ho hr hnm hH hpre => ?_)
  have hR := hpre
  refine x_aload_n ho 0 d_RU_commonEnd_0 rfl ?_
  refine x_iconst ho d_RU_commonEnd_1 ?_
  refine x_iload_n ho 1 d_RU_commonEnd_2 rfl ?_
  refine x_callV (rest := []) ho d_RU_commonEnd_3 yv_RU_endOf g_394 g_4 g_393 (c_RU_endOf M.2.1 D r p c 0 P (by omega)) rfl rfl ⟨Nat.le_of_ble_eq_true rfl, Nat.le_of_ble_eq_true rfl⟩ ⟨Nat.le_of_ble_eq_true rfl, Nat.le_of_ble_eq_true rfl⟩ rfl rfl (Nat.le_of_ble_eq_true rfl) hR.1 rfl rfl hR fr_none' (x_rd (fun v_1 hv_1 => ?_))
  obtain ⟨rfl, hr_3⟩ := hv_1
  show X _ _ _ _ _ _ _ _ _ [zV (ende P (c 0))] _
  refine x_istore_n (L' := [(2, zV (ende P (c 0))), (0, .ref r), (1, zV (bI P))]) ho d_RU_commonEnd_6 (by decide) rfl ?_
  refine x_iconst ho d_RU_commonEnd_7 ?_
  refine x_istore_n (L' := [(3, zV 1), (2, zV (ende P (c 0))), (0, .ref r), (1, zV (bI P))]) ho d_RU_commonEnd_8 (by decide) rfl ?_
  have loop_9 : ∀ (kk : Nat) (i : Int) (i0 : 1 ≤ i ∧ i ≤ 4) (hj : ∀ j : Int, 1 ≤ j → j < i → ende P (c j) = ende P (c 0)), (4 - i).toNat < kk → X M ({ frames := 3, cells := 0, slots := 0, locals := 64 } : Room) 4 nA 0 0 (Qof M nA (q_RU_commonEnd D r p c P) 0 0) 9 [(3, zV i), (2, zV (ende P (c 0))), (0, .ref r), (1, zV (bI P))] [] H := by
    intro kk
    induction kk with
    | zero => intro i i0 hj hk; exact absurd hk (Nat.not_lt_zero _)
    | succ kk ih_9 =>
      intro i i0 hj hk_9
      refine x_iload_n ho 0 d_RU_commonEnd_9 rfl ?_
      refine x_iconst ho d_RU_commonEnd_10 ?_
      refine x_icmp_ge (tgt := 32) ho d_RU_commonEnd_11 (by decide) (by omega) (by omega) (fun c_11 => ?_) (fun c_11 => ?_)
      ·
        refine x_iload_n ho 1 d_RU_commonEnd_32 rfl ?_
        refine x_iret ho hr d_RU_commonEnd_33 ?_
        have e := comE_t (fun j h0 h1 => hj j h0 (by omega))
        exact ⟨by rw [e], by rw [e]; assumption⟩
      ·
        refine x_aload_n ho 2 d_RU_commonEnd_14 rfl ?_
        refine x_iload_n ho 0 d_RU_commonEnd_15 rfl ?_
        refine x_iload_n ho 3 d_RU_commonEnd_16 rfl ?_
        refine x_callV (rest := []) ho d_RU_commonEnd_17 yv_RU_endOf g_394 g_4 g_393 (c_RU_endOf M.2.1 D r p c i P (by omega)) rfl rfl ⟨Nat.le_of_ble_eq_true rfl, Nat.le_of_ble_eq_true rfl⟩ ⟨Nat.le_of_ble_eq_true rfl, Nat.le_of_ble_eq_true rfl⟩ rfl rfl (Nat.le_of_ble_eq_true rfl) hR.1 rfl rfl hR fr_none' (x_rd (fun v_4 hv_4 => ?_))
        obtain ⟨rfl, hr_6⟩ := hv_4
        show X _ _ _ _ _ _ _ _ _ [zV (ende P (c i))] _
        refine x_iload_n ho 1 d_RU_commonEnd_20 rfl ?_
        refine x_icmp_eq (tgt := 26) ho d_RU_commonEnd_21 (by decide) (by omega) (by omega) (fun c_21 => ?_) (fun c_21 => ?_)
        ·
          refine x_iinc (L' := [(3, zV (i + 1)), (2, zV (ende P (c 0))), (0, .ref r), (1, zV (bI P))]) ho 0 d_RU_commonEnd_26 rfl rfl (by decide) rfl ?_
          refine x_goto (tgt := 9) ho d_RU_commonEnd_29 (by decide) ?_
          exact ih_9 (i + 1) (by omega) (by intro j h0 h1; rcases (show j < i ∨ j = i by omega) with h | h; exact hj j h0 h; subst h; exact c_21) (by omega)
        ·
          refine x_iconst ho d_RU_commonEnd_24 ?_
          refine x_iret ho hr d_RU_commonEnd_25 ?_
          rw [show (-1 : Int) = comE P c from (comE_f (i := i) (by omega) (by omega) c_21).symm]; exact ⟨rfl, by rw [comE_f (i := i) (by omega) (by omega) c_21]; omega⟩
  exact loop_9 _ 1 (by omega) (by intro j h0 h1; omega) (Nat.lt_succ_self _)
end
section
/-- the image of a word -/
def imW (c : Int → List Int) (L : List Int) : List Int := L.flatMap c
theorem imW_snoc (c : Int → List Int) (L : List Int) (x : Int) : imW c (L ++ [x]) = imW c L ++ c x := by
  unfold imW
  rw [List.flatMap_append]
  simp
theorem imW_split (c : Int → List Int) (L : List Int) (i : Int) : ∃ B, imW c L = imW c (tk L i) ++ B := by
  refine ⟨imW c (L.drop i.toNat), ?_⟩
  unfold imW tk
  rw [← List.flatMap_append, List.take_append_drop]
theorem tk_pre {A B : List Int} {n : Int} (h : n ≤ (A.length : Int)) : tk (A ++ B) n = tk A n := by
  unfold tk
  rw [List.take_append]
  have e : n.toNat - A.length = 0 := by omega
  rw [e, List.take_zero, List.append_nil]
theorem app_len (A B : List Int) : ((A ++ B).length : Int) = (A.length : Int) + (B.length : Int) := by
  rw [List.length_append]; omega
theorem wf_imW {c : Int → List Int} {L : List Int} (hc : ∀ i : Int, 0 ≤ i → i < 4 → wf (c i)) (hL : wf L) : wf (imW c L) := fun x hx => by
  obtain ⟨y, hy, hz⟩ := List.mem_flatMap.mp hx
  have hw := hL y hy
  exact hc y hw.1 hw.2 x hz
theorem imW_c {c c' : Int → List Int} {L : List Int} (hL : wf L) (h : ∀ i : Int, 0 ≤ i → i < 4 → c i = c' i) : imW c L = imW c' L := by
  unfold imW
  induction L with
  | nil => rfl
  | cons x L ih =>
    have hx := hL x List.mem_cons_self
    rw [List.flatMap_cons, List.flatMap_cons, h x hx.1 hx.2, ih (fun y hy => hL y (List.mem_cons_of_mem _ hy))]
-- sets
def hasB (s x : Int) : Prop := ¬ andI s (sh x) = 0
def shrI (s l : Int) : Int := ((s.toNat >>> l.toNat : Nat) : Int)
section SETR
variable {D : GG} {M : MX} {R : Room} {cc : ByteArray} {nL : Nat} {own : String} {A : Nat → Prop} {cs sl : Nat} {Q : State → Prop} {pc : Nat} {L : List (Nat × Value)} {st : List Value} {H : Heap}
theorem xor_N : ∀ b, b < 16 → zI ((b : Nat) : Int) ^^^ zI (-1) = zI (-1 - (b : Int)) := by decide +kernel
theorem andn_N : ∀ a, a < 16 → ∀ b, b < 16 → zI ((a : Nat) : Int) &&& zI (-1 - ((b : Nat) : Int)) = zI (andI (a : Int) (15 - (b : Int))) := by decide +kernel
theorem shr_N : ∀ a, a < 16 → ∀ b, b < 4 → zI ((a : Nat) : Int) >>> (zI ((b : Nat) : Int) &&& 31) = zI (shrI (a : Int) (b : Int)) ∧ shrI (a : Int) (b : Int) < 16 := by decide +kernel
theorem bit_N : ∀ a, a < 16 → ∀ b, b < 4 → (andI (shrI ((a : Nat) : Int) ((b : Nat) : Int)) 1 = 1 ∨ andI (shrI ((a : Nat) : Int) ((b : Nat) : Int)) 1 = 0) ∧ (andI (shrI ((a : Nat) : Int) ((b : Nat) : Int)) 1 = 1 ↔ ¬ andI ((a : Nat) : Int) (sh ((b : Nat) : Int)) = 0) := by decide +kernel
theorem shr_16 {s l : Int} (hs : 0 ≤ s ∧ s < 16) (hl : 0 ≤ l ∧ l < 4) : 0 ≤ shrI s l ∧ shrI s l < 16 := by
  have := (shr_N s.toNat (by omega) l.toNat (by omega)).2
  rw [show ((s.toNat : Nat) : Int) = s by omega, show ((l.toNat : Nat) : Int) = l by omega] at this
  exact ⟨Int.natCast_nonneg _, this⟩
theorem bit_has {s l : Int} (hs : 0 ≤ s ∧ s < 16) (hl : 0 ≤ l ∧ l < 4) : andI (shrI s l) 1 = bI (hasB s l) := by
  have := bit_N s.toNat (by omega) l.toNat (by omega)
  rw [show ((s.toNat : Nat) : Int) = s by omega, show ((l.toNat : Nat) : Int) = l by omega] at this
  obtain ⟨h1, h2⟩ := this
  rcases h1 with h | h
  · rw [h]; exact (bI_t (P := hasB s l) (h2.mp h)).symm
  · rw [h]; exact (bI_f (P := hasB s l) (fun q => by rw [h2.mpr q] at h; omega)).symm
theorem x_xorm1 {b : Int} (ho : Ok D M cc nL own) (hd : decode cc pc = .ok (.ixor, 1)) (hb : 0 ≤ b ∧ b < 16) (k : X M R nL A cs sl Q (pc + 1) L (zV (-1 - b) :: st) H) : X M R nL A cs sl Q pc L (zV (-1) :: zV b :: st) H := fun ls locs h1 h2 h3 => by
  refine lv_ixor ho.1 ho.2.1 hd ?_
  have e := xor_N b.toNat (by omega)
  rw [show ((b.toNat : Nat) : Int) = b by omega] at e
  rw [e]
  exact k ls locs h1 h2 h3
theorem x_andn16 {a b : Int} (ho : Ok D M cc nL own) (hd : decode cc pc = .ok (.iand, 1)) (ha : 0 ≤ a ∧ a < 16) (hb : 0 ≤ b ∧ b < 16) (k : X M R nL A cs sl Q (pc + 1) L (zV (andI a (15 - b)) :: st) H) : X M R nL A cs sl Q pc L (zV (-1 - b) :: zV a :: st) H := fun ls locs h1 h2 h3 => by
  refine lv_iand ho.1 ho.2.1 hd ?_
  have e := andn_N a.toNat (by omega) b.toNat (by omega)
  rw [show ((a.toNat : Nat) : Int) = a by omega, show ((b.toNat : Nat) : Int) = b by omega] at e
  rw [e]
  exact k ls locs h1 h2 h3
theorem x_shr16 {a b : Int} (ho : Ok D M cc nL own) (hd : decode cc pc = .ok (.ishr, 1)) (ha : 0 ≤ a ∧ a < 16) (hb : 0 ≤ b ∧ b < 4) (k : X M R nL A cs sl Q (pc + 1) L (zV (shrI a b) :: st) H) : X M R nL A cs sl Q pc L (zV b :: zV a :: st) H := fun ls locs h1 h2 h3 => by
  refine lv_ishr ho.1 ho.2.1 hd ?_
  have e := (shr_N a.toNat (by omega) b.toNat (by omega)).1
  rw [show ((a.toNat : Nat) : Int) = a by omega, show ((b.toNat : Nat) : Int) = b by omega] at e
  rw [e]
  exact k ls locs h1 h2 h3
end SETR
/-- the letters to which those of a set lead -/
def ledN (c : Int → List Int) (s : Int) : Nat → Int
  | 0 => 0
  | n + 1 => if andI s (sh (n : Int)) = 0 then ledN c s n else orI (ledN c s n) (bitL (c (n : Int)))
def led (c : Int → List Int) (s : Int) : Int := ledN c s 4
theorem ledN_16 {c : Int → List Int} (hc : ∀ i : Int, 0 ≤ i → i < 4 → wf (c i)) (s : Int) : ∀ n : Nat, n ≤ 4 → 0 ≤ ledN c s n ∧ ledN c s n < 16 := by
  intro n
  induction n with
  | zero => intro _; show (0 : Int) ≤ 0 ∧ (0 : Int) < 16; omega
  | succ n ih =>
    intro h
    have h1 := ih (by omega)
    unfold ledN
    split
    · exact h1
    · exact orI_16 h1 (bitL_16 (hc _ (by omega) (by omega)))
theorem led_16 {c : Int → List Int} (hc : ∀ i : Int, 0 ≤ i → i < 4 → wf (c i)) (s : Int) : 0 ≤ led c s ∧ led c s < 16 := ledN_16 hc s 4 (by omega)
def reN (c : Int → List Int) (s : Int) : Nat → Int
  | 0 => s
  | n + 1 => orI (reN c s n) (led c (reN c s n))
/-- the letters that can be reached from a letter -/
def rea (c : Int → List Int) (x : Int) : Int := reN c (sh x) 4
theorem reN_16 {c : Int → List Int} (hc : ∀ i : Int, 0 ≤ i → i < 4 → wf (c i)) {s : Int} (hs : 0 ≤ s ∧ s < 16) : ∀ n : Nat, 0 ≤ reN c s n ∧ reN c s n < 16 := by
  intro n
  induction n with
  | zero => exact hs
  | succ n ih => exact orI_16 ih (led_16 hc _)
/-- the letters of an n-th image -/
def lbN (c : Int → List Int) (s : Int) : Nat → Int
  | 0 => s
  | n + 1 => led c (lbN c s n)
theorem lbN_16 {c : Int → List Int} (hc : ∀ i : Int, 0 ≤ i → i < 4 → wf (c i)) {s : Int} (hs : 0 ≤ s ∧ s < 16) : ∀ n : Nat, 0 ≤ lbN c s n ∧ lbN c s n < 16 := by
  intro n
  cases n with
  | zero => exact hs
  | succ n => exact led_16 hc _
def mixB (c : Int → List Int) (n : Nat) : Prop := ∀ l : Int, 0 ≤ l → l < 4 → hasB (rea c 0) l → andI (rea c 0) (15 - lbN c (sh l) n) = 0
theorem isR.wc {D : GG} {H : Heap} {r : Nat} {p : Int → Nat} {c : Int → List Int} (h : isR D H r p c) : ∀ i : Int, 0 ≤ i → i < 4 → wf (c i) := fun _ h0 h1 => (h.w h0 h1).1
theorem sw_a (a b : Int) : sw a b a = b := if_pos rfl
theorem sw_b (a b : Int) : sw a b b = a := by
  unfold sw
  by_cases h : b = a
  · rw [if_pos h]; exact h
  · rw [if_neg h, if_pos rfl]
theorem sw_o {a b x : Int} (h : x ≠ a) (h2 : x ≠ b) : sw a b x = x := by
  unfold sw; rw [if_neg h, if_neg h2]
theorem sw_i {a b x y : Int} (h : x ≠ y) : sw a b x ≠ sw a b y := by
  unfold sw
  split <;> split <;> (try split) <;> (try split) <;> omega
theorem isR_swap {D : GG} {H H1 : Heap} {r : Nat} {p : Int → Nat} {c : Int → List Int} {a b : Int} (h : isR D H r p c) (ha : 0 ≤ a ∧ a < 4) (hb : 0 ≤ b ∧ b < 4) (hab : a ≠ b) (hn : At D H1 (r + 1) (oR D 3 4 (zU (zU (fun i => some (p i)) a (some (p b))) b (some (p a))))) (hq : ∀ q : Nat, q ≠ r + 1 → H1[q]? = H[q]?) : isR D H1 r (fun i => p (sw a b i)) (fun i => c (sw a b i)) := by
  obtain ⟨h1, h2, h3, h4, h5, h6⟩ := h
  have e : (zU (zU (fun i => some (p i)) a (some (p b))) b (some (p a))) = fun i => some (p (sw a b i)) := by
    funext i
    by_cases hi : i = b
    · subst hi
      rw [zU_s, sw_b]
    · rw [zU_n _ _ hi]
      by_cases hj : i = a
      · subst hj
        rw [zU_s, sw_a]
      · rw [zU_n _ _ hj, sw_o hj hi]
  rw [e] at hn
  refine ⟨h1.kept (hq _ (by omega)), hn, h3.kept (fun q a b => hq q (by omega)), fun i x y => ?_, fun i x y => ?_, fun i j x y z w hne => ?_⟩
  · have hs := sw_r ha hb ⟨x, y⟩
    exact (h4 _ hs.1 hs.2).kept (fun q u v => hq q (by have := h5 _ hs.1 hs.2; omega))
  · have hs := sw_r ha hb ⟨x, y⟩
    exact h5 _ hs.1 hs.2
  · have hs := sw_r ha hb ⟨x, y⟩
    have ht := sw_r ha hb ⟨z, w⟩
    exact h6 _ _ hs.1 hs.2 ht.1 ht.2 (sw_i hne)
end
section
def q_MW_hasLetter (D : GG) (s : Int) (x : Int) : Option Value → Heap → Prop := fun v H => v = some (zV (bI (hasB s x)))
theorem yv_MW_hasLetter : Yv y_MW_hasLetter b_MW_hasLetter 2 (Option.some FieldType.boolean) 2 := ⟨g_563, g_51, by decide, by decide +kernel⟩
set_option maxHeartbeats 4000000 in
set_option maxRecDepth 100000 in
theorem c_MW_hasLetter (l : Launch) (D : GG) (s : Int) (x : Int) (hs : 0 ≤ s ∧ s < 16) (hx : 0 ≤ x ∧ x < 4) : Ct l D y_MW_hasLetter b_MW_hasLetter 2 (Option.some FieldType.boolean) ({ frames := 0, cells := 0, slots := 0, locals := 0 } : Room) [zV s, zV x] (fun H => True) nA 0 0 (q_MW_hasLetter D s x) := by
  refine Ct.of (L := [(0, zV s), (1, zV x)]) (by decide) (Nat.le_of_ble_eq_true rfl) rfl (fun M H ho hr hnm hH hpre => ?_)
  refine x_iload_n ho 0 d_MW_hasLetter_0 rfl ?_
  refine x_iconst ho d_MW_hasLetter_1 ?_
  refine x_iload_n ho 1 d_MW_hasLetter_2 rfl ?_
  refine x_shl1 ho d_MW_hasLetter_3 hx ?_
  refine x_and16 ho d_MW_hasLetter_4 hs (sh_16 hx.1 hx.2) ?_
  have h16 := andI_16 hs (sh_16 hx.1 hx.2)
  refine x_if_eq (tgt := 12) ho d_MW_hasLetter_5 (by decide) (by omega) (fun c_5 => ?_) (fun c_5 => ?_)
  ·
    refine x_iconst ho d_MW_hasLetter_12 ?_
    refine x_zret ho hr (Or.inl rfl) d_MW_hasLetter_13 ?_
    exact rF (by exact fun q => q c_5)
  ·
    refine x_iconst ho d_MW_hasLetter_8 ?_
    refine x_goto (tgt := 13) ho d_MW_hasLetter_9 (by decide) ?_
    refine x_zret ho hr (Or.inr rfl) d_MW_hasLetter_13 ?_
    exact rT (by exact c_5)
def q_RU_addImage (D : GG) (r : Nat) (p : Int → Nat) (c : Int → List Int) (o : Nat) (m : Nat) (L : List Int) (q : Nat) (n : Nat) (K : List Int) : Option Value → Heap → Prop := fun v H => v = some (zV (bI (((K ++ imW c L).length : Int) ≤ n))) ∧ isR D H r p c ∧ isL D H o m L ∧ isL D H q n (tk (K ++ imW c L) n)
theorem yv_RU_addImage : Yv y_RU_addImage b_RU_addImage 4 (Option.some FieldType.boolean) 2 := ⟨g_373, g_53, by decide, by decide +kernel⟩
set_option maxHeartbeats 4000000 in
set_option maxRecDepth 100000 in
theorem c_RU_addImage (l : Launch) (D : GG) (r : Nat) (p : Int → Nat) (c : Int → List Int) (o : Nat) (m : Nat) (L : List Int) (q : Nat) (n : Nat) (K : List Int) (h1 : o + 2 ≤ q ∨ q + 2 ≤ o) (h2 : r + 12 ≤ q ∨ q + 2 ≤ r) : Ct l D y_RU_addImage b_RU_addImage 4 (Option.some FieldType.boolean) ({ frames := 3, cells := 0, slots := 0, locals := 63 } : Room) [.ref r, .ref o, .ref q] (fun H => isR D H r p c ∧ isL D H o m L ∧ isL D H q n K) (rA q (q + 2)) 0 0 (q_RU_addImage D r p c o m L q n K) := by
  refine Ct.of (L := [(0, .ref r), (1, .ref o), (2, .ref q)]) (by decide) (Nat.le_of_ble_eq_true rfl) rfl (fun M H ho hr hnm hH hpre => ?_)
  obtain ⟨hR, hL, hK⟩ := hpre
  have h_w := hL.w
  have h_n := hL.b
  have h_c := hR.wc
  refine x_iconst ho d_RU_addImage_0 ?_
  refine x_istore_n (L' := [(3, zV 0), (0, .ref r), (1, .ref o), (2, .ref q)]) ho d_RU_addImage_1 (by decide) rfl ?_
  have loop_2 : ∀ (kk : Nat) (i : Int) (H_1 : Heap) (gR : isR D H_1 r p c) (gL : isL D H_1 o m L) (gK : isL D H_1 q n (K ++ imW c (tk L i))) (i0 : 0 ≤ i ∧ i ≤ (L.length : Int)) (hle : ((K ++ imW c (tk L i)).length : Int) ≤ n), ((L.length : Int) - i).toNat < kk → X M ({ frames := 3, cells := 0, slots := 0, locals := 63 } : Room) 4 (rA q (q + 2)) 0 0 (Qof M (rA q (q + 2)) (q_RU_addImage D r p c o m L q n K) 0 0) 2 [(3, zV i), (0, .ref r), (1, .ref o), (2, .ref q)] [] H_1 := by
    intro kk
    induction kk with
    | zero => intro i H_1 gR gL gK i0 hle hk; exact absurd hk (Nat.not_lt_zero _)
    | succ kk ih_2 =>
      intro i H_1 gR gL gK i0 hle hk_2
      refine x_iload_n ho 0 d_RU_addImage_2 rfl ?_
      refine x_aload_n ho 2 d_RU_addImage_3 rfl ?_
      refine x_callV (rest := [zV i]) ho d_RU_addImage_4 yv_LE_length g_321 g_322 g_374 (c_LE_length M.2.1 D o m L ) rfl rfl ⟨Nat.le_of_ble_eq_true rfl, Nat.le_of_ble_eq_true rfl⟩ ⟨Nat.le_of_ble_eq_true rfl, Nat.le_of_ble_eq_true rfl⟩ rfl rfl (Nat.le_of_ble_eq_true rfl) gL.1 rfl rfl gL fr_none' (x_rd (fun v_2 hv_2 => ?_))
      obtain rfl := hv_2
      show X _ _ _ _ _ _ _ _ _ [zV ((L.length : Int)), zV i] _
      refine x_icmp_ge (tgt := 34) ho d_RU_addImage_7 (by decide) (by omega) (by omega) (fun c_7 => ?_) (fun c_7 => ?_)
      ·
        refine x_iconst ho d_RU_addImage_34 ?_
        refine x_zret ho hr (Or.inr rfl) d_RU_addImage_35 ?_
        rw [tk_all (by omega)] at gK hle
        exact ⟨rT hle, gR, gL, by rw [tk_all hle]; exact gK⟩
      ·
        refine x_aload_n ho 3 d_RU_addImage_10 rfl ?_
        refine x_aload_n ho 1 d_RU_addImage_11 rfl ?_
        refine x_aload_n ho 2 d_RU_addImage_12 rfl ?_
        refine x_iload_n ho 0 d_RU_addImage_13 rfl ?_
        refine x_callV (rest := [.ref r, .ref q]) ho d_RU_addImage_14 yv_LE_letterAt g_341 g_342 g_375 (c_LE_letterAt M.2.1 D o m L i (by omega)) rfl rfl ⟨Nat.le_of_ble_eq_true rfl, Nat.le_of_ble_eq_true rfl⟩ ⟨Nat.le_of_ble_eq_true rfl, Nat.le_of_ble_eq_true rfl⟩ rfl rfl (Nat.le_of_ble_eq_true rfl) gL.1 rfl rfl gL fr_none' (x_rd (fun v_4 hv_4 => ?_))
        obtain ⟨rfl, hr_6⟩ := hv_4
        show X _ _ _ _ _ _ _ _ _ [zV (lat L i), .ref r, .ref q] _
        refine x_eqI (b := gA L i) (by exact lat_in (by omega) (by omega)) ?_
        have hg := gA_r h_w i
        refine x_callV (rest := [.ref q]) ho d_RU_addImage_17 yv_RU_imageOf g_292 g_293 g_291 (c_RU_imageOf M.2.1 D r p c (gA L i) (by omega)) rfl rfl ⟨Nat.le_of_ble_eq_true rfl, Nat.le_of_ble_eq_true rfl⟩ ⟨Nat.le_of_ble_eq_true rfl, Nat.le_of_ble_eq_true rfl⟩ rfl rfl (Nat.le_of_ble_eq_true rfl) gR.1 rfl rfl gR fr_none' (x_rd (fun v_7 hv_7 => ?_))
        obtain ⟨rfl, hb_9, hI_10⟩ := hv_7
        show X _ _ _ _ _ _ _ _ _ [.ref (p (gA L i)), .ref q] _
        refine x_callV (rest := []) ho d_RU_addImage_20 yv_LE_addAll g_377 g_378 g_376 (c_LE_addAll M.2.1 D q n (K ++ imW c (tk L i)) (p (gA L i)) 8 (c (gA L i)) (by omega)) rfl rfl ⟨Nat.le_of_ble_eq_true rfl, Nat.le_of_ble_eq_true rfl⟩ ⟨Nat.le_of_ble_eq_true rfl, Nat.le_of_ble_eq_true rfl⟩ rfl rfl (Nat.le_of_ble_eq_true rfl) gK.1 rfl rfl ⟨gK, hI_10⟩ (rA_sub (by omega) (by omega)) (fun v_11 H_13 hv_11 f_12 => ?_)
        have k_14 := gR.kept (fun q g1 g2 => f_12.2 q (by have := gR.lt; omega) (rA_no (by omega)))
        have k_15 := gL.kept (fun q g1 g2 => f_12.2 q (by have := gL.lt; omega) (rA_no (by omega)))
        obtain ⟨rfl, hL_16, hK_17⟩ := hv_11
        show X _ _ _ _ _ _ _ _ _ [zV (bI (((K ++ imW c (tk L i)).length : Int) + ((c (gA L i)).length : Int) ≤ n))] _
        refine x_if_neB (tgt := 28) ho d_RU_addImage_23 (by decide) (fun c_23 => ?_) (fun c_23 => ?_)
        ·
          refine x_iinc (L' := [(3, zV (i + 1)), (0, .ref r), (1, .ref o), (2, .ref q)]) ho 0 d_RU_addImage_28 rfl rfl (by decide) rfl ?_
          refine x_goto (tgt := 2) ho d_RU_addImage_31 (by decide) ?_
          exact ih_2 (i + 1) H_13 k_14 k_15 (by rw [tk_succ (by omega) (by omega), imW_snoc, ← List.append_assoc]; rw [tk_all (by rw [app_len]; exact c_23)] at hL_16; exact hL_16) (by omega) (by rw [tk_succ (by omega) (by omega), imW_snoc, ← List.append_assoc, app_len]; exact c_23) (by omega)
        ·
          refine x_iconst ho d_RU_addImage_26 ?_
          refine x_zret ho hr (Or.inl rfl) d_RU_addImage_27 ?_
          obtain ⟨B, hB⟩ := imW_split c L (i + 1)
          have e1 : imW c (tk L (i + 1)) = imW c (tk L i) ++ c (gA L i) := by rw [tk_succ (by omega) (by omega), imW_snoc]
          have e2 : K ++ imW c L = K ++ imW c (tk L i) ++ c (gA L i) ++ B := by rw [hB, e1]; simp only [List.append_assoc]
          have e3 := app_len (K ++ imW c (tk L i)) (c (gA L i))
          exact ⟨rF (by rw [e2, app_len]; omega), k_14, k_15, by rw [e2, tk_pre (by omega)]; exact hL_16⟩
  exact loop_2 _ 0 H hR hL (by rw [tk_0]; show isL D H q n (K ++ []); rw [List.append_nil]; exact hK) (by omega) (by have := hK.b; rw [tk_0]; show ((K ++ []).length : Int) ≤ n; rw [List.append_nil]; omega) (Nat.lt_succ_self _)
def q_RU_becomeSquareOf (D : GG) (r : Nat) (p : Int → Nat) (c : Int → List Int) (r2 : Nat) (p2 : Int → Nat) (c2 : Int → List Int) : Option Value → Heap → Prop := fun v H => (v = some (zV 1) ∧ (∀ i : Int, 0 ≤ i → i < 4 → ((imW c2 (c2 i)).length : Int) ≤ 8) ∧ isR D H r p (fun i => imW c2 (c2 i)) ∧ isR D H r2 p2 c2) ∨ (∃ (g : Int → List Int), v = some (zV 0) ∧ (¬ ∀ i : Int, 0 ≤ i → i < 4 → ((imW c2 (c2 i)).length : Int) ≤ 8) ∧ isR D H r p g ∧ isR D H r2 p2 c2)
theorem yv_RU_becomeSquareOf : Yv y_RU_becomeSquareOf b_RU_becomeSquareOf 4 (Option.some FieldType.boolean) 1 := ⟨g_368, g_53, by decide, by decide +kernel⟩
set_option maxHeartbeats 4000000 in
set_option maxRecDepth 100000 in
theorem c_RU_becomeSquareOf (l : Launch) (D : GG) (r : Nat) (p : Int → Nat) (c : Int → List Int) (r2 : Nat) (p2 : Int → Nat) (c2 : Int → List Int) (hd : r + 12 ≤ r2 ∨ r2 + 12 ≤ r) : Ct l D y_RU_becomeSquareOf b_RU_becomeSquareOf 4 (Option.some FieldType.boolean) ({ frames := 4, cells := 0, slots := 0, locals := 86 } : Room) [.ref r, .ref r2] (fun H => isR D H r p c ∧ isR D H r2 p2 c2) (rA r (r + 12)) 0 0 (q_RU_becomeSquareOf D r p c r2 p2 c2) := by
  refine Ct.of (L := [(0, .ref r), (1, .ref r2)]) (by decide) (Nat.le_of_ble_eq_true rfl) rfl (fun M H ho hr hnm hH hpre => ?_)
  obtain ⟨hR, hS⟩ := hpre
  refine x_iconst ho d_RU_becomeSquareOf_0 ?_
  refine x_istore_n (L' := [(2, zV 0), (0, .ref r), (1, .ref r2)]) ho d_RU_becomeSquareOf_1 (by decide) rfl ?_
  have loop_2 : ∀ (kk : Nat) (i : Int) (g : Int → List Int) (H_1 : Heap) (gR : isR D H_1 r p g) (gS : isR D H_1 r2 p2 c2) (i0 : 0 ≤ i ∧ i ≤ 4) (hg : ∀ j : Int, 0 ≤ j → j < i → g j = imW c2 (c2 j) ∧ ((imW c2 (c2 j)).length : Int) ≤ 8), (4 - i).toNat < kk → X M ({ frames := 4, cells := 0, slots := 0, locals := 86 } : Room) 4 (rA r (r + 12)) 0 0 (Qof M (rA r (r + 12)) (q_RU_becomeSquareOf D r p c r2 p2 c2) 0 0) 2 [(2, zV i), (0, .ref r), (1, .ref r2)] [] H_1 := by
    intro kk
    induction kk with
    | zero => intro i g H_1 gR gS i0 hg hk; exact absurd hk (Nat.not_lt_zero _)
    | succ kk ih_2 =>
      intro i g H_1 gR gS i0 hg hk_2
      refine x_iload_n ho 0 d_RU_becomeSquareOf_2 rfl ?_
      refine x_iconst ho d_RU_becomeSquareOf_3 ?_
      refine x_icmp_ge (tgt := 38) ho d_RU_becomeSquareOf_4 (by decide) (by omega) (by omega) (fun c_4 => ?_) (fun c_4 => ?_)
      ·
        refine x_iconst ho d_RU_becomeSquareOf_38 ?_
        refine x_zret ho hr (Or.inr rfl) d_RU_becomeSquareOf_39 ?_
        exact Or.inl ⟨rfl, fun j h0 h1 => (hg j h0 (by omega)).2, gR.c (fun j h0 h1 => (hg j h0 (by omega)).1), gS⟩
      ·
        refine x_aload_n ho 1 d_RU_becomeSquareOf_7 rfl ?_
        refine x_iload_n ho 0 d_RU_becomeSquareOf_8 rfl ?_
        refine x_callV (rest := []) ho d_RU_becomeSquareOf_9 yv_RU_imageOf g_292 g_293 g_291 (c_RU_imageOf M.2.1 D r p g i (by omega)) rfl rfl ⟨Nat.le_of_ble_eq_true rfl, Nat.le_of_ble_eq_true rfl⟩ ⟨Nat.le_of_ble_eq_true rfl, Nat.le_of_ble_eq_true rfl⟩ rfl rfl (Nat.le_of_ble_eq_true rfl) gR.1 rfl rfl gR fr_none' (x_rd (fun v_2 hv_2 => ?_))
        obtain ⟨rfl, hb_4, hI_5⟩ := hv_2
        show X _ _ _ _ _ _ _ _ _ [.ref (p i)] _
        refine x_astore_n (L' := [(3, .ref (p i)), (2, zV i), (0, .ref r), (1, .ref r2)]) ho d_RU_becomeSquareOf_12 (by decide) rfl ?_
        refine x_aload_n ho 0 d_RU_becomeSquareOf_13 rfl ?_
        refine x_callV (rest := []) ho d_RU_becomeSquareOf_14 yv_LE_clear g_314 g_315 g_369 (c_LE_clear M.2.1 D (p i) 8 (g i) ) rfl rfl ⟨Nat.le_of_ble_eq_true rfl, Nat.le_of_ble_eq_true rfl⟩ ⟨Nat.le_of_ble_eq_true rfl, Nat.le_of_ble_eq_true rfl⟩ rfl rfl (Nat.le_of_ble_eq_true rfl) hI_5.1 rfl rfl hI_5 (rA_sub (by omega) (by omega)) (fun v_6 H_8 hv_6 f_7 => ?_)
        have k_9 := gS.kept (fun q g1 g2 => f_7.2 q (by have := gS.lt; omega) (rA_no (by omega)))
        obtain ⟨rfl, hL_10⟩ := hv_6
        have r_11 : isR D H_8 r p (zU g i []) := isR_set gR (by omega) (by omega) hL_10 f_7
        show X _ _ _ _ _ _ _ _ _ [] _
        have hI_12 : isL D H_8 (p i) 8 ([]) := (by have := (r_11).im (i := i) (by omega) (by omega); rw [zU_s] at this; exact this)
        refine x_aload_n ho 3 d_RU_becomeSquareOf_17 rfl ?_
        refine x_aload_n ho 3 d_RU_becomeSquareOf_18 rfl ?_
        refine x_iload_n ho 1 d_RU_becomeSquareOf_19 rfl ?_
        refine x_callV (rest := [.ref r2]) ho d_RU_becomeSquareOf_20 yv_RU_imageOf g_292 g_293 g_291 (c_RU_imageOf M.2.1 D r2 p2 c2 i (by omega)) rfl rfl ⟨Nat.le_of_ble_eq_true rfl, Nat.le_of_ble_eq_true rfl⟩ ⟨Nat.le_of_ble_eq_true rfl, Nat.le_of_ble_eq_true rfl⟩ rfl rfl (Nat.le_of_ble_eq_true rfl) k_9.1 rfl rfl k_9 fr_none' (x_rd (fun v_13 hv_13 => ?_))
        obtain ⟨rfl, hb_15, hI_16⟩ := hv_13
        show X _ _ _ _ _ _ _ _ _ [.ref (p2 i), .ref r2] _
        refine x_aload_n ho 0 d_RU_becomeSquareOf_23 rfl ?_
        refine x_callV (rest := []) ho d_RU_becomeSquareOf_24 yv_RU_addImage g_371 g_372 g_370 (c_RU_addImage M.2.1 D r2 p2 c2 (p2 i) 8 (c2 i) (p i) 8 ([]) (by omega) (by omega)) rfl rfl ⟨Nat.le_of_ble_eq_true rfl, Nat.le_of_ble_eq_true rfl⟩ ⟨Nat.le_of_ble_eq_true rfl, Nat.le_of_ble_eq_true rfl⟩ rfl rfl (Nat.le_of_ble_eq_true rfl) k_9.1 rfl rfl ⟨k_9, hI_16, hI_12⟩ (rA_sub (by omega) (by omega)) (fun v_17 H_19 hv_17 f_18 => ?_)
        obtain ⟨rfl, hR_20, hL_21, hK_22⟩ := hv_17
        have r_23 : isR D H_19 r p (zU (zU g i []) i (tk ([] ++ imW c2 (c2 i)) 8)) := isR_set r_11 (by omega) (by omega) hK_22 f_18
        show X _ _ _ _ _ _ _ _ _ [zV (bI (((([]) ++ imW c2 (c2 i)).length : Int) ≤ 8))] _
        refine x_if_neB (tgt := 32) ho d_RU_becomeSquareOf_27 (by decide) (fun c_27 => ?_) (fun c_27 => ?_)
        ·
          refine x_iinc (L' := [(2, zV (i + 1)), (3, .ref (p i)), (0, .ref r), (1, .ref r2)]) ho 1 d_RU_becomeSquareOf_32 rfl rfl (by decide) rfl ?_
          refine x_goto (tgt := 2) ho d_RU_becomeSquareOf_35 (by decide) ?_
          refine x_sub (L' := [(2, zV (i + 1)), (0, .ref r), (1, .ref r2)]) [0, 2, 3] rfl ?_
          exact ih_2 (i + 1) (zU (zU g i []) i (tk ([] ++ imW c2 (c2 i)) 8)) H_19 r_23 hR_20 (by omega) (by
              intro j h0 h1
              by_cases h : j = i
              · subst h; rw [zU_s]; exact ⟨tk_all c_27, c_27⟩
              · rw [zU_n _ _ h, zU_n _ _ h]; exact hg j h0 (by omega)) (by omega)
        ·
          refine x_iconst ho d_RU_becomeSquareOf_30 ?_
          refine x_zret ho hr (Or.inl rfl) d_RU_becomeSquareOf_31 ?_
          exact Or.inr ⟨_, rfl, fun q => c_27 (q i (by omega) (by omega)), r_23, hR_20⟩
  exact loop_2 _ 0 c H hR hS (by omega) (by intro j h0 h1; omega) (Nat.lt_succ_self _)
def q_RU_ledToFrom (D : GG) (r : Nat) (p : Int → Nat) (c : Int → List Int) (s : Int) : Option Value → Heap → Prop := fun v H => v = some (zV (led c s)) ∧ (0 ≤ led c s ∧ led c s < 16)
theorem yv_RU_ledToFrom : Yv y_RU_ledToFrom b_RU_ledToFrom 4 (Option.some FieldType.int) 1 := ⟨g_561, g_53, by decide, by decide +kernel⟩
set_option maxHeartbeats 4000000 in
set_option maxRecDepth 100000 in
theorem c_RU_ledToFrom (l : Launch) (D : GG) (r : Nat) (p : Int → Nat) (c : Int → List Int) (s : Int) (hs : 0 ≤ s ∧ s < 16) : Ct l D y_RU_ledToFrom b_RU_ledToFrom 4 (Option.some FieldType.int) ({ frames := 2, cells := 0, slots := 0, locals := 43 } : Room) [.ref r, zV s] (fun H => isR D H r p c) nA 0 0 (q_RU_ledToFrom D r p c s) := by
  refine Ct.of (L := [(0, .ref r), (1, zV s)]) (by decide) (Nat.le_of_ble_eq_true rfl) rfl (fun M H ho hr hnm hH hpre => ?_)
  have hR := hpre
  have h_c := hR.wc
  refine x_iconst ho d_RU_ledToFrom_0 ?_
  refine x_istore_n (L' := [(2, zV 0), (0, .ref r), (1, zV s)]) ho d_RU_ledToFrom_1 (by decide) rfl ?_
  refine x_iconst ho d_RU_ledToFrom_2 ?_
  refine x_istore_n (L' := [(3, zV 0), (2, zV 0), (0, .ref r), (1, zV s)]) ho d_RU_ledToFrom_3 (by decide) rfl ?_
  have loop_4 : ∀ (kk : Nat) (i : Int) (t : Int) (i0 : 0 ≤ i ∧ i ≤ 4) (ht : t = ledN c s i.toNat), (4 - i).toNat < kk → X M ({ frames := 2, cells := 0, slots := 0, locals := 43 } : Room) 4 nA 0 0 (Qof M nA (q_RU_ledToFrom D r p c s) 0 0) 4 [(3, zV i), (2, zV t), (0, .ref r), (1, zV s)] [] H := by
    intro kk
    induction kk with
    | zero => intro i t i0 ht hk; exact absurd hk (Nat.not_lt_zero _)
    | succ kk ih_4 =>
      intro i t i0 ht hk_4
      refine x_iload_n ho 0 d_RU_ledToFrom_4 rfl ?_
      refine x_iconst ho d_RU_ledToFrom_5 ?_
      refine x_icmp_ge (tgt := 34) ho d_RU_ledToFrom_6 (by decide) (by omega) (by omega) (fun c_6 => ?_) (fun c_6 => ?_)
      ·
        refine x_iload_n ho 1 d_RU_ledToFrom_34 rfl ?_
        refine x_iret ho hr d_RU_ledToFrom_35 ?_
        rw [show i.toNat = 4 by omega] at ht; subst ht; exact ⟨rfl, led_16 h_c s⟩
      ·
        refine x_iload_n ho 3 d_RU_ledToFrom_9 rfl ?_
        refine x_iload_n ho 0 d_RU_ledToFrom_10 rfl ?_
        refine x_callSN (host := "MorphWords") (rest := []) ho d_RU_ledToFrom_11 yv_MW_hasLetter g_562 (List.mem_of_getElem? (i := 9) rfl) (c_MW_hasLetter M.2.1 D s i (by omega) (by omega)) rfl rfl ⟨Nat.le_of_ble_eq_true rfl, Nat.le_of_ble_eq_true rfl⟩ ⟨Nat.le_of_ble_eq_true rfl, Nat.le_of_ble_eq_true rfl⟩ rfl rfl (Nat.le_of_ble_eq_true rfl) trivial fr_none' (x_rd (fun v_1 hv_1 => ?_))
        obtain rfl := hv_1
        show X _ _ _ _ _ _ _ _ _ [zV (bI (hasB s i))] _
        refine x_if_eqB (tgt := 28) ho d_RU_ledToFrom_14 (by decide) (fun c_14 => ?_) (fun c_14 => ?_)
        ·
          refine x_iinc (L' := [(3, zV (i + 1)), (2, zV t), (0, .ref r), (1, zV s)]) ho 0 d_RU_ledToFrom_28 rfl rfl (by decide) rfl ?_
          refine x_goto (tgt := 4) ho d_RU_ledToFrom_31 (by decide) ?_
          exact ih_4 (i + 1) t (by omega) (by rw [show (i + 1).toNat = i.toNat + 1 by omega]; unfold ledN; rw [show ((i.toNat : Nat) : Int) = i by omega, ← ht]; first | rw [if_pos (Classical.not_not.mp c_14)] | rw [if_neg c_14]) (by omega)
        ·
          refine x_iload_n ho 1 d_RU_ledToFrom_17 rfl ?_
          refine x_aload_n ho 2 d_RU_ledToFrom_18 rfl ?_
          refine x_iload_n ho 0 d_RU_ledToFrom_19 rfl ?_
          refine x_callV (rest := [zV t]) ho d_RU_ledToFrom_20 yv_RU_imageOf g_292 g_293 g_291 (c_RU_imageOf M.2.1 D r p c i (by omega)) rfl rfl ⟨Nat.le_of_ble_eq_true rfl, Nat.le_of_ble_eq_true rfl⟩ ⟨Nat.le_of_ble_eq_true rfl, Nat.le_of_ble_eq_true rfl⟩ rfl rfl (Nat.le_of_ble_eq_true rfl) hR.1 rfl rfl hR fr_none' (x_rd (fun v_3 hv_3 => ?_))
          obtain ⟨rfl, hb_5, hI_6⟩ := hv_3
          show X _ _ _ _ _ _ _ _ _ [.ref (p i), zV t] _
          refine x_callV (rest := [zV t]) ho d_RU_ledToFrom_23 yv_LE_bits g_552 g_553 g_564 (c_LE_bits M.2.1 D (p i) 8 (c i) ) rfl rfl ⟨Nat.le_of_ble_eq_true rfl, Nat.le_of_ble_eq_true rfl⟩ ⟨Nat.le_of_ble_eq_true rfl, Nat.le_of_ble_eq_true rfl⟩ rfl rfl (Nat.le_of_ble_eq_true rfl) hI_6.1 rfl rfl hI_6 fr_none' (x_rd (fun v_7 hv_7 => ?_))
          obtain ⟨rfl, hr_9⟩ := hv_7
          show X _ _ _ _ _ _ _ _ _ [zV (bitL (c i)), zV t] _
          have ht16 := ledN_16 h_c s i.toNat (by omega)
          rw [← ht] at ht16
          have hb16 := bitL_16 (h_c i (by omega) (by omega))
          refine x_or16 ho d_RU_ledToFrom_26 ht16 hb16 ?_
          refine x_istore_n (L' := [(2, zV (orI t (bitL (c i)))), (3, zV i), (0, .ref r), (1, zV s)]) ho d_RU_ledToFrom_27 (by decide) rfl ?_
          refine x_iinc (L' := [(3, zV (i + 1)), (2, zV (orI t (bitL (c i)))), (0, .ref r), (1, zV s)]) ho 1 d_RU_ledToFrom_28 rfl rfl (by decide) rfl ?_
          refine x_goto (tgt := 4) ho d_RU_ledToFrom_31 (by decide) ?_
          exact ih_4 (i + 1) (orI t (bitL (c i))) (by omega) (by rw [show (i + 1).toNat = i.toNat + 1 by omega]; unfold ledN; rw [show ((i.toNat : Nat) : Int) = i by omega, ← ht]; first | rw [if_pos (Classical.not_not.mp c_14)] | rw [if_neg c_14]) (by omega)
  exact loop_4 _ 0 0 (by omega) (by rfl) (Nat.lt_succ_self _)
def q_RU_reachedFrom (D : GG) (r : Nat) (p : Int → Nat) (c : Int → List Int) (x : Int) : Option Value → Heap → Prop := fun v H => v = some (zV (rea c x)) ∧ (0 ≤ rea c x ∧ rea c x < 16)
theorem yv_RU_reachedFrom : Yv y_RU_reachedFrom b_RU_reachedFrom 4 (Option.some FieldType.int) 1 := ⟨g_558, g_53, by decide, by decide +kernel⟩
set_option maxHeartbeats 4000000 in
set_option maxRecDepth 100000 in
theorem c_RU_reachedFrom (l : Launch) (D : GG) (r : Nat) (p : Int → Nat) (c : Int → List Int) (x : Int) (hx : 0 ≤ x ∧ x < 4) : Ct l D y_RU_reachedFrom b_RU_reachedFrom 4 (Option.some FieldType.int) ({ frames := 3, cells := 0, slots := 0, locals := 66 } : Room) [.ref r, zV x] (fun H => isR D H r p c) nA 0 0 (q_RU_reachedFrom D r p c x) := by
  refine Ct.of (L := [(0, .ref r), (1, zV x)]) (by decide) (Nat.le_of_ble_eq_true rfl) rfl (fun M H ho hr hnm hH hpre => ?_)
  have hR := hpre
  have h_c := hR.wc
  refine x_iconst ho d_RU_reachedFrom_0 ?_
  refine x_iload_n ho 1 d_RU_reachedFrom_1 rfl ?_
  refine x_shl1 ho d_RU_reachedFrom_2 hx ?_
  refine x_istore_n (L' := [(2, zV (sh x)), (0, .ref r), (1, zV x)]) ho d_RU_reachedFrom_3 (by decide) rfl ?_
  refine x_iconst ho d_RU_reachedFrom_4 ?_
  refine x_istore_n (L' := [(3, zV 0), (2, zV (sh x)), (0, .ref r), (1, zV x)]) ho d_RU_reachedFrom_5 (by decide) rfl ?_
  have loop_6 : ∀ (kk : Nat) (i : Int) (t : Int) (i0 : 0 ≤ i ∧ i ≤ 4) (ht : t = reN c (sh x) i.toNat) (h16 : 0 ≤ t ∧ t < 16), (4 - i).toNat < kk → X M ({ frames := 3, cells := 0, slots := 0, locals := 66 } : Room) 4 nA 0 0 (Qof M nA (q_RU_reachedFrom D r p c x) 0 0) 6 [(3, zV i), (2, zV t), (0, .ref r), (1, zV x)] [] H := by
    intro kk
    induction kk with
    | zero => intro i t i0 ht h16 hk; exact absurd hk (Nat.not_lt_zero _)
    | succ kk ih_6 =>
      intro i t i0 ht h16 hk_6
      refine x_iload_n ho 0 d_RU_reachedFrom_6 rfl ?_
      refine x_iconst ho d_RU_reachedFrom_7 ?_
      refine x_icmp_ge (tgt := 25) ho d_RU_reachedFrom_8 (by decide) (by omega) (by omega) (fun c_8 => ?_) (fun c_8 => ?_)
      ·
        refine x_iload_n ho 1 d_RU_reachedFrom_25 rfl ?_
        refine x_iret ho hr d_RU_reachedFrom_26 ?_
        rw [show i.toNat = 4 by omega] at ht; subst ht; exact ⟨rfl, h16⟩
      ·
        refine x_iload_n ho 1 d_RU_reachedFrom_11 rfl ?_
        refine x_aload_n ho 2 d_RU_reachedFrom_12 rfl ?_
        refine x_iload_n ho 1 d_RU_reachedFrom_13 rfl ?_
        refine x_callV (rest := [zV t]) ho d_RU_reachedFrom_14 yv_RU_ledToFrom g_560 g_9 g_559 (c_RU_ledToFrom M.2.1 D r p c t (by omega)) rfl rfl ⟨Nat.le_of_ble_eq_true rfl, Nat.le_of_ble_eq_true rfl⟩ ⟨Nat.le_of_ble_eq_true rfl, Nat.le_of_ble_eq_true rfl⟩ rfl rfl (Nat.le_of_ble_eq_true rfl) hR.1 rfl rfl hR fr_none' (x_rd (fun v_1 hv_1 => ?_))
        obtain ⟨rfl, hr_3⟩ := hv_1
        show X _ _ _ _ _ _ _ _ _ [zV (led c t), zV t] _
        have hl16 := led_16 h_c t
        refine x_or16 ho d_RU_reachedFrom_17 h16 hl16 ?_
        refine x_istore_n (L' := [(2, zV (orI t (led c t))), (3, zV i), (0, .ref r), (1, zV x)]) ho d_RU_reachedFrom_18 (by decide) rfl ?_
        refine x_iinc (L' := [(3, zV (i + 1)), (2, zV (orI t (led c t))), (0, .ref r), (1, zV x)]) ho 1 d_RU_reachedFrom_19 rfl rfl (by decide) rfl ?_
        refine x_goto (tgt := 6) ho d_RU_reachedFrom_22 (by decide) ?_
        exact ih_6 (i + 1) (orI t (led c t)) (by omega) (by rw [show (i + 1).toNat = i.toNat + 1 by omega]; unfold reN; rw [← ht]) (by exact orI_16 h16 (led_16 h_c t)) (by omega)
  exact loop_6 _ 0 (sh x) (by omega) (by rfl) (by exact sh_16 hx.1 hx.2) (Nat.lt_succ_self _)
def q_RU_lettersBehind (D : GG) (r : Nat) (p : Int → Nat) (c : Int → List Int) (x : Int) (k : Int) : Option Value → Heap → Prop := fun v H => v = some (zV (lbN c (sh x) k.toNat)) ∧ (0 ≤ lbN c (sh x) k.toNat ∧ lbN c (sh x) k.toNat < 16)
theorem yv_RU_lettersBehind : Yv y_RU_lettersBehind b_RU_lettersBehind 5 (Option.some FieldType.int) 2 := ⟨g_604, g_53, by decide, by decide +kernel⟩
set_option maxHeartbeats 4000000 in
set_option maxRecDepth 100000 in
theorem c_RU_lettersBehind (l : Launch) (D : GG) (r : Nat) (p : Int → Nat) (c : Int → List Int) (x : Int) (k : Int) (hx : 0 ≤ x ∧ x < 4) (hk : 0 ≤ k ∧ k ≤ 1000) : Ct l D y_RU_lettersBehind b_RU_lettersBehind 5 (Option.some FieldType.int) ({ frames := 3, cells := 0, slots := 0, locals := 66 } : Room) [.ref r, zV x, zV k] (fun H => isR D H r p c) nA 0 0 (q_RU_lettersBehind D r p c x k) := by
  refine Ct.of (L := [(0, .ref r), (1, zV x), (2, zV k)]) (by decide) (Nat.le_of_ble_eq_true rfl) rfl (fun M H ho hr hnm hH hpre => ?_)
  have hR := hpre
  have h_c := hR.wc
  refine x_iconst ho d_RU_lettersBehind_0 ?_
  refine x_iload_n ho 1 d_RU_lettersBehind_1 rfl ?_
  refine x_shl1 ho d_RU_lettersBehind_2 hx ?_
  refine x_istore_n (L' := [(3, zV (sh x)), (0, .ref r), (1, zV x), (2, zV k)]) ho d_RU_lettersBehind_3 (by decide) rfl ?_
  refine x_iconst ho d_RU_lettersBehind_4 ?_
  refine x_istore (L' := [(4, zV 0), (3, zV (sh x)), (0, .ref r), (1, zV x), (2, zV k)]) ho d_RU_lettersBehind_5 (by decide) rfl ?_
  have loop_7 : ∀ (kk : Nat) (i : Int) (t : Int) (i0 : 0 ≤ i ∧ i ≤ k) (ht : t = lbN c (sh x) i.toNat) (h16 : 0 ≤ t ∧ t < 16), (k - i).toNat < kk → X M ({ frames := 3, cells := 0, slots := 0, locals := 66 } : Room) 5 nA 0 0 (Qof M nA (q_RU_lettersBehind D r p c x k) 0 0) 7 [(4, zV i), (3, zV t), (0, .ref r), (1, zV x), (2, zV k)] [] H := by
    intro kk
    induction kk with
    | zero => intro i t i0 ht h16 hk; exact absurd hk (Nat.not_lt_zero _)
    | succ kk ih_7 =>
      intro i t i0 ht h16 hk_7
      refine x_iload ho 0 d_RU_lettersBehind_7 rfl ?_
      refine x_iload_n ho 4 d_RU_lettersBehind_9 rfl ?_
      refine x_icmp_ge (tgt := 25) ho d_RU_lettersBehind_10 (by decide) (by omega) (by omega) (fun c_10 => ?_) (fun c_10 => ?_)
      ·
        refine x_iload_n ho 1 d_RU_lettersBehind_25 rfl ?_
        refine x_iret ho hr d_RU_lettersBehind_26 ?_
        rw [show i = k by omega] at ht; subst ht; exact ⟨rfl, h16⟩
      ·
        refine x_aload_n ho 2 d_RU_lettersBehind_13 rfl ?_
        refine x_iload_n ho 1 d_RU_lettersBehind_14 rfl ?_
        refine x_callV (rest := []) ho d_RU_lettersBehind_15 yv_RU_ledToFrom g_560 g_9 g_559 (c_RU_ledToFrom M.2.1 D r p c t (by omega)) rfl rfl ⟨Nat.le_of_ble_eq_true rfl, Nat.le_of_ble_eq_true rfl⟩ ⟨Nat.le_of_ble_eq_true rfl, Nat.le_of_ble_eq_true rfl⟩ rfl rfl (Nat.le_of_ble_eq_true rfl) hR.1 rfl rfl hR fr_none' (x_rd (fun v_1 hv_1 => ?_))
        obtain ⟨rfl, hr_3⟩ := hv_1
        show X _ _ _ _ _ _ _ _ _ [zV (led c t)] _
        refine x_istore_n (L' := [(3, zV (led c t)), (4, zV i), (0, .ref r), (1, zV x), (2, zV k)]) ho d_RU_lettersBehind_18 (by decide) rfl ?_
        refine x_iinc (L' := [(4, zV (i + 1)), (3, zV (led c t)), (0, .ref r), (1, zV x), (2, zV k)]) ho 1 d_RU_lettersBehind_19 rfl rfl (by decide) rfl ?_
        refine x_goto (tgt := 7) ho d_RU_lettersBehind_22 (by decide) ?_
        exact ih_7 (i + 1) (led c t) (by omega) (by rw [show (i + 1).toNat = i.toNat + 1 by omega]; unfold lbN; rw [← ht]) (by exact led_16 h_c t) (by omega)
  exact loop_7 _ 0 (sh x) (by omega) (by rfl) (by exact sh_16 hx.1 hx.2) (Nat.lt_succ_self _)
def q_RU_mixesBy (D : GG) (r : Nat) (p : Int → Nat) (c : Int → List Int) (k : Int) : Option Value → Heap → Prop := fun v H => v = some (zV (bI (mixB c k.toNat)))
theorem yv_RU_mixesBy : Yv y_RU_mixesBy b_RU_mixesBy 5 (Option.some FieldType.boolean) 1 := ⟨g_600, g_53, by decide, by decide +kernel⟩
set_option maxHeartbeats 4000000 in
set_option maxRecDepth 100000 in
theorem c_RU_mixesBy (l : Launch) (D : GG) (r : Nat) (p : Int → Nat) (c : Int → List Int) (k : Int) (hk : 0 ≤ k ∧ k ≤ 1000) : Ct l D y_RU_mixesBy b_RU_mixesBy 5 (Option.some FieldType.boolean) ({ frames := 4, cells := 0, slots := 0, locals := 90 } : Room) [.ref r, zV k] (fun H => isR D H r p c) nA 0 0 (q_RU_mixesBy D r p c k) := by
  refine Ct.of (L := [(0, .ref r), (1, zV k)]) (by decide) (Nat.le_of_ble_eq_true rfl) rfl (fun M H ho hr hnm hH hpre => ?_)
  have hR := hpre
  have h_c := hR.wc
  refine x_aload_n ho 0 d_RU_mixesBy_0 rfl ?_
  refine x_iconst ho d_RU_mixesBy_1 ?_
  refine x_callV (rest := []) ho d_RU_mixesBy_2 yv_RU_reachedFrom g_556 g_557 g_601 (c_RU_reachedFrom M.2.1 D r p c 0 (by omega)) rfl rfl ⟨Nat.le_of_ble_eq_true rfl, Nat.le_of_ble_eq_true rfl⟩ ⟨Nat.le_of_ble_eq_true rfl, Nat.le_of_ble_eq_true rfl⟩ rfl rfl (Nat.le_of_ble_eq_true rfl) hR.1 rfl rfl hR fr_none' (x_rd (fun v_1 hv_1 => ?_))
  obtain ⟨rfl, hr_3⟩ := hv_1
  show X _ _ _ _ _ _ _ _ _ [zV (rea c 0)] _
  refine x_istore_n (L' := [(2, zV (rea c 0)), (0, .ref r), (1, zV k)]) ho d_RU_mixesBy_5 (by decide) rfl ?_
  refine x_iconst ho d_RU_mixesBy_6 ?_
  refine x_istore_n (L' := [(3, zV 0), (2, zV (rea c 0)), (0, .ref r), (1, zV k)]) ho d_RU_mixesBy_7 (by decide) rfl ?_
  have loop_8 : ∀ (kk : Nat) (i : Int) (i0 : 0 ≤ i ∧ i ≤ 4) (hj : ∀ j : Int, 0 ≤ j → j < i → hasB (rea c 0) j → andI (rea c 0) (15 - lbN c (sh j) k.toNat) = 0), (4 - i).toNat < kk → X M ({ frames := 4, cells := 0, slots := 0, locals := 90 } : Room) 5 nA 0 0 (Qof M nA (q_RU_mixesBy D r p c k) 0 0) 8 [(3, zV i), (2, zV (rea c 0)), (0, .ref r), (1, zV k)] [] H := by
    intro kk
    induction kk with
    | zero => intro i i0 hj hk; exact absurd hk (Nat.not_lt_zero _)
    | succ kk ih_8 =>
      intro i i0 hj hk_8
      refine x_iload_n ho 0 d_RU_mixesBy_8 rfl ?_
      refine x_iconst ho d_RU_mixesBy_9 ?_
      refine x_icmp_ge (tgt := 46) ho d_RU_mixesBy_10 (by decide) (by omega) (by omega) (fun c_10 => ?_) (fun c_10 => ?_)
      ·
        refine x_iconst ho d_RU_mixesBy_46 ?_
        refine x_zret ho hr (Or.inr rfl) d_RU_mixesBy_47 ?_
        exact rT (by intro j h0 h1; exact hj j h0 (by omega))
      ·
        refine x_iload_n ho 1 d_RU_mixesBy_13 rfl ?_
        refine x_aload_n ho 2 d_RU_mixesBy_14 rfl ?_
        refine x_iload_n ho 0 d_RU_mixesBy_15 rfl ?_
        refine x_iload_n ho 3 d_RU_mixesBy_16 rfl ?_
        refine x_callV (rest := [zV (rea c 0)]) ho d_RU_mixesBy_17 yv_RU_lettersBehind g_603 g_11 g_602 (c_RU_lettersBehind M.2.1 D r p c i k (by omega) (by omega)) rfl rfl ⟨Nat.le_of_ble_eq_true rfl, Nat.le_of_ble_eq_true rfl⟩ ⟨Nat.le_of_ble_eq_true rfl, Nat.le_of_ble_eq_true rfl⟩ rfl rfl (Nat.le_of_ble_eq_true rfl) hR.1 rfl rfl hR fr_none' (x_rd (fun v_4 hv_4 => ?_))
        obtain ⟨rfl, hr_6⟩ := hv_4
        show X _ _ _ _ _ _ _ _ _ [zV (lbN c (sh i) k.toNat), zV (rea c 0)] _
        refine x_iconst ho d_RU_mixesBy_20 ?_
        have hl16 := lbN_16 h_c (sh_16 (x := i) (by omega) (by omega)) k.toNat
        have hr16 := reN_16 h_c (s := sh 0) (sh_16 (by omega) (by omega)) 4
        have hn16 := andI_16 hr16 (b := 15 - lbN c (sh i) k.toNat) (by omega)
        refine x_xorm1 ho d_RU_mixesBy_21 hl16 ?_
        refine x_andn16 ho d_RU_mixesBy_22 hr16 hl16 ?_
        refine x_istore (L' := [(4, zV (andI (rea c 0) (15 - lbN c (sh i) k.toNat))), (3, zV i), (2, zV (rea c 0)), (0, .ref r), (1, zV k)]) ho d_RU_mixesBy_23 (by decide) rfl ?_
        refine x_iload_n ho 2 d_RU_mixesBy_25 rfl ?_
        refine x_iload_n ho 1 d_RU_mixesBy_26 rfl ?_
        refine x_callSN (host := "MorphWords") (rest := []) ho d_RU_mixesBy_27 yv_MW_hasLetter g_562 (List.mem_of_getElem? (i := 9) rfl) (c_MW_hasLetter M.2.1 D (rea c 0) i (by omega) (by omega)) rfl rfl ⟨Nat.le_of_ble_eq_true rfl, Nat.le_of_ble_eq_true rfl⟩ ⟨Nat.le_of_ble_eq_true rfl, Nat.le_of_ble_eq_true rfl⟩ rfl rfl (Nat.le_of_ble_eq_true rfl) trivial fr_none' (x_rd (fun v_7 hv_7 => ?_))
        obtain rfl := hv_7
        show X _ _ _ _ _ _ _ _ _ [zV (bI (hasB (rea c 0) i))] _
        refine x_if_eqB (tgt := 40) ho d_RU_mixesBy_30 (by decide) (fun c_30 => ?_) (fun c_30 => ?_)
        ·
          refine x_iinc (L' := [(3, zV (i + 1)), (4, zV (andI (rea c 0) (15 - lbN c (sh i) k.toNat))), (2, zV (rea c 0)), (0, .ref r), (1, zV k)]) ho 1 d_RU_mixesBy_40 rfl rfl (by decide) rfl ?_
          refine x_goto (tgt := 8) ho d_RU_mixesBy_43 (by decide) ?_
          refine x_sub (L' := [(3, zV (i + 1)), (2, zV (rea c 0)), (0, .ref r), (1, zV k)]) [0, 2, 3, 4] rfl ?_
          exact ih_8 (i + 1) (by omega) (by
              intro j h0 h1 hh
              rcases (show j < i ∨ j = i by omega) with h | h
              · exact hj j h0 h hh
              · subst h; exact absurd hh c_30) (by omega)
        ·
          refine x_iload ho 0 d_RU_mixesBy_33 rfl ?_
          refine x_if_eq (tgt := 40) ho d_RU_mixesBy_35 (by decide) (by show -2147483648 ≤ andI (reN c (sh 0) 4) (15 - lbN c (sh i) k.toNat) ∧ andI (reN c (sh 0) 4) (15 - lbN c (sh i) k.toNat) ≤ 2147483647; omega) (fun c_35 => ?_) (fun c_35 => ?_)
          ·
            refine x_iinc (L' := [(3, zV (i + 1)), (4, zV (andI (rea c 0) (15 - lbN c (sh i) k.toNat))), (2, zV (rea c 0)), (0, .ref r), (1, zV k)]) ho 1 d_RU_mixesBy_40 rfl rfl (by decide) rfl ?_
            refine x_goto (tgt := 8) ho d_RU_mixesBy_43 (by decide) ?_
            refine x_sub (L' := [(3, zV (i + 1)), (2, zV (rea c 0)), (0, .ref r), (1, zV k)]) [0, 2, 3, 4] rfl ?_
            exact ih_8 (i + 1) (by omega) (by
                intro j h0 h1 hh
                rcases (show j < i ∨ j = i by omega) with h | h
                · exact hj j h0 h hh
                · subst h; exact c_35) (by omega)
          ·
            refine x_iconst ho d_RU_mixesBy_38 ?_
            refine x_zret ho hr (Or.inl rfl) d_RU_mixesBy_39 ?_
            exact rF (by intro h; exact c_35 (h i (by omega) (by omega) c_30))
  exact loop_8 _ 0 (by omega) (by intro j h0 h1; omega) (Nat.lt_succ_self _)
def q_RU_exchange (D : GG) (r : Nat) (p : Int → Nat) (c : Int → List Int) (a : Int) (b : Int) : Option Value → Heap → Prop := fun v H => v = none ∧ isR D H r (fun i => p (sw a b i)) (fun i => (c (sw a b i)).map (sw a b))
theorem yv_RU_exchange : Yv y_RU_exchange b_RU_exchange 4 (Option.none : Option FieldType) 2 := ⟨g_416, g_53, by decide, by decide +kernel⟩
set_option maxHeartbeats 4000000 in
set_option maxRecDepth 100000 in
theorem c_RU_exchange (l : Launch) (D : GG) (r : Nat) (p : Int → Nat) (c : Int → List Int) (a : Int) (b : Int) (ha : 0 ≤ a ∧ a < 4) (hb : 0 ≤ b ∧ b < 4) (hab : a ≠ b) : Ct l D y_RU_exchange b_RU_exchange 4 (Option.none : Option FieldType) ({ frames := 2, cells := 0, slots := 0, locals := 41 } : Room) [.ref r, zV a, zV b] (fun H => isR D H r p c) (rA r (r + 12)) 0 0 (q_RU_exchange D r p c a b) := by
  refine Ct.of (L := [(0, .ref r), (1, zV a), (2, zV b)]) (by decide) (Nat.le_of_ble_eq_true rfl) rfl (fun M H ho hr hnm hH hpre => ?_)
  have hR := hpre
  refine x_iload_n ho 1 d_RU_exchange_0 rfl ?_
  refine x_callSN (host := "MorphWords") (rest := []) ho d_RU_exchange_1 yv_MW_isLetter g_107 (List.mem_of_getElem? (i := 7) rfl) (c_MW_isLetter M.2.1 D a (by omega)) rfl rfl ⟨Nat.le_of_ble_eq_true rfl, Nat.le_of_ble_eq_true rfl⟩ ⟨Nat.le_of_ble_eq_true rfl, Nat.le_of_ble_eq_true rfl⟩ rfl rfl (Nat.le_of_ble_eq_true rfl) trivial fr_none' (x_rd (fun v_1 hv_1 => ?_))
  obtain rfl := hv_1
  show X _ _ _ _ _ _ _ _ _ [zV (bI (0 ≤ a ∧ a < 4))] _
  refine x_if_eqB (tgt := 14) ho d_RU_exchange_4 (by decide) (fun c_4 => ?_) (fun c_4 => ?_)
  ·
    exact absurd ha c_4
  ·
    refine x_iload_n ho 2 d_RU_exchange_7 rfl ?_
    refine x_callSN (host := "MorphWords") (rest := []) ho d_RU_exchange_8 yv_MW_isLetter g_107 (List.mem_of_getElem? (i := 7) rfl) (c_MW_isLetter M.2.1 D b (by omega)) rfl rfl ⟨Nat.le_of_ble_eq_true rfl, Nat.le_of_ble_eq_true rfl⟩ ⟨Nat.le_of_ble_eq_true rfl, Nat.le_of_ble_eq_true rfl⟩ rfl rfl (Nat.le_of_ble_eq_true rfl) trivial fr_none' (x_rd (fun v_3 hv_3 => ?_))
    obtain rfl := hv_3
    show X _ _ _ _ _ _ _ _ _ [zV (bI (0 ≤ b ∧ b < 4))] _
    refine x_if_neB (tgt := 15) ho d_RU_exchange_11 (by decide) (fun c_11 => ?_) (fun c_11 => ?_)
    ·
      refine x_iconst ho d_RU_exchange_15 ?_
      refine x_istore_n (L' := [(3, zV 0), (0, .ref r), (1, zV a), (2, zV b)]) ho d_RU_exchange_16 (by decide) rfl ?_
      have loop_17 : ∀ (kk : Nat) (i : Int) (g : Int → List Int) (H_5 : Heap) (gR : isR D H_5 r p g) (i0 : 0 ≤ i ∧ i ≤ 4) (hg : ∀ j : Int, 0 ≤ j → j < 4 → g j = if j < i then (c j).map (sw a b) else c j), (4 - i).toNat < kk → X M ({ frames := 2, cells := 0, slots := 0, locals := 41 } : Room) 4 (rA r (r + 12)) 0 0 (Qof M (rA r (r + 12)) (q_RU_exchange D r p c a b) 0 0) 17 [(3, zV i), (0, .ref r), (1, zV a), (2, zV b)] [] H_5 := by
        intro kk
        induction kk with
        | zero => intro i g H_5 gR i0 hg hk; exact absurd hk (Nat.not_lt_zero _)
        | succ kk ih_17 =>
          intro i g H_5 gR i0 hg hk_17
          refine x_iload_n ho 0 d_RU_exchange_17 rfl ?_
          refine x_iconst ho d_RU_exchange_18 ?_
          refine x_icmp_ge (tgt := 38) ho d_RU_exchange_19 (by decide) (by omega) (by omega) (fun c_19 => ?_) (fun c_19 => ?_)
          ·
            obtain ⟨h_o, h_a, h_n, h_4, h_b, h_d⟩ := id gR
            have hA1 := h_4 a ha.1 ha.2
            have hB1 := h_4 b hb.1 hb.2
            have bA := h_b a ha.1 ha.2
            have bB := h_b b hb.1 hb.2
            refine x_aload_n ho 1 d_RU_exchange_38 rfl ?_
            refine x_get 0 ho d_RU_exchange_39 cl_RU (by decide) g_109 h_o rfl ?_
            refine x_iload_n ho 2 d_RU_exchange_42 rfl ?_
            refine x_aald (b := p a) ho d_RU_exchange_43 h_a rfl (by omega) (by omega) (by omega) (by rfl) ?_
            refine x_astore_n (L' := [(3, .ref (p a)), (0, .ref r), (1, zV a), (2, zV b)]) ho d_RU_exchange_44 (by decide) rfl ?_
            refine x_aload_n ho 1 d_RU_exchange_45 rfl ?_
            refine x_get 0 ho d_RU_exchange_46 cl_RU (by decide) g_109 h_o rfl ?_
            refine x_iload_n ho 2 d_RU_exchange_49 rfl ?_
            refine x_aload_n ho 1 d_RU_exchange_50 rfl ?_
            refine x_get 0 ho d_RU_exchange_51 cl_RU (by decide) g_109 h_o rfl ?_
            refine x_iload_n ho 3 d_RU_exchange_54 rfl ?_
            refine x_aald (b := p b) ho d_RU_exchange_55 h_a rfl (by omega) (by omega) (by omega) (by rfl) ?_
            refine x_aast ho d_RU_exchange_56 h_a rfl hB1.1 rfl (by omega) (by omega) (by omega) (rA_in (by omega) (by omega)) (fun H_6 p_7 z_8 q_9 => ?_)
            have k_10 := h_o.kept (q_9 _ (by omega))
            have k_11 := hA1.kept (fun q g1 g2 => q_9 q (by omega))
            have k_12 := hB1.kept (fun q g1 g2 => q_9 q (by omega))
            refine x_aload_n ho 1 d_RU_exchange_57 rfl ?_
            refine x_get 0 ho d_RU_exchange_58 cl_RU (by decide) g_109 k_10 rfl ?_
            refine x_iload_n ho 3 d_RU_exchange_61 rfl ?_
            refine x_aload_n ho 0 d_RU_exchange_62 rfl ?_
            refine x_aast ho d_RU_exchange_63 p_7 rfl k_11.1 rfl (by omega) (by omega) (by omega) (rA_in (by omega) (by omega)) (fun H_13 p_14 z_15 q_16 => ?_)
            have k_17 := k_10.kept (q_16 _ (by omega))
            have k_18 := k_11.kept (fun q g1 g2 => q_16 q (by omega))
            have k_19 := k_12.kept (fun q g1 g2 => q_16 q (by omega))
            refine x_vret ho hr d_RU_exchange_64 ?_
            refine ⟨rfl, (isR_swap gR ha hb hab p_14 (fun q hq => ?_)).c (fun j h0 h1 => ?_)⟩
            · rw [q_16 q hq, q_9 q hq]
            · have hs := sw_r ha hb ⟨h0, h1⟩
              show g (sw a b j) = _
              rw [hg _ hs.1 hs.2, if_pos (by omega)]
          ·
            refine x_aload_n ho 1 d_RU_exchange_22 rfl ?_
            refine x_iload_n ho 0 d_RU_exchange_23 rfl ?_
            refine x_callV (rest := []) ho d_RU_exchange_24 yv_RU_imageOf g_292 g_293 g_291 (c_RU_imageOf M.2.1 D r p g i (by omega)) rfl rfl ⟨Nat.le_of_ble_eq_true rfl, Nat.le_of_ble_eq_true rfl⟩ ⟨Nat.le_of_ble_eq_true rfl, Nat.le_of_ble_eq_true rfl⟩ rfl rfl (Nat.le_of_ble_eq_true rfl) gR.1 rfl rfl gR fr_none' (x_rd (fun v_20 hv_20 => ?_))
            obtain ⟨rfl, hb_22, hI_23⟩ := hv_20
            show X _ _ _ _ _ _ _ _ _ [.ref (p i)] _
            refine x_iload_n ho 2 d_RU_exchange_27 rfl ?_
            refine x_iload_n ho 3 d_RU_exchange_28 rfl ?_
            refine x_callV (rest := []) ho d_RU_exchange_29 yv_LE_exchange g_418 g_419 g_417 (c_LE_exchange M.2.1 D (p i) 8 (g i) a b (by omega) (by omega)) rfl rfl ⟨Nat.le_of_ble_eq_true rfl, Nat.le_of_ble_eq_true rfl⟩ ⟨Nat.le_of_ble_eq_true rfl, Nat.le_of_ble_eq_true rfl⟩ rfl rfl (Nat.le_of_ble_eq_true rfl) hI_23.1 rfl rfl hI_23 (rA_sub (by omega) (by omega)) (fun v_24 H_26 hv_24 f_25 => ?_)
            obtain ⟨rfl, hL_27⟩ := hv_24
            have r_28 : isR D H_26 r p (zU g i ((g i).map (sw a b))) := isR_set gR (by omega) (by omega) hL_27 f_25
            show X _ _ _ _ _ _ _ _ _ [] _
            refine x_iinc (L' := [(3, zV (i + 1)), (0, .ref r), (1, zV a), (2, zV b)]) ho 0 d_RU_exchange_32 rfl rfl (by decide) rfl ?_
            refine x_goto (tgt := 17) ho d_RU_exchange_35 (by decide) ?_
            exact ih_17 (i + 1) (zU g i ((g i).map (sw a b))) H_26 r_28 (by omega) (by
                intro j h0 h1
                by_cases h : j = i
                · subst h; rw [zU_s, if_pos (by omega), hg j h0 h1, if_neg (by omega)]
                · rw [zU_n _ _ h, hg j h0 h1]
                  by_cases h2 : j < i
                  · rw [if_pos h2, if_pos (by omega)]
                  · rw [if_neg h2, if_neg (by omega)]) (by omega)
      exact loop_17 _ 0 c H hR (by omega) (by intro j h0 h1; rw [if_neg (by omega)]) (Nat.lt_succ_self _)
    ·
      exact absurd hb c_11
end
section
/-- what undo and the snapshot bring back: rule, word, piece -/
abbrev SV : Type := (Int → List Int) × List Int × List Int
def isS (D : GG) (H : Heap) (s : Nat) (v : SV) : Prop :=
  At D H s (oO 8 [.ref (s + 1), .ref (s + 13), .ref (s + 15)]) ∧ (∃ p : Int → Nat, isR D H (s + 1) p v.1) ∧ isL D H (s + 13) 300 v.2.1 ∧ isL D H (s + 15) 20 v.2.2
theorem isS.kept {D : GG} {H H1 : Heap} {s : Nat} {v : SV} (h : isS D H s v) (hq : ∀ q : Nat, s ≤ q → q < s + 17 → H1[q]? = H[q]?) : isS D H1 s v := by
  obtain ⟨h1, ⟨p, h2⟩, h3, h4⟩ := h
  exact ⟨h1.kept (hq _ (by omega) (by omega)), ⟨p, h2.kept (fun q a b => hq q (by omega) (by omega))⟩, h3.kept (fun q a b => hq q (by omega) (by omega)), h4.kept (fun q a b => hq q (by omega) (by omega))⟩
theorem isS.lt {D : GG} {H : Heap} {s : Nat} {v : SV} (h : isS D H s v) : s + 16 < H.size := by
  obtain ⟨h1, ⟨p, h2⟩, h3, h4⟩ := h
  exact h4.lt
/-- the history's states: slot i holds the state at q i, with the value f i -/
def isQ (D : GG) (H : Heap) (h : Nat) (q : Int → Nat) (f : Int → SV) : Prop :=
  (∀ i : Int, 0 ≤ i → i < 4 → isS D H (q i) (f i)) ∧ (∀ i : Int, 0 ≤ i → i < 4 → h + 2 ≤ q i ∧ q i + 17 ≤ h + 70) ∧ ∀ i j : Int, 0 ≤ i → i < 4 → 0 ≤ j → j < 4 → i ≠ j → q i + 17 ≤ q j ∨ q j + 17 ≤ q i
theorem isQ.kept {D : GG} {H H1 : Heap} {h : Nat} {q : Int → Nat} {f : Int → SV} (x : isQ D H h q f) (hq : ∀ a : Nat, h + 2 ≤ a → a < h + 70 → H1[a]? = H[a]?) : isQ D H1 h q f :=
  ⟨fun i a b => (x.1 i a b).kept (fun z c d => by have := x.2.1 i a b; exact hq z (by omega) (by omega)), x.2⟩
theorem isQ.lt {D : GG} {H : Heap} {h : Nat} {q : Int → Nat} {f : Int → SV} (x : isQ D H h q f) : h + 69 < H.size := by
  obtain ⟨h4, h5, h6⟩ := x
  have l0 := (h4 0 (by decide) (by decide)).lt
  have l1 := (h4 1 (by decide) (by decide)).lt
  have l2 := (h4 2 (by decide) (by decide)).lt
  have l3 := (h4 3 (by decide) (by decide)).lt
  have b0 := h5 0 (by decide) (by decide)
  have b1 := h5 1 (by decide) (by decide)
  have b2 := h5 2 (by decide) (by decide)
  have b3 := h5 3 (by decide) (by decide)
  have d01 := h6 0 1 (by decide) (by decide) (by decide) (by decide) (by decide)
  have d02 := h6 0 2 (by decide) (by decide) (by decide) (by decide) (by decide)
  have d03 := h6 0 3 (by decide) (by decide) (by decide) (by decide) (by decide)
  have d12 := h6 1 2 (by decide) (by decide) (by decide) (by decide) (by decide)
  have d13 := h6 1 3 (by decide) (by decide) (by decide) (by decide) (by decide)
  have d23 := h6 2 3 (by decide) (by decide) (by decide) (by decide) (by decide)
  omega
theorem isQ_set {D : GG} {H H1 : Heap} {h : Nat} {q : Int → Nat} {f : Int → SV} (x : isQ D H h q f) {i : Int} {v : SV} (h0 : 0 ≤ i) (h1 : i < 4) (hn : isS D H1 (q i) v) (hF : FR (rA (q i) (q i + 17)) H H1 0) : isQ D H1 h q (zU f i v) := by
  have hl := x.lt
  obtain ⟨g4, g5, g6⟩ := x
  have bx := g5 i h0 h1
  refine ⟨fun j a b => ?_, g5, g6⟩
  by_cases hj : j = i
  · subst hj
    rw [zU_s]
    exact hn
  · rw [zU_n _ _ hj]
    have bj := g5 j a b
    have dj := g6 j i a b h0 h1 hj
    exact (g4 j a b).kept (fun z c d => hF.2 z (by omega) (rA_no (by omega)))
def rotS (i : Int) : Int := if i = 3 then 0 else i + 1
theorem rotS_r {i : Int} (h0 : 0 ≤ i) (h1 : i < 4) : 0 ≤ rotS i ∧ rotS i < 4 := by
  unfold rotS; split <;> omega
theorem isQ_rot {D : GG} {H : Heap} {h : Nat} {q : Int → Nat} {f : Int → SV} (x : isQ D H h q f) : isQ D H h (fun i => q (rotS i)) (fun i => f (rotS i)) :=
  ⟨fun i a b => x.1 _ (rotS_r a b).1 (rotS_r a b).2, fun i a b => x.2.1 _ (rotS_r a b).1 (rotS_r a b).2, fun i j a b c d e => x.2.2 _ _ (rotS_r a b).1 (rotS_r a b).2 (rotS_r c d).1 (rotS_r c d).2 (by unfold rotS; split <;> split <;> omega)⟩
def isH (D : GG) (H : Heap) (h : Nat) (q : Int → Nat) (f : Int → SV) (n : Int) : Prop :=
  At D H h (oO 1 [.ref (h + 1), zV n]) ∧ At D H (h + 1) (oR D 4 4 (fun i => some (q i))) ∧ isQ D H h q f
theorem isH.kept {D : GG} {H H1 : Heap} {h : Nat} {q : Int → Nat} {f : Int → SV} {n : Int} (x : isH D H h q f n) (hq : ∀ a : Nat, h ≤ a → a < h + 70 → H1[a]? = H[a]?) : isH D H1 h q f n :=
  ⟨x.1.kept (hq _ (by omega) (by omega)), x.2.1.kept (hq _ (by omega) (by omega)), x.2.2.kept (fun a b c => hq a (by omega) (by omega))⟩
theorem isH.lt {D : GG} {H : Heap} {h : Nat} {q : Int → Nat} {f : Int → SV} {n : Int} (x : isH D H h q f n) : h + 69 < H.size := x.2.2.lt
def dSV : SV := (fun _ => [], [], [])
def gH (l : List SV) (i : Int) : SV := l.getD i.toNat dSV
/-- the history with the states of the list, the oldest one first -/
def isHL (D : GG) (H : Heap) (h : Nat) (l : List SV) : Prop := l.length ≤ 4 ∧ ∃ (q : Int → Nat) (f : Int → SV), isH D H h q f ((l.length : Int)) ∧ ∀ i : Int, 0 ≤ i → i < (l.length : Int) → f i = gH l i
theorem isHL.kept {D : GG} {H H1 : Heap} {h : Nat} {l : List SV} (x : isHL D H h l) (hq : ∀ a : Nat, h ≤ a → a < h + 70 → H1[a]? = H[a]?) : isHL D H1 h l := by
  obtain ⟨a, q, f, b, c⟩ := x
  exact ⟨a, q, f, b.kept hq, c⟩
theorem isHL.lt {D : GG} {H : Heap} {h : Nat} {l : List SV} (x : isHL D H h l) : h + 69 < H.size := by
  obtain ⟨a, q, f, b, c⟩ := x
  exact b.lt
theorem gH_app1 {l k : List SV} {i : Int} (h0 : 0 ≤ i) (h : i < (l.length : Int)) : gH (l ++ k) i = gH l i := by
  unfold gH
  rw [List.getD_eq_getElem?_getD, List.getD_eq_getElem?_getD, List.getElem?_append_left (by omega)]
theorem gH_snoc {l : List SV} {v : SV} : gH (l ++ [v]) ((l.length : Int)) = v := by
  unfold gH
  rw [List.getD_eq_getElem?_getD, List.getElem?_append_right (by omega)]
  rw [show ((l.length : Int)).toNat - l.length = 0 by omega]
  rfl
theorem gH_drop {l : List SV} {i : Int} (h0 : 0 ≤ i) : gH (l.drop 1) i = gH l (i + 1) := by
  unfold gH
  rw [List.getD_eq_getElem?_getD, List.getD_eq_getElem?_getD, List.getElem?_drop]
  congr 2
  omega
theorem gH_dropLast {l : List SV} {i : Int} (h0 : 0 ≤ i) (h : i < (l.length : Int) - 1) : gH l.dropLast i = gH l i := by
  unfold gH
  rw [List.getD_eq_getElem?_getD, List.getD_eq_getElem?_getD, List.getElem?_dropLast, if_pos (by omega)]
/-- one state more, the oldest one dropped where there are four -/
def recH (l : List SV) (v : SV) : List SV := if l.length < 4 then l ++ [v] else l.drop 1 ++ [v]
-- texts
def isT (D : GG) (H : Heap) (t : Nat) (L : List Int) : Prop :=
  At D H t (oO 9 [.ref (t + 1), zV ((L.length : Int))]) ∧ (∃ f : Int → Int, At D H (t + 1) (oC D 60 f) ∧ ∀ j : Int, 0 ≤ j → j < (L.length : Int) → f j = gA L j) ∧ L.length ≤ 60 ∧ ∀ x ∈ L, 0 ≤ x ∧ x < 65536
theorem isT.kept {D : GG} {H H1 : Heap} {t : Nat} {L : List Int} (h : isT D H t L) (hq : ∀ q : Nat, t ≤ q → q < t + 2 → H1[q]? = H[q]?) : isT D H1 t L := by
  obtain ⟨h1, ⟨f, h2, h3⟩, h4⟩ := h
  exact ⟨h1.kept (hq _ (by omega) (by omega)), ⟨f, h2.kept (hq _ (by omega) (by omega)), h3⟩, h4⟩
theorem isT.lt {D : GG} {H : Heap} {t : Nat} {L : List Int} (h : isT D H t L) : t + 1 < H.size := by
  obtain ⟨h1, ⟨f, h2, h3⟩, h4⟩ := h
  exact h2.lt
theorem isT.b {D : GG} {H : Heap} {t : Nat} {L : List Int} (h : isT D H t L) : L.length ≤ 60 := h.2.2.1
theorem gA_c {L : List Int} (h : ∀ x ∈ L, 0 ≤ x ∧ x < 65536) (z : Int) : 0 ≤ gA L z ∧ gA L z < 65536 := by
  unfold gA
  by_cases hz : z.toNat < L.length
  · rw [List.getD_eq_getElem?_getD, List.getElem?_eq_getElem hz]
    exact h _ (List.getElem_mem hz)
  · rw [List.getD_eq_getElem?_getD, List.getElem?_eq_none (by omega)]
    decide
theorem isT_mk {D : GG} {H : Heap} {t : Nat} {L : List Int} {m : Int} {f : Int → Int} (h1 : At D H t (oO 9 [.ref (t + 1), zV m])) (h2 : At D H (t + 1) (oC D 60 f)) (hm : m = (L.length : Int)) (hf : ∀ j : Int, 0 ≤ j → j < (L.length : Int) → f j = gA L j) (hn : L.length ≤ 60) (hw : ∀ x ∈ L, 0 ≤ x ∧ x < 65536) : isT D H t L := by
  subst hm
  exact ⟨h1, ⟨f, h2, hf⟩, hn, hw⟩
theorem isT_push {D : GG} {H : Heap} {t : Nat} {L : List Int} {x : Int} {f : Int → Int} (h1 : At D H t (oO 9 [.ref (t + 1), zV ((L.length : Int) + 1)])) (h2 : At D H (t + 1) (oC D 60 (zU f ((L.length : Int)) x))) (hf : ∀ j : Int, 0 ≤ j → j < (L.length : Int) → f j = gA L j) (hn : (L.length : Int) < 60) (hw : ∀ x ∈ L, 0 ≤ x ∧ x < 65536) (h0 : 0 ≤ x) (h4 : x < 65536) : isT D H t (L ++ [x]) := by
  refine isT_mk h1 h2 (by simp) (fun j g0 g1 => ?_) (by simp; omega) (fun y hy => ?_)
  · have g1' : j < (L.length : Int) + 1 := by simpa using g1
    by_cases hj : j = (L.length : Int)
    · subst hj
      rw [zU_s, gA_snoc]
    · rw [zU_n _ _ hj, gA_app1 g0 (by omega)]
      exact hf j g0 (by omega)
  · rcases List.mem_append.mp hy with h | h
    · exact hw y h
    · rw [List.mem_singleton.mp h]; exact ⟨h0, h4⟩
theorem nar_c {x : Int} (h0 : 0 ≤ x) (h1 : x < 65536) : narrow .char (zV x) = zV x := by
  have h := (pk_charN (q := x.toNat) (by omega)).1
  rw [show nI x.toNat = zI x by unfold nI; rw [zI_nat, show ((x.toNat : Nat) : Int) = x by omega]] at h
  exact h
/-- the letter of a character, -1 of another one -/
def ltr (x : Int) : Int := if 97 ≤ x ∧ x ≤ 100 then x - 97 else -1
theorem ltr_r (x : Int) : -1 ≤ ltr x ∧ ltr x < 4 := by
  unfold ltr; split <;> omega
def tlat (L : List Int) (z : Int) : Int := if 0 ≤ z ∧ z < (L.length : Int) then ltr (gA L z) else -1
theorem tlat_in {L : List Int} {z : Int} (h0 : 0 ≤ z) (h1 : z < (L.length : Int)) : tlat L z = ltr (gA L z) := if_pos ⟨h0, h1⟩
theorem drop_cons {L : List Int} {i : Int} (h0 : 0 ≤ i) (h1 : i < (L.length : Int)) : L.drop i.toNat = gA L i :: L.drop (i + 1).toNat := by
  have hl : i.toNat < L.length := by omega
  rw [List.drop_eq_getElem_cons hl, show (i + 1).toNat = i.toNat + 1 by omega]
  congr 1
  have := gA_get h0 h1
  rw [List.getElem?_eq_getElem hl] at this
  exact Option.some.inj this
/-- a text read as a rule: what is due (0 a letter, 1 '=', 2 the image), the letter, the images so far, the place; its fault (-1: none) and the images then -/
def aut : List Int → Int → Int → (Int → List Int) → Int → Int × (Int → List Int)
  | [], due, l, c, k => (if due = 2 ∧ 0 < ((c l).length : Int) then -1 else k, c)
  | x :: xs, due, l, c, k =>
    if due = 0 ∧ ltr x ≠ -1 then aut xs 1 (ltr x) (zU c (ltr x) []) (k + 1)
    else if due = 1 ∧ x = 61 then aut xs 2 l c (k + 1)
    else if due = 2 ∧ 0 < ((c l).length : Int) ∧ x = 59 then aut xs 0 l c (k + 1)
    else if due = 2 ∧ ltr x ≠ -1 ∧ ((c l).length : Int) < 8 then aut xs 2 l (zU c l (c l ++ [ltr x])) (k + 1)
    else (k, c)
theorem aut_a {x l k : Int} {xs : List Int} {c : Int → List Int} (h : ltr x ≠ -1) : aut (x :: xs) 0 l c k = aut xs 1 (ltr x) (zU c (ltr x) []) (k + 1) := by
  rw [aut, if_pos ⟨rfl, h⟩]
theorem aut_b {x l k : Int} {xs : List Int} {c : Int → List Int} (h : x = 61) : aut (x :: xs) 1 l c k = aut xs 2 l c (k + 1) := by
  rw [aut, if_neg (by omega), if_pos ⟨rfl, h⟩]
theorem aut_c {x l k : Int} {xs : List Int} {c : Int → List Int} (h : x = 59) (hl : 0 < ((c l).length : Int)) : aut (x :: xs) 2 l c k = aut xs 0 l c (k + 1) := by
  rw [aut, if_neg (by omega), if_neg (by omega), if_pos ⟨rfl, hl, h⟩]
theorem aut_d {x l k : Int} {xs : List Int} {c : Int → List Int} (h : ltr x ≠ -1) (hl : ((c l).length : Int) < 8) : aut (x :: xs) 2 l c k = aut xs 2 l (zU c l (c l ++ [ltr x])) (k + 1) := by
  rw [aut, if_neg (by omega), if_neg (by omega), if_neg, if_pos ⟨rfl, h, hl⟩]
  rintro ⟨-, -, rfl⟩
  exact h rfl
theorem aut_e {x l k due : Int} {xs : List Int} {c : Int → List Int} (h0 : due = 0 → ltr x = -1) (h1 : due = 1 → x ≠ 61) (h2 : due = 2 → ¬ (0 < ((c l).length : Int) ∧ x = 59) ∧ ¬ (ltr x ≠ -1 ∧ ((c l).length : Int) < 8)) : aut (x :: xs) due l c k = (k, c) := by
  rw [aut, if_neg (fun q => q.2 (h0 q.1)), if_neg (fun q => h1 q.1 q.2), if_neg (fun q => (h2 q.1).1 q.2), if_neg (fun q => (h2 q.1).2 q.2)]
/-- a text read as a piece -/
def pau : List Int → List Int → Int → Int × List Int
  | [], K, k => (if 0 < k then -1 else k, K)
  | x :: xs, K, k => if ltr x ≠ -1 ∧ (K.length : Int) < 20 then pau xs (K ++ [ltr x]) (k + 1) else (k, K)
theorem cn_tk {L : List Int} {i z : Int} (h0 : 0 ≤ i) (h : i < (L.length : Int)) : cn (tk L (i + 1)) z = cn (tk L i) z + if gA L i = z then 1 else 0 := by
  rw [tk_succ h0 h, cn_snoc]
theorem at_q4 {D : GG} {H : Heap} {a : Nat} {g h : Int → Option Nat} (x : At D H a (oR D 4 4 g)) (e : ∀ j : Int, 0 ≤ j → j < 4 → g j = h j) : At D H a (oR D 4 4 h) := by
  have x' : H[a]? = some (vp_cell (D.2 4) (4, .inr (.inr (.inr (.inr (fun j : Nat => g (j : Int))))))) := x
  show H[a]? = some (vp_cell (D.2 4) (4, .inr (.inr (.inr (.inr (fun j : Nat => h (j : Int)))))))
  rw [x', vp_cell_q, vp_cell_q]
  unfold arrV
  congr 2
  congr 1
  funext j
  have hj := j.isLt
  show va_rf (g ((j.val : Nat) : Int)) = va_rf (h ((j.val : Nat) : Int))
  rw [e _ (by omega) (by omega)]
end
section
def q_ST_hasPiece (D : GG) (s : Nat) (v : SV) : Option Value → Heap → Prop := fun v0 H => v0 = some (zV (bI (0 < (v.2.2.length : Int))))
theorem yv_ST_hasPiece : Yv y_ST_hasPiece b_ST_hasPiece 1 (Option.some FieldType.boolean) 0 := ⟨g_710, g_52, by decide, by decide +kernel⟩
set_option maxHeartbeats 4000000 in
set_option maxRecDepth 100000 in
theorem c_ST_hasPiece (l0 : Launch) (D : GG) (s : Nat) (v : SV)  : Ct l0 D y_ST_hasPiece b_ST_hasPiece 1 (Option.some FieldType.boolean) ({ frames := 1, cells := 0, slots := 0, locals := 20 } : Room) [.ref s] (fun H => isS D H s v) nA 0 0 (q_ST_hasPiece D s v) := by
  refine Ct.of (L := [(0, .ref s)]) (by decide) (Nat.le_of_ble_eq_true rfl) rfl (fun M H ho hr hnm hH hpre => ?_)
  have hS := hpre
  obtain ⟨ao, ⟨ap, aR⟩, aw, ak⟩ := id hS
  have hb := ak.b
  refine x_aload_n ho 0 d_ST_hasPiece_0 rfl ?_
  refine x_get 2 ho d_ST_hasPiece_1 cl_ST (by decide) g_123 ao rfl ?_
  refine x_callV (rest := []) ho d_ST_hasPiece_4 yv_LE_length g_321 g_322 g_711 (c_LE_length M.2.1 D (s + 15) 20 v.2.2 ) rfl rfl ⟨Nat.le_of_ble_eq_true rfl, Nat.le_of_ble_eq_true rfl⟩ ⟨Nat.le_of_ble_eq_true rfl, Nat.le_of_ble_eq_true rfl⟩ rfl rfl (Nat.le_of_ble_eq_true rfl) ak.1 rfl rfl ak fr_none' (x_rd (fun v_1 hv_1 => ?_))
  obtain rfl := hv_1
  show X _ _ _ _ _ _ _ _ _ [zV ((v.2.2.length : Int))] _
  refine x_if_le (tgt := 14) ho d_ST_hasPiece_7 (by decide) (by omega) (fun c_7 => ?_) (fun c_7 => ?_)
  ·
    refine x_iconst ho d_ST_hasPiece_14 ?_
    refine x_zret ho hr (Or.inl rfl) d_ST_hasPiece_15 ?_
    exact rF (by omega)
  ·
    refine x_iconst ho d_ST_hasPiece_10 ?_
    refine x_goto (tgt := 15) ho d_ST_hasPiece_11 (by decide) ?_
    refine x_zret ho hr (Or.inr rfl) d_ST_hasPiece_15 ?_
    exact rT (by omega)
def q_ST_become (D : GG) (s : Nat) (v : SV) (t : Nat) (u : SV) : Option Value → Heap → Prop := fun v0 H => v0 = none ∧ isS D H s u ∧ isS D H t u
theorem yv_ST_become : Yv y_ST_become b_ST_become 2 (Option.none : Option FieldType) 1 := ⟨g_354, g_52, by decide, by decide +kernel⟩
set_option maxHeartbeats 4000000 in
set_option maxRecDepth 100000 in
theorem c_ST_become (l0 : Launch) (D : GG) (s : Nat) (v : SV) (t : Nat) (u : SV) (hd : s + 17 ≤ t ∨ t + 17 ≤ s) : Ct l0 D y_ST_become b_ST_become 2 (Option.none : Option FieldType) ({ frames := 3, cells := 0, slots := 0, locals := 104 } : Room) [.ref s, .ref t] (fun H => isS D H s v ∧ isS D H t u) (rA s (s + 17)) 0 0 (q_ST_become D s v t u) := by
  refine Ct.of (L := [(0, .ref s), (1, .ref t)]) (by decide) (Nat.le_of_ble_eq_true rfl) rfl (fun M H ho hr hnm hH hpre => ?_)
  obtain ⟨hS, hT⟩ := hpre
  obtain ⟨ao, ⟨ap, aR⟩, aw, ak⟩ := id hS
  obtain ⟨bo, ⟨bp, bR⟩, bw, bk⟩ := id hT
  have hwb := bw.b
  have hkb := bk.b
  refine x_aload_n ho 0 d_ST_become_0 rfl ?_
  refine x_get 0 ho d_ST_become_1 cl_ST (by decide) g_119 ao rfl ?_
  refine x_aload_n ho 1 d_ST_become_4 rfl ?_
  refine x_get 0 ho d_ST_become_5 cl_ST (by decide) g_119 bo rfl ?_
  refine x_callV (rest := []) ho d_ST_become_8 yv_RU_become g_288 g_289 g_355 (c_RU_become M.2.1 D (s + 1) ap v.1 (t + 1) bp u.1 (by omega)) rfl rfl ⟨Nat.le_of_ble_eq_true rfl, Nat.le_of_ble_eq_true rfl⟩ ⟨Nat.le_of_ble_eq_true rfl, Nat.le_of_ble_eq_true rfl⟩ rfl rfl (Nat.le_of_ble_eq_true rfl) aR.1 rfl rfl ⟨aR, bR⟩ (rA_sub (by omega) (by omega)) (fun v_1 H_3 hv_1 f_2 => ?_)
  have k_4 := ao.kept (f_2.2 _ ao.lt (rA_no (by omega)))
  have k_5 := aw.kept (fun q g1 g2 => f_2.2 q (by have := aw.lt; omega) (rA_no (by omega)))
  have k_6 := ak.kept (fun q g1 g2 => f_2.2 q (by have := ak.lt; omega) (rA_no (by omega)))
  have k_7 := bo.kept (f_2.2 _ bo.lt (rA_no (by omega)))
  have k_8 := bw.kept (fun q g1 g2 => f_2.2 q (by have := bw.lt; omega) (rA_no (by omega)))
  have k_9 := bk.kept (fun q g1 g2 => f_2.2 q (by have := bk.lt; omega) (rA_no (by omega)))
  obtain ⟨rfl, hR_10, hS_11⟩ := hv_1
  show X _ _ _ _ _ _ _ _ _ [] _
  refine x_aload_n ho 0 d_ST_become_11 rfl ?_
  refine x_get 1 ho d_ST_become_12 cl_ST (by decide) g_121 k_4 rfl ?_
  refine x_aload_n ho 1 d_ST_become_15 rfl ?_
  refine x_get 1 ho d_ST_become_16 cl_ST (by decide) g_121 k_7 rfl ?_
  refine x_callV (rest := []) ho d_ST_become_19 yv_LE_become g_296 g_297 g_356 (c_LE_become M.2.1 D (s + 13) 300 v.2.1 (t + 13) 300 u.2.1 (by omega) (by omega)) rfl rfl ⟨Nat.le_of_ble_eq_true rfl, Nat.le_of_ble_eq_true rfl⟩ ⟨Nat.le_of_ble_eq_true rfl, Nat.le_of_ble_eq_true rfl⟩ rfl rfl (Nat.le_of_ble_eq_true rfl) k_5.1 rfl rfl ⟨k_5, k_8⟩ (rA_sub (by omega) (by omega)) (fun v_12 H_14 hv_12 f_13 => ?_)
  have k_15 := k_4.kept (f_13.2 _ k_4.lt (rA_no (by omega)))
  have k_16 := k_6.kept (fun q g1 g2 => f_13.2 q (by have := k_6.lt; omega) (rA_no (by omega)))
  have k_17 := k_7.kept (f_13.2 _ k_7.lt (rA_no (by omega)))
  have k_18 := k_9.kept (fun q g1 g2 => f_13.2 q (by have := k_9.lt; omega) (rA_no (by omega)))
  have k_19 := hR_10.kept (fun q g1 g2 => f_13.2 q (by have := hR_10.lt; omega) (rA_no (by omega)))
  have k_20 := hS_11.kept (fun q g1 g2 => f_13.2 q (by have := hS_11.lt; omega) (rA_no (by omega)))
  obtain ⟨rfl, hL_21, hK_22⟩ := hv_12
  show X _ _ _ _ _ _ _ _ _ [] _
  refine x_aload_n ho 0 d_ST_become_22 rfl ?_
  refine x_get 2 ho d_ST_become_23 cl_ST (by decide) g_123 k_15 rfl ?_
  refine x_aload_n ho 1 d_ST_become_26 rfl ?_
  refine x_get 2 ho d_ST_become_27 cl_ST (by decide) g_123 k_17 rfl ?_
  refine x_callV (rest := []) ho d_ST_become_30 yv_LE_become g_296 g_297 g_356 (c_LE_become M.2.1 D (s + 15) 20 v.2.2 (t + 15) 20 u.2.2 (by omega) (by omega)) rfl rfl ⟨Nat.le_of_ble_eq_true rfl, Nat.le_of_ble_eq_true rfl⟩ ⟨Nat.le_of_ble_eq_true rfl, Nat.le_of_ble_eq_true rfl⟩ rfl rfl (Nat.le_of_ble_eq_true rfl) k_16.1 rfl rfl ⟨k_16, k_18⟩ (rA_sub (by omega) (by omega)) (fun v_23 H_25 hv_23 f_24 => ?_)
  have k_26 := k_15.kept (f_24.2 _ k_15.lt (rA_no (by omega)))
  have k_27 := k_17.kept (f_24.2 _ k_17.lt (rA_no (by omega)))
  have k_28 := k_19.kept (fun q g1 g2 => f_24.2 q (by have := k_19.lt; omega) (rA_no (by omega)))
  have k_29 := k_20.kept (fun q g1 g2 => f_24.2 q (by have := k_20.lt; omega) (rA_no (by omega)))
  have k_30 := hL_21.kept (fun q g1 g2 => f_24.2 q (by have := hL_21.lt; omega) (rA_no (by omega)))
  have k_31 := hK_22.kept (fun q g1 g2 => f_24.2 q (by have := hK_22.lt; omega) (rA_no (by omega)))
  obtain ⟨rfl, hL_32, hK_33⟩ := hv_23
  show X _ _ _ _ _ _ _ _ _ [] _
  refine x_vret ho hr d_ST_become_33 ?_
  exact ⟨rfl, ⟨k_26, ⟨_, k_28⟩, k_30, hL_32⟩, ⟨k_27, ⟨_, k_29⟩, k_31, hK_33⟩⟩
def q_HI_held (D : GG) (h : Nat) (l : List SV) : Option Value → Heap → Prop := fun v0 H => v0 = some (zV ((l.length : Int))) ∧ (0 ≤ (l.length : Int) ∧ (l.length : Int) ≤ 4)
theorem yv_HI_held : Yv y_HI_held b_HI_held 1 (Option.some FieldType.int) 0 := ⟨g_531, g_56, by decide, by decide +kernel⟩
set_option maxHeartbeats 4000000 in
set_option maxRecDepth 100000 in
theorem c_HI_held (l0 : Launch) (D : GG) (h : Nat) (l : List SV)  : Ct l0 D y_HI_held b_HI_held 1 (Option.some FieldType.int) ({ frames := 0, cells := 0, slots := 0, locals := 0 } : Room) [.ref h] (fun H => isHL D H h l) nA 0 0 (q_HI_held D h l) := by
  refine Ct.of (L := [(0, .ref h)]) (by decide) (Nat.le_of_ble_eq_true rfl) rfl (fun M H ho hr hnm hH hpre => ?_)
  have hX := hpre
  obtain ⟨hn, q, f, ⟨h_o, h_a, h_q⟩, h_f⟩ := id hX
  refine x_aload_n ho 0 d_HI_held_0 rfl ?_
  refine x_get 1 ho d_HI_held_1 cl_HI (by decide) g_141 h_o rfl ?_
  refine x_iret ho hr d_HI_held_4 ?_
  exact ⟨rfl, (by omega)⟩
def q_HI_dropOldest (D : GG) (h : Nat) (q : Int → Nat) (f : Int → SV) (n : Int) : Option Value → Heap → Prop := fun v0 H => v0 = none ∧ isH D H h (fun i => q (rotS i)) (fun i => f (rotS i)) 3
theorem yv_HI_dropOldest : Yv y_HI_dropOldest b_HI_dropOldest 3 (Option.none : Option FieldType) 0 := ⟨g_350, g_56, by decide, by decide +kernel⟩
set_option maxHeartbeats 4000000 in
set_option maxRecDepth 100000 in
theorem c_HI_dropOldest (l0 : Launch) (D : GG) (h : Nat) (q : Int → Nat) (f : Int → SV) (n : Int)  : Ct l0 D y_HI_dropOldest b_HI_dropOldest 3 (Option.none : Option FieldType) ({ frames := 0, cells := 0, slots := 0, locals := 0 } : Room) [.ref h] (fun H => isH D H h q f n) (rA h (h + 70)) 0 0 (q_HI_dropOldest D h q f n) := by
  refine Ct.of (L := [(0, .ref h)]) (by decide) (Nat.le_of_ble_eq_true rfl) rfl (fun M H ho hr hnm hH hpre => ?_)
  have hH1 := hpre
  obtain ⟨h_o, h_a, h_q⟩ := id hH1
  refine x_aload_n ho 0 d_HI_dropOldest_0 rfl ?_
  refine x_get 0 ho d_HI_dropOldest_1 cl_HI (by decide) g_140 h_o rfl ?_
  refine x_iconst ho d_HI_dropOldest_4 ?_
  refine x_aald (b := q 0) ho d_HI_dropOldest_5 h_a rfl (by omega) (by omega) (by omega) (by rfl) ?_
  refine x_astore_n (L' := [(1, .ref (q 0)), (0, .ref h)]) ho d_HI_dropOldest_6 (by decide) rfl ?_
  refine x_iconst ho d_HI_dropOldest_7 ?_
  refine x_istore_n (L' := [(2, zV 1), (1, .ref (q 0)), (0, .ref h)]) ho d_HI_dropOldest_8 (by decide) rfl ?_
  have loop_9 : ∀ (kk : Nat) (i : Int) (g : Int → Option Nat) (H_1 : Heap) (k_o : At D H_1 h (oO 1 [.ref (h + 1), zV n])) (k_a : At D H_1 (h + 1) (oR D 4 4 g)) (k_q : isQ D H_1 h q f) (i0 : 1 ≤ i ∧ i ≤ 4) (hg : ∀ j : Int, 0 ≤ j → j < 4 → g j = some (q (if j < i - 1 then j + 1 else j))), (4 - i).toNat < kk → X M ({ frames := 0, cells := 0, slots := 0, locals := 0 } : Room) 3 (rA h (h + 70)) 0 0 (Qof M (rA h (h + 70)) (q_HI_dropOldest D h q f n) 0 0) 9 [(2, zV i), (1, .ref (q 0)), (0, .ref h)] [] H_1 := by
    intro kk
    induction kk with
    | zero => intro i g H_1 k_o k_a k_q i0 hg hk; exact absurd hk (Nat.not_lt_zero _)
    | succ kk ih_9 =>
      intro i g H_1 k_o k_a k_q i0 hg hk_9
      refine x_iload_n ho 0 d_HI_dropOldest_9 rfl ?_
      refine x_iconst ho d_HI_dropOldest_10 ?_
      refine x_icmp_ge (tgt := 34) ho d_HI_dropOldest_11 (by decide) (by omega) (by omega) (fun c_11 => ?_) (fun c_11 => ?_)
      ·
        refine x_aload_n ho 2 d_HI_dropOldest_34 rfl ?_
        have hs_2 : isS D H_1 (q 0) (f 0) := (k_q).1 0 (by omega) (by omega)
        refine x_get 0 ho d_HI_dropOldest_35 cl_HI (by decide) g_140 k_o rfl ?_
        refine x_iconst ho d_HI_dropOldest_38 ?_
        refine x_aload_n ho 1 d_HI_dropOldest_39 rfl ?_
        have hb := k_q.2.1 0 (by omega) (by omega)
        refine x_aast ho d_HI_dropOldest_40 k_a rfl hs_2.1 rfl (by omega) (by omega) (by omega) (rA_in (by omega) (by omega)) (fun H_3 p_4 z_5 q_6 => ?_)
        have k_7 := k_o.kept (q_6 _ (by omega))
        have k_8 := k_q.kept (fun q g1 g2 => q_6 q (by omega))
        have k_9 := hs_2.kept (fun q g1 g2 => q_6 q (by omega))
        refine x_aload_n ho 2 d_HI_dropOldest_41 rfl ?_
        refine x_iconst ho d_HI_dropOldest_42 ?_
        refine x_put 1 ho d_HI_dropOldest_43 cl_HI (by decide) g_141 k_7 rfl rfl rfl (Nat.le_of_ble_eq_true rfl) (rA_in (by omega) (by omega)) (fun H_10 p_11 z_12 q_13 => ?_)
        have k_14 := k_8.kept (fun q g1 g2 => q_13 q (by omega))
        have k_15 := k_9.kept (fun q g1 g2 => q_13 q (by omega))
        have k_16 := p_4.kept (q_13 _ (by omega))
        refine x_vret ho hr d_HI_dropOldest_46 ?_
        refine ⟨rfl, p_11, ?_, isQ_rot k_14⟩
        have e : zU g 3 (some (q 0)) = fun i => if 0 ≤ i ∧ i < 4 then some (q (rotS i)) else g i := by
          funext j
          by_cases h : j = 3
          · subst h; rw [zU_s, if_pos (by omega)]; rfl
          · rw [zU_n _ _ h]
            by_cases h2 : 0 ≤ j ∧ j < 4
            · rw [if_pos h2, hg j h2.1 h2.2, if_pos (by omega)]; unfold rotS; rw [if_neg h]
            · rw [if_neg h2]
        have h9 := k_16
        rw [e] at h9
        exact at_q4 h9 (fun j h0 h1 => if_pos ⟨h0, h1⟩)
      ·
        refine x_aload_n ho 2 d_HI_dropOldest_14 rfl ?_
        refine x_get 0 ho d_HI_dropOldest_15 cl_HI (by decide) g_140 k_o rfl ?_
        refine x_iload_n ho 0 d_HI_dropOldest_18 rfl ?_
        refine x_iconst ho d_HI_dropOldest_19 ?_
        refine x_isub ho d_HI_dropOldest_20 ?_
        refine x_aload_n ho 2 d_HI_dropOldest_21 rfl ?_
        refine x_get 0 ho d_HI_dropOldest_22 cl_HI (by decide) g_140 k_o rfl ?_
        refine x_iload_n ho 0 d_HI_dropOldest_25 rfl ?_
        refine x_aald (b := q i) ho d_HI_dropOldest_26 k_a rfl (by omega) (by omega) (by omega) (by rw [hg i (by omega) (by omega), if_neg (by omega)]) ?_
        have hs_17 : isS D H_1 (q i) (f i) := (k_q).1 i (by omega) (by omega)
        have hb := k_q.2.1 i (by omega) (by omega)
        refine x_aast ho d_HI_dropOldest_27 k_a rfl hs_17.1 rfl (by omega) (by omega) (by omega) (rA_in (by omega) (by omega)) (fun H_18 p_19 z_20 q_21 => ?_)
        have k_22 := k_o.kept (q_21 _ (by omega))
        have k_23 := k_q.kept (fun q g1 g2 => q_21 q (by omega))
        have k_24 := hs_17.kept (fun q g1 g2 => q_21 q (by omega))
        refine x_iinc (L' := [(2, zV (i + 1)), (1, .ref (q 0)), (0, .ref h)]) ho 0 d_HI_dropOldest_28 rfl rfl (by decide) rfl ?_
        refine x_goto (tgt := 9) ho d_HI_dropOldest_31 (by decide) ?_
        exact ih_9 (i + 1) (zU g (i - 1) (some (q i))) H_18 k_22 p_19 k_23 (by omega) (by
            intro j h0 h1
            by_cases h : j = i - 1
            · subst h; rw [zU_s, if_pos (by omega)]; congr 2; omega
            · rw [zU_n _ _ h, hg j h0 h1]
              by_cases h2 : j < i - 1
              · rw [if_pos h2, if_pos (by omega)]
              · rw [if_neg h2, if_neg (by omega)]) (by omega)
  exact loop_9 _ 1 (fun i => some (q i)) H h_o h_a h_q (by omega) (by intro j h0 h1; rw [if_neg (by omega)]) (Nat.lt_succ_self _)
def q_HI_record (D : GG) (h : Nat) (l : List SV) (s : Nat) (v : SV) : Option Value → Heap → Prop := fun v0 H => v0 = none ∧ isHL D H h (recH l v) ∧ isS D H s v
theorem yv_HI_record : Yv y_HI_record b_HI_record 2 (Option.none : Option FieldType) 1 := ⟨g_347, g_56, by decide, by decide +kernel⟩
set_option maxHeartbeats 4000000 in
set_option maxRecDepth 100000 in
theorem c_HI_record (l0 : Launch) (D : GG) (h : Nat) (l : List SV) (s : Nat) (v : SV) (hd : h + 70 ≤ s ∨ s + 17 ≤ h) : Ct l0 D y_HI_record b_HI_record 2 (Option.none : Option FieldType) ({ frames := 4, cells := 0, slots := 0, locals := 125 } : Room) [.ref h, .ref s] (fun H => isHL D H h l ∧ isS D H s v) (rA h (h + 70)) 0 0 (q_HI_record D h l s v) := by
  refine Ct.of (L := [(0, .ref h), (1, .ref s)]) (by decide) (Nat.le_of_ble_eq_true rfl) rfl (fun M H ho hr hnm hH hpre => ?_)
  obtain ⟨hX, hS⟩ := hpre
  obtain ⟨hn, q, f, hH1, h_f⟩ := id hX
  refine x_aload_n ho 0 d_HI_record_0 rfl ?_
  refine x_get 1 ho d_HI_record_1 cl_HI (by decide) g_141 hH1.1 rfl ?_
  refine x_iconst ho d_HI_record_4 ?_
  refine x_icmp_lt (tgt := 12) ho d_HI_record_5 (by decide) (by omega) (by omega) (fun c_5 => ?_) (fun c_5 => ?_)
  ·
    obtain ⟨h_o, h_a, h_q⟩ := id hH1
    have hs1 := h_q.1 ((l.length : Int)) (by omega) (by omega)
    have hb := h_q.2.1 ((l.length : Int)) (by omega) (by omega)
    refine x_aload_n ho 0 d_HI_record_12 rfl ?_
    refine x_get 0 ho d_HI_record_13 cl_HI (by decide) g_140 h_o rfl ?_
    refine x_aload_n ho 0 d_HI_record_16 rfl ?_
    refine x_get 1 ho d_HI_record_17 cl_HI (by decide) g_141 h_o rfl ?_
    refine x_aald (b := q ((l.length : Int))) ho d_HI_record_20 h_a rfl (by omega) (by omega) (by omega) (by rfl) ?_
    refine x_aload_n ho 1 d_HI_record_21 rfl ?_
    refine x_callV (rest := []) ho d_HI_record_22 yv_ST_become g_352 g_353 g_351 (c_ST_become M.2.1 D (q ((l.length : Int))) (f ((l.length : Int))) s v (by omega)) rfl rfl ⟨Nat.le_of_ble_eq_true rfl, Nat.le_of_ble_eq_true rfl⟩ ⟨Nat.le_of_ble_eq_true rfl, Nat.le_of_ble_eq_true rfl⟩ rfl rfl (Nat.le_of_ble_eq_true rfl) hs1.1 rfl rfl ⟨hs1, hS⟩ (rA_sub (by omega) (by omega)) (fun v_1 H_3 hv_1 f_2 => ?_)
    have k_4 := h_o.kept (f_2.2 _ h_o.lt (rA_no (by omega)))
    have k_5 := h_a.kept (f_2.2 _ h_a.lt (rA_no (by omega)))
    obtain ⟨rfl, hS_6, hT_7⟩ := hv_1
    have r_8 : isQ D H_3 h q (zU f ((l.length : Int)) v) := isQ_set h_q (by omega) (by omega) hS_6 f_2
    show X _ _ _ _ _ _ _ _ _ [] _
    refine x_aload_n ho 0 d_HI_record_25 rfl ?_
    refine x_dup ho d_HI_record_26 rfl ?_
    refine x_get 1 ho d_HI_record_27 cl_HI (by decide) g_141 k_4 rfl ?_
    refine x_iconst ho d_HI_record_30 ?_
    refine x_iadd ho d_HI_record_31 ?_
    refine x_put 1 ho d_HI_record_32 cl_HI (by decide) g_141 k_4 rfl rfl rfl (Nat.le_of_ble_eq_true rfl) (rA_in (by omega) (by omega)) (fun H_9 p_10 z_11 q_12 => ?_)
    have k_13 := k_5.kept (q_12 _ (by omega))
    have k_14 := hT_7.kept (fun q g1 g2 => q_12 q (by omega))
    have k_15 := r_8.kept (fun q g1 g2 => q_12 q (by omega))
    refine x_vret ho hr d_HI_record_35 ?_
    have e : recH l v = l ++ [v] := if_pos (by omega)
    have e2 : ((l ++ [v]).length : Int) = (l.length : Int) + 1 := by simp
    refine ⟨rfl, ?_, k_14⟩
    rw [e]
    refine ⟨by rw [List.length_append]; simp; omega, _, _, ⟨by rw [e2]; exact p_10, k_13, k_15⟩, fun j h0 h1 => ?_⟩
    by_cases hj : j = (l.length : Int)
    · subst hj; rw [zU_s, gH_snoc]
    · rw [zU_n _ _ hj, gH_app1 h0 (by omega)]; exact h_f j h0 (by omega)
  ·
    refine x_aload_n ho 0 d_HI_record_8 rfl ?_
    refine x_callV (rest := []) ho d_HI_record_9 yv_HI_dropOldest g_349 g_3 g_348 (c_HI_dropOldest M.2.1 D h q f ((l.length : Int)) ) rfl rfl ⟨Nat.le_of_ble_eq_true rfl, Nat.le_of_ble_eq_true rfl⟩ ⟨Nat.le_of_ble_eq_true rfl, Nat.le_of_ble_eq_true rfl⟩ rfl rfl (Nat.le_of_ble_eq_true rfl) hH1.1 rfl rfl hH1 (rA_sub (by omega) (by omega)) (fun v_16 H_18 hv_16 f_17 => ?_)
    have k_19 := hS.kept (fun q g1 g2 => f_17.2 q (by have := hS.lt; omega) (rA_no (by omega)))
    obtain ⟨rfl, hH1_20⟩ := hv_16
    show X _ _ _ _ _ _ _ _ _ [] _
    obtain ⟨h_o, h_a, h_q⟩ := id hH1_20
    have hs1 : isS D _ (q (rotS 3)) (f (rotS 3)) := h_q.1 3 (by omega) (by omega)
    have hb : h + 2 ≤ q (rotS 3) ∧ q (rotS 3) + 17 ≤ h + 70 := h_q.2.1 3 (by omega) (by omega)
    refine x_aload_n ho 0 d_HI_record_12 rfl ?_
    refine x_get 0 ho d_HI_record_13 cl_HI (by decide) g_140 h_o rfl ?_
    refine x_aload_n ho 0 d_HI_record_16 rfl ?_
    refine x_get 1 ho d_HI_record_17 cl_HI (by decide) g_141 h_o rfl ?_
    refine x_aald (b := q (rotS 3)) ho d_HI_record_20 h_a rfl (by omega) (by omega) (by omega) (by rfl) ?_
    refine x_aload_n ho 1 d_HI_record_21 rfl ?_
    refine x_callV (rest := []) ho d_HI_record_22 yv_ST_become g_352 g_353 g_351 (c_ST_become M.2.1 D (q (rotS 3)) (f (rotS 3)) s v (by omega)) rfl rfl ⟨Nat.le_of_ble_eq_true rfl, Nat.le_of_ble_eq_true rfl⟩ ⟨Nat.le_of_ble_eq_true rfl, Nat.le_of_ble_eq_true rfl⟩ rfl rfl (Nat.le_of_ble_eq_true rfl) hs1.1 rfl rfl ⟨hs1, k_19⟩ (rA_sub (by omega) (by omega)) (fun v_21 H_23 hv_21 f_22 => ?_)
    have k_24 := h_o.kept (f_22.2 _ h_o.lt (rA_no (by omega)))
    have k_25 := h_a.kept (f_22.2 _ h_a.lt (rA_no (by omega)))
    obtain ⟨rfl, hS_26, hT_27⟩ := hv_21
    have r_28 : isQ D H_23 h (fun i => q (rotS i)) (zU (fun i => f (rotS i)) 3 v) := isQ_set h_q (by omega) (by omega) hS_26 f_22
    show X _ _ _ _ _ _ _ _ _ [] _
    refine x_aload_n ho 0 d_HI_record_25 rfl ?_
    refine x_dup ho d_HI_record_26 rfl ?_
    refine x_get 1 ho d_HI_record_27 cl_HI (by decide) g_141 k_24 rfl ?_
    refine x_iconst ho d_HI_record_30 ?_
    refine x_iadd ho d_HI_record_31 ?_
    refine x_put 1 ho d_HI_record_32 cl_HI (by decide) g_141 k_24 rfl rfl rfl (Nat.le_of_ble_eq_true rfl) (rA_in (by omega) (by omega)) (fun H_29 p_30 z_31 q_32 => ?_)
    have k_33 := k_25.kept (q_32 _ (by omega))
    have k_34 := hT_27.kept (fun q g1 g2 => q_32 q (by omega))
    have k_35 := r_28.kept (fun q g1 g2 => q_32 q (by omega))
    refine x_vret ho hr d_HI_record_35 ?_
    have e : recH l v = l.drop 1 ++ [v] := if_neg (by omega)
    have e1 : ((l.drop 1).length : Int) = 3 := by rw [List.length_drop]; omega
    have e2 : ((l.drop 1 ++ [v]).length : Int) = 3 + 1 := by rw [List.length_append]; simp; omega
    refine ⟨rfl, ?_, k_34⟩
    rw [e]
    refine ⟨by omega, _, _, ⟨by rw [e2]; exact p_30, k_33, k_35⟩, fun j h0 h1 => ?_⟩
    by_cases hj : j = 3
    · subst hj; rw [zU_s, show (3 : Int) = ((l.drop 1).length : Int) from e1.symm, gH_snoc]
    · rw [zU_n _ _ hj, gH_app1 h0 (by omega), gH_drop h0]
      show f (rotS j) = _
      unfold rotS; rw [if_neg hj]; exact h_f (j + 1) (by omega) (by omega)
def q_HI_takeBack (D : GG) (h : Nat) (l : List SV) (s : Nat) (v : SV) : Option Value → Heap → Prop := fun v0 H => (v0 = some (zV 0) ∧ l = [] ∧ isHL D H h l ∧ isS D H s v) ∨ (v0 = some (zV 1) ∧ l ≠ [] ∧ isHL D H h l.dropLast ∧ isS D H s (gH l ((l.length : Int) - 1)))
theorem yv_HI_takeBack : Yv y_HI_takeBack b_HI_takeBack 2 (Option.some FieldType.boolean) 1 := ⟨g_527, g_56, by decide, by decide +kernel⟩
set_option maxHeartbeats 4000000 in
set_option maxRecDepth 100000 in
theorem c_HI_takeBack (l0 : Launch) (D : GG) (h : Nat) (l : List SV) (s : Nat) (v : SV) (hd : h + 70 ≤ s ∨ s + 17 ≤ h) : Ct l0 D y_HI_takeBack b_HI_takeBack 2 (Option.some FieldType.boolean) ({ frames := 4, cells := 0, slots := 0, locals := 125 } : Room) [.ref h, .ref s] (fun H => isHL D H h l ∧ isS D H s v) (fun z => rA h (h + 70) z ∨ rA s (s + 17) z) 0 0 (q_HI_takeBack D h l s v) := by
  refine Ct.of (L := [(0, .ref h), (1, .ref s)]) (by decide) (Nat.le_of_ble_eq_true rfl) rfl (fun M H ho hr hnm hH hpre => ?_)
  obtain ⟨hX, hS⟩ := hpre
  obtain ⟨hn, q, f, ⟨h_o, h_a, h_q⟩, h_f⟩ := id hX
  refine x_aload_n ho 0 d_HI_takeBack_0 rfl ?_
  refine x_get 1 ho d_HI_takeBack_1 cl_HI (by decide) g_141 h_o rfl ?_
  refine x_iconst ho d_HI_takeBack_4 ?_
  refine x_icmp_ge (tgt := 10) ho d_HI_takeBack_5 (by decide) (by omega) (by omega) (fun c_5 => ?_) (fun c_5 => ?_)
  ·
    refine x_aload_n ho 0 d_HI_takeBack_10 rfl ?_
    refine x_dup ho d_HI_takeBack_11 rfl ?_
    refine x_get 1 ho d_HI_takeBack_12 cl_HI (by decide) g_141 h_o rfl ?_
    refine x_iconst ho d_HI_takeBack_15 ?_
    refine x_isub ho d_HI_takeBack_16 ?_
    refine x_put 1 ho d_HI_takeBack_17 cl_HI (by decide) g_141 h_o rfl rfl rfl (Nat.le_of_ble_eq_true rfl) (Or.inl (rA_in (by omega) (by omega))) (fun H_1 p_2 z_3 q_4 => ?_)
    have k_5 := hS.kept (fun q g1 g2 => q_4 q (by omega))
    have k_6 := h_a.kept (q_4 _ (by omega))
    have k_7 := h_q.kept (fun q g1 g2 => q_4 q (by omega))
    refine x_aload_n ho 1 d_HI_takeBack_20 rfl ?_
    refine x_aload_n ho 0 d_HI_takeBack_21 rfl ?_
    refine x_get 0 ho d_HI_takeBack_22 cl_HI (by decide) g_140 p_2 rfl ?_
    refine x_aload_n ho 0 d_HI_takeBack_25 rfl ?_
    refine x_get 1 ho d_HI_takeBack_26 cl_HI (by decide) g_141 p_2 rfl ?_
    refine x_aald (b := q ((l.length : Int) - 1)) ho d_HI_takeBack_29 k_6 rfl (by omega) (by omega) (by omega) (by rfl) ?_
    have hs_8 : isS D H_1 (q ((l.length : Int) - 1)) (f ((l.length : Int) - 1)) := (k_7).1 _ (by omega) (by omega)
    have hb := h_q.2.1 ((l.length : Int) - 1) (by omega) (by omega)
    refine x_callV (rest := []) ho d_HI_takeBack_30 yv_ST_become g_352 g_353 g_351 (c_ST_become M.2.1 D s v (q ((l.length : Int) - 1)) (f ((l.length : Int) - 1)) (by omega)) rfl rfl ⟨Nat.le_of_ble_eq_true rfl, Nat.le_of_ble_eq_true rfl⟩ ⟨Nat.le_of_ble_eq_true rfl, Nat.le_of_ble_eq_true rfl⟩ rfl rfl (Nat.le_of_ble_eq_true rfl) k_5.1 rfl rfl ⟨k_5, hs_8⟩ (fun z hz => Or.inr hz) (fun v_9 H_11 hv_9 f_10 => ?_)
    have k_12 := k_6.kept (f_10.2 _ k_6.lt (rA_no (by omega)))
    have k_13 := k_7.kept (fun q g1 g2 => f_10.2 q (by have := k_7.lt; omega) (rA_no (by omega)))
    have k_14 := p_2.kept (f_10.2 _ p_2.lt (rA_no (by omega)))
    obtain ⟨rfl, hS_15, hT_16⟩ := hv_9
    show X _ _ _ _ _ _ _ _ _ [] _
    refine x_iconst ho d_HI_takeBack_33 ?_
    refine x_zret ho hr (Or.inr rfl) d_HI_takeBack_34 ?_
    have hne : l ≠ [] := fun e => by subst e; simp at c_5
    have e2 : (l.dropLast.length : Int) = (l.length : Int) - 1 := by rw [List.length_dropLast]; omega
    refine Or.inr ⟨rfl, hne, ⟨by omega, _, _, ⟨by rw [e2]; exact k_14, k_12, k_13⟩, fun j h0 h1 => ?_⟩, by rw [← h_f _ (by omega) (by omega)]; exact hS_15⟩
    rw [gH_dropLast h0 (by omega)]
    exact h_f j h0 (by omega)
  ·
    refine x_iconst ho d_HI_takeBack_8 ?_
    refine x_zret ho hr (Or.inl rfl) d_HI_takeBack_9 ?_
    exact Or.inl ⟨rfl, List.eq_nil_of_length_eq_zero (by omega), hX, hS⟩
end
section
def q_TX_length (D : GG) (t : Nat) (L : List Int) : Option Value → Heap → Prop := fun v0 H => v0 = some (zV ((L.length : Int))) ∧ L.length ≤ 60
theorem yv_TX_length : Yv y_TX_length b_TX_length 1 (Option.some FieldType.int) 0 := ⟨g_511, g_57, by decide, by decide +kernel⟩
set_option maxHeartbeats 4000000 in
set_option maxRecDepth 100000 in
theorem c_TX_length (l0 : Launch) (D : GG) (t : Nat) (L : List Int)  : Ct l0 D y_TX_length b_TX_length 1 (Option.some FieldType.int) ({ frames := 0, cells := 0, slots := 0, locals := 0 } : Room) [.ref t] (fun H => isT D H t L) nA 0 0 (q_TX_length D t L) := by
  refine Ct.of (L := [(0, .ref t)]) (by decide) (Nat.le_of_ble_eq_true rfl) rfl (fun M H ho hr hnm hH hpre => ?_)
  have hT := hpre
  refine x_aload_n ho 0 d_TX_length_0 rfl ?_
  refine x_get 1 ho d_TX_length_1 cl_TX (by decide) g_153 hT.1 rfl ?_
  refine x_iret ho hr d_TX_length_4 ?_
  exact ⟨rfl, (by exact hT.b)⟩
def q_TX_clear (D : GG) (t : Nat) (L : List Int) : Option Value → Heap → Prop := fun v0 H => v0 = none ∧ isT D H t ([])
theorem yv_TX_clear : Yv y_TX_clear b_TX_clear 1 (Option.none : Option FieldType) 0 := ⟨g_519, g_57, by decide, by decide +kernel⟩
set_option maxHeartbeats 4000000 in
set_option maxRecDepth 100000 in
theorem c_TX_clear (l0 : Launch) (D : GG) (t : Nat) (L : List Int)  : Ct l0 D y_TX_clear b_TX_clear 1 (Option.none : Option FieldType) ({ frames := 0, cells := 0, slots := 0, locals := 0 } : Room) [.ref t] (fun H => isT D H t L) (rA t (t + 2)) 0 0 (q_TX_clear D t L) := by
  refine Ct.of (L := [(0, .ref t)]) (by decide) (Nat.le_of_ble_eq_true rfl) rfl (fun M H ho hr hnm hH hpre => ?_)
  have hT := hpre
  obtain ⟨h_o, ⟨f, h_a, h_f⟩, h_n, h_w⟩ := id hT
  refine x_aload_n ho 0 d_TX_clear_0 rfl ?_
  refine x_iconst ho d_TX_clear_1 ?_
  refine x_put 1 ho d_TX_clear_2 cl_TX (by decide) g_153 h_o rfl rfl rfl (Nat.le_of_ble_eq_true rfl) (rA_in (by omega) (by omega)) (fun H_1 p_2 z_3 q_4 => ?_)
  have k_5 := h_a.kept (q_4 _ (by omega))
  refine x_vret ho hr d_TX_clear_5 ?_
  exact ⟨rfl, isT_mk p_2 k_5 rfl (fun j h0 h1 => by simp at h1; omega) (Nat.zero_le _) (fun _ h => by cases h)⟩
def q_TX_add (D : GG) (t : Nat) (L : List Int) (x : Int) : Option Value → Heap → Prop := fun v0 H => (v0 = some (zV 1) ∧ (L.length : Int) < 60 ∧ isT D H t (L ++ [x])) ∨ (v0 = some (zV 0) ∧ ¬ (L.length : Int) < 60 ∧ isT D H t L)
theorem yv_TX_add : Yv y_TX_add b_TX_add 2 (Option.some FieldType.boolean) 1 := ⟨g_507, g_57, by decide, by decide +kernel⟩
set_option maxHeartbeats 4000000 in
set_option maxRecDepth 100000 in
theorem c_TX_add (l0 : Launch) (D : GG) (t : Nat) (L : List Int) (x : Int) (hx : 0 ≤ x ∧ x < 65536) : Ct l0 D y_TX_add b_TX_add 2 (Option.some FieldType.boolean) ({ frames := 0, cells := 0, slots := 0, locals := 0 } : Room) [.ref t, zV x] (fun H => isT D H t L) (rA t (t + 2)) 0 0 (q_TX_add D t L x) := by
  refine Ct.of (L := [(0, .ref t), (1, zV x)]) (by decide) (Nat.le_of_ble_eq_true rfl) rfl (fun M H ho hr hnm hH hpre => ?_)
  have hT := hpre
  obtain ⟨h_o, ⟨f, h_a, h_f⟩, h_n, h_w⟩ := id hT
  refine x_aload_n ho 0 d_TX_add_0 rfl ?_
  refine x_get 1 ho d_TX_add_1 cl_TX (by decide) g_153 h_o rfl ?_
  refine x_aload_n ho 0 d_TX_add_4 rfl ?_
  refine x_get 0 ho d_TX_add_5 cl_TX (by decide) g_152 h_o rfl ?_
  refine x_alenC ho d_TX_add_8 h_a ?_
  refine x_icmp_lt (tgt := 14) ho d_TX_add_9 (by decide) (by omega) (by omega) (fun c_9 => ?_) (fun c_9 => ?_)
  ·
    refine x_aload_n ho 0 d_TX_add_14 rfl ?_
    refine x_get 0 ho d_TX_add_15 cl_TX (by decide) g_152 h_o rfl ?_
    refine x_aload_n ho 0 d_TX_add_18 rfl ?_
    refine x_get 1 ho d_TX_add_19 cl_TX (by decide) g_153 h_o rfl ?_
    refine x_iload_n ho 1 d_TX_add_22 rfl ?_
    refine x_cast ho d_TX_add_23 h_a (by omega) (by omega) (by omega) (by exact nar_c hx.1 hx.2) (rA_in (by omega) (by omega)) (fun H_1 p_2 z_3 q_4 => ?_)
    have k_5 := h_o.kept (q_4 _ (by omega))
    refine x_aload_n ho 0 d_TX_add_24 rfl ?_
    refine x_dup ho d_TX_add_25 rfl ?_
    refine x_get 1 ho d_TX_add_26 cl_TX (by decide) g_153 k_5 rfl ?_
    refine x_iconst ho d_TX_add_29 ?_
    refine x_iadd ho d_TX_add_30 ?_
    refine x_put 1 ho d_TX_add_31 cl_TX (by decide) g_153 k_5 rfl rfl rfl (Nat.le_of_ble_eq_true rfl) (rA_in (by omega) (by omega)) (fun H_6 p_7 z_8 q_9 => ?_)
    have k_10 := p_2.kept (q_9 _ (by omega))
    refine x_iconst ho d_TX_add_34 ?_
    refine x_zret ho hr (Or.inr rfl) d_TX_add_35 ?_
    exact Or.inl ⟨rfl, by omega, isT_push p_7 k_10 h_f (by omega) h_w hx.1 hx.2⟩
  ·
    refine x_iconst ho d_TX_add_12 ?_
    refine x_zret ho hr (Or.inl rfl) d_TX_add_13 ?_
    exact Or.inr ⟨rfl, by omega, hT⟩
def q_TX_hasAt (D : GG) (t : Nat) (L : List Int) (z : Int) (x : Int) : Option Value → Heap → Prop := fun v0 H => (v0 = some (zV (bI (0 ≤ z ∧ z < (L.length : Int) ∧ gA L z = x))))
theorem yv_TX_hasAt : Yv y_TX_hasAt b_TX_hasAt 3 (Option.some FieldType.boolean) 2 := ⟨g_319, g_57, by decide, by decide +kernel⟩
set_option maxHeartbeats 4000000 in
set_option maxRecDepth 100000 in
theorem c_TX_hasAt (l0 : Launch) (D : GG) (t : Nat) (L : List Int) (z : Int) (x : Int) (hz : -2147483648 ≤ z ∧ z ≤ 2147483647) (hx : -2147483648 ≤ x ∧ x ≤ 2147483647) : Ct l0 D y_TX_hasAt b_TX_hasAt 3 (Option.some FieldType.boolean) ({ frames := 0, cells := 0, slots := 0, locals := 0 } : Room) [.ref t, zV z, zV x] (fun H => isT D H t L) nA 0 0 (q_TX_hasAt D t L z x) := by
  refine Ct.of (L := [(0, .ref t), (1, zV z), (2, zV x)]) (by decide) (Nat.le_of_ble_eq_true rfl) rfl (fun M H ho hr hnm hH hpre => ?_)
  have hT := hpre
  obtain ⟨h_o, ⟨f, h_a, h_f⟩, h_n, h_w⟩ := id hT
  refine x_iload_n ho 1 d_TX_hasAt_0 rfl ?_
  refine x_if_lt (tgt := 26) ho d_TX_hasAt_1 (by decide) (by omega) (fun c_1 => ?_) (fun c_1 => ?_)
  ·
    refine x_iconst ho d_TX_hasAt_26 ?_
    refine x_zret ho hr (Or.inl rfl) d_TX_hasAt_27 ?_
    exact rF (by omega)
  ·
    refine x_iload_n ho 1 d_TX_hasAt_4 rfl ?_
    refine x_aload_n ho 0 d_TX_hasAt_5 rfl ?_
    refine x_get 1 ho d_TX_hasAt_6 cl_TX (by decide) g_153 h_o rfl ?_
    refine x_icmp_ge (tgt := 26) ho d_TX_hasAt_9 (by decide) (by omega) (by omega) (fun c_9 => ?_) (fun c_9 => ?_)
    ·
      refine x_iconst ho d_TX_hasAt_26 ?_
      refine x_zret ho hr (Or.inl rfl) d_TX_hasAt_27 ?_
      exact rF (by omega)
    ·
      refine x_aload_n ho 0 d_TX_hasAt_12 rfl ?_
      refine x_get 0 ho d_TX_hasAt_13 cl_TX (by decide) g_152 h_o rfl ?_
      refine x_iload_n ho 1 d_TX_hasAt_16 rfl ?_
      refine x_cald ho d_TX_hasAt_17 h_a (by omega) (by omega) (by omega) ?_
      refine x_eqI (b := gA L z) (by exact h_f _ (by omega) (by omega)) ?_
      have hc := gA_c h_w z
      refine x_iload_n ho 2 d_TX_hasAt_18 rfl ?_
      refine x_icmp_ne (tgt := 26) ho d_TX_hasAt_19 (by decide) (by omega) (by omega) (fun c_19 => ?_) (fun c_19 => ?_)
      ·
        refine x_iconst ho d_TX_hasAt_26 ?_
        refine x_zret ho hr (Or.inl rfl) d_TX_hasAt_27 ?_
        exact rF (by omega)
      ·
        refine x_iconst ho d_TX_hasAt_22 ?_
        refine x_goto (tgt := 27) ho d_TX_hasAt_23 (by decide) ?_
        refine x_zret ho hr (Or.inr rfl) d_TX_hasAt_27 ?_
        exact rT (by omega)
def q_TX_letterAt (D : GG) (t : Nat) (L : List Int) (z : Int) : Option Value → Heap → Prop := fun v0 H => v0 = some (zV (tlat L z)) ∧ (-1 ≤ tlat L z ∧ tlat L z < 4)
theorem yv_TX_letterAt : Yv y_TX_letterAt b_TX_letterAt 3 (Option.some FieldType.int) 1 := ⟨g_312, g_57, by decide, by decide +kernel⟩
set_option maxHeartbeats 4000000 in
set_option maxRecDepth 100000 in
theorem c_TX_letterAt (l0 : Launch) (D : GG) (t : Nat) (L : List Int) (z : Int) (hz : -2147483648 ≤ z ∧ z ≤ 2147483647) : Ct l0 D y_TX_letterAt b_TX_letterAt 3 (Option.some FieldType.int) ({ frames := 1, cells := 0, slots := 0, locals := 20 } : Room) [.ref t, zV z] (fun H => isT D H t L) nA 0 0 (q_TX_letterAt D t L z) := by
  refine Ct.of (L := [(0, .ref t), (1, zV z)]) (by decide) (Nat.le_of_ble_eq_true rfl) rfl (fun M H ho hr hnm hH hpre => ?_)
  have hT := hpre
  obtain ⟨h_o, ⟨f, h_a, h_f⟩, h_n, h_w⟩ := id hT
  refine x_iload_n ho 1 d_TX_letterAt_0 rfl ?_
  refine x_if_lt (tgt := 12) ho d_TX_letterAt_1 (by decide) (by omega) (fun c_1 => ?_) (fun c_1 => ?_)
  ·
    refine x_iconst ho d_TX_letterAt_12 ?_
    refine x_iret ho hr d_TX_letterAt_13 ?_
    have e : tlat L z = -1 := if_neg (by omega)
    exact ⟨by rw [e], by omega⟩
  ·
    refine x_iload_n ho 1 d_TX_letterAt_4 rfl ?_
    refine x_aload_n ho 0 d_TX_letterAt_5 rfl ?_
    refine x_get 1 ho d_TX_letterAt_6 cl_TX (by decide) g_153 h_o rfl ?_
    refine x_icmp_lt (tgt := 14) ho d_TX_letterAt_9 (by decide) (by omega) (by omega) (fun c_9 => ?_) (fun c_9 => ?_)
    ·
      refine x_aload_n ho 0 d_TX_letterAt_14 rfl ?_
      refine x_get 0 ho d_TX_letterAt_15 cl_TX (by decide) g_152 h_o rfl ?_
      refine x_iload_n ho 1 d_TX_letterAt_18 rfl ?_
      refine x_cald ho d_TX_letterAt_19 h_a (by omega) (by omega) (by omega) ?_
      refine x_eqI (b := gA L z) (by exact h_f _ (by omega) (by omega)) ?_
      have hc := gA_c h_w z
      have e : tlat L z = ltr (gA L z) := tlat_in (by omega) (by omega)
      have er := ltr_r (gA L z)
      refine x_bipush (z := 97) ho d_TX_letterAt_20 (by decide) ?_
      refine x_isub ho d_TX_letterAt_22 ?_
      refine x_istore_n (L' := [(2, zV ((gA L z) - 97)), (0, .ref t), (1, zV z)]) ho d_TX_letterAt_23 (by decide) rfl ?_
      refine x_iload_n ho 0 d_TX_letterAt_24 rfl ?_
      refine x_callSN (host := "MorphWords") (rest := []) ho d_TX_letterAt_25 yv_MW_isLetter g_107 (List.mem_of_getElem? (i := 8) rfl) (c_MW_isLetter M.2.1 D ((gA L z) - 97) (by omega)) rfl rfl ⟨Nat.le_of_ble_eq_true rfl, Nat.le_of_ble_eq_true rfl⟩ ⟨Nat.le_of_ble_eq_true rfl, Nat.le_of_ble_eq_true rfl⟩ rfl rfl (Nat.le_of_ble_eq_true rfl) trivial fr_none' (x_rd (fun v_1 hv_1 => ?_))
      obtain rfl := hv_1
      show X _ _ _ _ _ _ _ _ _ [zV (bI (0 ≤ ((gA L z) - 97) ∧ ((gA L z) - 97) < 4))] _
      refine x_if_eqB (tgt := 35) ho d_TX_letterAt_28 (by decide) (fun c_28 => ?_) (fun c_28 => ?_)
      ·
        refine x_iconst ho d_TX_letterAt_35 ?_
        refine x_iret ho hr d_TX_letterAt_36 ?_
        have e2 : ltr (gA L z) = -1 := if_neg (by omega)
        exact ⟨by rw [e, e2], by omega⟩
      ·
        refine x_iload_n ho 0 d_TX_letterAt_31 rfl ?_
        refine x_goto (tgt := 36) ho d_TX_letterAt_32 (by decide) ?_
        refine x_iret ho hr d_TX_letterAt_36 ?_
        have e2 : ltr (gA L z) = gA L z - 97 := if_pos (by omega)
        exact ⟨by rw [e, e2], by omega⟩
    ·
      refine x_iconst ho d_TX_letterAt_12 ?_
      refine x_iret ho hr d_TX_letterAt_13 ?_
      have e : tlat L z = -1 := if_neg (by omega)
      exact ⟨by rw [e], by omega⟩
def q_TX_parts (D : GG) (t : Nat) (L : List Int) : Option Value → Heap → Prop := fun v0 H => v0 = some (zV (1 + cn L 59)) ∧ (0 ≤ cn L 59 ∧ cn L 59 ≤ 60)
theorem yv_TX_parts : Yv y_TX_parts b_TX_parts 3 (Option.some FieldType.int) 0 := ⟨g_360, g_57, by decide, by decide +kernel⟩
set_option maxHeartbeats 4000000 in
set_option maxRecDepth 100000 in
theorem c_TX_parts (l0 : Launch) (D : GG) (t : Nat) (L : List Int)  : Ct l0 D y_TX_parts b_TX_parts 3 (Option.some FieldType.int) ({ frames := 1, cells := 0, slots := 0, locals := 22 } : Room) [.ref t] (fun H => isT D H t L) nA 0 0 (q_TX_parts D t L) := by
  refine Ct.of (L := [(0, .ref t)]) (by decide) (Nat.le_of_ble_eq_true rfl) rfl (fun M H ho hr hnm hH hpre => ?_)
  have hT := hpre
  have h_b := hT.b
  refine x_iconst ho d_TX_parts_0 ?_
  refine x_istore_n (L' := [(1, zV 1), (0, .ref t)]) ho d_TX_parts_1 (by decide) rfl ?_
  refine x_iconst ho d_TX_parts_2 ?_
  refine x_istore_n (L' := [(2, zV 0), (1, zV 1), (0, .ref t)]) ho d_TX_parts_3 (by decide) rfl ?_
  have loop_4 : ∀ (kk : Nat) (i : Int) (u : Int) (i0 : 0 ≤ i ∧ i ≤ (L.length : Int)) (hu : u = 1 + cn (tk L i) 59), ((L.length : Int) - i).toNat < kk → X M ({ frames := 1, cells := 0, slots := 0, locals := 22 } : Room) 3 nA 0 0 (Qof M nA (q_TX_parts D t L) 0 0) 4 [(2, zV i), (1, zV u), (0, .ref t)] [] H := by
    intro kk
    induction kk with
    | zero => intro i u i0 hu hk; exact absurd hk (Nat.not_lt_zero _)
    | succ kk ih_4 =>
      intro i u i0 hu hk_4
      refine x_iload_n ho 0 d_TX_parts_4 rfl ?_
      refine x_aload_n ho 2 d_TX_parts_5 rfl ?_
      refine x_get 1 ho d_TX_parts_6 cl_TX (by decide) g_153 hT.1 rfl ?_
      refine x_icmp_ge (tgt := 31) ho d_TX_parts_9 (by decide) (by omega) (by omega) (fun c_9 => ?_) (fun c_9 => ?_)
      ·
        refine x_iload_n ho 1 d_TX_parts_31 rfl ?_
        refine x_iret ho hr d_TX_parts_32 ?_
        rw [tk_all (by omega)] at hu; subst hu; have := cn_r L 59; exact ⟨rfl, by omega⟩
      ·
        refine x_aload_n ho 2 d_TX_parts_12 rfl ?_
        refine x_iload_n ho 0 d_TX_parts_13 rfl ?_
        refine x_bipush (z := 59) ho d_TX_parts_14 (by decide) ?_
        refine x_callV (rest := []) ho d_TX_parts_16 yv_TX_hasAt g_318 g_1 g_317 (c_TX_hasAt M.2.1 D t L i 59 (by omega) (by omega)) rfl rfl ⟨Nat.le_of_ble_eq_true rfl, Nat.le_of_ble_eq_true rfl⟩ ⟨Nat.le_of_ble_eq_true rfl, Nat.le_of_ble_eq_true rfl⟩ rfl rfl (Nat.le_of_ble_eq_true rfl) hT.1 rfl rfl hT fr_none' (x_rd (fun v_1 hv_1 => ?_))
        obtain rfl := hv_1
        show X _ _ _ _ _ _ _ _ _ [zV (bI (0 ≤ i ∧ i < (L.length : Int) ∧ gA L i = 59))] _
        refine x_if_eqB (tgt := 25) ho d_TX_parts_19 (by decide) (fun c_19 => ?_) (fun c_19 => ?_)
        ·
          refine x_iinc (L' := [(2, zV (i + 1)), (1, zV u), (0, .ref t)]) ho 0 d_TX_parts_25 rfl rfl (by decide) rfl ?_
          refine x_goto (tgt := 4) ho d_TX_parts_28 (by decide) ?_
          exact ih_4 (i + 1) u (by omega) (by rw [cn_tk (by omega) (by omega)]; first | (rw [if_pos c_19.2.2]; omega) | (rw [if_neg (fun q => c_19 ⟨by omega, by omega, q⟩)]; omega)) (by omega)
        ·
          refine x_iinc (L' := [(1, zV (u + 1)), (2, zV i), (0, .ref t)]) ho 1 d_TX_parts_22 rfl rfl (by decide) rfl ?_
          refine x_iinc (L' := [(2, zV (i + 1)), (1, zV (u + 1)), (0, .ref t)]) ho 1 d_TX_parts_25 rfl rfl (by decide) rfl ?_
          refine x_goto (tgt := 4) ho d_TX_parts_28 (by decide) ?_
          exact ih_4 (i + 1) (u + 1) (by omega) (by rw [cn_tk (by omega) (by omega)]; first | (rw [if_pos c_19.2.2]; omega) | (rw [if_neg (fun q => c_19 ⟨by omega, by omega, q⟩)]; omega)) (by omega)
  exact loop_4 _ 0 1 (by omega) (by rw [tk_0]; rfl) (Nat.lt_succ_self _)
end
