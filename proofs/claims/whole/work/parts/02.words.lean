abbrev b_GR_init : ByteArray := prog_2_method_1_code
def y_GR_init : MethodName := ⟨"MorphWords$GreatestRun", "<init>", "()V"⟩
abbrev b_GR_find : ByteArray := prog_2_method_2_code
def y_GR_find : MethodName := ⟨"MorphWords$GreatestRun", "find", "(LMorphWords$Letters;)V"⟩
abbrev b_GR_findWithPeriod : ByteArray := prog_2_method_3_code
def y_GR_findWithPeriod : MethodName := ⟨"MorphWords$GreatestRun", "findWithPeriod", "(LMorphWords$Letters;I)V"⟩
abbrev b_GR_period : ByteArray := prog_2_method_4_code
def y_GR_period : MethodName := ⟨"MorphWords$GreatestRun", "period", "()I"⟩
abbrev b_GR_place : ByteArray := prog_2_method_5_code
def y_GR_place : MethodName := ⟨"MorphWords$GreatestRun", "place", "()I"⟩
abbrev b_GR_length : ByteArray := prog_2_method_6_code
def y_GR_length : MethodName := ⟨"MorphWords$GreatestRun", "length", "()I"⟩
abbrev b_HI_init : ByteArray := prog_3_method_1_code
def y_HI_init : MethodName := ⟨"MorphWords$History", "<init>", "()V"⟩
abbrev b_HI_held : ByteArray := prog_3_method_2_code
def y_HI_held : MethodName := ⟨"MorphWords$History", "held", "()I"⟩
abbrev b_HI_record : ByteArray := prog_3_method_3_code
def y_HI_record : MethodName := ⟨"MorphWords$History", "record", "(LMorphWords$State;)V"⟩
abbrev b_HI_dropOldest : ByteArray := prog_3_method_4_code
def y_HI_dropOldest : MethodName := ⟨"MorphWords$History", "dropOldest", "()V"⟩
abbrev b_HI_takeBack : ByteArray := prog_3_method_5_code
def y_HI_takeBack : MethodName := ⟨"MorphWords$History", "takeBack", "(LMorphWords$State;)Z"⟩
abbrev b_LE_init : ByteArray := prog_4_method_1_code
def y_LE_init : MethodName := ⟨"MorphWords$Letters", "<init>", "(I)V"⟩
abbrev b_LE_length : ByteArray := prog_4_method_2_code
def y_LE_length : MethodName := ⟨"MorphWords$Letters", "length", "()I"⟩
abbrev b_LE_letterAt : ByteArray := prog_4_method_3_code
def y_LE_letterAt : MethodName := ⟨"MorphWords$Letters", "letterAt", "(I)I"⟩
abbrev b_LE_clear : ByteArray := prog_4_method_4_code
def y_LE_clear : MethodName := ⟨"MorphWords$Letters", "clear", "()V"⟩
abbrev b_LE_add : ByteArray := prog_4_method_5_code
def y_LE_add : MethodName := ⟨"MorphWords$Letters", "add", "(I)Z"⟩
abbrev b_LE_addAll : ByteArray := prog_4_method_6_code
def y_LE_addAll : MethodName := ⟨"MorphWords$Letters", "addAll", "(LMorphWords$Letters;)Z"⟩
abbrev b_LE_shorten : ByteArray := prog_4_method_7_code
def y_LE_shorten : MethodName := ⟨"MorphWords$Letters", "shorten", "(I)V"⟩
abbrev b_LE_become : ByteArray := prog_4_method_8_code
def y_LE_become : MethodName := ⟨"MorphWords$Letters", "become", "(LMorphWords$Letters;)V"⟩
abbrev b_LE_same : ByteArray := prog_4_method_9_code
def y_LE_same : MethodName := ⟨"MorphWords$Letters", "same", "(LMorphWords$Letters;)Z"⟩
abbrev b_LE_hasFrom : ByteArray := prog_4_method_10_code
def y_LE_hasFrom : MethodName := ⟨"MorphWords$Letters", "hasFrom", "(ILMorphWords$Letters;)Z"⟩
abbrev b_LE_repeats : ByteArray := prog_4_method_11_code
def y_LE_repeats : MethodName := ⟨"MorphWords$Letters", "repeats", "(III)Z"⟩
abbrev b_LE_isMirrored : ByteArray := prog_4_method_12_code
def y_LE_isMirrored : MethodName := ⟨"MorphWords$Letters", "isMirrored", "(II)Z"⟩
abbrev b_LE_bits : ByteArray := prog_4_method_13_code
def y_LE_bits : MethodName := ⟨"MorphWords$Letters", "bits", "()I"⟩
abbrev b_LE_countOf : ByteArray := prog_4_method_14_code
def y_LE_countOf : MethodName := ⟨"MorphWords$Letters", "countOf", "(I)I"⟩
abbrev b_LE_exchange : ByteArray := prog_4_method_15_code
def y_LE_exchange : MethodName := ⟨"MorphWords$Letters", "exchange", "(II)V"⟩
abbrev b_LE_rotate : ByteArray := prog_4_method_16_code
def y_LE_rotate : MethodName := ⟨"MorphWords$Letters", "rotate", "(Z)V"⟩
abbrev b_LE_imbalance : ByteArray := prog_4_method_17_code
def y_LE_imbalance : MethodName := ⟨"MorphWords$Letters", "imbalance", "(II)I"⟩
abbrev b_LM_init : ByteArray := prog_5_method_1_code
def y_LM_init : MethodName := ⟨"MorphWords$LongestMirror", "<init>", "()V"⟩
abbrev b_LM_find : ByteArray := prog_5_method_2_code
def y_LM_find : MethodName := ⟨"MorphWords$LongestMirror", "find", "(LMorphWords$Letters;)V"⟩
abbrev b_LM_findAround : ByteArray := prog_5_method_3_code
def y_LM_findAround : MethodName := ⟨"MorphWords$LongestMirror", "findAround", "(LMorphWords$Letters;II)V"⟩
abbrev b_LM_place : ByteArray := prog_5_method_4_code
def y_LM_place : MethodName := ⟨"MorphWords$LongestMirror", "place", "()I"⟩
abbrev b_LM_length : ByteArray := prog_5_method_5_code
def y_LM_length : MethodName := ⟨"MorphWords$LongestMirror", "length", "()I"⟩
abbrev b_PT_init : ByteArray := prog_6_method_1_code
def y_PT_init : MethodName := ⟨"MorphWords$PieceTable", "<init>", "()V"⟩
abbrev b_PT_tell : ByteArray := prog_6_method_2_code
def y_PT_tell : MethodName := ⟨"MorphWords$PieceTable", "tell", "(LMorphWords$Letters;II)I"⟩
abbrev b_PT_fill : ByteArray := prog_6_method_3_code
def y_PT_fill : MethodName := ⟨"MorphWords$PieceTable", "fill", "(LMorphWords$Letters;I)V"⟩
abbrev b_PT_isFirst : ByteArray := prog_6_method_4_code
def y_PT_isFirst : MethodName := ⟨"MorphWords$PieceTable", "isFirst", "(I)Z"⟩
abbrev b_PT_isSamePiece : ByteArray := prog_6_method_5_code
def y_PT_isSamePiece : MethodName := ⟨"MorphWords$PieceTable", "isSamePiece", "(II)Z"⟩
abbrev b_PT_isPlace : ByteArray := prog_6_method_6_code
def y_PT_isPlace : MethodName := ⟨"MorphWords$PieceTable", "isPlace", "(I)Z"⟩
abbrev b_PT_isCounted : ByteArray := prog_6_method_7_code
def y_PT_isCounted : MethodName := ⟨"MorphWords$PieceTable", "isCounted", "(LMorphWords$Letters;III)Z"⟩
abbrev b_PT_neighbours : ByteArray := prog_6_method_8_code
def y_PT_neighbours : MethodName := ⟨"MorphWords$PieceTable", "neighbours", "(LMorphWords$Letters;II)I"⟩
abbrev b_PW_init : ByteArray := prog_7_method_1_code
def y_PW_init : MethodName := ⟨"MorphWords$Powers", "<init>", "()V"⟩
abbrev b_PW_find : ByteArray := prog_7_method_2_code
def y_PW_find : MethodName := ⟨"MorphWords$Powers", "find", "(LMorphWords$Rule;II)Z"⟩
abbrev b_PW_goOn : ByteArray := prog_7_method_3_code
def y_PW_goOn : MethodName := ⟨"MorphWords$Powers", "goOn", "(LMorphWords$Rule;)V"⟩
abbrev b_PW_total : ByteArray := prog_7_method_4_code
def y_PW_total : MethodName := ⟨"MorphWords$Powers", "total", "()I"⟩
abbrev b_PW_countOf : ByteArray := prog_7_method_5_code
def y_PW_countOf : MethodName := ⟨"MorphWords$Powers", "countOf", "(I)I"⟩
abbrev b_RT_init : ByteArray := prog_8_method_1_code
def y_RT_init : MethodName := ⟨"MorphWords$ReturnTable", "<init>", "()V"⟩
abbrev b_RT_find : ByteArray := prog_8_method_2_code
def y_RT_find : MethodName := ⟨"MorphWords$ReturnTable", "find", "(LMorphWords$Letters;LMorphWords$Letters;)V"⟩
abbrev b_RT_addReturn : ByteArray := prog_8_method_3_code
def y_RT_addReturn : MethodName := ⟨"MorphWords$ReturnTable", "addReturn", "(LMorphWords$Letters;I)V"⟩
abbrev b_RT_isSameReturn : ByteArray := prog_8_method_4_code
def y_RT_isSameReturn : MethodName := ⟨"MorphWords$ReturnTable", "isSameReturn", "(LMorphWords$Letters;II)Z"⟩
abbrev b_RT_spanOf : ByteArray := prog_8_method_5_code
def y_RT_spanOf : MethodName := ⟨"MorphWords$ReturnTable", "spanOf", "(I)I"⟩
abbrev b_RT_found : ByteArray := prog_8_method_6_code
def y_RT_found : MethodName := ⟨"MorphWords$ReturnTable", "found", "()I"⟩
abbrev b_RT_placeOf : ByteArray := prog_8_method_7_code
def y_RT_placeOf : MethodName := ⟨"MorphWords$ReturnTable", "placeOf", "(I)I"⟩
abbrev b_RT_rowLength : ByteArray := prog_8_method_8_code
def y_RT_rowLength : MethodName := ⟨"MorphWords$ReturnTable", "rowLength", "()I"⟩
abbrev b_RT_numberAt : ByteArray := prog_8_method_9_code
def y_RT_numberAt : MethodName := ⟨"MorphWords$ReturnTable", "numberAt", "(I)I"⟩
abbrev b_RT_different : ByteArray := prog_8_method_10_code
def y_RT_different : MethodName := ⟨"MorphWords$ReturnTable", "different", "()I"⟩
abbrev b_RT_lengthOf : ByteArray := prog_8_method_11_code
def y_RT_lengthOf : MethodName := ⟨"MorphWords$ReturnTable", "lengthOf", "(I)I"⟩
abbrev b_RT_firstPlaceOf : ByteArray := prog_8_method_12_code
def y_RT_firstPlaceOf : MethodName := ⟨"MorphWords$ReturnTable", "firstPlaceOf", "(I)I"⟩
abbrev b_RT_timesOf : ByteArray := prog_8_method_13_code
def y_RT_timesOf : MethodName := ⟨"MorphWords$ReturnTable", "timesOf", "(I)I"⟩
abbrev b_RT_isReturn : ByteArray := prog_8_method_14_code
def y_RT_isReturn : MethodName := ⟨"MorphWords$ReturnTable", "isReturn", "(I)Z"⟩
abbrev b_RU_init : ByteArray := prog_9_method_1_code
def y_RU_init : MethodName := ⟨"MorphWords$Rule", "<init>", "()V"⟩
abbrev b_RU_imageOf : ByteArray := prog_9_method_2_code
def y_RU_imageOf : MethodName := ⟨"MorphWords$Rule", "imageOf", "(I)LMorphWords$Letters;"⟩
abbrev b_RU_become : ByteArray := prog_9_method_3_code
def y_RU_become : MethodName := ⟨"MorphWords$Rule", "become", "(LMorphWords$Rule;)V"⟩
abbrev b_RU_same : ByteArray := prog_9_method_4_code
def y_RU_same : MethodName := ⟨"MorphWords$Rule", "same", "(LMorphWords$Rule;)Z"⟩
abbrev b_RU_total : ByteArray := prog_9_method_5_code
def y_RU_total : MethodName := ⟨"MorphWords$Rule", "total", "()I"⟩
abbrev b_RU_addImage : ByteArray := prog_9_method_6_code
def y_RU_addImage : MethodName := ⟨"MorphWords$Rule", "addImage", "(LMorphWords$Letters;LMorphWords$Letters;)Z"⟩
abbrev b_RU_becomeSquareOf : ByteArray := prog_9_method_7_code
def y_RU_becomeSquareOf : MethodName := ⟨"MorphWords$Rule", "becomeSquareOf", "(LMorphWords$Rule;)Z"⟩
abbrev b_RU_commonEnd : ByteArray := prog_9_method_8_code
def y_RU_commonEnd : MethodName := ⟨"MorphWords$Rule", "commonEnd", "(Z)I"⟩
abbrev b_RU_endOf : ByteArray := prog_9_method_9_code
def y_RU_endOf : MethodName := ⟨"MorphWords$Rule", "endOf", "(IZ)I"⟩
abbrev b_RU_rotate : ByteArray := prog_9_method_10_code
def y_RU_rotate : MethodName := ⟨"MorphWords$Rule", "rotate", "(Z)V"⟩
abbrev b_RU_exchange : ByteArray := prog_9_method_11_code
def y_RU_exchange : MethodName := ⟨"MorphWords$Rule", "exchange", "(II)V"⟩
abbrev b_RU_ledToFrom : ByteArray := prog_9_method_12_code
def y_RU_ledToFrom : MethodName := ⟨"MorphWords$Rule", "ledToFrom", "(I)I"⟩
abbrev b_RU_reachedFrom : ByteArray := prog_9_method_13_code
def y_RU_reachedFrom : MethodName := ⟨"MorphWords$Rule", "reachedFrom", "(I)I"⟩
abbrev b_RU_mixesBy : ByteArray := prog_9_method_14_code
def y_RU_mixesBy : MethodName := ⟨"MorphWords$Rule", "mixesBy", "(I)Z"⟩
abbrev b_RU_lettersBehind : ByteArray := prog_9_method_15_code
def y_RU_lettersBehind : MethodName := ⟨"MorphWords$Rule", "lettersBehind", "(II)I"⟩
abbrev b_ST_init : ByteArray := prog_10_method_1_code
def y_ST_init : MethodName := ⟨"MorphWords$State", "<init>", "()V"⟩
abbrev b_ST_hasPiece : ByteArray := prog_10_method_2_code
def y_ST_hasPiece : MethodName := ⟨"MorphWords$State", "hasPiece", "()Z"⟩
abbrev b_ST_become : ByteArray := prog_10_method_3_code
def y_ST_become : MethodName := ⟨"MorphWords$State", "become", "(LMorphWords$State;)V"⟩
abbrev b_TX_init : ByteArray := prog_11_method_1_code
def y_TX_init : MethodName := ⟨"MorphWords$Text", "<init>", "()V"⟩
abbrev b_TX_length : ByteArray := prog_11_method_2_code
def y_TX_length : MethodName := ⟨"MorphWords$Text", "length", "()I"⟩
abbrev b_TX_clear : ByteArray := prog_11_method_3_code
def y_TX_clear : MethodName := ⟨"MorphWords$Text", "clear", "()V"⟩
abbrev b_TX_add : ByteArray := prog_11_method_4_code
def y_TX_add : MethodName := ⟨"MorphWords$Text", "add", "(C)Z"⟩
abbrev b_TX_hasAt : ByteArray := prog_11_method_5_code
def y_TX_hasAt : MethodName := ⟨"MorphWords$Text", "hasAt", "(IC)Z"⟩
abbrev b_TX_letterAt : ByteArray := prog_11_method_6_code
def y_TX_letterAt : MethodName := ⟨"MorphWords$Text", "letterAt", "(I)I"⟩
abbrev b_TX_parts : ByteArray := prog_11_method_7_code
def y_TX_parts : MethodName := ⟨"MorphWords$Text", "parts", "()I"⟩
abbrev b_TX_readInto : ByteArray := prog_11_method_8_code
def y_TX_readInto : MethodName := ⟨"MorphWords$Text", "readInto", "(LMorphWords$Rule;)I"⟩
abbrev b_TX_readInto2 : ByteArray := prog_11_method_9_code
def y_TX_readInto2 : MethodName := ⟨"MorphWords$Text", "readInto", "(LMorphWords$Letters;)I"⟩
abbrev b_MW_init : ByteArray := prog_1_method_1_code
def y_MW_init : MethodName := ⟨"MorphWords", "<init>", "()V"⟩
abbrev b_MW_readRule : ByteArray := prog_1_method_2_code
def y_MW_readRule : MethodName := ⟨"MorphWords", "readRule", "()I"⟩
abbrev b_MW_square : ByteArray := prog_1_method_3_code
def y_MW_square : MethodName := ⟨"MorphWords", "square", "()I"⟩
abbrev b_MW_shift : ByteArray := prog_1_method_4_code
def y_MW_shift : MethodName := ⟨"MorphWords", "shift", "(Z)I"⟩
abbrev b_MW_swap : ByteArray := prog_1_method_5_code
def y_MW_swap : MethodName := ⟨"MorphWords", "swap", "(II)I"⟩
abbrev b_MW_start : ByteArray := prog_1_method_6_code
def y_MW_start : MethodName := ⟨"MorphWords", "start", "(I)I"⟩
abbrev b_MW_grow : ByteArray := prog_1_method_7_code
def y_MW_grow : MethodName := ⟨"MorphWords", "grow", "(I)I"⟩
abbrev b_MW_cut : ByteArray := prog_1_method_8_code
def y_MW_cut : MethodName := ⟨"MorphWords", "cut", "(I)I"⟩
abbrev b_MW_derive : ByteArray := prog_1_method_9_code
def y_MW_derive : MethodName := ⟨"MorphWords", "derive", "()I"⟩
abbrev b_MW_look : ByteArray := prog_1_method_10_code
def y_MW_look : MethodName := ⟨"MorphWords", "look", "()I"⟩
abbrev b_MW_type : ByteArray := prog_1_method_11_code
def y_MW_type : MethodName := ⟨"MorphWords", "type", "(C)I"⟩
abbrev b_MW_clearText : ByteArray := prog_1_method_12_code
def y_MW_clearText : MethodName := ⟨"MorphWords", "clearText", "()I"⟩
abbrev b_MW_undo : ByteArray := prog_1_method_13_code
def y_MW_undo : MethodName := ⟨"MorphWords", "undo", "()I"⟩
abbrev b_MW_keep : ByteArray := prog_1_method_14_code
def y_MW_keep : MethodName := ⟨"MorphWords", "keep", "()I"⟩
abbrev b_MW_restore : ByteArray := prog_1_method_15_code
def y_MW_restore : MethodName := ⟨"MorphWords", "restore", "()I"⟩
abbrev b_MW_image : ByteArray := prog_1_method_16_code
def y_MW_image : MethodName := ⟨"MorphWords", "image", "(II)I"⟩
abbrev b_MW_rule : ByteArray := prog_1_method_17_code
def y_MW_rule : MethodName := ⟨"MorphWords", "rule", "(II)I"⟩
abbrev b_MW_lengthBehind : ByteArray := prog_1_method_18_code
def y_MW_lengthBehind : MethodName := ⟨"MorphWords", "lengthBehind", "(II)I"⟩
abbrev b_MW_countBehind : ByteArray := prog_1_method_19_code
def y_MW_countBehind : MethodName := ⟨"MorphWords", "countBehind", "(III)I"⟩
abbrev b_MW_mixing : ByteArray := prog_1_method_20_code
def y_MW_mixing : MethodName := ⟨"MorphWords", "mixing", "()I"⟩
abbrev b_MW_at : ByteArray := prog_1_method_21_code
def y_MW_at : MethodName := ⟨"MorphWords", "at", "(I)I"⟩
abbrev b_MW_pieces : ByteArray := prog_1_method_22_code
def y_MW_pieces : MethodName := ⟨"MorphWords", "pieces", "(II)I"⟩
abbrev b_MW_balance : ByteArray := prog_1_method_23_code
def y_MW_balance : MethodName := ⟨"MorphWords", "balance", "(II)I"⟩
abbrev b_MW_share : ByteArray := prog_1_method_24_code
def y_MW_share : MethodName := ⟨"MorphWords", "share", "(II)I"⟩
abbrev b_MW_run : ByteArray := prog_1_method_25_code
def y_MW_run : MethodName := ⟨"MorphWords", "run", "(I)I"⟩
abbrev b_MW_mirrored : ByteArray := prog_1_method_26_code
def y_MW_mirrored : MethodName := ⟨"MorphWords", "mirrored", "(I)I"⟩
abbrev b_MW_comes : ByteArray := prog_1_method_27_code
def y_MW_comes : MethodName := ⟨"MorphWords", "comes", "(I)I"⟩
abbrev b_MW_returns : ByteArray := prog_1_method_28_code
def y_MW_returns : MethodName := ⟨"MorphWords", "returns", "(II)I"⟩
abbrev b_MW_row : ByteArray := prog_1_method_29_code
def y_MW_row : MethodName := ⟨"MorphWords", "row", "(I)I"⟩
abbrev b_MW_count : ByteArray := prog_1_method_30_code
def y_MW_count : MethodName := ⟨"MorphWords", "count", "(I)I"⟩
abbrev b_MW_countReturns : ByteArray := prog_1_method_31_code
def y_MW_countReturns : MethodName := ⟨"MorphWords", "countReturns", "(Z)I"⟩
abbrev b_MW_takeNextRule : ByteArray := prog_1_method_32_code
def y_MW_takeNextRule : MethodName := ⟨"MorphWords", "takeNextRule", "()Z"⟩
abbrev b_MW_takeNextWord : ByteArray := prog_1_method_33_code
def y_MW_takeNextWord : MethodName := ⟨"MorphWords", "takeNextWord", "()Z"⟩
abbrev b_MW_isLetter : ByteArray := prog_1_method_34_code
def y_MW_isLetter : MethodName := ⟨"MorphWords", "isLetter", "(I)Z"⟩
abbrev b_MW_hasLetter : ByteArray := prog_1_method_35_code
def y_MW_hasLetter : MethodName := ⟨"MorphWords", "hasLetter", "(II)Z"⟩
abbrev b_MW_commonDivisor : ByteArray := prog_1_method_36_code
def y_MW_commonDivisor : MethodName := ⟨"MorphWords", "commonDivisor", "(II)I"⟩
abbrev b_MO_init : ByteArray := prog_13_method_1_code
def y_MO_init : MethodName := ⟨"MorphWordsModel", "<init>", "()V"⟩
abbrev b_MO_in : ByteArray := prog_13_method_2_code
def y_MO_in : MethodName := ⟨"MorphWordsModel", "in", "(III)Z"⟩
abbrev b_MO_no : ByteArray := prog_13_method_3_code
def y_MO_no : MethodName := ⟨"MorphWordsModel", "no", "(I)Z"⟩
abbrev b_MO_size : ByteArray := prog_13_method_4_code
def y_MO_size : MethodName := ⟨"MorphWordsModel", "size", "(I)I"⟩
abbrev b_MO_sign : ByteArray := prog_13_method_5_code
def y_MO_sign : MethodName := ⟨"MorphWordsModel", "sign", "(II)I"⟩
abbrev b_MO_length : ByteArray := prog_13_method_6_code
def y_MO_length : MethodName := ⟨"MorphWordsModel", "length", "()I"⟩
abbrev b_MO_word : ByteArray := prog_13_method_7_code
def y_MO_word : MethodName := ⟨"MorphWordsModel", "word", "(I)I"⟩
abbrev b_MO_record : ByteArray := prog_13_method_8_code
def y_MO_record : MethodName := ⟨"MorphWordsModel", "record", "()V"⟩
abbrev b_MO_isSameRule : ByteArray := prog_13_method_9_code
def y_MO_isSameRule : MethodName := ⟨"MorphWordsModel", "isSameRule", "()Z"⟩
abbrev b_MO_laysRule : ByteArray := prog_13_method_10_code
def y_MO_laysRule : MethodName := ⟨"MorphWordsModel", "laysRule", "()V"⟩
abbrev b_MO_isSameWord : ByteArray := prog_13_method_11_code
def y_MO_isSameWord : MethodName := ⟨"MorphWordsModel", "isSameWord", "()Z"⟩
abbrev b_MO_laysWord : ByteArray := prog_13_method_12_code
def y_MO_laysWord : MethodName := ⟨"MorphWordsModel", "laysWord", "()V"⟩
abbrev b_MO_takesRule : ByteArray := prog_13_method_13_code
def y_MO_takesRule : MethodName := ⟨"MorphWordsModel", "takesRule", "()V"⟩
abbrev b_MO_allSizes : ByteArray := prog_13_method_14_code
def y_MO_allSizes : MethodName := ⟨"MorphWordsModel", "allSizes", "()I"⟩
abbrev b_MO_readRule : ByteArray := prog_13_method_15_code
def y_MO_readRule : MethodName := ⟨"MorphWordsModel", "readRule", "()I"⟩
abbrev b_MO_square : ByteArray := prog_13_method_16_code
def y_MO_square : MethodName := ⟨"MorphWordsModel", "square", "()I"⟩
abbrev b_MO_shift : ByteArray := prog_13_method_17_code
def y_MO_shift : MethodName := ⟨"MorphWordsModel", "shift", "(Z)I"⟩
abbrev b_MO_swapped : ByteArray := prog_13_method_18_code
def y_MO_swapped : MethodName := ⟨"MorphWordsModel", "swapped", "(III)I"⟩
abbrev b_MO_swap : ByteArray := prog_13_method_19_code
def y_MO_swap : MethodName := ⟨"MorphWordsModel", "swap", "(II)I"⟩
abbrev b_MO_takesWord : ByteArray := prog_13_method_20_code
def y_MO_takesWord : MethodName := ⟨"MorphWordsModel", "takesWord", "()V"⟩
abbrev b_MO_start : ByteArray := prog_13_method_21_code
def y_MO_start : MethodName := ⟨"MorphWordsModel", "start", "(I)I"⟩
abbrev b_MO_grows : ByteArray := prog_13_method_22_code
def y_MO_grows : MethodName := ⟨"MorphWordsModel", "grows", "()V"⟩
abbrev b_MO_grow : ByteArray := prog_13_method_23_code
def y_MO_grow : MethodName := ⟨"MorphWordsModel", "grow", "(I)I"⟩
abbrev b_MO_cut : ByteArray := prog_13_method_24_code
def y_MO_cut : MethodName := ⟨"MorphWordsModel", "cut", "(I)I"⟩
abbrev b_MO_derive : ByteArray := prog_13_method_25_code
def y_MO_derive : MethodName := ⟨"MorphWordsModel", "derive", "()I"⟩
abbrev b_MO_comesAt : ByteArray := prog_13_method_26_code
def y_MO_comesAt : MethodName := ⟨"MorphWordsModel", "comesAt", "(I)Z"⟩
abbrev b_MO_gap : ByteArray := prog_13_method_27_code
def y_MO_gap : MethodName := ⟨"MorphWordsModel", "gap", "(I)I"⟩
abbrev b_MO_areSame : ByteArray := prog_13_method_28_code
def y_MO_areSame : MethodName := ⟨"MorphWordsModel", "areSame", "(II)Z"⟩
abbrev b_MO_finds : ByteArray := prog_13_method_29_code
def y_MO_finds : MethodName := ⟨"MorphWordsModel", "finds", "()I"⟩
abbrev b_MO_look : ByteArray := prog_13_method_30_code
def y_MO_look : MethodName := ⟨"MorphWordsModel", "look", "()I"⟩
abbrev b_MO_type : ByteArray := prog_13_method_31_code
def y_MO_type : MethodName := ⟨"MorphWordsModel", "type", "(C)I"⟩
abbrev b_MO_clearText : ByteArray := prog_13_method_32_code
def y_MO_clearText : MethodName := ⟨"MorphWordsModel", "clearText", "()I"⟩
abbrev b_MO_isLetter : ByteArray := prog_13_method_33_code
def y_MO_isLetter : MethodName := ⟨"MorphWordsModel", "isLetter", "()Z"⟩
abbrev b_MO_partsOfText : ByteArray := prog_13_method_34_code
def y_MO_partsOfText : MethodName := ⟨"MorphWordsModel", "partsOfText", "()I"⟩
abbrev b_MO_pieceOfText : ByteArray := prog_13_method_35_code
def y_MO_pieceOfText : MethodName := ⟨"MorphWordsModel", "pieceOfText", "()I"⟩
abbrev b_MO_undo : ByteArray := prog_13_method_36_code
def y_MO_undo : MethodName := ⟨"MorphWordsModel", "undo", "()I"⟩
abbrev b_MO_keep : ByteArray := prog_13_method_37_code
def y_MO_keep : MethodName := ⟨"MorphWordsModel", "keep", "()I"⟩
abbrev b_MO_restore : ByteArray := prog_13_method_38_code
def y_MO_restore : MethodName := ⟨"MorphWordsModel", "restore", "()I"⟩
abbrev b_MO_image : ByteArray := prog_13_method_39_code
def y_MO_image : MethodName := ⟨"MorphWordsModel", "image", "(II)I"⟩
abbrev b_MO_lettersIn : ByteArray := prog_13_method_40_code
def y_MO_lettersIn : MethodName := ⟨"MorphWordsModel", "lettersIn", "(I)I"⟩
abbrev b_MO_ahead : ByteArray := prog_13_method_41_code
def y_MO_ahead : MethodName := ⟨"MorphWordsModel", "ahead", "(I)I"⟩
abbrev b_MO_reached : ByteArray := prog_13_method_42_code
def y_MO_reached : MethodName := ⟨"MorphWordsModel", "reached", "(I)I"⟩
abbrev b_MO_rule : ByteArray := prog_13_method_43_code
def y_MO_rule : MethodName := ⟨"MorphWordsModel", "rule", "(II)I"⟩
abbrev b_MO_sum : ByteArray := prog_13_method_44_code
def y_MO_sum : MethodName := ⟨"MorphWordsModel", "sum", "(I)I"⟩
abbrev b_MO_images : ByteArray := prog_13_method_45_code
def y_MO_images : MethodName := ⟨"MorphWordsModel", "images", "(I)V"⟩
abbrev b_MO_lengthBehind : ByteArray := prog_13_method_46_code
def y_MO_lengthBehind : MethodName := ⟨"MorphWordsModel", "lengthBehind", "(II)I"⟩
abbrev b_MO_countBehind : ByteArray := prog_13_method_47_code
def y_MO_countBehind : MethodName := ⟨"MorphWordsModel", "countBehind", "(III)I"⟩
abbrev b_MO_mixing : ByteArray := prog_13_method_48_code
def y_MO_mixing : MethodName := ⟨"MorphWordsModel", "mixing", "()I"⟩
abbrev b_MO_at : ByteArray := prog_13_method_49_code
def y_MO_at : MethodName := ⟨"MorphWordsModel", "at", "(I)I"⟩
abbrev b_MO_isSamePiece : ByteArray := prog_13_method_50_code
def y_MO_isSamePiece : MethodName := ⟨"MorphWordsModel", "isSamePiece", "(III)Z"⟩
abbrev b_MO_isMirrored : ByteArray := prog_13_method_51_code
def y_MO_isMirrored : MethodName := ⟨"MorphWordsModel", "isMirrored", "(II)Z"⟩
abbrev b_MO_around : ByteArray := prog_13_method_52_code
def y_MO_around : MethodName := ⟨"MorphWordsModel", "around", "(IIZ)I"⟩
abbrev b_MO_isMany : ByteArray := prog_13_method_53_code
def y_MO_isMany : MethodName := ⟨"MorphWordsModel", "isMany", "(I)Z"⟩
abbrev b_MO_pieces : ByteArray := prog_13_method_54_code
def y_MO_pieces : MethodName := ⟨"MorphWordsModel", "pieces", "(II)I"⟩
abbrev b_MO_times : ByteArray := prog_13_method_55_code
def y_MO_times : MethodName := ⟨"MorphWordsModel", "times", "(III)I"⟩
abbrev b_MO_balance : ByteArray := prog_13_method_56_code
def y_MO_balance : MethodName := ⟨"MorphWordsModel", "balance", "(II)I"⟩
abbrev b_MO_divisor : ByteArray := prog_13_method_57_code
def y_MO_divisor : MethodName := ⟨"MorphWordsModel", "divisor", "(II)I"⟩
abbrev b_MO_share : ByteArray := prog_13_method_58_code
def y_MO_share : MethodName := ⟨"MorphWordsModel", "share", "(II)I"⟩
abbrev b_MO_run : ByteArray := prog_13_method_59_code
def y_MO_run : MethodName := ⟨"MorphWordsModel", "run", "(I)I"⟩
abbrev b_MO_mirrored : ByteArray := prog_13_method_60_code
def y_MO_mirrored : MethodName := ⟨"MorphWordsModel", "mirrored", "(I)I"⟩
abbrev b_MO_comes : ByteArray := prog_13_method_61_code
def y_MO_comes : MethodName := ⟨"MorphWordsModel", "comes", "(I)I"⟩
abbrev b_MO_returns : ByteArray := prog_13_method_62_code
def y_MO_returns : MethodName := ⟨"MorphWordsModel", "returns", "(II)I"⟩
abbrev b_MO_row : ByteArray := prog_13_method_63_code
def y_MO_row : MethodName := ⟨"MorphWordsModel", "row", "(I)I"⟩
abbrev b_MO_lettersOfWord : ByteArray := prog_13_method_64_code
def y_MO_lettersOfWord : MethodName := ⟨"MorphWordsModel", "lettersOfWord", "()I"⟩
abbrev b_MO_count : ByteArray := prog_13_method_65_code
def y_MO_count : MethodName := ⟨"MorphWordsModel", "count", "(I)I"⟩
theorem g_0 : Cond.selects "MorphWords$Text" ⟨"MorphWords$Text", "letterAt", "(I)I"⟩ ⟨"MorphWords$Text", "letterAt", "(I)I"⟩ ∈ gtbl := List.mem_of_getElem? (i := 0) (by decide +kernel)
theorem g_1 : Cond.selects "MorphWords$Text" ⟨"MorphWords$Text", "hasAt", "(IC)Z"⟩ ⟨"MorphWords$Text", "hasAt", "(IC)Z"⟩ ∈ gtbl := List.mem_of_getElem? (i := 1) (by decide +kernel)
theorem g_2 : Cond.selects "MorphWords" ⟨"MorphWords", "takeNextRule", "()Z"⟩ ⟨"MorphWords", "takeNextRule", "()Z"⟩ ∈ gtbl := List.mem_of_getElem? (i := 2) (by decide +kernel)
theorem g_3 : Cond.selects "MorphWords$History" ⟨"MorphWords$History", "dropOldest", "()V"⟩ ⟨"MorphWords$History", "dropOldest", "()V"⟩ ∈ gtbl := List.mem_of_getElem? (i := 3) (by decide +kernel)
theorem g_4 : Cond.selects "MorphWords$Rule" ⟨"MorphWords$Rule", "endOf", "(IZ)I"⟩ ⟨"MorphWords$Rule", "endOf", "(IZ)I"⟩ ∈ gtbl := List.mem_of_getElem? (i := 4) (by decide +kernel)
theorem g_5 : Cond.selects "MorphWords" ⟨"MorphWords", "takeNextWord", "()Z"⟩ ⟨"MorphWords", "takeNextWord", "()Z"⟩ ∈ gtbl := List.mem_of_getElem? (i := 5) (by decide +kernel)
theorem g_6 : Cond.selects "MorphWords$ReturnTable" ⟨"MorphWords$ReturnTable", "addReturn", "(LMorphWords$Letters;I)V"⟩ ⟨"MorphWords$ReturnTable", "addReturn", "(LMorphWords$Letters;I)V"⟩ ∈ gtbl := List.mem_of_getElem? (i := 6) (by decide +kernel)
theorem g_7 : Cond.selects "MorphWords$ReturnTable" ⟨"MorphWords$ReturnTable", "isSameReturn", "(LMorphWords$Letters;II)Z"⟩ ⟨"MorphWords$ReturnTable", "isSameReturn", "(LMorphWords$Letters;II)Z"⟩ ∈ gtbl := List.mem_of_getElem? (i := 7) (by decide +kernel)
theorem g_8 : Cond.selects "MorphWords$ReturnTable" ⟨"MorphWords$ReturnTable", "spanOf", "(I)I"⟩ ⟨"MorphWords$ReturnTable", "spanOf", "(I)I"⟩ ∈ gtbl := List.mem_of_getElem? (i := 8) (by decide +kernel)
theorem g_9 : Cond.selects "MorphWords$Rule" ⟨"MorphWords$Rule", "ledToFrom", "(I)I"⟩ ⟨"MorphWords$Rule", "ledToFrom", "(I)I"⟩ ∈ gtbl := List.mem_of_getElem? (i := 9) (by decide +kernel)
theorem g_10 : Cond.selects "MorphWords$Powers" ⟨"MorphWords$Powers", "goOn", "(LMorphWords$Rule;)V"⟩ ⟨"MorphWords$Powers", "goOn", "(LMorphWords$Rule;)V"⟩ ∈ gtbl := List.mem_of_getElem? (i := 10) (by decide +kernel)
theorem g_11 : Cond.selects "MorphWords$Rule" ⟨"MorphWords$Rule", "lettersBehind", "(II)I"⟩ ⟨"MorphWords$Rule", "lettersBehind", "(II)I"⟩ ∈ gtbl := List.mem_of_getElem? (i := 11) (by decide +kernel)
theorem g_12 : Cond.selects "MorphWords$PieceTable" ⟨"MorphWords$PieceTable", "fill", "(LMorphWords$Letters;I)V"⟩ ⟨"MorphWords$PieceTable", "fill", "(LMorphWords$Letters;I)V"⟩ ∈ gtbl := List.mem_of_getElem? (i := 12) (by decide +kernel)
theorem g_13 : Cond.selects "MorphWords$PieceTable" ⟨"MorphWords$PieceTable", "isFirst", "(I)Z"⟩ ⟨"MorphWords$PieceTable", "isFirst", "(I)Z"⟩ ∈ gtbl := List.mem_of_getElem? (i := 13) (by decide +kernel)
theorem g_14 : Cond.selects "MorphWords$PieceTable" ⟨"MorphWords$PieceTable", "isSamePiece", "(II)Z"⟩ ⟨"MorphWords$PieceTable", "isSamePiece", "(II)Z"⟩ ∈ gtbl := List.mem_of_getElem? (i := 14) (by decide +kernel)
theorem g_15 : Cond.selects "MorphWords$PieceTable" ⟨"MorphWords$PieceTable", "isPlace", "(I)Z"⟩ ⟨"MorphWords$PieceTable", "isPlace", "(I)Z"⟩ ∈ gtbl := List.mem_of_getElem? (i := 15) (by decide +kernel)
theorem g_16 : Cond.selects "MorphWords$PieceTable" ⟨"MorphWords$PieceTable", "isCounted", "(LMorphWords$Letters;III)Z"⟩ ⟨"MorphWords$PieceTable", "isCounted", "(LMorphWords$Letters;III)Z"⟩ ∈ gtbl := List.mem_of_getElem? (i := 16) (by decide +kernel)
theorem g_17 : Cond.selects "MorphWords$PieceTable" ⟨"MorphWords$PieceTable", "neighbours", "(LMorphWords$Letters;II)I"⟩ ⟨"MorphWords$PieceTable", "neighbours", "(LMorphWords$Letters;II)I"⟩ ∈ gtbl := List.mem_of_getElem? (i := 17) (by decide +kernel)
theorem g_18 : Cond.selects "MorphWords$GreatestRun" ⟨"MorphWords$GreatestRun", "findWithPeriod", "(LMorphWords$Letters;I)V"⟩ ⟨"MorphWords$GreatestRun", "findWithPeriod", "(LMorphWords$Letters;I)V"⟩ ∈ gtbl := List.mem_of_getElem? (i := 18) (by decide +kernel)
theorem g_19 : Cond.selects "MorphWords$LongestMirror" ⟨"MorphWords$LongestMirror", "findAround", "(LMorphWords$Letters;II)V"⟩ ⟨"MorphWords$LongestMirror", "findAround", "(LMorphWords$Letters;II)V"⟩ ∈ gtbl := List.mem_of_getElem? (i := 19) (by decide +kernel)
theorem g_20 : Cond.selects "MorphWords$ReturnTable" ⟨"MorphWords$ReturnTable", "isReturn", "(I)Z"⟩ ⟨"MorphWords$ReturnTable", "isReturn", "(I)Z"⟩ ∈ gtbl := List.mem_of_getElem? (i := 20) (by decide +kernel)
theorem g_21 : Cond.selects "MorphWords" ⟨"MorphWords", "countReturns", "(Z)I"⟩ ⟨"MorphWords", "countReturns", "(Z)I"⟩ ∈ gtbl := List.mem_of_getElem? (i := 21) (by decide +kernel)
theorem g_22 : Cond.selects "MorphWordsModel" ⟨"MorphWordsModel", "takesRule", "()V"⟩ ⟨"MorphWordsModel", "takesRule", "()V"⟩ ∈ gtbl := List.mem_of_getElem? (i := 22) (by decide +kernel)
theorem g_23 : Cond.selects "MorphWordsModel" ⟨"MorphWordsModel", "partsOfText", "()I"⟩ ⟨"MorphWordsModel", "partsOfText", "()I"⟩ ∈ gtbl := List.mem_of_getElem? (i := 23) (by decide +kernel)
theorem g_24 : Cond.selects "MorphWordsModel" ⟨"MorphWordsModel", "isLetter", "()Z"⟩ ⟨"MorphWordsModel", "isLetter", "()Z"⟩ ∈ gtbl := List.mem_of_getElem? (i := 24) (by decide +kernel)
theorem g_25 : Cond.selects "MorphWordsModel" ⟨"MorphWordsModel", "isSameRule", "()Z"⟩ ⟨"MorphWordsModel", "isSameRule", "()Z"⟩ ∈ gtbl := List.mem_of_getElem? (i := 25) (by decide +kernel)
theorem g_26 : Cond.selects "MorphWordsModel" ⟨"MorphWordsModel", "size", "(I)I"⟩ ⟨"MorphWordsModel", "size", "(I)I"⟩ ∈ gtbl := List.mem_of_getElem? (i := 26) (by decide +kernel)
theorem g_27 : Cond.selects "MorphWordsModel" ⟨"MorphWordsModel", "sign", "(II)I"⟩ ⟨"MorphWordsModel", "sign", "(II)I"⟩ ∈ gtbl := List.mem_of_getElem? (i := 27) (by decide +kernel)
theorem g_28 : Cond.selects "MorphWordsModel" ⟨"MorphWordsModel", "record", "()V"⟩ ⟨"MorphWordsModel", "record", "()V"⟩ ∈ gtbl := List.mem_of_getElem? (i := 28) (by decide +kernel)
theorem g_29 : Cond.selects "MorphWordsModel" ⟨"MorphWordsModel", "laysRule", "()V"⟩ ⟨"MorphWordsModel", "laysRule", "()V"⟩ ∈ gtbl := List.mem_of_getElem? (i := 29) (by decide +kernel)
theorem g_30 : Cond.selects "MorphWordsModel" ⟨"MorphWordsModel", "allSizes", "()I"⟩ ⟨"MorphWordsModel", "allSizes", "()I"⟩ ∈ gtbl := List.mem_of_getElem? (i := 30) (by decide +kernel)
theorem g_31 : Cond.selects "MorphWordsModel" ⟨"MorphWordsModel", "length", "()I"⟩ ⟨"MorphWordsModel", "length", "()I"⟩ ∈ gtbl := List.mem_of_getElem? (i := 31) (by decide +kernel)
theorem g_32 : Cond.selects "MorphWordsModel" ⟨"MorphWordsModel", "word", "(I)I"⟩ ⟨"MorphWordsModel", "word", "(I)I"⟩ ∈ gtbl := List.mem_of_getElem? (i := 32) (by decide +kernel)
theorem g_33 : Cond.selects "MorphWordsModel" ⟨"MorphWordsModel", "takesWord", "()V"⟩ ⟨"MorphWordsModel", "takesWord", "()V"⟩ ∈ gtbl := List.mem_of_getElem? (i := 33) (by decide +kernel)
theorem g_34 : Cond.selects "MorphWordsModel" ⟨"MorphWordsModel", "grows", "()V"⟩ ⟨"MorphWordsModel", "grows", "()V"⟩ ∈ gtbl := List.mem_of_getElem? (i := 34) (by decide +kernel)
theorem g_35 : Cond.selects "MorphWordsModel" ⟨"MorphWordsModel", "isSameWord", "()Z"⟩ ⟨"MorphWordsModel", "isSameWord", "()Z"⟩ ∈ gtbl := List.mem_of_getElem? (i := 35) (by decide +kernel)
theorem g_36 : Cond.selects "MorphWordsModel" ⟨"MorphWordsModel", "laysWord", "()V"⟩ ⟨"MorphWordsModel", "laysWord", "()V"⟩ ∈ gtbl := List.mem_of_getElem? (i := 36) (by decide +kernel)
theorem g_37 : Cond.selects "MorphWordsModel" ⟨"MorphWordsModel", "finds", "()I"⟩ ⟨"MorphWordsModel", "finds", "()I"⟩ ∈ gtbl := List.mem_of_getElem? (i := 37) (by decide +kernel)
theorem g_38 : Cond.selects "MorphWordsModel" ⟨"MorphWordsModel", "comesAt", "(I)Z"⟩ ⟨"MorphWordsModel", "comesAt", "(I)Z"⟩ ∈ gtbl := List.mem_of_getElem? (i := 38) (by decide +kernel)
theorem g_39 : Cond.selects "MorphWordsModel" ⟨"MorphWordsModel", "areSame", "(II)Z"⟩ ⟨"MorphWordsModel", "areSame", "(II)Z"⟩ ∈ gtbl := List.mem_of_getElem? (i := 39) (by decide +kernel)
theorem g_40 : Cond.selects "MorphWordsModel" ⟨"MorphWordsModel", "gap", "(I)I"⟩ ⟨"MorphWordsModel", "gap", "(I)I"⟩ ∈ gtbl := List.mem_of_getElem? (i := 40) (by decide +kernel)
theorem g_41 : Cond.selects "MorphWordsModel" ⟨"MorphWordsModel", "pieceOfText", "()I"⟩ ⟨"MorphWordsModel", "pieceOfText", "()I"⟩ ∈ gtbl := List.mem_of_getElem? (i := 41) (by decide +kernel)
theorem g_42 : Cond.selects "MorphWordsModel" ⟨"MorphWordsModel", "lettersIn", "(I)I"⟩ ⟨"MorphWordsModel", "lettersIn", "(I)I"⟩ ∈ gtbl := List.mem_of_getElem? (i := 42) (by decide +kernel)
theorem g_43 : Cond.selects "MorphWordsModel" ⟨"MorphWordsModel", "reached", "(I)I"⟩ ⟨"MorphWordsModel", "reached", "(I)I"⟩ ∈ gtbl := List.mem_of_getElem? (i := 43) (by decide +kernel)
theorem g_44 : Cond.selects "MorphWordsModel" ⟨"MorphWordsModel", "ahead", "(I)I"⟩ ⟨"MorphWordsModel", "ahead", "(I)I"⟩ ∈ gtbl := List.mem_of_getElem? (i := 44) (by decide +kernel)
theorem g_45 : Cond.selects "MorphWordsModel" ⟨"MorphWordsModel", "images", "(I)V"⟩ ⟨"MorphWordsModel", "images", "(I)V"⟩ ∈ gtbl := List.mem_of_getElem? (i := 45) (by decide +kernel)
theorem g_46 : Cond.selects "MorphWordsModel" ⟨"MorphWordsModel", "sum", "(I)I"⟩ ⟨"MorphWordsModel", "sum", "(I)I"⟩ ∈ gtbl := List.mem_of_getElem? (i := 46) (by decide +kernel)
theorem g_47 : Cond.selects "MorphWordsModel" ⟨"MorphWordsModel", "isSamePiece", "(III)Z"⟩ ⟨"MorphWordsModel", "isSamePiece", "(III)Z"⟩ ∈ gtbl := List.mem_of_getElem? (i := 47) (by decide +kernel)
theorem g_48 : Cond.selects "MorphWordsModel" ⟨"MorphWordsModel", "isMirrored", "(II)Z"⟩ ⟨"MorphWordsModel", "isMirrored", "(II)Z"⟩ ∈ gtbl := List.mem_of_getElem? (i := 48) (by decide +kernel)
theorem g_49 : Cond.selects "MorphWordsModel" ⟨"MorphWordsModel", "around", "(IIZ)I"⟩ ⟨"MorphWordsModel", "around", "(IIZ)I"⟩ ∈ gtbl := List.mem_of_getElem? (i := 49) (by decide +kernel)
theorem g_50 : Cond.selects "MorphWordsModel" ⟨"MorphWordsModel", "times", "(III)I"⟩ ⟨"MorphWordsModel", "times", "(III)I"⟩ ∈ gtbl := List.mem_of_getElem? (i := 50) (by decide +kernel)
theorem g_51 : Cond.selects "MorphWordsModel" ⟨"MorphWordsModel", "lettersOfWord", "()I"⟩ ⟨"MorphWordsModel", "lettersOfWord", "()I"⟩ ∈ gtbl := List.mem_of_getElem? (i := 51) (by decide +kernel)
theorem g_52 : Cond.initialized "MorphWordsLaw" ∈ gtbl := List.mem_of_getElem? (i := 52) (by decide +kernel)
theorem g_53 : Cond.initialized "MorphWords" ∈ gtbl := List.mem_of_getElem? (i := 53) (by decide +kernel)
theorem g_54 : Cond.initialized "MorphWords$State" ∈ gtbl := List.mem_of_getElem? (i := 54) (by decide +kernel)
theorem g_55 : Cond.initialized "MorphWords$Rule" ∈ gtbl := List.mem_of_getElem? (i := 55) (by decide +kernel)
theorem g_56 : Cond.initialized "MorphWords$Letters" ∈ gtbl := List.mem_of_getElem? (i := 56) (by decide +kernel)
theorem g_57 : Cond.initialized "java/lang/Math" ∈ gtbl := List.mem_of_getElem? (i := 57) (by decide +kernel)
theorem g_58 : Cond.initialized "MorphWords$History" ∈ gtbl := List.mem_of_getElem? (i := 58) (by decide +kernel)
theorem g_59 : Cond.initialized "MorphWords$Text" ∈ gtbl := List.mem_of_getElem? (i := 59) (by decide +kernel)
theorem g_60 : Cond.initialized "MorphWords$Powers" ∈ gtbl := List.mem_of_getElem? (i := 60) (by decide +kernel)
theorem g_61 : Cond.initialized "MorphWords$PieceTable" ∈ gtbl := List.mem_of_getElem? (i := 61) (by decide +kernel)
theorem g_62 : Cond.initialized "MorphWords$GreatestRun" ∈ gtbl := List.mem_of_getElem? (i := 62) (by decide +kernel)
theorem g_63 : Cond.initialized "MorphWords$LongestMirror" ∈ gtbl := List.mem_of_getElem? (i := 63) (by decide +kernel)
theorem g_64 : Cond.initialized "MorphWords$ReturnTable" ∈ gtbl := List.mem_of_getElem? (i := 64) (by decide +kernel)
theorem g_65 : Cond.initialized "MorphWordsModel" ∈ gtbl := List.mem_of_getElem? (i := 65) (by decide +kernel)
theorem g_66 : Cond.initialized "java/lang/System" ∈ gtbl := List.mem_of_getElem? (i := 66) (by decide +kernel)
theorem g_67 : Cond.initialized "java/lang/Integer" ∈ gtbl := List.mem_of_getElem? (i := 67) (by decide +kernel)
theorem g_68 : Cond.classLink "MorphWordsLaw" (7 : Nat) "MorphWords" ∈ gtbl := List.mem_of_getElem? (i := 68) (by decide +kernel)
theorem g_69 : Cond.instantiable "MorphWords" (14 : Nat) ∈ gtbl := List.mem_of_getElem? (i := 69) (by decide +kernel)
theorem g_70 : Cond.methodLink "MorphWordsLaw" (9 : Nat) ⟨"MorphWords", "<init>", "()V"⟩ ∈ gtbl := List.mem_of_getElem? (i := 70) (by decide +kernel)
theorem g_71 : Cond.instanceMethod ⟨"MorphWords", "<init>", "()V"⟩ ∈ gtbl := List.mem_of_getElem? (i := 71) (by decide +kernel)
theorem g_72 : Cond.code ⟨"MorphWords", "<init>", "()V"⟩ prog_1_method_1_code (1 : Nat) (Option.none : Option FieldType) ∈ gtbl := List.mem_of_getElem? (i := 72) (by decide +kernel)
theorem g_73 : Cond.methodLink "MorphWords" (1 : Nat) ⟨"java/lang/Object", "<init>", "()V"⟩ ∈ gtbl := List.mem_of_getElem? (i := 73) (by decide +kernel)
theorem g_74 : Cond.instanceMethod ⟨"java/lang/Object", "<init>", "()V"⟩ ∈ gtbl := List.mem_of_getElem? (i := 74) (by decide +kernel)
theorem g_75 : Cond.code ⟨"java/lang/Object", "<init>", "()V"⟩ object_method_1_code (1 : Nat) (Option.none : Option FieldType) ∈ gtbl := List.mem_of_getElem? (i := 75) (by decide +kernel)
theorem g_76 : Cond.classLink "MorphWords" (7 : Nat) "MorphWords$State" ∈ gtbl := List.mem_of_getElem? (i := 76) (by decide +kernel)
theorem g_77 : Cond.instantiable "MorphWords$State" (3 : Nat) ∈ gtbl := List.mem_of_getElem? (i := 77) (by decide +kernel)
theorem g_78 : Cond.methodLink "MorphWords" (9 : Nat) ⟨"MorphWords$State", "<init>", "()V"⟩ ∈ gtbl := List.mem_of_getElem? (i := 78) (by decide +kernel)
theorem g_79 : Cond.instanceMethod ⟨"MorphWords$State", "<init>", "()V"⟩ ∈ gtbl := List.mem_of_getElem? (i := 79) (by decide +kernel)
theorem g_80 : Cond.code ⟨"MorphWords$State", "<init>", "()V"⟩ prog_10_method_1_code (1 : Nat) (Option.none : Option FieldType) ∈ gtbl := List.mem_of_getElem? (i := 80) (by decide +kernel)
theorem g_81 : Cond.methodLink "MorphWords$State" (3 : Nat) ⟨"java/lang/Object", "<init>", "()V"⟩ ∈ gtbl := List.mem_of_getElem? (i := 81) (by decide +kernel)
theorem g_82 : Cond.classLink "MorphWords$State" (9 : Nat) "MorphWords$Rule" ∈ gtbl := List.mem_of_getElem? (i := 82) (by decide +kernel)
theorem g_83 : Cond.instantiable "MorphWords$Rule" (2 : Nat) ∈ gtbl := List.mem_of_getElem? (i := 83) (by decide +kernel)
theorem g_84 : Cond.methodLink "MorphWords$State" (11 : Nat) ⟨"MorphWords$Rule", "<init>", "()V"⟩ ∈ gtbl := List.mem_of_getElem? (i := 84) (by decide +kernel)
theorem g_85 : Cond.instanceMethod ⟨"MorphWords$Rule", "<init>", "()V"⟩ ∈ gtbl := List.mem_of_getElem? (i := 85) (by decide +kernel)
theorem g_86 : Cond.code ⟨"MorphWords$Rule", "<init>", "()V"⟩ prog_9_method_1_code (3 : Nat) (Option.none : Option FieldType) ∈ gtbl := List.mem_of_getElem? (i := 86) (by decide +kernel)
theorem g_87 : Cond.methodLink "MorphWords$Rule" (3 : Nat) ⟨"java/lang/Object", "<init>", "()V"⟩ ∈ gtbl := List.mem_of_getElem? (i := 87) (by decide +kernel)
theorem g_88 : Cond.classLink "MorphWords$Rule" (9 : Nat) "MorphWords$Letters" ∈ gtbl := List.mem_of_getElem? (i := 88) (by decide +kernel)
theorem g_89 : Cond.instantiable "MorphWords$Letters" (2 : Nat) ∈ gtbl := List.mem_of_getElem? (i := 89) (by decide +kernel)
theorem g_90 : Cond.methodLink "MorphWords$Rule" (17 : Nat) ⟨"MorphWords$Letters", "<init>", "(I)V"⟩ ∈ gtbl := List.mem_of_getElem? (i := 90) (by decide +kernel)
theorem g_91 : Cond.instanceMethod ⟨"MorphWords$Letters", "<init>", "(I)V"⟩ ∈ gtbl := List.mem_of_getElem? (i := 91) (by decide +kernel)
theorem g_92 : Cond.code ⟨"MorphWords$Letters", "<init>", "(I)V"⟩ prog_4_method_1_code (2 : Nat) (Option.none : Option FieldType) ∈ gtbl := List.mem_of_getElem? (i := 92) (by decide +kernel)
theorem g_93 : Cond.methodLink "MorphWords$Letters" (3 : Nat) ⟨"java/lang/Object", "<init>", "()V"⟩ ∈ gtbl := List.mem_of_getElem? (i := 93) (by decide +kernel)
theorem g_94 : Cond.methodLink "MorphWords$Letters" (15 : Nat) ⟨"java/lang/Math", "max", "(II)I"⟩ ∈ gtbl := List.mem_of_getElem? (i := 94) (by decide +kernel)
theorem g_95 : Cond.static ⟨"java/lang/Math", "max", "(II)I"⟩ ∈ gtbl := List.mem_of_getElem? (i := 95) (by decide +kernel)
theorem g_96 : Cond.code ⟨"java/lang/Math", "max", "(II)I"⟩ prog_15_method_65_code (2 : Nat) (Option.some FieldType.int) ∈ gtbl := List.mem_of_getElem? (i := 96) (by decide +kernel)
theorem g_97 : Cond.fieldLink "MorphWords$Letters" (21 : Nat) "MorphWords$Letters" "numbers" "[I" ∈ gtbl := List.mem_of_getElem? (i := 97) (by decide +kernel)
theorem g_98 : Cond.fieldLink "MorphWords$Letters" (9 : Nat) "MorphWords$Letters" "length" "I" ∈ gtbl := List.mem_of_getElem? (i := 98) (by decide +kernel)
theorem g_104 : Cond.arrayClass FieldType.int ∈ gtbl := List.mem_of_getElem? (i := 104) (by decide +kernel)
theorem g_105 : Cond.methodLink "MorphWords$Rule" (24 : Nat) ⟨"MorphWords$Letters", "add", "(I)Z"⟩ ∈ gtbl := List.mem_of_getElem? (i := 105) (by decide +kernel)
theorem g_106 : Cond.instanceMethod ⟨"MorphWords$Letters", "add", "(I)Z"⟩ ∈ gtbl := List.mem_of_getElem? (i := 106) (by decide +kernel)
theorem g_107 : Cond.selects "MorphWords$Letters" ⟨"MorphWords$Letters", "add", "(I)Z"⟩ ⟨"MorphWords$Letters", "add", "(I)Z"⟩ ∈ gtbl := List.mem_of_getElem? (i := 107) (by decide +kernel)
theorem g_108 : Cond.code ⟨"MorphWords$Letters", "add", "(I)Z"⟩ prog_4_method_5_code (2 : Nat) (Option.some FieldType.boolean) ∈ gtbl := List.mem_of_getElem? (i := 108) (by decide +kernel)
theorem g_109 : Cond.static ⟨"MorphWords", "isLetter", "(I)Z"⟩ ∈ gtbl := List.mem_of_getElem? (i := 109) (by decide +kernel)
theorem g_110 : Cond.code ⟨"MorphWords", "isLetter", "(I)Z"⟩ prog_1_method_34_code (1 : Nat) (Option.some FieldType.boolean) ∈ gtbl := List.mem_of_getElem? (i := 110) (by decide +kernel)
theorem g_111 : Cond.fieldLink "MorphWords$Rule" (11 : Nat) "MorphWords$Rule" "images" "[LMorphWords$Letters;" ∈ gtbl := List.mem_of_getElem? (i := 111) (by decide +kernel)
theorem g_112 : Cond.fieldLink "MorphWords$Rule" (20 : Nat) "MorphWords$Rule" "nothing" "LMorphWords$Letters;" ∈ gtbl := List.mem_of_getElem? (i := 112) (by decide +kernel)
theorem g_118 : Cond.classLink "MorphWords$State" (18 : Nat) "MorphWords$Letters" ∈ gtbl := List.mem_of_getElem? (i := 118) (by decide +kernel)
theorem g_119 : Cond.methodLink "MorphWords$State" (20 : Nat) ⟨"MorphWords$Letters", "<init>", "(I)V"⟩ ∈ gtbl := List.mem_of_getElem? (i := 119) (by decide +kernel)
theorem g_120 : Cond.methodLink "MorphWords$State" (30 : Nat) ⟨"MorphWords$Letters", "add", "(I)Z"⟩ ∈ gtbl := List.mem_of_getElem? (i := 120) (by decide +kernel)
theorem g_121 : Cond.fieldLink "MorphWords$State" (12 : Nat) "MorphWords$State" "images" "LMorphWords$Rule;" ∈ gtbl := List.mem_of_getElem? (i := 121) (by decide +kernel)
theorem g_122 : Cond.fieldLink "MorphWords" (94 : Nat) "MorphWords$State" "images" "LMorphWords$Rule;" ∈ gtbl := List.mem_of_getElem? (i := 122) (by decide +kernel)
theorem g_123 : Cond.fieldLink "MorphWords$State" (23 : Nat) "MorphWords$State" "word" "LMorphWords$Letters;" ∈ gtbl := List.mem_of_getElem? (i := 123) (by decide +kernel)
theorem g_124 : Cond.fieldLink "MorphWords" (132 : Nat) "MorphWords$State" "word" "LMorphWords$Letters;" ∈ gtbl := List.mem_of_getElem? (i := 124) (by decide +kernel)
theorem g_125 : Cond.fieldLink "MorphWords$State" (27 : Nat) "MorphWords$State" "piece" "LMorphWords$Letters;" ∈ gtbl := List.mem_of_getElem? (i := 125) (by decide +kernel)
theorem g_126 : Cond.fieldLink "MorphWords" (170 : Nat) "MorphWords$State" "piece" "LMorphWords$Letters;" ∈ gtbl := List.mem_of_getElem? (i := 126) (by decide +kernel)
theorem g_134 : Cond.classLink "MorphWords" (23 : Nat) "MorphWords$History" ∈ gtbl := List.mem_of_getElem? (i := 134) (by decide +kernel)
theorem g_135 : Cond.instantiable "MorphWords$History" (2 : Nat) ∈ gtbl := List.mem_of_getElem? (i := 135) (by decide +kernel)
theorem g_136 : Cond.methodLink "MorphWords" (25 : Nat) ⟨"MorphWords$History", "<init>", "()V"⟩ ∈ gtbl := List.mem_of_getElem? (i := 136) (by decide +kernel)
theorem g_137 : Cond.instanceMethod ⟨"MorphWords$History", "<init>", "()V"⟩ ∈ gtbl := List.mem_of_getElem? (i := 137) (by decide +kernel)
theorem g_138 : Cond.code ⟨"MorphWords$History", "<init>", "()V"⟩ prog_3_method_1_code (2 : Nat) (Option.none : Option FieldType) ∈ gtbl := List.mem_of_getElem? (i := 138) (by decide +kernel)
theorem g_139 : Cond.methodLink "MorphWords$History" (3 : Nat) ⟨"java/lang/Object", "<init>", "()V"⟩ ∈ gtbl := List.mem_of_getElem? (i := 139) (by decide +kernel)
theorem g_140 : Cond.classLink "MorphWords$History" (9 : Nat) "MorphWords$State" ∈ gtbl := List.mem_of_getElem? (i := 140) (by decide +kernel)
theorem g_141 : Cond.methodLink "MorphWords$History" (21 : Nat) ⟨"MorphWords$State", "<init>", "()V"⟩ ∈ gtbl := List.mem_of_getElem? (i := 141) (by decide +kernel)
theorem g_142 : Cond.fieldLink "MorphWords$History" (11 : Nat) "MorphWords$History" "states" "[LMorphWords$State;" ∈ gtbl := List.mem_of_getElem? (i := 142) (by decide +kernel)
theorem g_143 : Cond.fieldLink "MorphWords$History" (17 : Nat) "MorphWords$History" "held" "I" ∈ gtbl := List.mem_of_getElem? (i := 143) (by decide +kernel)
theorem g_149 : Cond.classLink "MorphWords" (30 : Nat) "MorphWords$Text" ∈ gtbl := List.mem_of_getElem? (i := 149) (by decide +kernel)
theorem g_150 : Cond.instantiable "MorphWords$Text" (2 : Nat) ∈ gtbl := List.mem_of_getElem? (i := 150) (by decide +kernel)
theorem g_151 : Cond.instanceMethod ⟨"MorphWords$Text", "<init>", "()V"⟩ ∈ gtbl := List.mem_of_getElem? (i := 151) (by decide +kernel)
theorem g_152 : Cond.code ⟨"MorphWords$Text", "<init>", "()V"⟩ prog_11_method_1_code (1 : Nat) (Option.none : Option FieldType) ∈ gtbl := List.mem_of_getElem? (i := 152) (by decide +kernel)
theorem g_153 : Cond.methodLink "MorphWords$Text" (3 : Nat) ⟨"java/lang/Object", "<init>", "()V"⟩ ∈ gtbl := List.mem_of_getElem? (i := 153) (by decide +kernel)
theorem g_154 : Cond.fieldLink "MorphWords$Text" (9 : Nat) "MorphWords$Text" "characters" "[C" ∈ gtbl := List.mem_of_getElem? (i := 154) (by decide +kernel)
theorem g_155 : Cond.fieldLink "MorphWords$Text" (15 : Nat) "MorphWords$Text" "length" "I" ∈ gtbl := List.mem_of_getElem? (i := 155) (by decide +kernel)
theorem g_161 : Cond.arrayClass FieldType.char ∈ gtbl := List.mem_of_getElem? (i := 161) (by decide +kernel)
theorem g_162 : Cond.classLink "MorphWords" (37 : Nat) "MorphWords$Rule" ∈ gtbl := List.mem_of_getElem? (i := 162) (by decide +kernel)
theorem g_163 : Cond.methodLink "MorphWords" (39 : Nat) ⟨"MorphWords$Rule", "<init>", "()V"⟩ ∈ gtbl := List.mem_of_getElem? (i := 163) (by decide +kernel)
theorem g_164 : Cond.classLink "MorphWords" (44 : Nat) "MorphWords$Letters" ∈ gtbl := List.mem_of_getElem? (i := 164) (by decide +kernel)
theorem g_165 : Cond.methodLink "MorphWords" (46 : Nat) ⟨"MorphWords$Letters", "<init>", "(I)V"⟩ ∈ gtbl := List.mem_of_getElem? (i := 165) (by decide +kernel)
theorem g_166 : Cond.classLink "MorphWords" (59 : Nat) "MorphWords$Powers" ∈ gtbl := List.mem_of_getElem? (i := 166) (by decide +kernel)
theorem g_167 : Cond.instantiable "MorphWords$Powers" (2 : Nat) ∈ gtbl := List.mem_of_getElem? (i := 167) (by decide +kernel)
theorem g_168 : Cond.instanceMethod ⟨"MorphWords$Powers", "<init>", "()V"⟩ ∈ gtbl := List.mem_of_getElem? (i := 168) (by decide +kernel)
theorem g_169 : Cond.code ⟨"MorphWords$Powers", "<init>", "()V"⟩ prog_7_method_1_code (1 : Nat) (Option.none : Option FieldType) ∈ gtbl := List.mem_of_getElem? (i := 169) (by decide +kernel)
theorem g_170 : Cond.methodLink "MorphWords$Powers" (3 : Nat) ⟨"java/lang/Object", "<init>", "()V"⟩ ∈ gtbl := List.mem_of_getElem? (i := 170) (by decide +kernel)
theorem g_171 : Cond.fieldLink "MorphWords$Powers" (9 : Nat) "MorphWords$Powers" "times" "[I" ∈ gtbl := List.mem_of_getElem? (i := 171) (by decide +kernel)
theorem g_172 : Cond.fieldLink "MorphWords$Powers" (15 : Nat) "MorphWords$Powers" "timesThen" "[I" ∈ gtbl := List.mem_of_getElem? (i := 172) (by decide +kernel)
theorem g_178 : Cond.classLink "MorphWords" (66 : Nat) "MorphWords$PieceTable" ∈ gtbl := List.mem_of_getElem? (i := 178) (by decide +kernel)
theorem g_179 : Cond.instantiable "MorphWords$PieceTable" (2 : Nat) ∈ gtbl := List.mem_of_getElem? (i := 179) (by decide +kernel)
theorem g_180 : Cond.instanceMethod ⟨"MorphWords$PieceTable", "<init>", "()V"⟩ ∈ gtbl := List.mem_of_getElem? (i := 180) (by decide +kernel)
theorem g_181 : Cond.code ⟨"MorphWords$PieceTable", "<init>", "()V"⟩ prog_6_method_1_code (1 : Nat) (Option.none : Option FieldType) ∈ gtbl := List.mem_of_getElem? (i := 181) (by decide +kernel)
theorem g_182 : Cond.methodLink "MorphWords$PieceTable" (3 : Nat) ⟨"java/lang/Object", "<init>", "()V"⟩ ∈ gtbl := List.mem_of_getElem? (i := 182) (by decide +kernel)
theorem g_183 : Cond.fieldLink "MorphWords$PieceTable" (9 : Nat) "MorphWords$PieceTable" "codes" "[J" ∈ gtbl := List.mem_of_getElem? (i := 183) (by decide +kernel)
theorem g_184 : Cond.fieldLink "MorphWords$PieceTable" (15 : Nat) "MorphWords$PieceTable" "found" "I" ∈ gtbl := List.mem_of_getElem? (i := 184) (by decide +kernel)
theorem g_190 : Cond.arrayClass FieldType.long ∈ gtbl := List.mem_of_getElem? (i := 190) (by decide +kernel)
theorem g_191 : Cond.classLink "MorphWords" (73 : Nat) "MorphWords$GreatestRun" ∈ gtbl := List.mem_of_getElem? (i := 191) (by decide +kernel)
theorem g_192 : Cond.instantiable "MorphWords$GreatestRun" (3 : Nat) ∈ gtbl := List.mem_of_getElem? (i := 192) (by decide +kernel)
theorem g_193 : Cond.instanceMethod ⟨"MorphWords$GreatestRun", "<init>", "()V"⟩ ∈ gtbl := List.mem_of_getElem? (i := 193) (by decide +kernel)
theorem g_194 : Cond.code ⟨"MorphWords$GreatestRun", "<init>", "()V"⟩ prog_2_method_1_code (1 : Nat) (Option.none : Option FieldType) ∈ gtbl := List.mem_of_getElem? (i := 194) (by decide +kernel)
theorem g_195 : Cond.methodLink "MorphWords$GreatestRun" (1 : Nat) ⟨"java/lang/Object", "<init>", "()V"⟩ ∈ gtbl := List.mem_of_getElem? (i := 195) (by decide +kernel)
theorem g_196 : Cond.fieldLink "MorphWords$GreatestRun" (7 : Nat) "MorphWords$GreatestRun" "period" "I" ∈ gtbl := List.mem_of_getElem? (i := 196) (by decide +kernel)
theorem g_197 : Cond.fieldLink "MorphWords$GreatestRun" (13 : Nat) "MorphWords$GreatestRun" "place" "I" ∈ gtbl := List.mem_of_getElem? (i := 197) (by decide +kernel)
theorem g_198 : Cond.fieldLink "MorphWords$GreatestRun" (16 : Nat) "MorphWords$GreatestRun" "length" "I" ∈ gtbl := List.mem_of_getElem? (i := 198) (by decide +kernel)
theorem g_206 : Cond.classLink "MorphWords" (80 : Nat) "MorphWords$LongestMirror" ∈ gtbl := List.mem_of_getElem? (i := 206) (by decide +kernel)
theorem g_207 : Cond.instantiable "MorphWords$LongestMirror" (2 : Nat) ∈ gtbl := List.mem_of_getElem? (i := 207) (by decide +kernel)
theorem g_208 : Cond.instanceMethod ⟨"MorphWords$LongestMirror", "<init>", "()V"⟩ ∈ gtbl := List.mem_of_getElem? (i := 208) (by decide +kernel)
theorem g_209 : Cond.code ⟨"MorphWords$LongestMirror", "<init>", "()V"⟩ prog_5_method_1_code (1 : Nat) (Option.none : Option FieldType) ∈ gtbl := List.mem_of_getElem? (i := 209) (by decide +kernel)
theorem g_210 : Cond.methodLink "MorphWords$LongestMirror" (1 : Nat) ⟨"java/lang/Object", "<init>", "()V"⟩ ∈ gtbl := List.mem_of_getElem? (i := 210) (by decide +kernel)
theorem g_211 : Cond.fieldLink "MorphWords$LongestMirror" (7 : Nat) "MorphWords$LongestMirror" "place" "I" ∈ gtbl := List.mem_of_getElem? (i := 211) (by decide +kernel)
theorem g_212 : Cond.fieldLink "MorphWords$LongestMirror" (13 : Nat) "MorphWords$LongestMirror" "length" "I" ∈ gtbl := List.mem_of_getElem? (i := 212) (by decide +kernel)
theorem g_218 : Cond.classLink "MorphWords" (87 : Nat) "MorphWords$ReturnTable" ∈ gtbl := List.mem_of_getElem? (i := 218) (by decide +kernel)
theorem g_219 : Cond.instantiable "MorphWords$ReturnTable" (6 : Nat) ∈ gtbl := List.mem_of_getElem? (i := 219) (by decide +kernel)
theorem g_220 : Cond.instanceMethod ⟨"MorphWords$ReturnTable", "<init>", "()V"⟩ ∈ gtbl := List.mem_of_getElem? (i := 220) (by decide +kernel)
theorem g_221 : Cond.code ⟨"MorphWords$ReturnTable", "<init>", "()V"⟩ prog_8_method_1_code (1 : Nat) (Option.none : Option FieldType) ∈ gtbl := List.mem_of_getElem? (i := 221) (by decide +kernel)
theorem g_222 : Cond.methodLink "MorphWords$ReturnTable" (3 : Nat) ⟨"java/lang/Object", "<init>", "()V"⟩ ∈ gtbl := List.mem_of_getElem? (i := 222) (by decide +kernel)
theorem g_223 : Cond.fieldLink "MorphWords$ReturnTable" (9 : Nat) "MorphWords$ReturnTable" "places" "[I" ∈ gtbl := List.mem_of_getElem? (i := 223) (by decide +kernel)
theorem g_224 : Cond.fieldLink "MorphWords$ReturnTable" (15 : Nat) "MorphWords$ReturnTable" "found" "I" ∈ gtbl := List.mem_of_getElem? (i := 224) (by decide +kernel)
theorem g_225 : Cond.fieldLink "MorphWords$ReturnTable" (19 : Nat) "MorphWords$ReturnTable" "numbers" "[I" ∈ gtbl := List.mem_of_getElem? (i := 225) (by decide +kernel)
theorem g_226 : Cond.fieldLink "MorphWords$ReturnTable" (22 : Nat) "MorphWords$ReturnTable" "firsts" "[I" ∈ gtbl := List.mem_of_getElem? (i := 226) (by decide +kernel)
theorem g_227 : Cond.fieldLink "MorphWords$ReturnTable" (25 : Nat) "MorphWords$ReturnTable" "times" "[I" ∈ gtbl := List.mem_of_getElem? (i := 227) (by decide +kernel)
theorem g_228 : Cond.fieldLink "MorphWords$ReturnTable" (28 : Nat) "MorphWords$ReturnTable" "different" "I" ∈ gtbl := List.mem_of_getElem? (i := 228) (by decide +kernel)
theorem g_242 : Cond.fieldLink "MorphWords" (10 : Nat) "MorphWords" "now" "LMorphWords$State;" ∈ gtbl := List.mem_of_getElem? (i := 242) (by decide +kernel)
theorem g_243 : Cond.fieldLink "MorphWords" (16 : Nat) "MorphWords" "snapshot" "LMorphWords$State;" ∈ gtbl := List.mem_of_getElem? (i := 243) (by decide +kernel)
theorem g_244 : Cond.fieldLink "MorphWords" (19 : Nat) "MorphWords" "kept" "Z" ∈ gtbl := List.mem_of_getElem? (i := 244) (by decide +kernel)
theorem g_245 : Cond.fieldLink "MorphWords" (26 : Nat) "MorphWords" "history" "LMorphWords$History;" ∈ gtbl := List.mem_of_getElem? (i := 245) (by decide +kernel)
theorem g_246 : Cond.fieldLink "MorphWords" (33 : Nat) "MorphWords" "text" "LMorphWords$Text;" ∈ gtbl := List.mem_of_getElem? (i := 246) (by decide +kernel)
theorem g_247 : Cond.fieldLink "MorphWords" (40 : Nat) "MorphWords" "nextRule" "LMorphWords$Rule;" ∈ gtbl := List.mem_of_getElem? (i := 247) (by decide +kernel)
theorem g_248 : Cond.fieldLink "MorphWords" (49 : Nat) "MorphWords" "nextWord" "LMorphWords$Letters;" ∈ gtbl := List.mem_of_getElem? (i := 248) (by decide +kernel)
theorem g_249 : Cond.fieldLink "MorphWords" (53 : Nat) "MorphWords" "grownWord" "LMorphWords$Letters;" ∈ gtbl := List.mem_of_getElem? (i := 249) (by decide +kernel)
theorem g_250 : Cond.fieldLink "MorphWords" (56 : Nat) "MorphWords" "nextPiece" "LMorphWords$Letters;" ∈ gtbl := List.mem_of_getElem? (i := 250) (by decide +kernel)
theorem g_251 : Cond.fieldLink "MorphWords" (62 : Nat) "MorphWords" "powers" "LMorphWords$Powers;" ∈ gtbl := List.mem_of_getElem? (i := 251) (by decide +kernel)
theorem g_252 : Cond.fieldLink "MorphWords" (69 : Nat) "MorphWords" "pieceTable" "LMorphWords$PieceTable;" ∈ gtbl := List.mem_of_getElem? (i := 252) (by decide +kernel)
theorem g_253 : Cond.fieldLink "MorphWords" (76 : Nat) "MorphWords" "greatestRun" "LMorphWords$GreatestRun;" ∈ gtbl := List.mem_of_getElem? (i := 253) (by decide +kernel)
theorem g_254 : Cond.fieldLink "MorphWords" (83 : Nat) "MorphWords" "longestMirror" "LMorphWords$LongestMirror;" ∈ gtbl := List.mem_of_getElem? (i := 254) (by decide +kernel)
theorem g_255 : Cond.fieldLink "MorphWords" (90 : Nat) "MorphWords" "returnTable" "LMorphWords$ReturnTable;" ∈ gtbl := List.mem_of_getElem? (i := 255) (by decide +kernel)
theorem g_285 : Cond.methodLink "MorphWordsLaw" (13 : Nat) ⟨"MorphWords", "readRule", "()I"⟩ ∈ gtbl := List.mem_of_getElem? (i := 285) (by decide +kernel)
theorem g_286 : Cond.instanceMethod ⟨"MorphWords", "readRule", "()I"⟩ ∈ gtbl := List.mem_of_getElem? (i := 286) (by decide +kernel)
theorem g_287 : Cond.selects "MorphWords" ⟨"MorphWords", "readRule", "()I"⟩ ⟨"MorphWords", "readRule", "()I"⟩ ∈ gtbl := List.mem_of_getElem? (i := 287) (by decide +kernel)
theorem g_288 : Cond.code ⟨"MorphWords", "readRule", "()I"⟩ prog_1_method_2_code (2 : Nat) (Option.some FieldType.int) ∈ gtbl := List.mem_of_getElem? (i := 288) (by decide +kernel)
theorem g_289 : Cond.methodLink "MorphWords" (97 : Nat) ⟨"MorphWords$Rule", "become", "(LMorphWords$Rule;)V"⟩ ∈ gtbl := List.mem_of_getElem? (i := 289) (by decide +kernel)
theorem g_290 : Cond.instanceMethod ⟨"MorphWords$Rule", "become", "(LMorphWords$Rule;)V"⟩ ∈ gtbl := List.mem_of_getElem? (i := 290) (by decide +kernel)
theorem g_291 : Cond.selects "MorphWords$Rule" ⟨"MorphWords$Rule", "become", "(LMorphWords$Rule;)V"⟩ ⟨"MorphWords$Rule", "become", "(LMorphWords$Rule;)V"⟩ ∈ gtbl := List.mem_of_getElem? (i := 291) (by decide +kernel)
theorem g_292 : Cond.code ⟨"MorphWords$Rule", "become", "(LMorphWords$Rule;)V"⟩ prog_9_method_3_code (3 : Nat) (Option.none : Option FieldType) ∈ gtbl := List.mem_of_getElem? (i := 292) (by decide +kernel)
theorem g_293 : Cond.methodLink "MorphWords$Rule" (31 : Nat) ⟨"MorphWords$Rule", "imageOf", "(I)LMorphWords$Letters;"⟩ ∈ gtbl := List.mem_of_getElem? (i := 293) (by decide +kernel)
theorem g_294 : Cond.instanceMethod ⟨"MorphWords$Rule", "imageOf", "(I)LMorphWords$Letters;"⟩ ∈ gtbl := List.mem_of_getElem? (i := 294) (by decide +kernel)
theorem g_295 : Cond.selects "MorphWords$Rule" ⟨"MorphWords$Rule", "imageOf", "(I)LMorphWords$Letters;"⟩ ⟨"MorphWords$Rule", "imageOf", "(I)LMorphWords$Letters;"⟩ ∈ gtbl := List.mem_of_getElem? (i := 295) (by decide +kernel)
theorem g_296 : Cond.code ⟨"MorphWords$Rule", "imageOf", "(I)LMorphWords$Letters;"⟩ prog_9_method_2_code (2 : Nat) (Option.some (FieldType.object "MorphWords$Letters")) ∈ gtbl := List.mem_of_getElem? (i := 296) (by decide +kernel)
theorem g_297 : Cond.methodLink "MorphWords$Rule" (35 : Nat) ⟨"MorphWords$Letters", "become", "(LMorphWords$Letters;)V"⟩ ∈ gtbl := List.mem_of_getElem? (i := 297) (by decide +kernel)
theorem g_298 : Cond.instanceMethod ⟨"MorphWords$Letters", "become", "(LMorphWords$Letters;)V"⟩ ∈ gtbl := List.mem_of_getElem? (i := 298) (by decide +kernel)
theorem g_299 : Cond.selects "MorphWords$Letters" ⟨"MorphWords$Letters", "become", "(LMorphWords$Letters;)V"⟩ ⟨"MorphWords$Letters", "become", "(LMorphWords$Letters;)V"⟩ ∈ gtbl := List.mem_of_getElem? (i := 299) (by decide +kernel)
theorem g_300 : Cond.code ⟨"MorphWords$Letters", "become", "(LMorphWords$Letters;)V"⟩ prog_4_method_8_code (3 : Nat) (Option.none : Option FieldType) ∈ gtbl := List.mem_of_getElem? (i := 300) (by decide +kernel)
theorem g_301 : Cond.methodLink "MorphWords$Letters" (36 : Nat) ⟨"java/lang/Math", "min", "(II)I"⟩ ∈ gtbl := List.mem_of_getElem? (i := 301) (by decide +kernel)
theorem g_302 : Cond.static ⟨"java/lang/Math", "min", "(II)I"⟩ ∈ gtbl := List.mem_of_getElem? (i := 302) (by decide +kernel)
theorem g_303 : Cond.code ⟨"java/lang/Math", "min", "(II)I"⟩ prog_15_method_69_code (2 : Nat) (Option.some FieldType.int) ∈ gtbl := List.mem_of_getElem? (i := 303) (by decide +kernel)
theorem g_304 : Cond.methodLink "MorphWords$Letters" (39 : Nat) ⟨"java/lang/System", "arraycopy", "(Ljava/lang/Object;ILjava/lang/Object;II)V"⟩ ∈ gtbl := List.mem_of_getElem? (i := 304) (by decide +kernel)
theorem g_305 : Cond.static ⟨"java/lang/System", "arraycopy", "(Ljava/lang/Object;ILjava/lang/Object;II)V"⟩ ∈ gtbl := List.mem_of_getElem? (i := 305) (by decide +kernel)
theorem g_306 : Cond.native ⟨"java/lang/System", "arraycopy", "(Ljava/lang/Object;ILjava/lang/Object;II)V"⟩ ∈ gtbl := List.mem_of_getElem? (i := 306) (by decide +kernel)
theorem g_307 : Cond.methodLink "MorphWords" (101 : Nat) ⟨"MorphWords$Text", "readInto", "(LMorphWords$Rule;)I"⟩ ∈ gtbl := List.mem_of_getElem? (i := 307) (by decide +kernel)
theorem g_308 : Cond.instanceMethod ⟨"MorphWords$Text", "readInto", "(LMorphWords$Rule;)I"⟩ ∈ gtbl := List.mem_of_getElem? (i := 308) (by decide +kernel)
theorem g_309 : Cond.selects "MorphWords$Text" ⟨"MorphWords$Text", "readInto", "(LMorphWords$Rule;)I"⟩ ⟨"MorphWords$Text", "readInto", "(LMorphWords$Rule;)I"⟩ ∈ gtbl := List.mem_of_getElem? (i := 309) (by decide +kernel)
theorem g_310 : Cond.code ⟨"MorphWords$Text", "readInto", "(LMorphWords$Rule;)I"⟩ prog_11_method_8_code (6 : Nat) (Option.some FieldType.int) ∈ gtbl := List.mem_of_getElem? (i := 310) (by decide +kernel)
theorem g_311 : Cond.methodLink "MorphWords$Text" (27 : Nat) ⟨"MorphWords$Rule", "imageOf", "(I)LMorphWords$Letters;"⟩ ∈ gtbl := List.mem_of_getElem? (i := 311) (by decide +kernel)
theorem g_312 : Cond.methodLink "MorphWords$Text" (33 : Nat) ⟨"MorphWords$Text", "letterAt", "(I)I"⟩ ∈ gtbl := List.mem_of_getElem? (i := 312) (by decide +kernel)
theorem g_313 : Cond.instanceMethod ⟨"MorphWords$Text", "letterAt", "(I)I"⟩ ∈ gtbl := List.mem_of_getElem? (i := 313) (by decide +kernel)
theorem g_314 : Cond.code ⟨"MorphWords$Text", "letterAt", "(I)I"⟩ prog_11_method_6_code (3 : Nat) (Option.some FieldType.int) ∈ gtbl := List.mem_of_getElem? (i := 314) (by decide +kernel)
theorem g_315 : Cond.methodLink "MorphWords$Text" (37 : Nat) ⟨"MorphWords$Letters", "clear", "()V"⟩ ∈ gtbl := List.mem_of_getElem? (i := 315) (by decide +kernel)
theorem g_316 : Cond.instanceMethod ⟨"MorphWords$Letters", "clear", "()V"⟩ ∈ gtbl := List.mem_of_getElem? (i := 316) (by decide +kernel)
theorem g_317 : Cond.selects "MorphWords$Letters" ⟨"MorphWords$Letters", "clear", "()V"⟩ ⟨"MorphWords$Letters", "clear", "()V"⟩ ∈ gtbl := List.mem_of_getElem? (i := 317) (by decide +kernel)
theorem g_318 : Cond.code ⟨"MorphWords$Letters", "clear", "()V"⟩ prog_4_method_4_code (1 : Nat) (Option.none : Option FieldType) ∈ gtbl := List.mem_of_getElem? (i := 318) (by decide +kernel)
theorem g_319 : Cond.methodLink "MorphWords$Text" (23 : Nat) ⟨"MorphWords$Text", "hasAt", "(IC)Z"⟩ ∈ gtbl := List.mem_of_getElem? (i := 319) (by decide +kernel)
theorem g_320 : Cond.instanceMethod ⟨"MorphWords$Text", "hasAt", "(IC)Z"⟩ ∈ gtbl := List.mem_of_getElem? (i := 320) (by decide +kernel)
theorem g_321 : Cond.code ⟨"MorphWords$Text", "hasAt", "(IC)Z"⟩ prog_11_method_5_code (3 : Nat) (Option.some FieldType.boolean) ∈ gtbl := List.mem_of_getElem? (i := 321) (by decide +kernel)
theorem g_322 : Cond.methodLink "MorphWords$Text" (42 : Nat) ⟨"MorphWords$Letters", "length", "()I"⟩ ∈ gtbl := List.mem_of_getElem? (i := 322) (by decide +kernel)
theorem g_323 : Cond.instanceMethod ⟨"MorphWords$Letters", "length", "()I"⟩ ∈ gtbl := List.mem_of_getElem? (i := 323) (by decide +kernel)
theorem g_324 : Cond.selects "MorphWords$Letters" ⟨"MorphWords$Letters", "length", "()I"⟩ ⟨"MorphWords$Letters", "length", "()I"⟩ ∈ gtbl := List.mem_of_getElem? (i := 324) (by decide +kernel)
theorem g_325 : Cond.code ⟨"MorphWords$Letters", "length", "()I"⟩ prog_4_method_2_code (1 : Nat) (Option.some FieldType.int) ∈ gtbl := List.mem_of_getElem? (i := 325) (by decide +kernel)
theorem g_326 : Cond.methodLink "MorphWords$Text" (45 : Nat) ⟨"MorphWords$Letters", "add", "(I)Z"⟩ ∈ gtbl := List.mem_of_getElem? (i := 326) (by decide +kernel)
theorem g_327 : Cond.methodLink "MorphWords" (105 : Nat) ⟨"MorphWords", "takeNextRule", "()Z"⟩ ∈ gtbl := List.mem_of_getElem? (i := 327) (by decide +kernel)
theorem g_328 : Cond.instanceMethod ⟨"MorphWords", "takeNextRule", "()Z"⟩ ∈ gtbl := List.mem_of_getElem? (i := 328) (by decide +kernel)
theorem g_329 : Cond.code ⟨"MorphWords", "takeNextRule", "()Z"⟩ prog_1_method_32_code (1 : Nat) (Option.some FieldType.boolean) ∈ gtbl := List.mem_of_getElem? (i := 329) (by decide +kernel)
theorem g_330 : Cond.methodLink "MorphWords" (272 : Nat) ⟨"MorphWords$Rule", "same", "(LMorphWords$Rule;)Z"⟩ ∈ gtbl := List.mem_of_getElem? (i := 330) (by decide +kernel)
theorem g_331 : Cond.instanceMethod ⟨"MorphWords$Rule", "same", "(LMorphWords$Rule;)Z"⟩ ∈ gtbl := List.mem_of_getElem? (i := 331) (by decide +kernel)
theorem g_332 : Cond.selects "MorphWords$Rule" ⟨"MorphWords$Rule", "same", "(LMorphWords$Rule;)Z"⟩ ⟨"MorphWords$Rule", "same", "(LMorphWords$Rule;)Z"⟩ ∈ gtbl := List.mem_of_getElem? (i := 332) (by decide +kernel)
theorem g_333 : Cond.code ⟨"MorphWords$Rule", "same", "(LMorphWords$Rule;)Z"⟩ prog_9_method_4_code (3 : Nat) (Option.some FieldType.boolean) ∈ gtbl := List.mem_of_getElem? (i := 333) (by decide +kernel)
theorem g_334 : Cond.methodLink "MorphWords$Rule" (39 : Nat) ⟨"MorphWords$Letters", "same", "(LMorphWords$Letters;)Z"⟩ ∈ gtbl := List.mem_of_getElem? (i := 334) (by decide +kernel)
theorem g_335 : Cond.instanceMethod ⟨"MorphWords$Letters", "same", "(LMorphWords$Letters;)Z"⟩ ∈ gtbl := List.mem_of_getElem? (i := 335) (by decide +kernel)
theorem g_336 : Cond.selects "MorphWords$Letters" ⟨"MorphWords$Letters", "same", "(LMorphWords$Letters;)Z"⟩ ⟨"MorphWords$Letters", "same", "(LMorphWords$Letters;)Z"⟩ ∈ gtbl := List.mem_of_getElem? (i := 336) (by decide +kernel)
theorem g_337 : Cond.code ⟨"MorphWords$Letters", "same", "(LMorphWords$Letters;)Z"⟩ prog_4_method_9_code (2 : Nat) (Option.some FieldType.boolean) ∈ gtbl := List.mem_of_getElem? (i := 337) (by decide +kernel)
theorem g_338 : Cond.methodLink "MorphWords$Letters" (45 : Nat) ⟨"MorphWords$Letters", "hasFrom", "(ILMorphWords$Letters;)Z"⟩ ∈ gtbl := List.mem_of_getElem? (i := 338) (by decide +kernel)
theorem g_339 : Cond.instanceMethod ⟨"MorphWords$Letters", "hasFrom", "(ILMorphWords$Letters;)Z"⟩ ∈ gtbl := List.mem_of_getElem? (i := 339) (by decide +kernel)
theorem g_340 : Cond.selects "MorphWords$Letters" ⟨"MorphWords$Letters", "hasFrom", "(ILMorphWords$Letters;)Z"⟩ ⟨"MorphWords$Letters", "hasFrom", "(ILMorphWords$Letters;)Z"⟩ ∈ gtbl := List.mem_of_getElem? (i := 340) (by decide +kernel)
theorem g_341 : Cond.code ⟨"MorphWords$Letters", "hasFrom", "(ILMorphWords$Letters;)Z"⟩ prog_4_method_10_code (4 : Nat) (Option.some FieldType.boolean) ∈ gtbl := List.mem_of_getElem? (i := 341) (by decide +kernel)
theorem g_342 : Cond.methodLink "MorphWords$Letters" (29 : Nat) ⟨"MorphWords$Letters", "letterAt", "(I)I"⟩ ∈ gtbl := List.mem_of_getElem? (i := 342) (by decide +kernel)
theorem g_343 : Cond.instanceMethod ⟨"MorphWords$Letters", "letterAt", "(I)I"⟩ ∈ gtbl := List.mem_of_getElem? (i := 343) (by decide +kernel)
theorem g_344 : Cond.selects "MorphWords$Letters" ⟨"MorphWords$Letters", "letterAt", "(I)I"⟩ ⟨"MorphWords$Letters", "letterAt", "(I)I"⟩ ∈ gtbl := List.mem_of_getElem? (i := 344) (by decide +kernel)
theorem g_345 : Cond.code ⟨"MorphWords$Letters", "letterAt", "(I)I"⟩ prog_4_method_3_code (2 : Nat) (Option.some FieldType.int) ∈ gtbl := List.mem_of_getElem? (i := 345) (by decide +kernel)
theorem g_346 : Cond.methodLink "MorphWords" (139 : Nat) ⟨"MorphWords$History", "record", "(LMorphWords$State;)V"⟩ ∈ gtbl := List.mem_of_getElem? (i := 346) (by decide +kernel)
theorem g_347 : Cond.instanceMethod ⟨"MorphWords$History", "record", "(LMorphWords$State;)V"⟩ ∈ gtbl := List.mem_of_getElem? (i := 347) (by decide +kernel)
theorem g_348 : Cond.selects "MorphWords$History" ⟨"MorphWords$History", "record", "(LMorphWords$State;)V"⟩ ⟨"MorphWords$History", "record", "(LMorphWords$State;)V"⟩ ∈ gtbl := List.mem_of_getElem? (i := 348) (by decide +kernel)
theorem g_349 : Cond.code ⟨"MorphWords$History", "record", "(LMorphWords$State;)V"⟩ prog_3_method_3_code (2 : Nat) (Option.none : Option FieldType) ∈ gtbl := List.mem_of_getElem? (i := 349) (by decide +kernel)
theorem g_350 : Cond.methodLink "MorphWords$History" (22 : Nat) ⟨"MorphWords$History", "dropOldest", "()V"⟩ ∈ gtbl := List.mem_of_getElem? (i := 350) (by decide +kernel)
theorem g_351 : Cond.instanceMethod ⟨"MorphWords$History", "dropOldest", "()V"⟩ ∈ gtbl := List.mem_of_getElem? (i := 351) (by decide +kernel)
theorem g_352 : Cond.code ⟨"MorphWords$History", "dropOldest", "()V"⟩ prog_3_method_4_code (3 : Nat) (Option.none : Option FieldType) ∈ gtbl := List.mem_of_getElem? (i := 352) (by decide +kernel)
theorem g_353 : Cond.methodLink "MorphWords$History" (25 : Nat) ⟨"MorphWords$State", "become", "(LMorphWords$State;)V"⟩ ∈ gtbl := List.mem_of_getElem? (i := 353) (by decide +kernel)
theorem g_354 : Cond.instanceMethod ⟨"MorphWords$State", "become", "(LMorphWords$State;)V"⟩ ∈ gtbl := List.mem_of_getElem? (i := 354) (by decide +kernel)
theorem g_355 : Cond.selects "MorphWords$State" ⟨"MorphWords$State", "become", "(LMorphWords$State;)V"⟩ ⟨"MorphWords$State", "become", "(LMorphWords$State;)V"⟩ ∈ gtbl := List.mem_of_getElem? (i := 355) (by decide +kernel)
theorem g_356 : Cond.code ⟨"MorphWords$State", "become", "(LMorphWords$State;)V"⟩ prog_10_method_3_code (2 : Nat) (Option.none : Option FieldType) ∈ gtbl := List.mem_of_getElem? (i := 356) (by decide +kernel)
theorem g_357 : Cond.methodLink "MorphWords$State" (38 : Nat) ⟨"MorphWords$Rule", "become", "(LMorphWords$Rule;)V"⟩ ∈ gtbl := List.mem_of_getElem? (i := 357) (by decide +kernel)
theorem g_358 : Cond.methodLink "MorphWords$State" (42 : Nat) ⟨"MorphWords$Letters", "become", "(LMorphWords$Letters;)V"⟩ ∈ gtbl := List.mem_of_getElem? (i := 358) (by decide +kernel)
theorem g_359 : Cond.methodLink "MorphWords" (109 : Nat) ⟨"MorphWords$Text", "parts", "()I"⟩ ∈ gtbl := List.mem_of_getElem? (i := 359) (by decide +kernel)
theorem g_360 : Cond.instanceMethod ⟨"MorphWords$Text", "parts", "()I"⟩ ∈ gtbl := List.mem_of_getElem? (i := 360) (by decide +kernel)
theorem g_361 : Cond.selects "MorphWords$Text" ⟨"MorphWords$Text", "parts", "()I"⟩ ⟨"MorphWords$Text", "parts", "()I"⟩ ∈ gtbl := List.mem_of_getElem? (i := 361) (by decide +kernel)
theorem g_362 : Cond.code ⟨"MorphWords$Text", "parts", "()I"⟩ prog_11_method_7_code (3 : Nat) (Option.some FieldType.int) ∈ gtbl := List.mem_of_getElem? (i := 362) (by decide +kernel)
theorem g_363 : Cond.methodLink "MorphWordsLaw" (18 : Nat) ⟨"MorphWords", "square", "()I"⟩ ∈ gtbl := List.mem_of_getElem? (i := 363) (by decide +kernel)
theorem g_364 : Cond.instanceMethod ⟨"MorphWords", "square", "()I"⟩ ∈ gtbl := List.mem_of_getElem? (i := 364) (by decide +kernel)
theorem g_365 : Cond.selects "MorphWords" ⟨"MorphWords", "square", "()I"⟩ ⟨"MorphWords", "square", "()I"⟩ ∈ gtbl := List.mem_of_getElem? (i := 365) (by decide +kernel)
theorem g_366 : Cond.code ⟨"MorphWords", "square", "()I"⟩ prog_1_method_3_code (1 : Nat) (Option.some FieldType.int) ∈ gtbl := List.mem_of_getElem? (i := 366) (by decide +kernel)
theorem g_367 : Cond.methodLink "MorphWords" (113 : Nat) ⟨"MorphWords$Rule", "becomeSquareOf", "(LMorphWords$Rule;)Z"⟩ ∈ gtbl := List.mem_of_getElem? (i := 367) (by decide +kernel)
theorem g_368 : Cond.instanceMethod ⟨"MorphWords$Rule", "becomeSquareOf", "(LMorphWords$Rule;)Z"⟩ ∈ gtbl := List.mem_of_getElem? (i := 368) (by decide +kernel)
theorem g_369 : Cond.selects "MorphWords$Rule" ⟨"MorphWords$Rule", "becomeSquareOf", "(LMorphWords$Rule;)Z"⟩ ⟨"MorphWords$Rule", "becomeSquareOf", "(LMorphWords$Rule;)Z"⟩ ∈ gtbl := List.mem_of_getElem? (i := 369) (by decide +kernel)
theorem g_370 : Cond.code ⟨"MorphWords$Rule", "becomeSquareOf", "(LMorphWords$Rule;)Z"⟩ prog_9_method_7_code (4 : Nat) (Option.some FieldType.boolean) ∈ gtbl := List.mem_of_getElem? (i := 370) (by decide +kernel)
theorem g_371 : Cond.methodLink "MorphWords$Rule" (54 : Nat) ⟨"MorphWords$Letters", "clear", "()V"⟩ ∈ gtbl := List.mem_of_getElem? (i := 371) (by decide +kernel)
theorem g_372 : Cond.methodLink "MorphWords$Rule" (57 : Nat) ⟨"MorphWords$Rule", "addImage", "(LMorphWords$Letters;LMorphWords$Letters;)Z"⟩ ∈ gtbl := List.mem_of_getElem? (i := 372) (by decide +kernel)
theorem g_373 : Cond.instanceMethod ⟨"MorphWords$Rule", "addImage", "(LMorphWords$Letters;LMorphWords$Letters;)Z"⟩ ∈ gtbl := List.mem_of_getElem? (i := 373) (by decide +kernel)
theorem g_374 : Cond.selects "MorphWords$Rule" ⟨"MorphWords$Rule", "addImage", "(LMorphWords$Letters;LMorphWords$Letters;)Z"⟩ ⟨"MorphWords$Rule", "addImage", "(LMorphWords$Letters;LMorphWords$Letters;)Z"⟩ ∈ gtbl := List.mem_of_getElem? (i := 374) (by decide +kernel)
theorem g_375 : Cond.code ⟨"MorphWords$Rule", "addImage", "(LMorphWords$Letters;LMorphWords$Letters;)Z"⟩ prog_9_method_6_code (4 : Nat) (Option.some FieldType.boolean) ∈ gtbl := List.mem_of_getElem? (i := 375) (by decide +kernel)
theorem g_376 : Cond.methodLink "MorphWords$Rule" (43 : Nat) ⟨"MorphWords$Letters", "length", "()I"⟩ ∈ gtbl := List.mem_of_getElem? (i := 376) (by decide +kernel)
theorem g_377 : Cond.methodLink "MorphWords$Rule" (47 : Nat) ⟨"MorphWords$Letters", "letterAt", "(I)I"⟩ ∈ gtbl := List.mem_of_getElem? (i := 377) (by decide +kernel)
theorem g_378 : Cond.methodLink "MorphWords$Rule" (51 : Nat) ⟨"MorphWords$Letters", "addAll", "(LMorphWords$Letters;)Z"⟩ ∈ gtbl := List.mem_of_getElem? (i := 378) (by decide +kernel)
theorem g_379 : Cond.instanceMethod ⟨"MorphWords$Letters", "addAll", "(LMorphWords$Letters;)Z"⟩ ∈ gtbl := List.mem_of_getElem? (i := 379) (by decide +kernel)
theorem g_380 : Cond.selects "MorphWords$Letters" ⟨"MorphWords$Letters", "addAll", "(LMorphWords$Letters;)Z"⟩ ⟨"MorphWords$Letters", "addAll", "(LMorphWords$Letters;)Z"⟩ ∈ gtbl := List.mem_of_getElem? (i := 380) (by decide +kernel)
theorem g_381 : Cond.code ⟨"MorphWords$Letters", "addAll", "(LMorphWords$Letters;)Z"⟩ prog_4_method_6_code (3 : Nat) (Option.some FieldType.boolean) ∈ gtbl := List.mem_of_getElem? (i := 381) (by decide +kernel)
theorem g_382 : Cond.methodLink "MorphWords$Letters" (33 : Nat) ⟨"MorphWords$Letters", "add", "(I)Z"⟩ ∈ gtbl := List.mem_of_getElem? (i := 382) (by decide +kernel)
theorem g_383 : Cond.methodLink "MorphWords" (117 : Nat) ⟨"MorphWords$Rule", "total", "()I"⟩ ∈ gtbl := List.mem_of_getElem? (i := 383) (by decide +kernel)
theorem g_384 : Cond.instanceMethod ⟨"MorphWords$Rule", "total", "()I"⟩ ∈ gtbl := List.mem_of_getElem? (i := 384) (by decide +kernel)
theorem g_385 : Cond.selects "MorphWords$Rule" ⟨"MorphWords$Rule", "total", "()I"⟩ ⟨"MorphWords$Rule", "total", "()I"⟩ ∈ gtbl := List.mem_of_getElem? (i := 385) (by decide +kernel)
theorem g_386 : Cond.code ⟨"MorphWords$Rule", "total", "()I"⟩ prog_9_method_5_code (3 : Nat) (Option.some FieldType.int) ∈ gtbl := List.mem_of_getElem? (i := 386) (by decide +kernel)
theorem g_387 : Cond.methodLink "MorphWordsLaw" (22 : Nat) ⟨"MorphWords", "shift", "(Z)I"⟩ ∈ gtbl := List.mem_of_getElem? (i := 387) (by decide +kernel)
theorem g_388 : Cond.instanceMethod ⟨"MorphWords", "shift", "(Z)I"⟩ ∈ gtbl := List.mem_of_getElem? (i := 388) (by decide +kernel)
theorem g_389 : Cond.selects "MorphWords" ⟨"MorphWords", "shift", "(Z)I"⟩ ⟨"MorphWords", "shift", "(Z)I"⟩ ∈ gtbl := List.mem_of_getElem? (i := 389) (by decide +kernel)
theorem g_390 : Cond.code ⟨"MorphWords", "shift", "(Z)I"⟩ prog_1_method_4_code (3 : Nat) (Option.some FieldType.int) ∈ gtbl := List.mem_of_getElem? (i := 390) (by decide +kernel)
theorem g_391 : Cond.methodLink "MorphWords" (120 : Nat) ⟨"MorphWords$Rule", "commonEnd", "(Z)I"⟩ ∈ gtbl := List.mem_of_getElem? (i := 391) (by decide +kernel)
theorem g_392 : Cond.instanceMethod ⟨"MorphWords$Rule", "commonEnd", "(Z)I"⟩ ∈ gtbl := List.mem_of_getElem? (i := 392) (by decide +kernel)
theorem g_393 : Cond.selects "MorphWords$Rule" ⟨"MorphWords$Rule", "commonEnd", "(Z)I"⟩ ⟨"MorphWords$Rule", "commonEnd", "(Z)I"⟩ ∈ gtbl := List.mem_of_getElem? (i := 393) (by decide +kernel)
theorem g_394 : Cond.code ⟨"MorphWords$Rule", "commonEnd", "(Z)I"⟩ prog_9_method_8_code (4 : Nat) (Option.some FieldType.int) ∈ gtbl := List.mem_of_getElem? (i := 394) (by decide +kernel)
theorem g_395 : Cond.methodLink "MorphWords$Rule" (61 : Nat) ⟨"MorphWords$Rule", "endOf", "(IZ)I"⟩ ∈ gtbl := List.mem_of_getElem? (i := 395) (by decide +kernel)
theorem g_396 : Cond.instanceMethod ⟨"MorphWords$Rule", "endOf", "(IZ)I"⟩ ∈ gtbl := List.mem_of_getElem? (i := 396) (by decide +kernel)
theorem g_397 : Cond.code ⟨"MorphWords$Rule", "endOf", "(IZ)I"⟩ prog_9_method_9_code (4 : Nat) (Option.some FieldType.int) ∈ gtbl := List.mem_of_getElem? (i := 397) (by decide +kernel)
theorem g_398 : Cond.methodLink "MorphWords" (124 : Nat) ⟨"MorphWords$Rule", "rotate", "(Z)V"⟩ ∈ gtbl := List.mem_of_getElem? (i := 398) (by decide +kernel)
theorem g_399 : Cond.instanceMethod ⟨"MorphWords$Rule", "rotate", "(Z)V"⟩ ∈ gtbl := List.mem_of_getElem? (i := 399) (by decide +kernel)
theorem g_400 : Cond.selects "MorphWords$Rule" ⟨"MorphWords$Rule", "rotate", "(Z)V"⟩ ⟨"MorphWords$Rule", "rotate", "(Z)V"⟩ ∈ gtbl := List.mem_of_getElem? (i := 400) (by decide +kernel)
theorem g_401 : Cond.code ⟨"MorphWords$Rule", "rotate", "(Z)V"⟩ prog_9_method_10_code (3 : Nat) (Option.none : Option FieldType) ∈ gtbl := List.mem_of_getElem? (i := 401) (by decide +kernel)
theorem g_402 : Cond.methodLink "MorphWords$Rule" (65 : Nat) ⟨"MorphWords$Letters", "rotate", "(Z)V"⟩ ∈ gtbl := List.mem_of_getElem? (i := 402) (by decide +kernel)
theorem g_403 : Cond.instanceMethod ⟨"MorphWords$Letters", "rotate", "(Z)V"⟩ ∈ gtbl := List.mem_of_getElem? (i := 403) (by decide +kernel)
theorem g_404 : Cond.selects "MorphWords$Letters" ⟨"MorphWords$Letters", "rotate", "(Z)V"⟩ ⟨"MorphWords$Letters", "rotate", "(Z)V"⟩ ∈ gtbl := List.mem_of_getElem? (i := 404) (by decide +kernel)
theorem g_405 : Cond.code ⟨"MorphWords$Letters", "rotate", "(Z)V"⟩ prog_4_method_16_code (3 : Nat) (Option.none : Option FieldType) ∈ gtbl := List.mem_of_getElem? (i := 405) (by decide +kernel)
theorem g_406 : Cond.methodLink "MorphWordsLaw" (27 : Nat) ⟨"MorphWords", "swap", "(II)I"⟩ ∈ gtbl := List.mem_of_getElem? (i := 406) (by decide +kernel)
theorem g_407 : Cond.instanceMethod ⟨"MorphWords", "swap", "(II)I"⟩ ∈ gtbl := List.mem_of_getElem? (i := 407) (by decide +kernel)
theorem g_408 : Cond.selects "MorphWords" ⟨"MorphWords", "swap", "(II)I"⟩ ⟨"MorphWords", "swap", "(II)I"⟩ ∈ gtbl := List.mem_of_getElem? (i := 408) (by decide +kernel)
theorem g_409 : Cond.code ⟨"MorphWords", "swap", "(II)I"⟩ prog_1_method_5_code (4 : Nat) (Option.some FieldType.int) ∈ gtbl := List.mem_of_getElem? (i := 409) (by decide +kernel)
theorem g_410 : Cond.methodLink "MorphWords" (128 : Nat) ⟨"MorphWords", "isLetter", "(I)Z"⟩ ∈ gtbl := List.mem_of_getElem? (i := 410) (by decide +kernel)
theorem g_411 : Cond.methodLink "MorphWords" (135 : Nat) ⟨"MorphWords$Letters", "countOf", "(I)I"⟩ ∈ gtbl := List.mem_of_getElem? (i := 411) (by decide +kernel)
theorem g_412 : Cond.instanceMethod ⟨"MorphWords$Letters", "countOf", "(I)I"⟩ ∈ gtbl := List.mem_of_getElem? (i := 412) (by decide +kernel)
theorem g_413 : Cond.selects "MorphWords$Letters" ⟨"MorphWords$Letters", "countOf", "(I)I"⟩ ⟨"MorphWords$Letters", "countOf", "(I)I"⟩ ∈ gtbl := List.mem_of_getElem? (i := 413) (by decide +kernel)
theorem g_414 : Cond.code ⟨"MorphWords$Letters", "countOf", "(I)I"⟩ prog_4_method_14_code (4 : Nat) (Option.some FieldType.int) ∈ gtbl := List.mem_of_getElem? (i := 414) (by decide +kernel)
theorem g_415 : Cond.methodLink "MorphWords" (143 : Nat) ⟨"MorphWords$Rule", "exchange", "(II)V"⟩ ∈ gtbl := List.mem_of_getElem? (i := 415) (by decide +kernel)
theorem g_416 : Cond.instanceMethod ⟨"MorphWords$Rule", "exchange", "(II)V"⟩ ∈ gtbl := List.mem_of_getElem? (i := 416) (by decide +kernel)
theorem g_417 : Cond.selects "MorphWords$Rule" ⟨"MorphWords$Rule", "exchange", "(II)V"⟩ ⟨"MorphWords$Rule", "exchange", "(II)V"⟩ ∈ gtbl := List.mem_of_getElem? (i := 417) (by decide +kernel)
theorem g_418 : Cond.code ⟨"MorphWords$Rule", "exchange", "(II)V"⟩ prog_9_method_11_code (4 : Nat) (Option.none : Option FieldType) ∈ gtbl := List.mem_of_getElem? (i := 418) (by decide +kernel)
theorem g_419 : Cond.methodLink "MorphWords$Rule" (69 : Nat) ⟨"MorphWords$Letters", "exchange", "(II)V"⟩ ∈ gtbl := List.mem_of_getElem? (i := 419) (by decide +kernel)
theorem g_420 : Cond.instanceMethod ⟨"MorphWords$Letters", "exchange", "(II)V"⟩ ∈ gtbl := List.mem_of_getElem? (i := 420) (by decide +kernel)
theorem g_421 : Cond.selects "MorphWords$Letters" ⟨"MorphWords$Letters", "exchange", "(II)V"⟩ ⟨"MorphWords$Letters", "exchange", "(II)V"⟩ ∈ gtbl := List.mem_of_getElem? (i := 421) (by decide +kernel)
theorem g_422 : Cond.code ⟨"MorphWords$Letters", "exchange", "(II)V"⟩ prog_4_method_15_code (4 : Nat) (Option.none : Option FieldType) ∈ gtbl := List.mem_of_getElem? (i := 422) (by decide +kernel)
theorem g_423 : Cond.methodLink "MorphWords" (147 : Nat) ⟨"MorphWords$Letters", "exchange", "(II)V"⟩ ∈ gtbl := List.mem_of_getElem? (i := 423) (by decide +kernel)
theorem g_424 : Cond.methodLink "MorphWordsLaw" (32 : Nat) ⟨"MorphWords", "start", "(I)I"⟩ ∈ gtbl := List.mem_of_getElem? (i := 424) (by decide +kernel)
theorem g_425 : Cond.instanceMethod ⟨"MorphWords", "start", "(I)I"⟩ ∈ gtbl := List.mem_of_getElem? (i := 425) (by decide +kernel)
theorem g_426 : Cond.selects "MorphWords" ⟨"MorphWords", "start", "(I)I"⟩ ⟨"MorphWords", "start", "(I)I"⟩ ∈ gtbl := List.mem_of_getElem? (i := 426) (by decide +kernel)
theorem g_427 : Cond.code ⟨"MorphWords", "start", "(I)I"⟩ prog_1_method_6_code (3 : Nat) (Option.some FieldType.int) ∈ gtbl := List.mem_of_getElem? (i := 427) (by decide +kernel)
theorem g_428 : Cond.methodLink "MorphWords" (148 : Nat) ⟨"MorphWords$Letters", "length", "()I"⟩ ∈ gtbl := List.mem_of_getElem? (i := 428) (by decide +kernel)
theorem g_429 : Cond.methodLink "MorphWords" (151 : Nat) ⟨"MorphWords$Letters", "clear", "()V"⟩ ∈ gtbl := List.mem_of_getElem? (i := 429) (by decide +kernel)
theorem g_430 : Cond.methodLink "MorphWords" (154 : Nat) ⟨"MorphWords$Letters", "add", "(I)Z"⟩ ∈ gtbl := List.mem_of_getElem? (i := 430) (by decide +kernel)
theorem g_431 : Cond.methodLink "MorphWords" (157 : Nat) ⟨"MorphWords", "takeNextWord", "()Z"⟩ ∈ gtbl := List.mem_of_getElem? (i := 431) (by decide +kernel)
theorem g_432 : Cond.instanceMethod ⟨"MorphWords", "takeNextWord", "()Z"⟩ ∈ gtbl := List.mem_of_getElem? (i := 432) (by decide +kernel)
theorem g_433 : Cond.code ⟨"MorphWords", "takeNextWord", "()Z"⟩ prog_1_method_33_code (1 : Nat) (Option.some FieldType.boolean) ∈ gtbl := List.mem_of_getElem? (i := 433) (by decide +kernel)
theorem g_434 : Cond.methodLink "MorphWords" (189 : Nat) ⟨"MorphWords$Letters", "same", "(LMorphWords$Letters;)Z"⟩ ∈ gtbl := List.mem_of_getElem? (i := 434) (by decide +kernel)
theorem g_435 : Cond.methodLink "MorphWords" (160 : Nat) ⟨"MorphWords$Letters", "become", "(LMorphWords$Letters;)V"⟩ ∈ gtbl := List.mem_of_getElem? (i := 435) (by decide +kernel)
theorem g_436 : Cond.methodLink "MorphWordsLaw" (37 : Nat) ⟨"MorphWords", "grow", "(I)I"⟩ ∈ gtbl := List.mem_of_getElem? (i := 436) (by decide +kernel)
theorem g_437 : Cond.instanceMethod ⟨"MorphWords", "grow", "(I)I"⟩ ∈ gtbl := List.mem_of_getElem? (i := 437) (by decide +kernel)
theorem g_438 : Cond.selects "MorphWords" ⟨"MorphWords", "grow", "(I)I"⟩ ⟨"MorphWords", "grow", "(I)I"⟩ ∈ gtbl := List.mem_of_getElem? (i := 438) (by decide +kernel)
theorem g_439 : Cond.code ⟨"MorphWords", "grow", "(I)I"⟩ prog_1_method_7_code (3 : Nat) (Option.some FieldType.int) ∈ gtbl := List.mem_of_getElem? (i := 439) (by decide +kernel)
theorem g_440 : Cond.methodLink "MorphWords" (163 : Nat) ⟨"MorphWords$Rule", "addImage", "(LMorphWords$Letters;LMorphWords$Letters;)Z"⟩ ∈ gtbl := List.mem_of_getElem? (i := 440) (by decide +kernel)
theorem g_441 : Cond.methodLink "MorphWordsLaw" (41 : Nat) ⟨"MorphWords", "cut", "(I)I"⟩ ∈ gtbl := List.mem_of_getElem? (i := 441) (by decide +kernel)
theorem g_442 : Cond.instanceMethod ⟨"MorphWords", "cut", "(I)I"⟩ ∈ gtbl := List.mem_of_getElem? (i := 442) (by decide +kernel)
theorem g_443 : Cond.selects "MorphWords" ⟨"MorphWords", "cut", "(I)I"⟩ ⟨"MorphWords", "cut", "(I)I"⟩ ∈ gtbl := List.mem_of_getElem? (i := 443) (by decide +kernel)
theorem g_444 : Cond.code ⟨"MorphWords", "cut", "(I)I"⟩ prog_1_method_8_code (3 : Nat) (Option.some FieldType.int) ∈ gtbl := List.mem_of_getElem? (i := 444) (by decide +kernel)
theorem g_445 : Cond.methodLink "MorphWords" (167 : Nat) ⟨"MorphWords$Letters", "shorten", "(I)V"⟩ ∈ gtbl := List.mem_of_getElem? (i := 445) (by decide +kernel)
theorem g_446 : Cond.instanceMethod ⟨"MorphWords$Letters", "shorten", "(I)V"⟩ ∈ gtbl := List.mem_of_getElem? (i := 446) (by decide +kernel)
theorem g_447 : Cond.selects "MorphWords$Letters" ⟨"MorphWords$Letters", "shorten", "(I)V"⟩ ⟨"MorphWords$Letters", "shorten", "(I)V"⟩ ∈ gtbl := List.mem_of_getElem? (i := 447) (by decide +kernel)
theorem g_448 : Cond.code ⟨"MorphWords$Letters", "shorten", "(I)V"⟩ prog_4_method_7_code (2 : Nat) (Option.none : Option FieldType) ∈ gtbl := List.mem_of_getElem? (i := 448) (by decide +kernel)
theorem g_449 : Cond.methodLink "MorphWordsLaw" (45 : Nat) ⟨"MorphWords", "derive", "()I"⟩ ∈ gtbl := List.mem_of_getElem? (i := 449) (by decide +kernel)
theorem g_450 : Cond.instanceMethod ⟨"MorphWords", "derive", "()I"⟩ ∈ gtbl := List.mem_of_getElem? (i := 450) (by decide +kernel)
theorem g_451 : Cond.selects "MorphWords" ⟨"MorphWords", "derive", "()I"⟩ ⟨"MorphWords", "derive", "()I"⟩ ∈ gtbl := List.mem_of_getElem? (i := 451) (by decide +kernel)
theorem g_452 : Cond.code ⟨"MorphWords", "derive", "()I"⟩ prog_1_method_9_code (2 : Nat) (Option.some FieldType.int) ∈ gtbl := List.mem_of_getElem? (i := 452) (by decide +kernel)
theorem g_453 : Cond.methodLink "MorphWords" (173 : Nat) ⟨"MorphWords$ReturnTable", "find", "(LMorphWords$Letters;LMorphWords$Letters;)V"⟩ ∈ gtbl := List.mem_of_getElem? (i := 453) (by decide +kernel)
theorem g_454 : Cond.instanceMethod ⟨"MorphWords$ReturnTable", "find", "(LMorphWords$Letters;LMorphWords$Letters;)V"⟩ ∈ gtbl := List.mem_of_getElem? (i := 454) (by decide +kernel)
theorem g_455 : Cond.selects "MorphWords$ReturnTable" ⟨"MorphWords$ReturnTable", "find", "(LMorphWords$Letters;LMorphWords$Letters;)V"⟩ ⟨"MorphWords$ReturnTable", "find", "(LMorphWords$Letters;LMorphWords$Letters;)V"⟩ ∈ gtbl := List.mem_of_getElem? (i := 455) (by decide +kernel)
theorem g_456 : Cond.code ⟨"MorphWords$ReturnTable", "find", "(LMorphWords$Letters;LMorphWords$Letters;)V"⟩ prog_8_method_2_code (4 : Nat) (Option.none : Option FieldType) ∈ gtbl := List.mem_of_getElem? (i := 456) (by decide +kernel)
theorem g_457 : Cond.methodLink "MorphWords$ReturnTable" (31 : Nat) ⟨"MorphWords$Letters", "length", "()I"⟩ ∈ gtbl := List.mem_of_getElem? (i := 457) (by decide +kernel)
theorem g_458 : Cond.methodLink "MorphWords$ReturnTable" (37 : Nat) ⟨"MorphWords$Letters", "hasFrom", "(ILMorphWords$Letters;)Z"⟩ ∈ gtbl := List.mem_of_getElem? (i := 458) (by decide +kernel)
theorem g_459 : Cond.methodLink "MorphWords$ReturnTable" (41 : Nat) ⟨"MorphWords$ReturnTable", "rowLength", "()I"⟩ ∈ gtbl := List.mem_of_getElem? (i := 459) (by decide +kernel)
theorem g_460 : Cond.instanceMethod ⟨"MorphWords$ReturnTable", "rowLength", "()I"⟩ ∈ gtbl := List.mem_of_getElem? (i := 460) (by decide +kernel)
theorem g_461 : Cond.selects "MorphWords$ReturnTable" ⟨"MorphWords$ReturnTable", "rowLength", "()I"⟩ ⟨"MorphWords$ReturnTable", "rowLength", "()I"⟩ ∈ gtbl := List.mem_of_getElem? (i := 461) (by decide +kernel)
theorem g_462 : Cond.code ⟨"MorphWords$ReturnTable", "rowLength", "()I"⟩ prog_8_method_8_code (1 : Nat) (Option.some FieldType.int) ∈ gtbl := List.mem_of_getElem? (i := 462) (by decide +kernel)
theorem g_463 : Cond.methodLink "MorphWords$ReturnTable" (63 : Nat) ⟨"java/lang/Math", "max", "(II)I"⟩ ∈ gtbl := List.mem_of_getElem? (i := 463) (by decide +kernel)
theorem g_464 : Cond.methodLink "MorphWords$ReturnTable" (44 : Nat) ⟨"MorphWords$ReturnTable", "addReturn", "(LMorphWords$Letters;I)V"⟩ ∈ gtbl := List.mem_of_getElem? (i := 464) (by decide +kernel)
theorem g_465 : Cond.instanceMethod ⟨"MorphWords$ReturnTable", "addReturn", "(LMorphWords$Letters;I)V"⟩ ∈ gtbl := List.mem_of_getElem? (i := 465) (by decide +kernel)
theorem g_466 : Cond.code ⟨"MorphWords$ReturnTable", "addReturn", "(LMorphWords$Letters;I)V"⟩ prog_8_method_3_code (4 : Nat) (Option.none : Option FieldType) ∈ gtbl := List.mem_of_getElem? (i := 466) (by decide +kernel)
theorem g_467 : Cond.methodLink "MorphWords$ReturnTable" (48 : Nat) ⟨"MorphWords$ReturnTable", "isSameReturn", "(LMorphWords$Letters;II)Z"⟩ ∈ gtbl := List.mem_of_getElem? (i := 467) (by decide +kernel)
theorem g_468 : Cond.instanceMethod ⟨"MorphWords$ReturnTable", "isSameReturn", "(LMorphWords$Letters;II)Z"⟩ ∈ gtbl := List.mem_of_getElem? (i := 468) (by decide +kernel)
theorem g_469 : Cond.code ⟨"MorphWords$ReturnTable", "isSameReturn", "(LMorphWords$Letters;II)Z"⟩ prog_8_method_4_code (5 : Nat) (Option.some FieldType.boolean) ∈ gtbl := List.mem_of_getElem? (i := 469) (by decide +kernel)
theorem g_470 : Cond.methodLink "MorphWords$ReturnTable" (52 : Nat) ⟨"MorphWords$ReturnTable", "spanOf", "(I)I"⟩ ∈ gtbl := List.mem_of_getElem? (i := 470) (by decide +kernel)
theorem g_471 : Cond.instanceMethod ⟨"MorphWords$ReturnTable", "spanOf", "(I)I"⟩ ∈ gtbl := List.mem_of_getElem? (i := 471) (by decide +kernel)
theorem g_472 : Cond.code ⟨"MorphWords$ReturnTable", "spanOf", "(I)I"⟩ prog_8_method_5_code (2 : Nat) (Option.some FieldType.int) ∈ gtbl := List.mem_of_getElem? (i := 472) (by decide +kernel)
theorem g_473 : Cond.methodLink "MorphWords$ReturnTable" (56 : Nat) ⟨"MorphWords$ReturnTable", "placeOf", "(I)I"⟩ ∈ gtbl := List.mem_of_getElem? (i := 473) (by decide +kernel)
theorem g_474 : Cond.instanceMethod ⟨"MorphWords$ReturnTable", "placeOf", "(I)I"⟩ ∈ gtbl := List.mem_of_getElem? (i := 474) (by decide +kernel)
theorem g_475 : Cond.selects "MorphWords$ReturnTable" ⟨"MorphWords$ReturnTable", "placeOf", "(I)I"⟩ ⟨"MorphWords$ReturnTable", "placeOf", "(I)I"⟩ ∈ gtbl := List.mem_of_getElem? (i := 475) (by decide +kernel)
theorem g_476 : Cond.code ⟨"MorphWords$ReturnTable", "placeOf", "(I)I"⟩ prog_8_method_7_code (2 : Nat) (Option.some FieldType.int) ∈ gtbl := List.mem_of_getElem? (i := 476) (by decide +kernel)
theorem g_477 : Cond.methodLink "MorphWords$ReturnTable" (59 : Nat) ⟨"MorphWords$Letters", "repeats", "(III)Z"⟩ ∈ gtbl := List.mem_of_getElem? (i := 477) (by decide +kernel)
theorem g_478 : Cond.instanceMethod ⟨"MorphWords$Letters", "repeats", "(III)Z"⟩ ∈ gtbl := List.mem_of_getElem? (i := 478) (by decide +kernel)
theorem g_479 : Cond.selects "MorphWords$Letters" ⟨"MorphWords$Letters", "repeats", "(III)Z"⟩ ⟨"MorphWords$Letters", "repeats", "(III)Z"⟩ ∈ gtbl := List.mem_of_getElem? (i := 479) (by decide +kernel)
theorem g_480 : Cond.code ⟨"MorphWords$Letters", "repeats", "(III)Z"⟩ prog_4_method_11_code (5 : Nat) (Option.some FieldType.boolean) ∈ gtbl := List.mem_of_getElem? (i := 480) (by decide +kernel)
theorem g_481 : Cond.methodLink "MorphWords" (177 : Nat) ⟨"MorphWords$ReturnTable", "rowLength", "()I"⟩ ∈ gtbl := List.mem_of_getElem? (i := 481) (by decide +kernel)
theorem g_482 : Cond.methodLink "MorphWords" (180 : Nat) ⟨"MorphWords$ReturnTable", "different", "()I"⟩ ∈ gtbl := List.mem_of_getElem? (i := 482) (by decide +kernel)
theorem g_483 : Cond.instanceMethod ⟨"MorphWords$ReturnTable", "different", "()I"⟩ ∈ gtbl := List.mem_of_getElem? (i := 483) (by decide +kernel)
theorem g_484 : Cond.selects "MorphWords$ReturnTable" ⟨"MorphWords$ReturnTable", "different", "()I"⟩ ⟨"MorphWords$ReturnTable", "different", "()I"⟩ ∈ gtbl := List.mem_of_getElem? (i := 484) (by decide +kernel)
theorem g_485 : Cond.code ⟨"MorphWords$ReturnTable", "different", "()I"⟩ prog_8_method_10_code (1 : Nat) (Option.some FieldType.int) ∈ gtbl := List.mem_of_getElem? (i := 485) (by decide +kernel)
theorem g_486 : Cond.methodLink "MorphWords" (183 : Nat) ⟨"MorphWords$ReturnTable", "numberAt", "(I)I"⟩ ∈ gtbl := List.mem_of_getElem? (i := 486) (by decide +kernel)
theorem g_487 : Cond.instanceMethod ⟨"MorphWords$ReturnTable", "numberAt", "(I)I"⟩ ∈ gtbl := List.mem_of_getElem? (i := 487) (by decide +kernel)
theorem g_488 : Cond.selects "MorphWords$ReturnTable" ⟨"MorphWords$ReturnTable", "numberAt", "(I)I"⟩ ⟨"MorphWords$ReturnTable", "numberAt", "(I)I"⟩ ∈ gtbl := List.mem_of_getElem? (i := 488) (by decide +kernel)
theorem g_489 : Cond.code ⟨"MorphWords$ReturnTable", "numberAt", "(I)I"⟩ prog_8_method_9_code (2 : Nat) (Option.some FieldType.int) ∈ gtbl := List.mem_of_getElem? (i := 489) (by decide +kernel)
theorem g_490 : Cond.methodLink "MorphWordsLaw" (49 : Nat) ⟨"MorphWords", "look", "()I"⟩ ∈ gtbl := List.mem_of_getElem? (i := 490) (by decide +kernel)
theorem g_491 : Cond.instanceMethod ⟨"MorphWords", "look", "()I"⟩ ∈ gtbl := List.mem_of_getElem? (i := 491) (by decide +kernel)
theorem g_492 : Cond.selects "MorphWords" ⟨"MorphWords", "look", "()I"⟩ ⟨"MorphWords", "look", "()I"⟩ ∈ gtbl := List.mem_of_getElem? (i := 492) (by decide +kernel)
theorem g_493 : Cond.code ⟨"MorphWords", "look", "()I"⟩ prog_1_method_10_code (2 : Nat) (Option.some FieldType.int) ∈ gtbl := List.mem_of_getElem? (i := 493) (by decide +kernel)
theorem g_494 : Cond.methodLink "MorphWords" (186 : Nat) ⟨"MorphWords$Text", "readInto", "(LMorphWords$Letters;)I"⟩ ∈ gtbl := List.mem_of_getElem? (i := 494) (by decide +kernel)
theorem g_495 : Cond.instanceMethod ⟨"MorphWords$Text", "readInto", "(LMorphWords$Letters;)I"⟩ ∈ gtbl := List.mem_of_getElem? (i := 495) (by decide +kernel)
theorem g_496 : Cond.selects "MorphWords$Text" ⟨"MorphWords$Text", "readInto", "(LMorphWords$Letters;)I"⟩ ⟨"MorphWords$Text", "readInto", "(LMorphWords$Letters;)I"⟩ ∈ gtbl := List.mem_of_getElem? (i := 496) (by decide +kernel)
theorem g_497 : Cond.code ⟨"MorphWords$Text", "readInto", "(LMorphWords$Letters;)I"⟩ prog_11_method_9_code (3 : Nat) (Option.some FieldType.int) ∈ gtbl := List.mem_of_getElem? (i := 497) (by decide +kernel)
theorem g_498 : Cond.methodLink "MorphWords" (193 : Nat) ⟨"MorphWords$ReturnTable", "found", "()I"⟩ ∈ gtbl := List.mem_of_getElem? (i := 498) (by decide +kernel)
theorem g_499 : Cond.instanceMethod ⟨"MorphWords$ReturnTable", "found", "()I"⟩ ∈ gtbl := List.mem_of_getElem? (i := 499) (by decide +kernel)
theorem g_500 : Cond.selects "MorphWords$ReturnTable" ⟨"MorphWords$ReturnTable", "found", "()I"⟩ ⟨"MorphWords$ReturnTable", "found", "()I"⟩ ∈ gtbl := List.mem_of_getElem? (i := 500) (by decide +kernel)
theorem g_501 : Cond.code ⟨"MorphWords$ReturnTable", "found", "()I"⟩ prog_8_method_6_code (1 : Nat) (Option.some FieldType.int) ∈ gtbl := List.mem_of_getElem? (i := 501) (by decide +kernel)
theorem g_502 : Cond.methodLink "MorphWordsLaw" (53 : Nat) ⟨"MorphWords", "type", "(C)I"⟩ ∈ gtbl := List.mem_of_getElem? (i := 502) (by decide +kernel)
theorem g_503 : Cond.instanceMethod ⟨"MorphWords", "type", "(C)I"⟩ ∈ gtbl := List.mem_of_getElem? (i := 503) (by decide +kernel)
theorem g_504 : Cond.selects "MorphWords" ⟨"MorphWords", "type", "(C)I"⟩ ⟨"MorphWords", "type", "(C)I"⟩ ∈ gtbl := List.mem_of_getElem? (i := 504) (by decide +kernel)
theorem g_505 : Cond.code ⟨"MorphWords", "type", "(C)I"⟩ prog_1_method_11_code (2 : Nat) (Option.some FieldType.int) ∈ gtbl := List.mem_of_getElem? (i := 505) (by decide +kernel)
theorem g_506 : Cond.methodLink "MorphWords" (196 : Nat) ⟨"MorphWords$Text", "add", "(C)Z"⟩ ∈ gtbl := List.mem_of_getElem? (i := 506) (by decide +kernel)
theorem g_507 : Cond.instanceMethod ⟨"MorphWords$Text", "add", "(C)Z"⟩ ∈ gtbl := List.mem_of_getElem? (i := 507) (by decide +kernel)
theorem g_508 : Cond.selects "MorphWords$Text" ⟨"MorphWords$Text", "add", "(C)Z"⟩ ⟨"MorphWords$Text", "add", "(C)Z"⟩ ∈ gtbl := List.mem_of_getElem? (i := 508) (by decide +kernel)
theorem g_509 : Cond.code ⟨"MorphWords$Text", "add", "(C)Z"⟩ prog_11_method_4_code (2 : Nat) (Option.some FieldType.boolean) ∈ gtbl := List.mem_of_getElem? (i := 509) (by decide +kernel)
theorem g_510 : Cond.methodLink "MorphWords" (199 : Nat) ⟨"MorphWords$Text", "length", "()I"⟩ ∈ gtbl := List.mem_of_getElem? (i := 510) (by decide +kernel)
theorem g_511 : Cond.instanceMethod ⟨"MorphWords$Text", "length", "()I"⟩ ∈ gtbl := List.mem_of_getElem? (i := 511) (by decide +kernel)
theorem g_512 : Cond.selects "MorphWords$Text" ⟨"MorphWords$Text", "length", "()I"⟩ ⟨"MorphWords$Text", "length", "()I"⟩ ∈ gtbl := List.mem_of_getElem? (i := 512) (by decide +kernel)
theorem g_513 : Cond.code ⟨"MorphWords$Text", "length", "()I"⟩ prog_11_method_2_code (1 : Nat) (Option.some FieldType.int) ∈ gtbl := List.mem_of_getElem? (i := 513) (by decide +kernel)
theorem g_514 : Cond.methodLink "MorphWordsLaw" (58 : Nat) ⟨"MorphWords", "clearText", "()I"⟩ ∈ gtbl := List.mem_of_getElem? (i := 514) (by decide +kernel)
theorem g_515 : Cond.instanceMethod ⟨"MorphWords", "clearText", "()I"⟩ ∈ gtbl := List.mem_of_getElem? (i := 515) (by decide +kernel)
theorem g_516 : Cond.selects "MorphWords" ⟨"MorphWords", "clearText", "()I"⟩ ⟨"MorphWords", "clearText", "()I"⟩ ∈ gtbl := List.mem_of_getElem? (i := 516) (by decide +kernel)
theorem g_517 : Cond.code ⟨"MorphWords", "clearText", "()I"⟩ prog_1_method_12_code (2 : Nat) (Option.some FieldType.int) ∈ gtbl := List.mem_of_getElem? (i := 517) (by decide +kernel)
theorem g_518 : Cond.methodLink "MorphWords" (200 : Nat) ⟨"MorphWords$Text", "clear", "()V"⟩ ∈ gtbl := List.mem_of_getElem? (i := 518) (by decide +kernel)
theorem g_519 : Cond.instanceMethod ⟨"MorphWords$Text", "clear", "()V"⟩ ∈ gtbl := List.mem_of_getElem? (i := 519) (by decide +kernel)
theorem g_520 : Cond.selects "MorphWords$Text" ⟨"MorphWords$Text", "clear", "()V"⟩ ⟨"MorphWords$Text", "clear", "()V"⟩ ∈ gtbl := List.mem_of_getElem? (i := 520) (by decide +kernel)
theorem g_521 : Cond.code ⟨"MorphWords$Text", "clear", "()V"⟩ prog_11_method_3_code (1 : Nat) (Option.none : Option FieldType) ∈ gtbl := List.mem_of_getElem? (i := 521) (by decide +kernel)
theorem g_522 : Cond.methodLink "MorphWordsLaw" (62 : Nat) ⟨"MorphWords", "undo", "()I"⟩ ∈ gtbl := List.mem_of_getElem? (i := 522) (by decide +kernel)
theorem g_523 : Cond.instanceMethod ⟨"MorphWords", "undo", "()I"⟩ ∈ gtbl := List.mem_of_getElem? (i := 523) (by decide +kernel)
theorem g_524 : Cond.selects "MorphWords" ⟨"MorphWords", "undo", "()I"⟩ ⟨"MorphWords", "undo", "()I"⟩ ∈ gtbl := List.mem_of_getElem? (i := 524) (by decide +kernel)
theorem g_525 : Cond.code ⟨"MorphWords", "undo", "()I"⟩ prog_1_method_13_code (1 : Nat) (Option.some FieldType.int) ∈ gtbl := List.mem_of_getElem? (i := 525) (by decide +kernel)
theorem g_526 : Cond.methodLink "MorphWords" (201 : Nat) ⟨"MorphWords$History", "takeBack", "(LMorphWords$State;)Z"⟩ ∈ gtbl := List.mem_of_getElem? (i := 526) (by decide +kernel)
theorem g_527 : Cond.instanceMethod ⟨"MorphWords$History", "takeBack", "(LMorphWords$State;)Z"⟩ ∈ gtbl := List.mem_of_getElem? (i := 527) (by decide +kernel)
theorem g_528 : Cond.selects "MorphWords$History" ⟨"MorphWords$History", "takeBack", "(LMorphWords$State;)Z"⟩ ⟨"MorphWords$History", "takeBack", "(LMorphWords$State;)Z"⟩ ∈ gtbl := List.mem_of_getElem? (i := 528) (by decide +kernel)
theorem g_529 : Cond.code ⟨"MorphWords$History", "takeBack", "(LMorphWords$State;)Z"⟩ prog_3_method_5_code (2 : Nat) (Option.some FieldType.boolean) ∈ gtbl := List.mem_of_getElem? (i := 529) (by decide +kernel)
theorem g_530 : Cond.methodLink "MorphWords" (205 : Nat) ⟨"MorphWords$History", "held", "()I"⟩ ∈ gtbl := List.mem_of_getElem? (i := 530) (by decide +kernel)
theorem g_531 : Cond.instanceMethod ⟨"MorphWords$History", "held", "()I"⟩ ∈ gtbl := List.mem_of_getElem? (i := 531) (by decide +kernel)
theorem g_532 : Cond.selects "MorphWords$History" ⟨"MorphWords$History", "held", "()I"⟩ ⟨"MorphWords$History", "held", "()I"⟩ ∈ gtbl := List.mem_of_getElem? (i := 532) (by decide +kernel)
theorem g_533 : Cond.code ⟨"MorphWords$History", "held", "()I"⟩ prog_3_method_2_code (1 : Nat) (Option.some FieldType.int) ∈ gtbl := List.mem_of_getElem? (i := 533) (by decide +kernel)
theorem g_534 : Cond.methodLink "MorphWordsLaw" (66 : Nat) ⟨"MorphWords", "keep", "()I"⟩ ∈ gtbl := List.mem_of_getElem? (i := 534) (by decide +kernel)
theorem g_535 : Cond.instanceMethod ⟨"MorphWords", "keep", "()I"⟩ ∈ gtbl := List.mem_of_getElem? (i := 535) (by decide +kernel)
theorem g_536 : Cond.selects "MorphWords" ⟨"MorphWords", "keep", "()I"⟩ ⟨"MorphWords", "keep", "()I"⟩ ∈ gtbl := List.mem_of_getElem? (i := 536) (by decide +kernel)
theorem g_537 : Cond.code ⟨"MorphWords", "keep", "()I"⟩ prog_1_method_14_code (1 : Nat) (Option.some FieldType.int) ∈ gtbl := List.mem_of_getElem? (i := 537) (by decide +kernel)
theorem g_538 : Cond.methodLink "MorphWords" (208 : Nat) ⟨"MorphWords$State", "become", "(LMorphWords$State;)V"⟩ ∈ gtbl := List.mem_of_getElem? (i := 538) (by decide +kernel)
theorem g_539 : Cond.methodLink "MorphWordsLaw" (70 : Nat) ⟨"MorphWords", "restore", "()I"⟩ ∈ gtbl := List.mem_of_getElem? (i := 539) (by decide +kernel)
theorem g_540 : Cond.instanceMethod ⟨"MorphWords", "restore", "()I"⟩ ∈ gtbl := List.mem_of_getElem? (i := 540) (by decide +kernel)
theorem g_541 : Cond.selects "MorphWords" ⟨"MorphWords", "restore", "()I"⟩ ⟨"MorphWords", "restore", "()I"⟩ ∈ gtbl := List.mem_of_getElem? (i := 541) (by decide +kernel)
theorem g_542 : Cond.code ⟨"MorphWords", "restore", "()I"⟩ prog_1_method_15_code (1 : Nat) (Option.some FieldType.int) ∈ gtbl := List.mem_of_getElem? (i := 542) (by decide +kernel)
theorem g_543 : Cond.methodLink "MorphWordsLaw" (74 : Nat) ⟨"MorphWords", "image", "(II)I"⟩ ∈ gtbl := List.mem_of_getElem? (i := 543) (by decide +kernel)
theorem g_544 : Cond.instanceMethod ⟨"MorphWords", "image", "(II)I"⟩ ∈ gtbl := List.mem_of_getElem? (i := 544) (by decide +kernel)
theorem g_545 : Cond.selects "MorphWords" ⟨"MorphWords", "image", "(II)I"⟩ ⟨"MorphWords", "image", "(II)I"⟩ ∈ gtbl := List.mem_of_getElem? (i := 545) (by decide +kernel)
theorem g_546 : Cond.code ⟨"MorphWords", "image", "(II)I"⟩ prog_1_method_16_code (4 : Nat) (Option.some FieldType.int) ∈ gtbl := List.mem_of_getElem? (i := 546) (by decide +kernel)
theorem g_547 : Cond.methodLink "MorphWords" (210 : Nat) ⟨"MorphWords$Rule", "imageOf", "(I)LMorphWords$Letters;"⟩ ∈ gtbl := List.mem_of_getElem? (i := 547) (by decide +kernel)
theorem g_548 : Cond.methodLink "MorphWords" (214 : Nat) ⟨"MorphWords$Letters", "letterAt", "(I)I"⟩ ∈ gtbl := List.mem_of_getElem? (i := 548) (by decide +kernel)
theorem g_549 : Cond.methodLink "MorphWordsLaw" (78 : Nat) ⟨"MorphWords", "rule", "(II)I"⟩ ∈ gtbl := List.mem_of_getElem? (i := 549) (by decide +kernel)
theorem g_550 : Cond.instanceMethod ⟨"MorphWords", "rule", "(II)I"⟩ ∈ gtbl := List.mem_of_getElem? (i := 550) (by decide +kernel)
theorem g_551 : Cond.selects "MorphWords" ⟨"MorphWords", "rule", "(II)I"⟩ ⟨"MorphWords", "rule", "(II)I"⟩ ∈ gtbl := List.mem_of_getElem? (i := 551) (by decide +kernel)
theorem g_552 : Cond.code ⟨"MorphWords", "rule", "(II)I"⟩ prog_1_method_17_code (4 : Nat) (Option.some FieldType.int) ∈ gtbl := List.mem_of_getElem? (i := 552) (by decide +kernel)
theorem g_553 : Cond.methodLink "MorphWords" (217 : Nat) ⟨"MorphWords$Letters", "bits", "()I"⟩ ∈ gtbl := List.mem_of_getElem? (i := 553) (by decide +kernel)
theorem g_554 : Cond.instanceMethod ⟨"MorphWords$Letters", "bits", "()I"⟩ ∈ gtbl := List.mem_of_getElem? (i := 554) (by decide +kernel)
theorem g_555 : Cond.selects "MorphWords$Letters" ⟨"MorphWords$Letters", "bits", "()I"⟩ ⟨"MorphWords$Letters", "bits", "()I"⟩ ∈ gtbl := List.mem_of_getElem? (i := 555) (by decide +kernel)
theorem g_556 : Cond.code ⟨"MorphWords$Letters", "bits", "()I"⟩ prog_4_method_13_code (3 : Nat) (Option.some FieldType.int) ∈ gtbl := List.mem_of_getElem? (i := 556) (by decide +kernel)
theorem g_557 : Cond.methodLink "MorphWords" (220 : Nat) ⟨"MorphWords$Rule", "reachedFrom", "(I)I"⟩ ∈ gtbl := List.mem_of_getElem? (i := 557) (by decide +kernel)
theorem g_558 : Cond.instanceMethod ⟨"MorphWords$Rule", "reachedFrom", "(I)I"⟩ ∈ gtbl := List.mem_of_getElem? (i := 558) (by decide +kernel)
theorem g_559 : Cond.selects "MorphWords$Rule" ⟨"MorphWords$Rule", "reachedFrom", "(I)I"⟩ ⟨"MorphWords$Rule", "reachedFrom", "(I)I"⟩ ∈ gtbl := List.mem_of_getElem? (i := 559) (by decide +kernel)
theorem g_560 : Cond.code ⟨"MorphWords$Rule", "reachedFrom", "(I)I"⟩ prog_9_method_13_code (4 : Nat) (Option.some FieldType.int) ∈ gtbl := List.mem_of_getElem? (i := 560) (by decide +kernel)
theorem g_561 : Cond.methodLink "MorphWords$Rule" (80 : Nat) ⟨"MorphWords$Rule", "ledToFrom", "(I)I"⟩ ∈ gtbl := List.mem_of_getElem? (i := 561) (by decide +kernel)
theorem g_562 : Cond.instanceMethod ⟨"MorphWords$Rule", "ledToFrom", "(I)I"⟩ ∈ gtbl := List.mem_of_getElem? (i := 562) (by decide +kernel)
theorem g_563 : Cond.code ⟨"MorphWords$Rule", "ledToFrom", "(I)I"⟩ prog_9_method_12_code (4 : Nat) (Option.some FieldType.int) ∈ gtbl := List.mem_of_getElem? (i := 563) (by decide +kernel)
theorem g_564 : Cond.static ⟨"MorphWords", "hasLetter", "(II)Z"⟩ ∈ gtbl := List.mem_of_getElem? (i := 564) (by decide +kernel)
theorem g_565 : Cond.code ⟨"MorphWords", "hasLetter", "(II)Z"⟩ prog_1_method_35_code (2 : Nat) (Option.some FieldType.boolean) ∈ gtbl := List.mem_of_getElem? (i := 565) (by decide +kernel)
theorem g_566 : Cond.methodLink "MorphWords$Rule" (77 : Nat) ⟨"MorphWords$Letters", "bits", "()I"⟩ ∈ gtbl := List.mem_of_getElem? (i := 566) (by decide +kernel)
theorem g_567 : Cond.methodLink "MorphWordsLaw" (82 : Nat) ⟨"MorphWords", "lengthBehind", "(II)I"⟩ ∈ gtbl := List.mem_of_getElem? (i := 567) (by decide +kernel)
theorem g_568 : Cond.instanceMethod ⟨"MorphWords", "lengthBehind", "(II)I"⟩ ∈ gtbl := List.mem_of_getElem? (i := 568) (by decide +kernel)
theorem g_569 : Cond.selects "MorphWords" ⟨"MorphWords", "lengthBehind", "(II)I"⟩ ⟨"MorphWords", "lengthBehind", "(II)I"⟩ ∈ gtbl := List.mem_of_getElem? (i := 569) (by decide +kernel)
theorem g_570 : Cond.code ⟨"MorphWords", "lengthBehind", "(II)I"⟩ prog_1_method_18_code (3 : Nat) (Option.some FieldType.int) ∈ gtbl := List.mem_of_getElem? (i := 570) (by decide +kernel)
theorem g_571 : Cond.methodLink "MorphWords" (223 : Nat) ⟨"MorphWords$Powers", "find", "(LMorphWords$Rule;II)Z"⟩ ∈ gtbl := List.mem_of_getElem? (i := 571) (by decide +kernel)
theorem g_572 : Cond.instanceMethod ⟨"MorphWords$Powers", "find", "(LMorphWords$Rule;II)Z"⟩ ∈ gtbl := List.mem_of_getElem? (i := 572) (by decide +kernel)
theorem g_573 : Cond.selects "MorphWords$Powers" ⟨"MorphWords$Powers", "find", "(LMorphWords$Rule;II)Z"⟩ ⟨"MorphWords$Powers", "find", "(LMorphWords$Rule;II)Z"⟩ ∈ gtbl := List.mem_of_getElem? (i := 573) (by decide +kernel)
theorem g_574 : Cond.code ⟨"MorphWords$Powers", "find", "(LMorphWords$Rule;II)Z"⟩ prog_7_method_2_code (5 : Nat) (Option.some FieldType.boolean) ∈ gtbl := List.mem_of_getElem? (i := 574) (by decide +kernel)
theorem g_575 : Cond.methodLink "MorphWords$Powers" (18 : Nat) ⟨"MorphWords$Powers", "total", "()I"⟩ ∈ gtbl := List.mem_of_getElem? (i := 575) (by decide +kernel)
theorem g_576 : Cond.instanceMethod ⟨"MorphWords$Powers", "total", "()I"⟩ ∈ gtbl := List.mem_of_getElem? (i := 576) (by decide +kernel)
theorem g_577 : Cond.selects "MorphWords$Powers" ⟨"MorphWords$Powers", "total", "()I"⟩ ⟨"MorphWords$Powers", "total", "()I"⟩ ∈ gtbl := List.mem_of_getElem? (i := 577) (by decide +kernel)
theorem g_578 : Cond.code ⟨"MorphWords$Powers", "total", "()I"⟩ prog_7_method_4_code (3 : Nat) (Option.some FieldType.int) ∈ gtbl := List.mem_of_getElem? (i := 578) (by decide +kernel)
theorem g_579 : Cond.constant "MorphWords$Powers" (22 : Nat) (1000000 : Int32) ∈ gtbl := List.mem_of_getElem? (i := 579) (by decide +kernel)
theorem g_580 : Cond.methodLink "MorphWords$Powers" (23 : Nat) ⟨"MorphWords$Powers", "goOn", "(LMorphWords$Rule;)V"⟩ ∈ gtbl := List.mem_of_getElem? (i := 580) (by decide +kernel)
theorem g_581 : Cond.instanceMethod ⟨"MorphWords$Powers", "goOn", "(LMorphWords$Rule;)V"⟩ ∈ gtbl := List.mem_of_getElem? (i := 581) (by decide +kernel)
theorem g_582 : Cond.code ⟨"MorphWords$Powers", "goOn", "(LMorphWords$Rule;)V"⟩ prog_7_method_3_code (4 : Nat) (Option.none : Option FieldType) ∈ gtbl := List.mem_of_getElem? (i := 582) (by decide +kernel)
theorem g_583 : Cond.methodLink "MorphWords$Powers" (27 : Nat) ⟨"MorphWords$Rule", "imageOf", "(I)LMorphWords$Letters;"⟩ ∈ gtbl := List.mem_of_getElem? (i := 583) (by decide +kernel)
theorem g_584 : Cond.methodLink "MorphWords$Powers" (33 : Nat) ⟨"MorphWords$Letters", "countOf", "(I)I"⟩ ∈ gtbl := List.mem_of_getElem? (i := 584) (by decide +kernel)
theorem g_585 : Cond.methodLink "MorphWords$Powers" (39 : Nat) ⟨"java/lang/System", "arraycopy", "(Ljava/lang/Object;ILjava/lang/Object;II)V"⟩ ∈ gtbl := List.mem_of_getElem? (i := 585) (by decide +kernel)
theorem g_586 : Cond.methodLink "MorphWords" (226 : Nat) ⟨"MorphWords$Powers", "total", "()I"⟩ ∈ gtbl := List.mem_of_getElem? (i := 586) (by decide +kernel)
theorem g_587 : Cond.methodLink "MorphWordsLaw" (86 : Nat) ⟨"MorphWords", "countBehind", "(III)I"⟩ ∈ gtbl := List.mem_of_getElem? (i := 587) (by decide +kernel)
theorem g_588 : Cond.instanceMethod ⟨"MorphWords", "countBehind", "(III)I"⟩ ∈ gtbl := List.mem_of_getElem? (i := 588) (by decide +kernel)
theorem g_589 : Cond.selects "MorphWords" ⟨"MorphWords", "countBehind", "(III)I"⟩ ⟨"MorphWords", "countBehind", "(III)I"⟩ ∈ gtbl := List.mem_of_getElem? (i := 589) (by decide +kernel)
theorem g_590 : Cond.code ⟨"MorphWords", "countBehind", "(III)I"⟩ prog_1_method_19_code (4 : Nat) (Option.some FieldType.int) ∈ gtbl := List.mem_of_getElem? (i := 590) (by decide +kernel)
theorem g_591 : Cond.methodLink "MorphWords" (227 : Nat) ⟨"MorphWords$Powers", "countOf", "(I)I"⟩ ∈ gtbl := List.mem_of_getElem? (i := 591) (by decide +kernel)
theorem g_592 : Cond.instanceMethod ⟨"MorphWords$Powers", "countOf", "(I)I"⟩ ∈ gtbl := List.mem_of_getElem? (i := 592) (by decide +kernel)
theorem g_593 : Cond.selects "MorphWords$Powers" ⟨"MorphWords$Powers", "countOf", "(I)I"⟩ ⟨"MorphWords$Powers", "countOf", "(I)I"⟩ ∈ gtbl := List.mem_of_getElem? (i := 593) (by decide +kernel)
theorem g_594 : Cond.code ⟨"MorphWords$Powers", "countOf", "(I)I"⟩ prog_7_method_5_code (2 : Nat) (Option.some FieldType.int) ∈ gtbl := List.mem_of_getElem? (i := 594) (by decide +kernel)
theorem g_595 : Cond.methodLink "MorphWordsLaw" (91 : Nat) ⟨"MorphWords", "mixing", "()I"⟩ ∈ gtbl := List.mem_of_getElem? (i := 595) (by decide +kernel)
theorem g_596 : Cond.instanceMethod ⟨"MorphWords", "mixing", "()I"⟩ ∈ gtbl := List.mem_of_getElem? (i := 596) (by decide +kernel)
theorem g_597 : Cond.selects "MorphWords" ⟨"MorphWords", "mixing", "()I"⟩ ⟨"MorphWords", "mixing", "()I"⟩ ∈ gtbl := List.mem_of_getElem? (i := 597) (by decide +kernel)
theorem g_598 : Cond.code ⟨"MorphWords", "mixing", "()I"⟩ prog_1_method_20_code (2 : Nat) (Option.some FieldType.int) ∈ gtbl := List.mem_of_getElem? (i := 598) (by decide +kernel)
theorem g_599 : Cond.methodLink "MorphWords" (228 : Nat) ⟨"MorphWords$Rule", "mixesBy", "(I)Z"⟩ ∈ gtbl := List.mem_of_getElem? (i := 599) (by decide +kernel)
theorem g_600 : Cond.instanceMethod ⟨"MorphWords$Rule", "mixesBy", "(I)Z"⟩ ∈ gtbl := List.mem_of_getElem? (i := 600) (by decide +kernel)
theorem g_601 : Cond.selects "MorphWords$Rule" ⟨"MorphWords$Rule", "mixesBy", "(I)Z"⟩ ⟨"MorphWords$Rule", "mixesBy", "(I)Z"⟩ ∈ gtbl := List.mem_of_getElem? (i := 601) (by decide +kernel)
theorem g_602 : Cond.code ⟨"MorphWords$Rule", "mixesBy", "(I)Z"⟩ prog_9_method_14_code (5 : Nat) (Option.some FieldType.boolean) ∈ gtbl := List.mem_of_getElem? (i := 602) (by decide +kernel)
theorem g_603 : Cond.methodLink "MorphWords$Rule" (83 : Nat) ⟨"MorphWords$Rule", "reachedFrom", "(I)I"⟩ ∈ gtbl := List.mem_of_getElem? (i := 603) (by decide +kernel)
theorem g_604 : Cond.methodLink "MorphWords$Rule" (86 : Nat) ⟨"MorphWords$Rule", "lettersBehind", "(II)I"⟩ ∈ gtbl := List.mem_of_getElem? (i := 604) (by decide +kernel)
theorem g_605 : Cond.instanceMethod ⟨"MorphWords$Rule", "lettersBehind", "(II)I"⟩ ∈ gtbl := List.mem_of_getElem? (i := 605) (by decide +kernel)
theorem g_606 : Cond.code ⟨"MorphWords$Rule", "lettersBehind", "(II)I"⟩ prog_9_method_15_code (5 : Nat) (Option.some FieldType.int) ∈ gtbl := List.mem_of_getElem? (i := 606) (by decide +kernel)
theorem g_607 : Cond.methodLink "MorphWordsLaw" (95 : Nat) ⟨"MorphWords", "at", "(I)I"⟩ ∈ gtbl := List.mem_of_getElem? (i := 607) (by decide +kernel)
theorem g_608 : Cond.instanceMethod ⟨"MorphWords", "at", "(I)I"⟩ ∈ gtbl := List.mem_of_getElem? (i := 608) (by decide +kernel)
theorem g_609 : Cond.selects "MorphWords" ⟨"MorphWords", "at", "(I)I"⟩ ⟨"MorphWords", "at", "(I)I"⟩ ∈ gtbl := List.mem_of_getElem? (i := 609) (by decide +kernel)
theorem g_610 : Cond.code ⟨"MorphWords", "at", "(I)I"⟩ prog_1_method_21_code (3 : Nat) (Option.some FieldType.int) ∈ gtbl := List.mem_of_getElem? (i := 610) (by decide +kernel)
theorem g_611 : Cond.methodLink "MorphWordsLaw" (99 : Nat) ⟨"MorphWords", "pieces", "(II)I"⟩ ∈ gtbl := List.mem_of_getElem? (i := 611) (by decide +kernel)
theorem g_612 : Cond.instanceMethod ⟨"MorphWords", "pieces", "(II)I"⟩ ∈ gtbl := List.mem_of_getElem? (i := 612) (by decide +kernel)
theorem g_613 : Cond.selects "MorphWords" ⟨"MorphWords", "pieces", "(II)I"⟩ ⟨"MorphWords", "pieces", "(II)I"⟩ ∈ gtbl := List.mem_of_getElem? (i := 613) (by decide +kernel)
theorem g_614 : Cond.code ⟨"MorphWords", "pieces", "(II)I"⟩ prog_1_method_22_code (3 : Nat) (Option.some FieldType.int) ∈ gtbl := List.mem_of_getElem? (i := 614) (by decide +kernel)
theorem g_615 : Cond.methodLink "MorphWords" (231 : Nat) ⟨"MorphWords$PieceTable", "tell", "(LMorphWords$Letters;II)I"⟩ ∈ gtbl := List.mem_of_getElem? (i := 615) (by decide +kernel)
theorem g_616 : Cond.instanceMethod ⟨"MorphWords$PieceTable", "tell", "(LMorphWords$Letters;II)I"⟩ ∈ gtbl := List.mem_of_getElem? (i := 616) (by decide +kernel)
theorem g_617 : Cond.selects "MorphWords$PieceTable" ⟨"MorphWords$PieceTable", "tell", "(LMorphWords$Letters;II)I"⟩ ⟨"MorphWords$PieceTable", "tell", "(LMorphWords$Letters;II)I"⟩ ∈ gtbl := List.mem_of_getElem? (i := 617) (by decide +kernel)
theorem g_618 : Cond.code ⟨"MorphWords$PieceTable", "tell", "(LMorphWords$Letters;II)I"⟩ prog_6_method_2_code (6 : Nat) (Option.some FieldType.int) ∈ gtbl := List.mem_of_getElem? (i := 618) (by decide +kernel)
theorem g_619 : Cond.methodLink "MorphWords$PieceTable" (19 : Nat) ⟨"MorphWords$PieceTable", "fill", "(LMorphWords$Letters;I)V"⟩ ∈ gtbl := List.mem_of_getElem? (i := 619) (by decide +kernel)
theorem g_620 : Cond.instanceMethod ⟨"MorphWords$PieceTable", "fill", "(LMorphWords$Letters;I)V"⟩ ∈ gtbl := List.mem_of_getElem? (i := 620) (by decide +kernel)
theorem g_621 : Cond.code ⟨"MorphWords$PieceTable", "fill", "(LMorphWords$Letters;I)V"⟩ prog_6_method_3_code (8 : Nat) (Option.none : Option FieldType) ∈ gtbl := List.mem_of_getElem? (i := 621) (by decide +kernel)
theorem g_622 : Cond.methodLink "MorphWords$PieceTable" (31 : Nat) ⟨"MorphWords$Letters", "length", "()I"⟩ ∈ gtbl := List.mem_of_getElem? (i := 622) (by decide +kernel)
theorem g_623 : Cond.methodLink "MorphWords$PieceTable" (37 : Nat) ⟨"MorphWords$Letters", "letterAt", "(I)I"⟩ ∈ gtbl := List.mem_of_getElem? (i := 623) (by decide +kernel)
theorem g_624 : Cond.methodLink "MorphWords$PieceTable" (23 : Nat) ⟨"MorphWords$PieceTable", "isFirst", "(I)Z"⟩ ∈ gtbl := List.mem_of_getElem? (i := 624) (by decide +kernel)
theorem g_625 : Cond.instanceMethod ⟨"MorphWords$PieceTable", "isFirst", "(I)Z"⟩ ∈ gtbl := List.mem_of_getElem? (i := 625) (by decide +kernel)
theorem g_626 : Cond.code ⟨"MorphWords$PieceTable", "isFirst", "(I)Z"⟩ prog_6_method_4_code (3 : Nat) (Option.some FieldType.boolean) ∈ gtbl := List.mem_of_getElem? (i := 626) (by decide +kernel)
theorem g_627 : Cond.methodLink "MorphWords$PieceTable" (41 : Nat) ⟨"MorphWords$PieceTable", "isSamePiece", "(II)Z"⟩ ∈ gtbl := List.mem_of_getElem? (i := 627) (by decide +kernel)
theorem g_628 : Cond.instanceMethod ⟨"MorphWords$PieceTable", "isSamePiece", "(II)Z"⟩ ∈ gtbl := List.mem_of_getElem? (i := 628) (by decide +kernel)
theorem g_629 : Cond.code ⟨"MorphWords$PieceTable", "isSamePiece", "(II)Z"⟩ prog_6_method_5_code (3 : Nat) (Option.some FieldType.boolean) ∈ gtbl := List.mem_of_getElem? (i := 629) (by decide +kernel)
theorem g_630 : Cond.methodLink "MorphWords$PieceTable" (45 : Nat) ⟨"MorphWords$PieceTable", "isPlace", "(I)Z"⟩ ∈ gtbl := List.mem_of_getElem? (i := 630) (by decide +kernel)
theorem g_631 : Cond.instanceMethod ⟨"MorphWords$PieceTable", "isPlace", "(I)Z"⟩ ∈ gtbl := List.mem_of_getElem? (i := 631) (by decide +kernel)
theorem g_632 : Cond.code ⟨"MorphWords$PieceTable", "isPlace", "(I)Z"⟩ prog_6_method_6_code (2 : Nat) (Option.some FieldType.boolean) ∈ gtbl := List.mem_of_getElem? (i := 632) (by decide +kernel)
theorem g_633 : Cond.methodLink "MorphWords$PieceTable" (27 : Nat) ⟨"MorphWords$PieceTable", "isCounted", "(LMorphWords$Letters;III)Z"⟩ ∈ gtbl := List.mem_of_getElem? (i := 633) (by decide +kernel)
theorem g_634 : Cond.instanceMethod ⟨"MorphWords$PieceTable", "isCounted", "(LMorphWords$Letters;III)Z"⟩ ∈ gtbl := List.mem_of_getElem? (i := 634) (by decide +kernel)
theorem g_635 : Cond.code ⟨"MorphWords$PieceTable", "isCounted", "(LMorphWords$Letters;III)Z"⟩ prog_6_method_7_code (5 : Nat) (Option.some FieldType.boolean) ∈ gtbl := List.mem_of_getElem? (i := 635) (by decide +kernel)
theorem g_636 : Cond.methodLink "MorphWords$PieceTable" (48 : Nat) ⟨"MorphWords$PieceTable", "neighbours", "(LMorphWords$Letters;II)I"⟩ ∈ gtbl := List.mem_of_getElem? (i := 636) (by decide +kernel)
theorem g_637 : Cond.instanceMethod ⟨"MorphWords$PieceTable", "neighbours", "(LMorphWords$Letters;II)I"⟩ ∈ gtbl := List.mem_of_getElem? (i := 637) (by decide +kernel)
theorem g_638 : Cond.code ⟨"MorphWords$PieceTable", "neighbours", "(LMorphWords$Letters;II)I"⟩ prog_6_method_8_code (7 : Nat) (Option.some FieldType.int) ∈ gtbl := List.mem_of_getElem? (i := 638) (by decide +kernel)
theorem g_639 : Cond.methodLink "MorphWords$PieceTable" (52 : Nat) ⟨"java/lang/Integer", "bitCount", "(I)I"⟩ ∈ gtbl := List.mem_of_getElem? (i := 639) (by decide +kernel)
theorem g_640 : Cond.static ⟨"java/lang/Integer", "bitCount", "(I)I"⟩ ∈ gtbl := List.mem_of_getElem? (i := 640) (by decide +kernel)
theorem g_641 : Cond.code ⟨"java/lang/Integer", "bitCount", "(I)I"⟩ prog_14_method_49_code (1 : Nat) (Option.some FieldType.int) ∈ gtbl := List.mem_of_getElem? (i := 641) (by decide +kernel)
theorem g_642 : Cond.constant "java/lang/Integer" (265 : Nat) (1431655765 : Int32) ∈ gtbl := List.mem_of_getElem? (i := 642) (by decide +kernel)
theorem g_643 : Cond.constant "java/lang/Integer" (266 : Nat) (858993459 : Int32) ∈ gtbl := List.mem_of_getElem? (i := 643) (by decide +kernel)
theorem g_644 : Cond.constant "java/lang/Integer" (267 : Nat) (252645135 : Int32) ∈ gtbl := List.mem_of_getElem? (i := 644) (by decide +kernel)
theorem g_645 : Cond.methodLink "MorphWords$PieceTable" (57 : Nat) ⟨"MorphWords$Letters", "isMirrored", "(II)Z"⟩ ∈ gtbl := List.mem_of_getElem? (i := 645) (by decide +kernel)
theorem g_646 : Cond.instanceMethod ⟨"MorphWords$Letters", "isMirrored", "(II)Z"⟩ ∈ gtbl := List.mem_of_getElem? (i := 646) (by decide +kernel)
theorem g_647 : Cond.selects "MorphWords$Letters" ⟨"MorphWords$Letters", "isMirrored", "(II)Z"⟩ ⟨"MorphWords$Letters", "isMirrored", "(II)Z"⟩ ∈ gtbl := List.mem_of_getElem? (i := 647) (by decide +kernel)
theorem g_648 : Cond.code ⟨"MorphWords$Letters", "isMirrored", "(II)Z"⟩ prog_4_method_12_code (4 : Nat) (Option.some FieldType.boolean) ∈ gtbl := List.mem_of_getElem? (i := 648) (by decide +kernel)
theorem g_649 : Cond.methodLink "MorphWordsLaw" (103 : Nat) ⟨"MorphWords", "balance", "(II)I"⟩ ∈ gtbl := List.mem_of_getElem? (i := 649) (by decide +kernel)
theorem g_650 : Cond.instanceMethod ⟨"MorphWords", "balance", "(II)I"⟩ ∈ gtbl := List.mem_of_getElem? (i := 650) (by decide +kernel)
theorem g_651 : Cond.selects "MorphWords" ⟨"MorphWords", "balance", "(II)I"⟩ ⟨"MorphWords", "balance", "(II)I"⟩ ∈ gtbl := List.mem_of_getElem? (i := 651) (by decide +kernel)
theorem g_652 : Cond.code ⟨"MorphWords", "balance", "(II)I"⟩ prog_1_method_23_code (3 : Nat) (Option.some FieldType.int) ∈ gtbl := List.mem_of_getElem? (i := 652) (by decide +kernel)
theorem g_653 : Cond.methodLink "MorphWords" (235 : Nat) ⟨"MorphWords$Letters", "imbalance", "(II)I"⟩ ∈ gtbl := List.mem_of_getElem? (i := 653) (by decide +kernel)
theorem g_654 : Cond.instanceMethod ⟨"MorphWords$Letters", "imbalance", "(II)I"⟩ ∈ gtbl := List.mem_of_getElem? (i := 654) (by decide +kernel)
theorem g_655 : Cond.selects "MorphWords$Letters" ⟨"MorphWords$Letters", "imbalance", "(II)I"⟩ ⟨"MorphWords$Letters", "imbalance", "(II)I"⟩ ∈ gtbl := List.mem_of_getElem? (i := 655) (by decide +kernel)
theorem g_656 : Cond.code ⟨"MorphWords$Letters", "imbalance", "(II)I"⟩ prog_4_method_17_code (7 : Nat) (Option.some FieldType.int) ∈ gtbl := List.mem_of_getElem? (i := 656) (by decide +kernel)
theorem g_657 : Cond.methodLink "MorphWordsLaw" (107 : Nat) ⟨"MorphWords", "share", "(II)I"⟩ ∈ gtbl := List.mem_of_getElem? (i := 657) (by decide +kernel)
theorem g_658 : Cond.instanceMethod ⟨"MorphWords", "share", "(II)I"⟩ ∈ gtbl := List.mem_of_getElem? (i := 658) (by decide +kernel)
theorem g_659 : Cond.selects "MorphWords" ⟨"MorphWords", "share", "(II)I"⟩ ⟨"MorphWords", "share", "(II)I"⟩ ∈ gtbl := List.mem_of_getElem? (i := 659) (by decide +kernel)
theorem g_660 : Cond.code ⟨"MorphWords", "share", "(II)I"⟩ prog_1_method_24_code (5 : Nat) (Option.some FieldType.int) ∈ gtbl := List.mem_of_getElem? (i := 660) (by decide +kernel)
theorem g_661 : Cond.methodLink "MorphWords" (239 : Nat) ⟨"MorphWords", "commonDivisor", "(II)I"⟩ ∈ gtbl := List.mem_of_getElem? (i := 661) (by decide +kernel)
theorem g_662 : Cond.static ⟨"MorphWords", "commonDivisor", "(II)I"⟩ ∈ gtbl := List.mem_of_getElem? (i := 662) (by decide +kernel)
theorem g_663 : Cond.code ⟨"MorphWords", "commonDivisor", "(II)I"⟩ prog_1_method_36_code (6 : Nat) (Option.some FieldType.int) ∈ gtbl := List.mem_of_getElem? (i := 663) (by decide +kernel)
theorem g_664 : Cond.methodLink "MorphWords" (274 : Nat) ⟨"java/lang/Math", "max", "(II)I"⟩ ∈ gtbl := List.mem_of_getElem? (i := 664) (by decide +kernel)
theorem g_665 : Cond.methodLink "MorphWordsLaw" (111 : Nat) ⟨"MorphWords", "run", "(I)I"⟩ ∈ gtbl := List.mem_of_getElem? (i := 665) (by decide +kernel)
theorem g_666 : Cond.instanceMethod ⟨"MorphWords", "run", "(I)I"⟩ ∈ gtbl := List.mem_of_getElem? (i := 666) (by decide +kernel)
theorem g_667 : Cond.selects "MorphWords" ⟨"MorphWords", "run", "(I)I"⟩ ⟨"MorphWords", "run", "(I)I"⟩ ∈ gtbl := List.mem_of_getElem? (i := 667) (by decide +kernel)
theorem g_668 : Cond.code ⟨"MorphWords", "run", "(I)I"⟩ prog_1_method_25_code (4 : Nat) (Option.some FieldType.int) ∈ gtbl := List.mem_of_getElem? (i := 668) (by decide +kernel)
theorem g_669 : Cond.methodLink "MorphWords" (242 : Nat) ⟨"MorphWords$GreatestRun", "find", "(LMorphWords$Letters;)V"⟩ ∈ gtbl := List.mem_of_getElem? (i := 669) (by decide +kernel)
theorem g_670 : Cond.instanceMethod ⟨"MorphWords$GreatestRun", "find", "(LMorphWords$Letters;)V"⟩ ∈ gtbl := List.mem_of_getElem? (i := 670) (by decide +kernel)
theorem g_671 : Cond.selects "MorphWords$GreatestRun" ⟨"MorphWords$GreatestRun", "find", "(LMorphWords$Letters;)V"⟩ ⟨"MorphWords$GreatestRun", "find", "(LMorphWords$Letters;)V"⟩ ∈ gtbl := List.mem_of_getElem? (i := 671) (by decide +kernel)
theorem g_672 : Cond.code ⟨"MorphWords$GreatestRun", "find", "(LMorphWords$Letters;)V"⟩ prog_2_method_2_code (3 : Nat) (Option.none : Option FieldType) ∈ gtbl := List.mem_of_getElem? (i := 672) (by decide +kernel)
theorem g_673 : Cond.methodLink "MorphWords$GreatestRun" (19 : Nat) ⟨"MorphWords$Letters", "length", "()I"⟩ ∈ gtbl := List.mem_of_getElem? (i := 673) (by decide +kernel)
theorem g_674 : Cond.methodLink "MorphWords$GreatestRun" (24 : Nat) ⟨"MorphWords$GreatestRun", "findWithPeriod", "(LMorphWords$Letters;I)V"⟩ ∈ gtbl := List.mem_of_getElem? (i := 674) (by decide +kernel)
theorem g_675 : Cond.instanceMethod ⟨"MorphWords$GreatestRun", "findWithPeriod", "(LMorphWords$Letters;I)V"⟩ ∈ gtbl := List.mem_of_getElem? (i := 675) (by decide +kernel)
theorem g_676 : Cond.code ⟨"MorphWords$GreatestRun", "findWithPeriod", "(LMorphWords$Letters;I)V"⟩ prog_2_method_3_code (6 : Nat) (Option.none : Option FieldType) ∈ gtbl := List.mem_of_getElem? (i := 676) (by decide +kernel)
theorem g_677 : Cond.methodLink "MorphWords$GreatestRun" (28 : Nat) ⟨"MorphWords$Letters", "letterAt", "(I)I"⟩ ∈ gtbl := List.mem_of_getElem? (i := 677) (by decide +kernel)
theorem g_678 : Cond.methodLink "MorphWords" (244 : Nat) ⟨"MorphWords$GreatestRun", "period", "()I"⟩ ∈ gtbl := List.mem_of_getElem? (i := 678) (by decide +kernel)
theorem g_679 : Cond.instanceMethod ⟨"MorphWords$GreatestRun", "period", "()I"⟩ ∈ gtbl := List.mem_of_getElem? (i := 679) (by decide +kernel)
theorem g_680 : Cond.selects "MorphWords$GreatestRun" ⟨"MorphWords$GreatestRun", "period", "()I"⟩ ⟨"MorphWords$GreatestRun", "period", "()I"⟩ ∈ gtbl := List.mem_of_getElem? (i := 680) (by decide +kernel)
theorem g_681 : Cond.code ⟨"MorphWords$GreatestRun", "period", "()I"⟩ prog_2_method_4_code (1 : Nat) (Option.some FieldType.int) ∈ gtbl := List.mem_of_getElem? (i := 681) (by decide +kernel)
theorem g_682 : Cond.methodLink "MorphWords" (247 : Nat) ⟨"MorphWords$GreatestRun", "length", "()I"⟩ ∈ gtbl := List.mem_of_getElem? (i := 682) (by decide +kernel)
theorem g_683 : Cond.instanceMethod ⟨"MorphWords$GreatestRun", "length", "()I"⟩ ∈ gtbl := List.mem_of_getElem? (i := 683) (by decide +kernel)
theorem g_684 : Cond.selects "MorphWords$GreatestRun" ⟨"MorphWords$GreatestRun", "length", "()I"⟩ ⟨"MorphWords$GreatestRun", "length", "()I"⟩ ∈ gtbl := List.mem_of_getElem? (i := 684) (by decide +kernel)
theorem g_685 : Cond.code ⟨"MorphWords$GreatestRun", "length", "()I"⟩ prog_2_method_6_code (1 : Nat) (Option.some FieldType.int) ∈ gtbl := List.mem_of_getElem? (i := 685) (by decide +kernel)
theorem g_686 : Cond.methodLink "MorphWords" (248 : Nat) ⟨"MorphWords$GreatestRun", "place", "()I"⟩ ∈ gtbl := List.mem_of_getElem? (i := 686) (by decide +kernel)
theorem g_687 : Cond.instanceMethod ⟨"MorphWords$GreatestRun", "place", "()I"⟩ ∈ gtbl := List.mem_of_getElem? (i := 687) (by decide +kernel)
theorem g_688 : Cond.selects "MorphWords$GreatestRun" ⟨"MorphWords$GreatestRun", "place", "()I"⟩ ⟨"MorphWords$GreatestRun", "place", "()I"⟩ ∈ gtbl := List.mem_of_getElem? (i := 688) (by decide +kernel)
theorem g_689 : Cond.code ⟨"MorphWords$GreatestRun", "place", "()I"⟩ prog_2_method_5_code (1 : Nat) (Option.some FieldType.int) ∈ gtbl := List.mem_of_getElem? (i := 689) (by decide +kernel)
theorem g_690 : Cond.methodLink "MorphWordsLaw" (115 : Nat) ⟨"MorphWords", "mirrored", "(I)I"⟩ ∈ gtbl := List.mem_of_getElem? (i := 690) (by decide +kernel)
theorem g_691 : Cond.instanceMethod ⟨"MorphWords", "mirrored", "(I)I"⟩ ∈ gtbl := List.mem_of_getElem? (i := 691) (by decide +kernel)
theorem g_692 : Cond.selects "MorphWords" ⟨"MorphWords", "mirrored", "(I)I"⟩ ⟨"MorphWords", "mirrored", "(I)I"⟩ ∈ gtbl := List.mem_of_getElem? (i := 692) (by decide +kernel)
theorem g_693 : Cond.code ⟨"MorphWords", "mirrored", "(I)I"⟩ prog_1_method_26_code (2 : Nat) (Option.some FieldType.int) ∈ gtbl := List.mem_of_getElem? (i := 693) (by decide +kernel)
theorem g_694 : Cond.methodLink "MorphWords" (251 : Nat) ⟨"MorphWords$LongestMirror", "find", "(LMorphWords$Letters;)V"⟩ ∈ gtbl := List.mem_of_getElem? (i := 694) (by decide +kernel)
theorem g_695 : Cond.instanceMethod ⟨"MorphWords$LongestMirror", "find", "(LMorphWords$Letters;)V"⟩ ∈ gtbl := List.mem_of_getElem? (i := 695) (by decide +kernel)
theorem g_696 : Cond.selects "MorphWords$LongestMirror" ⟨"MorphWords$LongestMirror", "find", "(LMorphWords$Letters;)V"⟩ ⟨"MorphWords$LongestMirror", "find", "(LMorphWords$Letters;)V"⟩ ∈ gtbl := List.mem_of_getElem? (i := 696) (by decide +kernel)
theorem g_697 : Cond.code ⟨"MorphWords$LongestMirror", "find", "(LMorphWords$Letters;)V"⟩ prog_5_method_2_code (3 : Nat) (Option.none : Option FieldType) ∈ gtbl := List.mem_of_getElem? (i := 697) (by decide +kernel)
theorem g_698 : Cond.methodLink "MorphWords$LongestMirror" (16 : Nat) ⟨"MorphWords$Letters", "length", "()I"⟩ ∈ gtbl := List.mem_of_getElem? (i := 698) (by decide +kernel)
theorem g_699 : Cond.methodLink "MorphWords$LongestMirror" (21 : Nat) ⟨"MorphWords$LongestMirror", "findAround", "(LMorphWords$Letters;II)V"⟩ ∈ gtbl := List.mem_of_getElem? (i := 699) (by decide +kernel)
theorem g_700 : Cond.instanceMethod ⟨"MorphWords$LongestMirror", "findAround", "(LMorphWords$Letters;II)V"⟩ ∈ gtbl := List.mem_of_getElem? (i := 700) (by decide +kernel)
theorem g_701 : Cond.code ⟨"MorphWords$LongestMirror", "findAround", "(LMorphWords$Letters;II)V"⟩ prog_5_method_3_code (6 : Nat) (Option.none : Option FieldType) ∈ gtbl := List.mem_of_getElem? (i := 701) (by decide +kernel)
theorem g_702 : Cond.methodLink "MorphWords$LongestMirror" (25 : Nat) ⟨"MorphWords$Letters", "letterAt", "(I)I"⟩ ∈ gtbl := List.mem_of_getElem? (i := 702) (by decide +kernel)
theorem g_703 : Cond.methodLink "MorphWords" (252 : Nat) ⟨"MorphWords$LongestMirror", "place", "()I"⟩ ∈ gtbl := List.mem_of_getElem? (i := 703) (by decide +kernel)
theorem g_704 : Cond.instanceMethod ⟨"MorphWords$LongestMirror", "place", "()I"⟩ ∈ gtbl := List.mem_of_getElem? (i := 704) (by decide +kernel)
theorem g_705 : Cond.selects "MorphWords$LongestMirror" ⟨"MorphWords$LongestMirror", "place", "()I"⟩ ⟨"MorphWords$LongestMirror", "place", "()I"⟩ ∈ gtbl := List.mem_of_getElem? (i := 705) (by decide +kernel)
theorem g_706 : Cond.code ⟨"MorphWords$LongestMirror", "place", "()I"⟩ prog_5_method_4_code (1 : Nat) (Option.some FieldType.int) ∈ gtbl := List.mem_of_getElem? (i := 706) (by decide +kernel)
theorem g_707 : Cond.methodLink "MorphWords" (253 : Nat) ⟨"MorphWords$LongestMirror", "length", "()I"⟩ ∈ gtbl := List.mem_of_getElem? (i := 707) (by decide +kernel)
theorem g_708 : Cond.instanceMethod ⟨"MorphWords$LongestMirror", "length", "()I"⟩ ∈ gtbl := List.mem_of_getElem? (i := 708) (by decide +kernel)
theorem g_709 : Cond.selects "MorphWords$LongestMirror" ⟨"MorphWords$LongestMirror", "length", "()I"⟩ ⟨"MorphWords$LongestMirror", "length", "()I"⟩ ∈ gtbl := List.mem_of_getElem? (i := 709) (by decide +kernel)
theorem g_710 : Cond.code ⟨"MorphWords$LongestMirror", "length", "()I"⟩ prog_5_method_5_code (1 : Nat) (Option.some FieldType.int) ∈ gtbl := List.mem_of_getElem? (i := 710) (by decide +kernel)
theorem g_711 : Cond.methodLink "MorphWordsLaw" (119 : Nat) ⟨"MorphWords", "comes", "(I)I"⟩ ∈ gtbl := List.mem_of_getElem? (i := 711) (by decide +kernel)
theorem g_712 : Cond.instanceMethod ⟨"MorphWords", "comes", "(I)I"⟩ ∈ gtbl := List.mem_of_getElem? (i := 712) (by decide +kernel)
theorem g_713 : Cond.selects "MorphWords" ⟨"MorphWords", "comes", "(I)I"⟩ ⟨"MorphWords", "comes", "(I)I"⟩ ∈ gtbl := List.mem_of_getElem? (i := 713) (by decide +kernel)
theorem g_714 : Cond.code ⟨"MorphWords", "comes", "(I)I"⟩ prog_1_method_27_code (2 : Nat) (Option.some FieldType.int) ∈ gtbl := List.mem_of_getElem? (i := 714) (by decide +kernel)
theorem g_715 : Cond.methodLink "MorphWords" (254 : Nat) ⟨"MorphWords$State", "hasPiece", "()Z"⟩ ∈ gtbl := List.mem_of_getElem? (i := 715) (by decide +kernel)
theorem g_716 : Cond.instanceMethod ⟨"MorphWords$State", "hasPiece", "()Z"⟩ ∈ gtbl := List.mem_of_getElem? (i := 716) (by decide +kernel)
theorem g_717 : Cond.selects "MorphWords$State" ⟨"MorphWords$State", "hasPiece", "()Z"⟩ ⟨"MorphWords$State", "hasPiece", "()Z"⟩ ∈ gtbl := List.mem_of_getElem? (i := 717) (by decide +kernel)
theorem g_718 : Cond.code ⟨"MorphWords$State", "hasPiece", "()Z"⟩ prog_10_method_2_code (1 : Nat) (Option.some FieldType.boolean) ∈ gtbl := List.mem_of_getElem? (i := 718) (by decide +kernel)
theorem g_719 : Cond.methodLink "MorphWords$State" (34 : Nat) ⟨"MorphWords$Letters", "length", "()I"⟩ ∈ gtbl := List.mem_of_getElem? (i := 719) (by decide +kernel)
theorem g_720 : Cond.methodLink "MorphWords" (257 : Nat) ⟨"MorphWords$ReturnTable", "placeOf", "(I)I"⟩ ∈ gtbl := List.mem_of_getElem? (i := 720) (by decide +kernel)
theorem g_721 : Cond.methodLink "MorphWordsLaw" (123 : Nat) ⟨"MorphWords", "returns", "(II)I"⟩ ∈ gtbl := List.mem_of_getElem? (i := 721) (by decide +kernel)
theorem g_722 : Cond.instanceMethod ⟨"MorphWords", "returns", "(II)I"⟩ ∈ gtbl := List.mem_of_getElem? (i := 722) (by decide +kernel)
theorem g_723 : Cond.selects "MorphWords" ⟨"MorphWords", "returns", "(II)I"⟩ ⟨"MorphWords", "returns", "(II)I"⟩ ∈ gtbl := List.mem_of_getElem? (i := 723) (by decide +kernel)
theorem g_724 : Cond.code ⟨"MorphWords", "returns", "(II)I"⟩ prog_1_method_28_code (3 : Nat) (Option.some FieldType.int) ∈ gtbl := List.mem_of_getElem? (i := 724) (by decide +kernel)
theorem g_725 : Cond.methodLink "MorphWords" (260 : Nat) ⟨"MorphWords$ReturnTable", "lengthOf", "(I)I"⟩ ∈ gtbl := List.mem_of_getElem? (i := 725) (by decide +kernel)
theorem g_726 : Cond.instanceMethod ⟨"MorphWords$ReturnTable", "lengthOf", "(I)I"⟩ ∈ gtbl := List.mem_of_getElem? (i := 726) (by decide +kernel)
theorem g_727 : Cond.selects "MorphWords$ReturnTable" ⟨"MorphWords$ReturnTable", "lengthOf", "(I)I"⟩ ⟨"MorphWords$ReturnTable", "lengthOf", "(I)I"⟩ ∈ gtbl := List.mem_of_getElem? (i := 727) (by decide +kernel)
theorem g_728 : Cond.code ⟨"MorphWords$ReturnTable", "lengthOf", "(I)I"⟩ prog_8_method_11_code (2 : Nat) (Option.some FieldType.int) ∈ gtbl := List.mem_of_getElem? (i := 728) (by decide +kernel)
theorem g_729 : Cond.methodLink "MorphWords$ReturnTable" (69 : Nat) ⟨"MorphWords$ReturnTable", "isReturn", "(I)Z"⟩ ∈ gtbl := List.mem_of_getElem? (i := 729) (by decide +kernel)
theorem g_730 : Cond.instanceMethod ⟨"MorphWords$ReturnTable", "isReturn", "(I)Z"⟩ ∈ gtbl := List.mem_of_getElem? (i := 730) (by decide +kernel)
theorem g_731 : Cond.code ⟨"MorphWords$ReturnTable", "isReturn", "(I)Z"⟩ prog_8_method_14_code (2 : Nat) (Option.some FieldType.boolean) ∈ gtbl := List.mem_of_getElem? (i := 731) (by decide +kernel)
theorem g_732 : Cond.methodLink "MorphWords" (263 : Nat) ⟨"MorphWords$ReturnTable", "firstPlaceOf", "(I)I"⟩ ∈ gtbl := List.mem_of_getElem? (i := 732) (by decide +kernel)
theorem g_733 : Cond.instanceMethod ⟨"MorphWords$ReturnTable", "firstPlaceOf", "(I)I"⟩ ∈ gtbl := List.mem_of_getElem? (i := 733) (by decide +kernel)
theorem g_734 : Cond.selects "MorphWords$ReturnTable" ⟨"MorphWords$ReturnTable", "firstPlaceOf", "(I)I"⟩ ⟨"MorphWords$ReturnTable", "firstPlaceOf", "(I)I"⟩ ∈ gtbl := List.mem_of_getElem? (i := 734) (by decide +kernel)
theorem g_735 : Cond.code ⟨"MorphWords$ReturnTable", "firstPlaceOf", "(I)I"⟩ prog_8_method_12_code (2 : Nat) (Option.some FieldType.int) ∈ gtbl := List.mem_of_getElem? (i := 735) (by decide +kernel)
theorem g_736 : Cond.methodLink "MorphWords" (266 : Nat) ⟨"MorphWords$ReturnTable", "timesOf", "(I)I"⟩ ∈ gtbl := List.mem_of_getElem? (i := 736) (by decide +kernel)
theorem g_737 : Cond.instanceMethod ⟨"MorphWords$ReturnTable", "timesOf", "(I)I"⟩ ∈ gtbl := List.mem_of_getElem? (i := 737) (by decide +kernel)
theorem g_738 : Cond.selects "MorphWords$ReturnTable" ⟨"MorphWords$ReturnTable", "timesOf", "(I)I"⟩ ⟨"MorphWords$ReturnTable", "timesOf", "(I)I"⟩ ∈ gtbl := List.mem_of_getElem? (i := 738) (by decide +kernel)
theorem g_739 : Cond.code ⟨"MorphWords$ReturnTable", "timesOf", "(I)I"⟩ prog_8_method_13_code (2 : Nat) (Option.some FieldType.int) ∈ gtbl := List.mem_of_getElem? (i := 739) (by decide +kernel)
theorem g_740 : Cond.methodLink "MorphWordsLaw" (127 : Nat) ⟨"MorphWords", "row", "(I)I"⟩ ∈ gtbl := List.mem_of_getElem? (i := 740) (by decide +kernel)
theorem g_741 : Cond.instanceMethod ⟨"MorphWords", "row", "(I)I"⟩ ∈ gtbl := List.mem_of_getElem? (i := 741) (by decide +kernel)
theorem g_742 : Cond.selects "MorphWords" ⟨"MorphWords", "row", "(I)I"⟩ ⟨"MorphWords", "row", "(I)I"⟩ ∈ gtbl := List.mem_of_getElem? (i := 742) (by decide +kernel)
theorem g_743 : Cond.code ⟨"MorphWords", "row", "(I)I"⟩ prog_1_method_29_code (2 : Nat) (Option.some FieldType.int) ∈ gtbl := List.mem_of_getElem? (i := 743) (by decide +kernel)
theorem g_744 : Cond.methodLink "MorphWordsLaw" (131 : Nat) ⟨"MorphWords", "count", "(I)I"⟩ ∈ gtbl := List.mem_of_getElem? (i := 744) (by decide +kernel)
theorem g_745 : Cond.instanceMethod ⟨"MorphWords", "count", "(I)I"⟩ ∈ gtbl := List.mem_of_getElem? (i := 745) (by decide +kernel)
theorem g_746 : Cond.selects "MorphWords" ⟨"MorphWords", "count", "(I)I"⟩ ⟨"MorphWords", "count", "(I)I"⟩ ∈ gtbl := List.mem_of_getElem? (i := 746) (by decide +kernel)
theorem g_747 : Cond.code ⟨"MorphWords", "count", "(I)I"⟩ prog_1_method_30_code (2 : Nat) (Option.some FieldType.int) ∈ gtbl := List.mem_of_getElem? (i := 747) (by decide +kernel)
theorem g_748 : Cond.methodLink "MorphWords" (269 : Nat) ⟨"MorphWords", "countReturns", "(Z)I"⟩ ∈ gtbl := List.mem_of_getElem? (i := 748) (by decide +kernel)
theorem g_749 : Cond.instanceMethod ⟨"MorphWords", "countReturns", "(Z)I"⟩ ∈ gtbl := List.mem_of_getElem? (i := 749) (by decide +kernel)
theorem g_750 : Cond.code ⟨"MorphWords", "countReturns", "(Z)I"⟩ prog_1_method_31_code (2 : Nat) (Option.some FieldType.int) ∈ gtbl := List.mem_of_getElem? (i := 750) (by decide +kernel)
theorem g_751 : Cond.classLink "MorphWordsLaw" (10 : Nat) "MorphWordsModel" ∈ gtbl := List.mem_of_getElem? (i := 751) (by decide +kernel)
theorem g_752 : Cond.instantiable "MorphWordsModel" (17 : Nat) ∈ gtbl := List.mem_of_getElem? (i := 752) (by decide +kernel)
theorem g_753 : Cond.methodLink "MorphWordsLaw" (12 : Nat) ⟨"MorphWordsModel", "<init>", "()V"⟩ ∈ gtbl := List.mem_of_getElem? (i := 753) (by decide +kernel)
theorem g_754 : Cond.instanceMethod ⟨"MorphWordsModel", "<init>", "()V"⟩ ∈ gtbl := List.mem_of_getElem? (i := 754) (by decide +kernel)
theorem g_755 : Cond.code ⟨"MorphWordsModel", "<init>", "()V"⟩ prog_13_method_1_code (2 : Nat) (Option.none : Option FieldType) ∈ gtbl := List.mem_of_getElem? (i := 755) (by decide +kernel)
theorem g_756 : Cond.methodLink "MorphWordsModel" (1 : Nat) ⟨"java/lang/Object", "<init>", "()V"⟩ ∈ gtbl := List.mem_of_getElem? (i := 756) (by decide +kernel)
theorem g_757 : Cond.fieldLink "MorphWordsModel" (7 : Nat) "MorphWordsModel" "now" "[I" ∈ gtbl := List.mem_of_getElem? (i := 757) (by decide +kernel)
theorem g_758 : Cond.fieldLink "MorphWordsModel" (13 : Nat) "MorphWordsModel" "history" "[I" ∈ gtbl := List.mem_of_getElem? (i := 758) (by decide +kernel)
theorem g_759 : Cond.fieldLink "MorphWordsModel" (48 : Nat) "MorphWordsModel" "kept" "I" ∈ gtbl := List.mem_of_getElem? (i := 759) (by decide +kernel)
theorem g_760 : Cond.fieldLink "MorphWordsModel" (16 : Nat) "MorphWordsModel" "slot" "[I" ∈ gtbl := List.mem_of_getElem? (i := 760) (by decide +kernel)
theorem g_761 : Cond.fieldLink "MorphWordsModel" (137 : Nat) "MorphWordsModel" "isFilled" "Z" ∈ gtbl := List.mem_of_getElem? (i := 761) (by decide +kernel)
theorem g_762 : Cond.fieldLink "MorphWordsModel" (19 : Nat) "MorphWordsModel" "then" "[I" ∈ gtbl := List.mem_of_getElem? (i := 762) (by decide +kernel)
theorem g_763 : Cond.fieldLink "MorphWordsModel" (22 : Nat) "MorphWordsModel" "before" "[I" ∈ gtbl := List.mem_of_getElem? (i := 763) (by decide +kernel)
theorem g_764 : Cond.fieldLink "MorphWordsModel" (25 : Nat) "MorphWordsModel" "places" "[I" ∈ gtbl := List.mem_of_getElem? (i := 764) (by decide +kernel)
theorem g_765 : Cond.fieldLink "MorphWordsModel" (115 : Nat) "MorphWordsModel" "found" "I" ∈ gtbl := List.mem_of_getElem? (i := 765) (by decide +kernel)
theorem g_766 : Cond.fieldLink "MorphWordsModel" (28 : Nat) "MorphWordsModel" "numbers" "[I" ∈ gtbl := List.mem_of_getElem? (i := 766) (by decide +kernel)
theorem g_767 : Cond.fieldLink "MorphWordsModel" (112 : Nat) "MorphWordsModel" "different" "I" ∈ gtbl := List.mem_of_getElem? (i := 767) (by decide +kernel)
theorem g_768 : Cond.fieldLink "MorphWordsModel" (131 : Nat) "MorphWordsModel" "typed" "I" ∈ gtbl := List.mem_of_getElem? (i := 768) (by decide +kernel)
theorem g_769 : Cond.fieldLink "MorphWordsModel" (31 : Nat) "MorphWordsModel" "text" "[C" ∈ gtbl := List.mem_of_getElem? (i := 769) (by decide +kernel)
theorem g_770 : Cond.fieldLink "MorphWordsModel" (73 : Nat) "MorphWordsModel" "at" "I" ∈ gtbl := List.mem_of_getElem? (i := 770) (by decide +kernel)
theorem g_771 : Cond.fieldLink "MorphWordsModel" (35 : Nat) "MorphWordsModel" "counts" "[I" ∈ gtbl := List.mem_of_getElem? (i := 771) (by decide +kernel)
theorem g_772 : Cond.fieldLink "MorphWordsModel" (38 : Nat) "MorphWordsModel" "next" "[I" ∈ gtbl := List.mem_of_getElem? (i := 772) (by decide +kernel)
theorem g_773 : Cond.fieldLink "MorphWordsModel" (41 : Nat) "MorphWordsModel" "sets" "[I" ∈ gtbl := List.mem_of_getElem? (i := 773) (by decide +kernel)
theorem g_809 : Cond.methodLink "MorphWordsLaw" (17 : Nat) ⟨"MorphWordsModel", "readRule", "()I"⟩ ∈ gtbl := List.mem_of_getElem? (i := 809) (by decide +kernel)
theorem g_810 : Cond.instanceMethod ⟨"MorphWordsModel", "readRule", "()I"⟩ ∈ gtbl := List.mem_of_getElem? (i := 810) (by decide +kernel)
theorem g_811 : Cond.selects "MorphWordsModel" ⟨"MorphWordsModel", "readRule", "()I"⟩ ⟨"MorphWordsModel", "readRule", "()I"⟩ ∈ gtbl := List.mem_of_getElem? (i := 811) (by decide +kernel)
theorem g_812 : Cond.code ⟨"MorphWordsModel", "readRule", "()I"⟩ prog_13_method_15_code (2 : Nat) (Option.some FieldType.int) ∈ gtbl := List.mem_of_getElem? (i := 812) (by decide +kernel)
theorem g_813 : Cond.methodLink "MorphWordsModel" (67 : Nat) ⟨"MorphWordsModel", "takesRule", "()V"⟩ ∈ gtbl := List.mem_of_getElem? (i := 813) (by decide +kernel)
theorem g_814 : Cond.instanceMethod ⟨"MorphWordsModel", "takesRule", "()V"⟩ ∈ gtbl := List.mem_of_getElem? (i := 814) (by decide +kernel)
theorem g_815 : Cond.code ⟨"MorphWordsModel", "takesRule", "()V"⟩ prog_13_method_13_code (2 : Nat) (Option.none : Option FieldType) ∈ gtbl := List.mem_of_getElem? (i := 815) (by decide +kernel)
theorem g_816 : Cond.methodLink "MorphWordsModel" (70 : Nat) ⟨"MorphWordsModel", "partsOfText", "()I"⟩ ∈ gtbl := List.mem_of_getElem? (i := 816) (by decide +kernel)
theorem g_817 : Cond.instanceMethod ⟨"MorphWordsModel", "partsOfText", "()I"⟩ ∈ gtbl := List.mem_of_getElem? (i := 817) (by decide +kernel)
theorem g_818 : Cond.code ⟨"MorphWordsModel", "partsOfText", "()I"⟩ prog_13_method_34_code (5 : Nat) (Option.some FieldType.int) ∈ gtbl := List.mem_of_getElem? (i := 818) (by decide +kernel)
theorem g_819 : Cond.methodLink "MorphWordsModel" (134 : Nat) ⟨"MorphWordsModel", "isLetter", "()Z"⟩ ∈ gtbl := List.mem_of_getElem? (i := 819) (by decide +kernel)
theorem g_820 : Cond.instanceMethod ⟨"MorphWordsModel", "isLetter", "()Z"⟩ ∈ gtbl := List.mem_of_getElem? (i := 820) (by decide +kernel)
theorem g_821 : Cond.code ⟨"MorphWordsModel", "isLetter", "()Z"⟩ prog_13_method_33_code (1 : Nat) (Option.some FieldType.boolean) ∈ gtbl := List.mem_of_getElem? (i := 821) (by decide +kernel)
theorem g_822 : Cond.methodLink "MorphWordsModel" (44 : Nat) ⟨"MorphWordsModel", "in", "(III)Z"⟩ ∈ gtbl := List.mem_of_getElem? (i := 822) (by decide +kernel)
theorem g_823 : Cond.static ⟨"MorphWordsModel", "in", "(III)Z"⟩ ∈ gtbl := List.mem_of_getElem? (i := 823) (by decide +kernel)
theorem g_824 : Cond.code ⟨"MorphWordsModel", "in", "(III)Z"⟩ prog_13_method_2_code (3 : Nat) (Option.some FieldType.boolean) ∈ gtbl := List.mem_of_getElem? (i := 824) (by decide +kernel)
theorem g_825 : Cond.methodLink "MorphWordsModel" (76 : Nat) ⟨"MorphWordsModel", "isSameRule", "()Z"⟩ ∈ gtbl := List.mem_of_getElem? (i := 825) (by decide +kernel)
theorem g_826 : Cond.instanceMethod ⟨"MorphWordsModel", "isSameRule", "()Z"⟩ ∈ gtbl := List.mem_of_getElem? (i := 826) (by decide +kernel)
theorem g_827 : Cond.code ⟨"MorphWordsModel", "isSameRule", "()Z"⟩ prog_13_method_9_code (4 : Nat) (Option.some FieldType.boolean) ∈ gtbl := List.mem_of_getElem? (i := 827) (by decide +kernel)
theorem g_828 : Cond.methodLink "MorphWordsModel" (52 : Nat) ⟨"MorphWordsModel", "size", "(I)I"⟩ ∈ gtbl := List.mem_of_getElem? (i := 828) (by decide +kernel)
theorem g_829 : Cond.instanceMethod ⟨"MorphWordsModel", "size", "(I)I"⟩ ∈ gtbl := List.mem_of_getElem? (i := 829) (by decide +kernel)
theorem g_830 : Cond.code ⟨"MorphWordsModel", "size", "(I)I"⟩ prog_13_method_4_code (2 : Nat) (Option.some FieldType.int) ∈ gtbl := List.mem_of_getElem? (i := 830) (by decide +kernel)
theorem g_831 : Cond.methodLink "MorphWordsModel" (56 : Nat) ⟨"MorphWordsModel", "sign", "(II)I"⟩ ∈ gtbl := List.mem_of_getElem? (i := 831) (by decide +kernel)
theorem g_832 : Cond.instanceMethod ⟨"MorphWordsModel", "sign", "(II)I"⟩ ∈ gtbl := List.mem_of_getElem? (i := 832) (by decide +kernel)
theorem g_833 : Cond.code ⟨"MorphWordsModel", "sign", "(II)I"⟩ prog_13_method_5_code (3 : Nat) (Option.some FieldType.int) ∈ gtbl := List.mem_of_getElem? (i := 833) (by decide +kernel)
theorem g_834 : Cond.methodLink "MorphWordsModel" (80 : Nat) ⟨"MorphWordsModel", "record", "()V"⟩ ∈ gtbl := List.mem_of_getElem? (i := 834) (by decide +kernel)
theorem g_835 : Cond.instanceMethod ⟨"MorphWordsModel", "record", "()V"⟩ ∈ gtbl := List.mem_of_getElem? (i := 835) (by decide +kernel)
theorem g_836 : Cond.code ⟨"MorphWordsModel", "record", "()V"⟩ prog_13_method_8_code (2 : Nat) (Option.none : Option FieldType) ∈ gtbl := List.mem_of_getElem? (i := 836) (by decide +kernel)
theorem g_837 : Cond.methodLink "MorphWordsModel" (83 : Nat) ⟨"MorphWordsModel", "laysRule", "()V"⟩ ∈ gtbl := List.mem_of_getElem? (i := 837) (by decide +kernel)
theorem g_838 : Cond.instanceMethod ⟨"MorphWordsModel", "laysRule", "()V"⟩ ∈ gtbl := List.mem_of_getElem? (i := 838) (by decide +kernel)
theorem g_839 : Cond.code ⟨"MorphWordsModel", "laysRule", "()V"⟩ prog_13_method_10_code (2 : Nat) (Option.none : Option FieldType) ∈ gtbl := List.mem_of_getElem? (i := 839) (by decide +kernel)
theorem g_840 : Cond.methodLink "MorphWordsLaw" (21 : Nat) ⟨"MorphWordsModel", "square", "()I"⟩ ∈ gtbl := List.mem_of_getElem? (i := 840) (by decide +kernel)
theorem g_841 : Cond.instanceMethod ⟨"MorphWordsModel", "square", "()I"⟩ ∈ gtbl := List.mem_of_getElem? (i := 841) (by decide +kernel)
theorem g_842 : Cond.selects "MorphWordsModel" ⟨"MorphWordsModel", "square", "()I"⟩ ⟨"MorphWordsModel", "square", "()I"⟩ ∈ gtbl := List.mem_of_getElem? (i := 842) (by decide +kernel)
theorem g_843 : Cond.code ⟨"MorphWordsModel", "square", "()I"⟩ prog_13_method_16_code (6 : Nat) (Option.some FieldType.int) ∈ gtbl := List.mem_of_getElem? (i := 843) (by decide +kernel)
theorem g_844 : Cond.methodLink "MorphWordsModel" (86 : Nat) ⟨"MorphWordsModel", "allSizes", "()I"⟩ ∈ gtbl := List.mem_of_getElem? (i := 844) (by decide +kernel)
theorem g_845 : Cond.instanceMethod ⟨"MorphWordsModel", "allSizes", "()I"⟩ ∈ gtbl := List.mem_of_getElem? (i := 845) (by decide +kernel)
theorem g_846 : Cond.code ⟨"MorphWordsModel", "allSizes", "()I"⟩ prog_13_method_14_code (1 : Nat) (Option.some FieldType.int) ∈ gtbl := List.mem_of_getElem? (i := 846) (by decide +kernel)
theorem g_847 : Cond.methodLink "MorphWordsLaw" (26 : Nat) ⟨"MorphWordsModel", "shift", "(Z)I"⟩ ∈ gtbl := List.mem_of_getElem? (i := 847) (by decide +kernel)
theorem g_848 : Cond.instanceMethod ⟨"MorphWordsModel", "shift", "(Z)I"⟩ ∈ gtbl := List.mem_of_getElem? (i := 848) (by decide +kernel)
theorem g_849 : Cond.selects "MorphWordsModel" ⟨"MorphWordsModel", "shift", "(Z)I"⟩ ⟨"MorphWordsModel", "shift", "(Z)I"⟩ ∈ gtbl := List.mem_of_getElem? (i := 849) (by decide +kernel)
theorem g_850 : Cond.code ⟨"MorphWordsModel", "shift", "(Z)I"⟩ prog_13_method_17_code (6 : Nat) (Option.some FieldType.int) ∈ gtbl := List.mem_of_getElem? (i := 850) (by decide +kernel)
theorem g_851 : Cond.methodLink "MorphWordsLaw" (31 : Nat) ⟨"MorphWordsModel", "swap", "(II)I"⟩ ∈ gtbl := List.mem_of_getElem? (i := 851) (by decide +kernel)
theorem g_852 : Cond.instanceMethod ⟨"MorphWordsModel", "swap", "(II)I"⟩ ∈ gtbl := List.mem_of_getElem? (i := 852) (by decide +kernel)
theorem g_853 : Cond.selects "MorphWordsModel" ⟨"MorphWordsModel", "swap", "(II)I"⟩ ⟨"MorphWordsModel", "swap", "(II)I"⟩ ∈ gtbl := List.mem_of_getElem? (i := 853) (by decide +kernel)
theorem g_854 : Cond.code ⟨"MorphWordsModel", "swap", "(II)I"⟩ prog_13_method_19_code (6 : Nat) (Option.some FieldType.int) ∈ gtbl := List.mem_of_getElem? (i := 854) (by decide +kernel)
theorem g_855 : Cond.methodLink "MorphWordsModel" (89 : Nat) ⟨"MorphWordsModel", "no", "(I)Z"⟩ ∈ gtbl := List.mem_of_getElem? (i := 855) (by decide +kernel)
theorem g_856 : Cond.static ⟨"MorphWordsModel", "no", "(I)Z"⟩ ∈ gtbl := List.mem_of_getElem? (i := 856) (by decide +kernel)
theorem g_857 : Cond.code ⟨"MorphWordsModel", "no", "(I)Z"⟩ prog_13_method_3_code (1 : Nat) (Option.some FieldType.boolean) ∈ gtbl := List.mem_of_getElem? (i := 857) (by decide +kernel)
theorem g_858 : Cond.methodLink "MorphWordsModel" (93 : Nat) ⟨"MorphWordsModel", "swapped", "(III)I"⟩ ∈ gtbl := List.mem_of_getElem? (i := 858) (by decide +kernel)
theorem g_859 : Cond.static ⟨"MorphWordsModel", "swapped", "(III)I"⟩ ∈ gtbl := List.mem_of_getElem? (i := 859) (by decide +kernel)
theorem g_860 : Cond.code ⟨"MorphWordsModel", "swapped", "(III)I"⟩ prog_13_method_18_code (3 : Nat) (Option.some FieldType.int) ∈ gtbl := List.mem_of_getElem? (i := 860) (by decide +kernel)
theorem g_861 : Cond.methodLink "MorphWordsModel" (60 : Nat) ⟨"MorphWordsModel", "length", "()I"⟩ ∈ gtbl := List.mem_of_getElem? (i := 861) (by decide +kernel)
theorem g_862 : Cond.instanceMethod ⟨"MorphWordsModel", "length", "()I"⟩ ∈ gtbl := List.mem_of_getElem? (i := 862) (by decide +kernel)
theorem g_863 : Cond.code ⟨"MorphWordsModel", "length", "()I"⟩ prog_13_method_6_code (1 : Nat) (Option.some FieldType.int) ∈ gtbl := List.mem_of_getElem? (i := 863) (by decide +kernel)
theorem g_864 : Cond.methodLink "MorphWordsModel" (64 : Nat) ⟨"MorphWordsModel", "word", "(I)I"⟩ ∈ gtbl := List.mem_of_getElem? (i := 864) (by decide +kernel)
theorem g_865 : Cond.instanceMethod ⟨"MorphWordsModel", "word", "(I)I"⟩ ∈ gtbl := List.mem_of_getElem? (i := 865) (by decide +kernel)
theorem g_866 : Cond.code ⟨"MorphWordsModel", "word", "(I)I"⟩ prog_13_method_7_code (2 : Nat) (Option.some FieldType.int) ∈ gtbl := List.mem_of_getElem? (i := 866) (by decide +kernel)
theorem g_867 : Cond.methodLink "MorphWordsLaw" (36 : Nat) ⟨"MorphWordsModel", "start", "(I)I"⟩ ∈ gtbl := List.mem_of_getElem? (i := 867) (by decide +kernel)
theorem g_868 : Cond.instanceMethod ⟨"MorphWordsModel", "start", "(I)I"⟩ ∈ gtbl := List.mem_of_getElem? (i := 868) (by decide +kernel)
theorem g_869 : Cond.selects "MorphWordsModel" ⟨"MorphWordsModel", "start", "(I)I"⟩ ⟨"MorphWordsModel", "start", "(I)I"⟩ ∈ gtbl := List.mem_of_getElem? (i := 869) (by decide +kernel)
theorem g_870 : Cond.code ⟨"MorphWordsModel", "start", "(I)I"⟩ prog_13_method_21_code (3 : Nat) (Option.some FieldType.int) ∈ gtbl := List.mem_of_getElem? (i := 870) (by decide +kernel)
theorem g_871 : Cond.methodLink "MorphWordsLaw" (40 : Nat) ⟨"MorphWordsModel", "grow", "(I)I"⟩ ∈ gtbl := List.mem_of_getElem? (i := 871) (by decide +kernel)
theorem g_872 : Cond.instanceMethod ⟨"MorphWordsModel", "grow", "(I)I"⟩ ∈ gtbl := List.mem_of_getElem? (i := 872) (by decide +kernel)
theorem g_873 : Cond.selects "MorphWordsModel" ⟨"MorphWordsModel", "grow", "(I)I"⟩ ⟨"MorphWordsModel", "grow", "(I)I"⟩ ∈ gtbl := List.mem_of_getElem? (i := 873) (by decide +kernel)
theorem g_874 : Cond.code ⟨"MorphWordsModel", "grow", "(I)I"⟩ prog_13_method_23_code (3 : Nat) (Option.some FieldType.int) ∈ gtbl := List.mem_of_getElem? (i := 874) (by decide +kernel)
theorem g_875 : Cond.methodLink "MorphWordsModel" (97 : Nat) ⟨"MorphWordsModel", "takesWord", "()V"⟩ ∈ gtbl := List.mem_of_getElem? (i := 875) (by decide +kernel)
theorem g_876 : Cond.instanceMethod ⟨"MorphWordsModel", "takesWord", "()V"⟩ ∈ gtbl := List.mem_of_getElem? (i := 876) (by decide +kernel)
theorem g_877 : Cond.code ⟨"MorphWordsModel", "takesWord", "()V"⟩ prog_13_method_20_code (2 : Nat) (Option.none : Option FieldType) ∈ gtbl := List.mem_of_getElem? (i := 877) (by decide +kernel)
theorem g_878 : Cond.methodLink "MorphWordsModel" (100 : Nat) ⟨"MorphWordsModel", "grows", "()V"⟩ ∈ gtbl := List.mem_of_getElem? (i := 878) (by decide +kernel)
theorem g_879 : Cond.instanceMethod ⟨"MorphWordsModel", "grows", "()V"⟩ ∈ gtbl := List.mem_of_getElem? (i := 879) (by decide +kernel)
theorem g_880 : Cond.code ⟨"MorphWordsModel", "grows", "()V"⟩ prog_13_method_22_code (4 : Nat) (Option.none : Option FieldType) ∈ gtbl := List.mem_of_getElem? (i := 880) (by decide +kernel)
theorem g_881 : Cond.methodLink "MorphWordsModel" (103 : Nat) ⟨"MorphWordsModel", "isSameWord", "()Z"⟩ ∈ gtbl := List.mem_of_getElem? (i := 881) (by decide +kernel)
theorem g_882 : Cond.instanceMethod ⟨"MorphWordsModel", "isSameWord", "()Z"⟩ ∈ gtbl := List.mem_of_getElem? (i := 882) (by decide +kernel)
theorem g_883 : Cond.code ⟨"MorphWordsModel", "isSameWord", "()Z"⟩ prog_13_method_11_code (3 : Nat) (Option.some FieldType.boolean) ∈ gtbl := List.mem_of_getElem? (i := 883) (by decide +kernel)
theorem g_884 : Cond.methodLink "MorphWordsModel" (106 : Nat) ⟨"MorphWordsModel", "laysWord", "()V"⟩ ∈ gtbl := List.mem_of_getElem? (i := 884) (by decide +kernel)
theorem g_885 : Cond.instanceMethod ⟨"MorphWordsModel", "laysWord", "()V"⟩ ∈ gtbl := List.mem_of_getElem? (i := 885) (by decide +kernel)
theorem g_886 : Cond.code ⟨"MorphWordsModel", "laysWord", "()V"⟩ prog_13_method_12_code (2 : Nat) (Option.none : Option FieldType) ∈ gtbl := List.mem_of_getElem? (i := 886) (by decide +kernel)
theorem g_887 : Cond.methodLink "MorphWordsLaw" (44 : Nat) ⟨"MorphWordsModel", "cut", "(I)I"⟩ ∈ gtbl := List.mem_of_getElem? (i := 887) (by decide +kernel)
theorem g_888 : Cond.instanceMethod ⟨"MorphWordsModel", "cut", "(I)I"⟩ ∈ gtbl := List.mem_of_getElem? (i := 888) (by decide +kernel)
theorem g_889 : Cond.selects "MorphWordsModel" ⟨"MorphWordsModel", "cut", "(I)I"⟩ ⟨"MorphWordsModel", "cut", "(I)I"⟩ ∈ gtbl := List.mem_of_getElem? (i := 889) (by decide +kernel)
theorem g_890 : Cond.code ⟨"MorphWordsModel", "cut", "(I)I"⟩ prog_13_method_24_code (3 : Nat) (Option.some FieldType.int) ∈ gtbl := List.mem_of_getElem? (i := 890) (by decide +kernel)
theorem g_891 : Cond.methodLink "MorphWordsLaw" (48 : Nat) ⟨"MorphWordsModel", "derive", "()I"⟩ ∈ gtbl := List.mem_of_getElem? (i := 891) (by decide +kernel)
theorem g_892 : Cond.instanceMethod ⟨"MorphWordsModel", "derive", "()I"⟩ ∈ gtbl := List.mem_of_getElem? (i := 892) (by decide +kernel)
theorem g_893 : Cond.selects "MorphWordsModel" ⟨"MorphWordsModel", "derive", "()I"⟩ ⟨"MorphWordsModel", "derive", "()I"⟩ ∈ gtbl := List.mem_of_getElem? (i := 893) (by decide +kernel)
theorem g_894 : Cond.code ⟨"MorphWordsModel", "derive", "()I"⟩ prog_13_method_25_code (2 : Nat) (Option.some FieldType.int) ∈ gtbl := List.mem_of_getElem? (i := 894) (by decide +kernel)
theorem g_895 : Cond.methodLink "MorphWordsModel" (109 : Nat) ⟨"MorphWordsModel", "finds", "()I"⟩ ∈ gtbl := List.mem_of_getElem? (i := 895) (by decide +kernel)
theorem g_896 : Cond.instanceMethod ⟨"MorphWordsModel", "finds", "()I"⟩ ∈ gtbl := List.mem_of_getElem? (i := 896) (by decide +kernel)
theorem g_897 : Cond.code ⟨"MorphWordsModel", "finds", "()I"⟩ prog_13_method_29_code (3 : Nat) (Option.some FieldType.int) ∈ gtbl := List.mem_of_getElem? (i := 897) (by decide +kernel)
theorem g_898 : Cond.methodLink "MorphWordsModel" (121 : Nat) ⟨"MorphWordsModel", "comesAt", "(I)Z"⟩ ∈ gtbl := List.mem_of_getElem? (i := 898) (by decide +kernel)
theorem g_899 : Cond.instanceMethod ⟨"MorphWordsModel", "comesAt", "(I)Z"⟩ ∈ gtbl := List.mem_of_getElem? (i := 899) (by decide +kernel)
theorem g_900 : Cond.code ⟨"MorphWordsModel", "comesAt", "(I)Z"⟩ prog_13_method_26_code (4 : Nat) (Option.some FieldType.boolean) ∈ gtbl := List.mem_of_getElem? (i := 900) (by decide +kernel)
theorem g_901 : Cond.methodLink "MorphWordsModel" (124 : Nat) ⟨"MorphWordsModel", "areSame", "(II)Z"⟩ ∈ gtbl := List.mem_of_getElem? (i := 901) (by decide +kernel)
theorem g_902 : Cond.instanceMethod ⟨"MorphWordsModel", "areSame", "(II)Z"⟩ ∈ gtbl := List.mem_of_getElem? (i := 902) (by decide +kernel)
theorem g_903 : Cond.code ⟨"MorphWordsModel", "areSame", "(II)Z"⟩ prog_13_method_28_code (5 : Nat) (Option.some FieldType.boolean) ∈ gtbl := List.mem_of_getElem? (i := 903) (by decide +kernel)
theorem g_904 : Cond.methodLink "MorphWordsModel" (118 : Nat) ⟨"MorphWordsModel", "gap", "(I)I"⟩ ∈ gtbl := List.mem_of_getElem? (i := 904) (by decide +kernel)
theorem g_905 : Cond.instanceMethod ⟨"MorphWordsModel", "gap", "(I)I"⟩ ∈ gtbl := List.mem_of_getElem? (i := 905) (by decide +kernel)
theorem g_906 : Cond.code ⟨"MorphWordsModel", "gap", "(I)I"⟩ prog_13_method_27_code (2 : Nat) (Option.some FieldType.int) ∈ gtbl := List.mem_of_getElem? (i := 906) (by decide +kernel)
theorem g_907 : Cond.methodLink "MorphWordsLaw" (52 : Nat) ⟨"MorphWordsModel", "look", "()I"⟩ ∈ gtbl := List.mem_of_getElem? (i := 907) (by decide +kernel)
theorem g_908 : Cond.instanceMethod ⟨"MorphWordsModel", "look", "()I"⟩ ∈ gtbl := List.mem_of_getElem? (i := 908) (by decide +kernel)
theorem g_909 : Cond.selects "MorphWordsModel" ⟨"MorphWordsModel", "look", "()I"⟩ ⟨"MorphWordsModel", "look", "()I"⟩ ∈ gtbl := List.mem_of_getElem? (i := 909) (by decide +kernel)
theorem g_910 : Cond.code ⟨"MorphWordsModel", "look", "()I"⟩ prog_13_method_30_code (4 : Nat) (Option.some FieldType.int) ∈ gtbl := List.mem_of_getElem? (i := 910) (by decide +kernel)
theorem g_911 : Cond.methodLink "MorphWordsModel" (128 : Nat) ⟨"MorphWordsModel", "pieceOfText", "()I"⟩ ∈ gtbl := List.mem_of_getElem? (i := 911) (by decide +kernel)
theorem g_912 : Cond.instanceMethod ⟨"MorphWordsModel", "pieceOfText", "()I"⟩ ∈ gtbl := List.mem_of_getElem? (i := 912) (by decide +kernel)
theorem g_913 : Cond.code ⟨"MorphWordsModel", "pieceOfText", "()I"⟩ prog_13_method_35_code (1 : Nat) (Option.some FieldType.int) ∈ gtbl := List.mem_of_getElem? (i := 913) (by decide +kernel)
theorem g_914 : Cond.methodLink "MorphWordsLaw" (57 : Nat) ⟨"MorphWordsModel", "type", "(C)I"⟩ ∈ gtbl := List.mem_of_getElem? (i := 914) (by decide +kernel)
theorem g_915 : Cond.instanceMethod ⟨"MorphWordsModel", "type", "(C)I"⟩ ∈ gtbl := List.mem_of_getElem? (i := 915) (by decide +kernel)
theorem g_916 : Cond.selects "MorphWordsModel" ⟨"MorphWordsModel", "type", "(C)I"⟩ ⟨"MorphWordsModel", "type", "(C)I"⟩ ∈ gtbl := List.mem_of_getElem? (i := 916) (by decide +kernel)
theorem g_917 : Cond.code ⟨"MorphWordsModel", "type", "(C)I"⟩ prog_13_method_31_code (2 : Nat) (Option.some FieldType.int) ∈ gtbl := List.mem_of_getElem? (i := 917) (by decide +kernel)
theorem g_918 : Cond.methodLink "MorphWordsLaw" (61 : Nat) ⟨"MorphWordsModel", "clearText", "()I"⟩ ∈ gtbl := List.mem_of_getElem? (i := 918) (by decide +kernel)
theorem g_919 : Cond.instanceMethod ⟨"MorphWordsModel", "clearText", "()I"⟩ ∈ gtbl := List.mem_of_getElem? (i := 919) (by decide +kernel)
theorem g_920 : Cond.selects "MorphWordsModel" ⟨"MorphWordsModel", "clearText", "()I"⟩ ⟨"MorphWordsModel", "clearText", "()I"⟩ ∈ gtbl := List.mem_of_getElem? (i := 920) (by decide +kernel)
theorem g_921 : Cond.code ⟨"MorphWordsModel", "clearText", "()I"⟩ prog_13_method_32_code (2 : Nat) (Option.some FieldType.int) ∈ gtbl := List.mem_of_getElem? (i := 921) (by decide +kernel)
theorem g_922 : Cond.methodLink "MorphWordsLaw" (65 : Nat) ⟨"MorphWordsModel", "undo", "()I"⟩ ∈ gtbl := List.mem_of_getElem? (i := 922) (by decide +kernel)
theorem g_923 : Cond.instanceMethod ⟨"MorphWordsModel", "undo", "()I"⟩ ∈ gtbl := List.mem_of_getElem? (i := 923) (by decide +kernel)
theorem g_924 : Cond.selects "MorphWordsModel" ⟨"MorphWordsModel", "undo", "()I"⟩ ⟨"MorphWordsModel", "undo", "()I"⟩ ∈ gtbl := List.mem_of_getElem? (i := 924) (by decide +kernel)
theorem g_925 : Cond.code ⟨"MorphWordsModel", "undo", "()I"⟩ prog_13_method_36_code (2 : Nat) (Option.some FieldType.int) ∈ gtbl := List.mem_of_getElem? (i := 925) (by decide +kernel)
theorem g_926 : Cond.methodLink "MorphWordsLaw" (69 : Nat) ⟨"MorphWordsModel", "keep", "()I"⟩ ∈ gtbl := List.mem_of_getElem? (i := 926) (by decide +kernel)
theorem g_927 : Cond.instanceMethod ⟨"MorphWordsModel", "keep", "()I"⟩ ∈ gtbl := List.mem_of_getElem? (i := 927) (by decide +kernel)
theorem g_928 : Cond.selects "MorphWordsModel" ⟨"MorphWordsModel", "keep", "()I"⟩ ⟨"MorphWordsModel", "keep", "()I"⟩ ∈ gtbl := List.mem_of_getElem? (i := 928) (by decide +kernel)
theorem g_929 : Cond.code ⟨"MorphWordsModel", "keep", "()I"⟩ prog_13_method_37_code (2 : Nat) (Option.some FieldType.int) ∈ gtbl := List.mem_of_getElem? (i := 929) (by decide +kernel)
theorem g_930 : Cond.methodLink "MorphWordsLaw" (73 : Nat) ⟨"MorphWordsModel", "restore", "()I"⟩ ∈ gtbl := List.mem_of_getElem? (i := 930) (by decide +kernel)
theorem g_931 : Cond.instanceMethod ⟨"MorphWordsModel", "restore", "()I"⟩ ∈ gtbl := List.mem_of_getElem? (i := 931) (by decide +kernel)
theorem g_932 : Cond.selects "MorphWordsModel" ⟨"MorphWordsModel", "restore", "()I"⟩ ⟨"MorphWordsModel", "restore", "()I"⟩ ∈ gtbl := List.mem_of_getElem? (i := 932) (by decide +kernel)
theorem g_933 : Cond.code ⟨"MorphWordsModel", "restore", "()I"⟩ prog_13_method_38_code (2 : Nat) (Option.some FieldType.int) ∈ gtbl := List.mem_of_getElem? (i := 933) (by decide +kernel)
theorem g_934 : Cond.methodLink "MorphWordsLaw" (77 : Nat) ⟨"MorphWordsModel", "image", "(II)I"⟩ ∈ gtbl := List.mem_of_getElem? (i := 934) (by decide +kernel)
theorem g_935 : Cond.instanceMethod ⟨"MorphWordsModel", "image", "(II)I"⟩ ∈ gtbl := List.mem_of_getElem? (i := 935) (by decide +kernel)
theorem g_936 : Cond.selects "MorphWordsModel" ⟨"MorphWordsModel", "image", "(II)I"⟩ ⟨"MorphWordsModel", "image", "(II)I"⟩ ∈ gtbl := List.mem_of_getElem? (i := 936) (by decide +kernel)
theorem g_937 : Cond.code ⟨"MorphWordsModel", "image", "(II)I"⟩ prog_13_method_39_code (3 : Nat) (Option.some FieldType.int) ∈ gtbl := List.mem_of_getElem? (i := 937) (by decide +kernel)
theorem g_938 : Cond.methodLink "MorphWordsLaw" (81 : Nat) ⟨"MorphWordsModel", "rule", "(II)I"⟩ ∈ gtbl := List.mem_of_getElem? (i := 938) (by decide +kernel)
theorem g_939 : Cond.instanceMethod ⟨"MorphWordsModel", "rule", "(II)I"⟩ ∈ gtbl := List.mem_of_getElem? (i := 939) (by decide +kernel)
theorem g_940 : Cond.selects "MorphWordsModel" ⟨"MorphWordsModel", "rule", "(II)I"⟩ ⟨"MorphWordsModel", "rule", "(II)I"⟩ ∈ gtbl := List.mem_of_getElem? (i := 940) (by decide +kernel)
theorem g_941 : Cond.code ⟨"MorphWordsModel", "rule", "(II)I"⟩ prog_13_method_43_code (3 : Nat) (Option.some FieldType.int) ∈ gtbl := List.mem_of_getElem? (i := 941) (by decide +kernel)
theorem g_942 : Cond.methodLink "MorphWordsModel" (141 : Nat) ⟨"MorphWordsModel", "lettersIn", "(I)I"⟩ ∈ gtbl := List.mem_of_getElem? (i := 942) (by decide +kernel)
theorem g_943 : Cond.instanceMethod ⟨"MorphWordsModel", "lettersIn", "(I)I"⟩ ∈ gtbl := List.mem_of_getElem? (i := 943) (by decide +kernel)
theorem g_944 : Cond.code ⟨"MorphWordsModel", "lettersIn", "(I)I"⟩ prog_13_method_40_code (4 : Nat) (Option.some FieldType.int) ∈ gtbl := List.mem_of_getElem? (i := 944) (by decide +kernel)
theorem g_945 : Cond.methodLink "MorphWordsModel" (147 : Nat) ⟨"MorphWordsModel", "reached", "(I)I"⟩ ∈ gtbl := List.mem_of_getElem? (i := 945) (by decide +kernel)
theorem g_946 : Cond.instanceMethod ⟨"MorphWordsModel", "reached", "(I)I"⟩ ∈ gtbl := List.mem_of_getElem? (i := 946) (by decide +kernel)
theorem g_947 : Cond.code ⟨"MorphWordsModel", "reached", "(I)I"⟩ prog_13_method_42_code (4 : Nat) (Option.some FieldType.int) ∈ gtbl := List.mem_of_getElem? (i := 947) (by decide +kernel)
theorem g_948 : Cond.methodLink "MorphWordsModel" (144 : Nat) ⟨"MorphWordsModel", "ahead", "(I)I"⟩ ∈ gtbl := List.mem_of_getElem? (i := 948) (by decide +kernel)
theorem g_949 : Cond.instanceMethod ⟨"MorphWordsModel", "ahead", "(I)I"⟩ ∈ gtbl := List.mem_of_getElem? (i := 949) (by decide +kernel)
theorem g_950 : Cond.code ⟨"MorphWordsModel", "ahead", "(I)I"⟩ prog_13_method_41_code (4 : Nat) (Option.some FieldType.int) ∈ gtbl := List.mem_of_getElem? (i := 950) (by decide +kernel)
theorem g_951 : Cond.methodLink "MorphWordsLaw" (85 : Nat) ⟨"MorphWordsModel", "lengthBehind", "(II)I"⟩ ∈ gtbl := List.mem_of_getElem? (i := 951) (by decide +kernel)
theorem g_952 : Cond.instanceMethod ⟨"MorphWordsModel", "lengthBehind", "(II)I"⟩ ∈ gtbl := List.mem_of_getElem? (i := 952) (by decide +kernel)
theorem g_953 : Cond.selects "MorphWordsModel" ⟨"MorphWordsModel", "lengthBehind", "(II)I"⟩ ⟨"MorphWordsModel", "lengthBehind", "(II)I"⟩ ∈ gtbl := List.mem_of_getElem? (i := 953) (by decide +kernel)
theorem g_954 : Cond.code ⟨"MorphWordsModel", "lengthBehind", "(II)I"⟩ prog_13_method_46_code (3 : Nat) (Option.some FieldType.int) ∈ gtbl := List.mem_of_getElem? (i := 954) (by decide +kernel)
theorem g_955 : Cond.methodLink "MorphWordsModel" (152 : Nat) ⟨"MorphWordsModel", "images", "(I)V"⟩ ∈ gtbl := List.mem_of_getElem? (i := 955) (by decide +kernel)
theorem g_956 : Cond.instanceMethod ⟨"MorphWordsModel", "images", "(I)V"⟩ ∈ gtbl := List.mem_of_getElem? (i := 956) (by decide +kernel)
theorem g_957 : Cond.code ⟨"MorphWordsModel", "images", "(I)V"⟩ prog_13_method_45_code (6 : Nat) (Option.none : Option FieldType) ∈ gtbl := List.mem_of_getElem? (i := 957) (by decide +kernel)
theorem g_958 : Cond.constant "MorphWordsModel" (150 : Nat) (1000000 : Int32) ∈ gtbl := List.mem_of_getElem? (i := 958) (by decide +kernel)
theorem g_959 : Cond.constant "MorphWordsModel" (151 : Nat) (1000001 : Int32) ∈ gtbl := List.mem_of_getElem? (i := 959) (by decide +kernel)
theorem g_960 : Cond.methodLink "MorphWordsModel" (156 : Nat) ⟨"MorphWordsModel", "sum", "(I)I"⟩ ∈ gtbl := List.mem_of_getElem? (i := 960) (by decide +kernel)
theorem g_961 : Cond.instanceMethod ⟨"MorphWordsModel", "sum", "(I)I"⟩ ∈ gtbl := List.mem_of_getElem? (i := 961) (by decide +kernel)
theorem g_962 : Cond.code ⟨"MorphWordsModel", "sum", "(I)I"⟩ prog_13_method_44_code (3 : Nat) (Option.some FieldType.int) ∈ gtbl := List.mem_of_getElem? (i := 962) (by decide +kernel)
theorem g_963 : Cond.methodLink "MorphWordsLaw" (90 : Nat) ⟨"MorphWordsModel", "countBehind", "(III)I"⟩ ∈ gtbl := List.mem_of_getElem? (i := 963) (by decide +kernel)
theorem g_964 : Cond.instanceMethod ⟨"MorphWordsModel", "countBehind", "(III)I"⟩ ∈ gtbl := List.mem_of_getElem? (i := 964) (by decide +kernel)
theorem g_965 : Cond.selects "MorphWordsModel" ⟨"MorphWordsModel", "countBehind", "(III)I"⟩ ⟨"MorphWordsModel", "countBehind", "(III)I"⟩ ∈ gtbl := List.mem_of_getElem? (i := 965) (by decide +kernel)
theorem g_966 : Cond.code ⟨"MorphWordsModel", "countBehind", "(III)I"⟩ prog_13_method_47_code (4 : Nat) (Option.some FieldType.int) ∈ gtbl := List.mem_of_getElem? (i := 966) (by decide +kernel)
theorem g_967 : Cond.methodLink "MorphWordsLaw" (94 : Nat) ⟨"MorphWordsModel", "mixing", "()I"⟩ ∈ gtbl := List.mem_of_getElem? (i := 967) (by decide +kernel)
theorem g_968 : Cond.instanceMethod ⟨"MorphWordsModel", "mixing", "()I"⟩ ∈ gtbl := List.mem_of_getElem? (i := 968) (by decide +kernel)
theorem g_969 : Cond.selects "MorphWordsModel" ⟨"MorphWordsModel", "mixing", "()I"⟩ ⟨"MorphWordsModel", "mixing", "()I"⟩ ∈ gtbl := List.mem_of_getElem? (i := 969) (by decide +kernel)
theorem g_970 : Cond.code ⟨"MorphWordsModel", "mixing", "()I"⟩ prog_13_method_48_code (5 : Nat) (Option.some FieldType.int) ∈ gtbl := List.mem_of_getElem? (i := 970) (by decide +kernel)
theorem g_971 : Cond.methodLink "MorphWordsLaw" (98 : Nat) ⟨"MorphWordsModel", "at", "(I)I"⟩ ∈ gtbl := List.mem_of_getElem? (i := 971) (by decide +kernel)
theorem g_972 : Cond.instanceMethod ⟨"MorphWordsModel", "at", "(I)I"⟩ ∈ gtbl := List.mem_of_getElem? (i := 972) (by decide +kernel)
theorem g_973 : Cond.selects "MorphWordsModel" ⟨"MorphWordsModel", "at", "(I)I"⟩ ⟨"MorphWordsModel", "at", "(I)I"⟩ ∈ gtbl := List.mem_of_getElem? (i := 973) (by decide +kernel)
theorem g_974 : Cond.code ⟨"MorphWordsModel", "at", "(I)I"⟩ prog_13_method_49_code (2 : Nat) (Option.some FieldType.int) ∈ gtbl := List.mem_of_getElem? (i := 974) (by decide +kernel)
theorem g_975 : Cond.methodLink "MorphWordsLaw" (102 : Nat) ⟨"MorphWordsModel", "pieces", "(II)I"⟩ ∈ gtbl := List.mem_of_getElem? (i := 975) (by decide +kernel)
theorem g_976 : Cond.instanceMethod ⟨"MorphWordsModel", "pieces", "(II)I"⟩ ∈ gtbl := List.mem_of_getElem? (i := 976) (by decide +kernel)
theorem g_977 : Cond.selects "MorphWordsModel" ⟨"MorphWordsModel", "pieces", "(II)I"⟩ ⟨"MorphWordsModel", "pieces", "(II)I"⟩ ∈ gtbl := List.mem_of_getElem? (i := 977) (by decide +kernel)
theorem g_978 : Cond.code ⟨"MorphWordsModel", "pieces", "(II)I"⟩ prog_13_method_54_code (7 : Nat) (Option.some FieldType.int) ∈ gtbl := List.mem_of_getElem? (i := 978) (by decide +kernel)
theorem g_979 : Cond.methodLink "MorphWordsModel" (159 : Nat) ⟨"MorphWordsModel", "isSamePiece", "(III)Z"⟩ ∈ gtbl := List.mem_of_getElem? (i := 979) (by decide +kernel)
theorem g_980 : Cond.instanceMethod ⟨"MorphWordsModel", "isSamePiece", "(III)Z"⟩ ∈ gtbl := List.mem_of_getElem? (i := 980) (by decide +kernel)
theorem g_981 : Cond.code ⟨"MorphWordsModel", "isSamePiece", "(III)Z"⟩ prog_13_method_50_code (6 : Nat) (Option.some FieldType.boolean) ∈ gtbl := List.mem_of_getElem? (i := 981) (by decide +kernel)
theorem g_982 : Cond.methodLink "MorphWordsModel" (162 : Nat) ⟨"MorphWordsModel", "isMirrored", "(II)Z"⟩ ∈ gtbl := List.mem_of_getElem? (i := 982) (by decide +kernel)
theorem g_983 : Cond.instanceMethod ⟨"MorphWordsModel", "isMirrored", "(II)Z"⟩ ∈ gtbl := List.mem_of_getElem? (i := 983) (by decide +kernel)
theorem g_984 : Cond.code ⟨"MorphWordsModel", "isMirrored", "(II)Z"⟩ prog_13_method_51_code (5 : Nat) (Option.some FieldType.boolean) ∈ gtbl := List.mem_of_getElem? (i := 984) (by decide +kernel)
theorem g_985 : Cond.methodLink "MorphWordsModel" (165 : Nat) ⟨"MorphWordsModel", "around", "(IIZ)I"⟩ ∈ gtbl := List.mem_of_getElem? (i := 985) (by decide +kernel)
theorem g_986 : Cond.instanceMethod ⟨"MorphWordsModel", "around", "(IIZ)I"⟩ ∈ gtbl := List.mem_of_getElem? (i := 986) (by decide +kernel)
theorem g_987 : Cond.code ⟨"MorphWordsModel", "around", "(IIZ)I"⟩ prog_13_method_52_code (7 : Nat) (Option.some FieldType.int) ∈ gtbl := List.mem_of_getElem? (i := 987) (by decide +kernel)
theorem g_988 : Cond.methodLink "MorphWordsModel" (169 : Nat) ⟨"MorphWordsModel", "isMany", "(I)Z"⟩ ∈ gtbl := List.mem_of_getElem? (i := 988) (by decide +kernel)
theorem g_989 : Cond.static ⟨"MorphWordsModel", "isMany", "(I)Z"⟩ ∈ gtbl := List.mem_of_getElem? (i := 989) (by decide +kernel)
theorem g_990 : Cond.code ⟨"MorphWordsModel", "isMany", "(I)Z"⟩ prog_13_method_53_code (1 : Nat) (Option.some FieldType.boolean) ∈ gtbl := List.mem_of_getElem? (i := 990) (by decide +kernel)
theorem g_991 : Cond.methodLink "MorphWordsLaw" (106 : Nat) ⟨"MorphWordsModel", "balance", "(II)I"⟩ ∈ gtbl := List.mem_of_getElem? (i := 991) (by decide +kernel)
theorem g_992 : Cond.instanceMethod ⟨"MorphWordsModel", "balance", "(II)I"⟩ ∈ gtbl := List.mem_of_getElem? (i := 992) (by decide +kernel)
theorem g_993 : Cond.selects "MorphWordsModel" ⟨"MorphWordsModel", "balance", "(II)I"⟩ ⟨"MorphWordsModel", "balance", "(II)I"⟩ ∈ gtbl := List.mem_of_getElem? (i := 993) (by decide +kernel)
theorem g_994 : Cond.code ⟨"MorphWordsModel", "balance", "(II)I"⟩ prog_13_method_56_code (7 : Nat) (Option.some FieldType.int) ∈ gtbl := List.mem_of_getElem? (i := 994) (by decide +kernel)
theorem g_995 : Cond.methodLink "MorphWordsModel" (172 : Nat) ⟨"MorphWordsModel", "times", "(III)I"⟩ ∈ gtbl := List.mem_of_getElem? (i := 995) (by decide +kernel)
theorem g_996 : Cond.instanceMethod ⟨"MorphWordsModel", "times", "(III)I"⟩ ∈ gtbl := List.mem_of_getElem? (i := 996) (by decide +kernel)
theorem g_997 : Cond.code ⟨"MorphWordsModel", "times", "(III)I"⟩ prog_13_method_55_code (6 : Nat) (Option.some FieldType.int) ∈ gtbl := List.mem_of_getElem? (i := 997) (by decide +kernel)
theorem g_998 : Cond.methodLink "MorphWordsLaw" (110 : Nat) ⟨"MorphWordsModel", "share", "(II)I"⟩ ∈ gtbl := List.mem_of_getElem? (i := 998) (by decide +kernel)
theorem g_999 : Cond.instanceMethod ⟨"MorphWordsModel", "share", "(II)I"⟩ ∈ gtbl := List.mem_of_getElem? (i := 999) (by decide +kernel)
theorem g_1000 : Cond.selects "MorphWordsModel" ⟨"MorphWordsModel", "share", "(II)I"⟩ ⟨"MorphWordsModel", "share", "(II)I"⟩ ∈ gtbl := List.mem_of_getElem? (i := 1000) (by decide +kernel)
theorem g_1001 : Cond.code ⟨"MorphWordsModel", "share", "(II)I"⟩ prog_13_method_58_code (4 : Nat) (Option.some FieldType.int) ∈ gtbl := List.mem_of_getElem? (i := 1001) (by decide +kernel)
theorem g_1002 : Cond.methodLink "MorphWordsModel" (175 : Nat) ⟨"MorphWordsModel", "divisor", "(II)I"⟩ ∈ gtbl := List.mem_of_getElem? (i := 1002) (by decide +kernel)
theorem g_1003 : Cond.static ⟨"MorphWordsModel", "divisor", "(II)I"⟩ ∈ gtbl := List.mem_of_getElem? (i := 1003) (by decide +kernel)
theorem g_1004 : Cond.code ⟨"MorphWordsModel", "divisor", "(II)I"⟩ prog_13_method_57_code (5 : Nat) (Option.some FieldType.int) ∈ gtbl := List.mem_of_getElem? (i := 1004) (by decide +kernel)
theorem g_1005 : Cond.methodLink "MorphWordsLaw" (114 : Nat) ⟨"MorphWordsModel", "run", "(I)I"⟩ ∈ gtbl := List.mem_of_getElem? (i := 1005) (by decide +kernel)
theorem g_1006 : Cond.instanceMethod ⟨"MorphWordsModel", "run", "(I)I"⟩ ∈ gtbl := List.mem_of_getElem? (i := 1006) (by decide +kernel)
theorem g_1007 : Cond.selects "MorphWordsModel" ⟨"MorphWordsModel", "run", "(I)I"⟩ ⟨"MorphWordsModel", "run", "(I)I"⟩ ∈ gtbl := List.mem_of_getElem? (i := 1007) (by decide +kernel)
theorem g_1008 : Cond.code ⟨"MorphWordsModel", "run", "(I)I"⟩ prog_13_method_59_code (8 : Nat) (Option.some FieldType.int) ∈ gtbl := List.mem_of_getElem? (i := 1008) (by decide +kernel)
theorem g_1009 : Cond.methodLink "MorphWordsLaw" (118 : Nat) ⟨"MorphWordsModel", "mirrored", "(I)I"⟩ ∈ gtbl := List.mem_of_getElem? (i := 1009) (by decide +kernel)
theorem g_1010 : Cond.instanceMethod ⟨"MorphWordsModel", "mirrored", "(I)I"⟩ ∈ gtbl := List.mem_of_getElem? (i := 1010) (by decide +kernel)
theorem g_1011 : Cond.selects "MorphWordsModel" ⟨"MorphWordsModel", "mirrored", "(I)I"⟩ ⟨"MorphWordsModel", "mirrored", "(I)I"⟩ ∈ gtbl := List.mem_of_getElem? (i := 1011) (by decide +kernel)
theorem g_1012 : Cond.code ⟨"MorphWordsModel", "mirrored", "(I)I"⟩ prog_13_method_60_code (6 : Nat) (Option.some FieldType.int) ∈ gtbl := List.mem_of_getElem? (i := 1012) (by decide +kernel)
theorem g_1013 : Cond.methodLink "MorphWordsLaw" (122 : Nat) ⟨"MorphWordsModel", "comes", "(I)I"⟩ ∈ gtbl := List.mem_of_getElem? (i := 1013) (by decide +kernel)
theorem g_1014 : Cond.instanceMethod ⟨"MorphWordsModel", "comes", "(I)I"⟩ ∈ gtbl := List.mem_of_getElem? (i := 1014) (by decide +kernel)
theorem g_1015 : Cond.selects "MorphWordsModel" ⟨"MorphWordsModel", "comes", "(I)I"⟩ ⟨"MorphWordsModel", "comes", "(I)I"⟩ ∈ gtbl := List.mem_of_getElem? (i := 1015) (by decide +kernel)
theorem g_1016 : Cond.code ⟨"MorphWordsModel", "comes", "(I)I"⟩ prog_13_method_61_code (2 : Nat) (Option.some FieldType.int) ∈ gtbl := List.mem_of_getElem? (i := 1016) (by decide +kernel)
theorem g_1017 : Cond.methodLink "MorphWordsLaw" (126 : Nat) ⟨"MorphWordsModel", "returns", "(II)I"⟩ ∈ gtbl := List.mem_of_getElem? (i := 1017) (by decide +kernel)
theorem g_1018 : Cond.instanceMethod ⟨"MorphWordsModel", "returns", "(II)I"⟩ ∈ gtbl := List.mem_of_getElem? (i := 1018) (by decide +kernel)
theorem g_1019 : Cond.selects "MorphWordsModel" ⟨"MorphWordsModel", "returns", "(II)I"⟩ ⟨"MorphWordsModel", "returns", "(II)I"⟩ ∈ gtbl := List.mem_of_getElem? (i := 1019) (by decide +kernel)
theorem g_1020 : Cond.code ⟨"MorphWordsModel", "returns", "(II)I"⟩ prog_13_method_62_code (6 : Nat) (Option.some FieldType.int) ∈ gtbl := List.mem_of_getElem? (i := 1020) (by decide +kernel)
theorem g_1021 : Cond.methodLink "MorphWordsLaw" (130 : Nat) ⟨"MorphWordsModel", "row", "(I)I"⟩ ∈ gtbl := List.mem_of_getElem? (i := 1021) (by decide +kernel)
theorem g_1022 : Cond.instanceMethod ⟨"MorphWordsModel", "row", "(I)I"⟩ ∈ gtbl := List.mem_of_getElem? (i := 1022) (by decide +kernel)
theorem g_1023 : Cond.selects "MorphWordsModel" ⟨"MorphWordsModel", "row", "(I)I"⟩ ⟨"MorphWordsModel", "row", "(I)I"⟩ ∈ gtbl := List.mem_of_getElem? (i := 1023) (by decide +kernel)
theorem g_1024 : Cond.code ⟨"MorphWordsModel", "row", "(I)I"⟩ prog_13_method_63_code (2 : Nat) (Option.some FieldType.int) ∈ gtbl := List.mem_of_getElem? (i := 1024) (by decide +kernel)
theorem g_1025 : Cond.methodLink "MorphWordsLaw" (134 : Nat) ⟨"MorphWordsModel", "count", "(I)I"⟩ ∈ gtbl := List.mem_of_getElem? (i := 1025) (by decide +kernel)
theorem g_1026 : Cond.instanceMethod ⟨"MorphWordsModel", "count", "(I)I"⟩ ∈ gtbl := List.mem_of_getElem? (i := 1026) (by decide +kernel)
theorem g_1027 : Cond.selects "MorphWordsModel" ⟨"MorphWordsModel", "count", "(I)I"⟩ ⟨"MorphWordsModel", "count", "(I)I"⟩ ∈ gtbl := List.mem_of_getElem? (i := 1027) (by decide +kernel)
theorem g_1028 : Cond.code ⟨"MorphWordsModel", "count", "(I)I"⟩ prog_13_method_65_code (2 : Nat) (Option.some FieldType.int) ∈ gtbl := List.mem_of_getElem? (i := 1028) (by decide +kernel)
theorem g_1029 : Cond.methodLink "MorphWordsModel" (178 : Nat) ⟨"MorphWordsModel", "lettersOfWord", "()I"⟩ ∈ gtbl := List.mem_of_getElem? (i := 1029) (by decide +kernel)
theorem g_1030 : Cond.instanceMethod ⟨"MorphWordsModel", "lettersOfWord", "()I"⟩ ∈ gtbl := List.mem_of_getElem? (i := 1030) (by decide +kernel)
theorem g_1031 : Cond.code ⟨"MorphWordsModel", "lettersOfWord", "()I"⟩ prog_13_method_64_code (3 : Nat) (Option.some FieldType.int) ∈ gtbl := List.mem_of_getElem? (i := 1031) (by decide +kernel)
