theorem mw_0 : Cond.methodLink RX0 3 objectInit ∈ wAll := List.mem_filter.mpr ⟨List.mem_of_getElem? (i := 174) (by decide +kernel), by decide +kernel⟩
theorem mw_1 : Cond.instanceMethod objectInit ∈ wAll := List.mem_filter.mpr ⟨List.mem_of_getElem? (i := 72) (by decide +kernel), by decide +kernel⟩
theorem mw_2 : Cond.code objectInit ⟨#[0xb1]⟩ 1 none ∈ wAll := List.mem_filter.mpr ⟨List.mem_of_getElem? (i := 73) (by decide +kernel), by decide +kernel⟩
theorem mw_3 : Cond.arrayClass .byte ∈ wAll := List.mem_filter.mpr ⟨List.mem_of_getElem? (i := 195) (by decide +kernel), by decide +kernel⟩
theorem mw_4 : Cond.fieldLink RX0 9 "WantedLater$Text" "bytes" "[B" ∈ wAll := List.mem_filter.mpr ⟨List.mem_of_getElem? (i := 175) (by decide +kernel), by decide +kernel⟩
theorem mw_5 : Cond.code yX0_init cX0_init 1 none ∈ wAll := List.mem_filter.mpr ⟨List.mem_of_getElem? (i := 173) (by decide +kernel), by decide +kernel⟩
theorem mw_6 : Cond.fieldLink RX0 15 "WantedLater$Text" "length" "I" ∈ wAll := List.mem_filter.mpr ⟨List.mem_of_getElem? (i := 176) (by decide +kernel), by decide +kernel⟩
theorem mw_7 : Cond.code yX0_add cX0_add 2 (some .int) ∈ wAll := List.mem_filter.mpr ⟨List.mem_of_getElem? (i := 264) (by decide +kernel), by decide +kernel⟩
theorem mw_8 : Cond.fieldLink RX1 9 "WantedLater$Town" "counts" "I" ∈ wAll := List.mem_filter.mpr ⟨List.mem_of_getElem? (i := 80) (by decide +kernel), by decide +kernel⟩
theorem mw_9 : Cond.fieldLink RX1 28 "WantedLater$Town" "people" "I" ∈ wAll := List.mem_filter.mpr ⟨List.mem_of_getElem? (i := 83) (by decide +kernel), by decide +kernel⟩
theorem mw_10 : Cond.fieldLink RX1 31 "WantedLater$Town" "day" "I" ∈ wAll := List.mem_filter.mpr ⟨List.mem_of_getElem? (i := 86) (by decide +kernel), by decide +kernel⟩
theorem mw_11 : Cond.fieldLink RX1 34 "WantedLater$Town" "listed" "I" ∈ wAll := List.mem_filter.mpr ⟨List.mem_of_getElem? (i := 88) (by decide +kernel), by decide +kernel⟩
theorem mw_12 : Cond.fieldLink RX1 37 "WantedLater$Town" "followed" "I" ∈ wAll := List.mem_filter.mpr ⟨List.mem_of_getElem? (i := 91) (by decide +kernel), by decide +kernel⟩
theorem mw_13 : Cond.fieldLink RX1 40 "WantedLater$Town" "struck" "I" ∈ wAll := List.mem_filter.mpr ⟨List.mem_of_getElem? (i := 94) (by decide +kernel), by decide +kernel⟩
theorem mw_14 : Cond.fieldLink RX1 43 "WantedLater$Town" "noted" "I" ∈ wAll := List.mem_filter.mpr ⟨List.mem_of_getElem? (i := 96) (by decide +kernel), by decide +kernel⟩
theorem mw_15 : Cond.fieldLink RX1 46 "WantedLater$Town" "undoable" "I" ∈ wAll := List.mem_filter.mpr ⟨List.mem_of_getElem? (i := 98) (by decide +kernel), by decide +kernel⟩
theorem mw_16 : Cond.code yX1_begin cX1_begin 2 none ∈ wAll := List.mem_filter.mpr ⟨List.mem_of_getElem? (i := 244) (by decide +kernel), by decide +kernel⟩
theorem mw_17 : Cond.code yX0_sortOf cX0_sortOf 1 (some .int) ∈ wAll := List.mem_filter.mpr ⟨List.mem_of_getElem? (i := 284) (by decide +kernel), by decide +kernel⟩
theorem mw_18 : Cond.fieldLink RX0 25 "WantedLater$Text" "behind" "I" ∈ wAll := List.mem_filter.mpr ⟨List.mem_of_getElem? (i := 179) (by decide +kernel), by decide +kernel⟩
theorem mw_19 : Cond.fieldLink RX0 38 "WantedLater$Text" "start" "I" ∈ wAll := List.mem_filter.mpr ⟨List.mem_of_getElem? (i := 178) (by decide +kernel), by decide +kernel⟩
theorem mw_20 : Cond.fieldLink RX0 31 "WantedLater$Text" "sort" "I" ∈ wAll := List.mem_filter.mpr ⟨List.mem_of_getElem? (i := 180) (by decide +kernel), by decide +kernel⟩
theorem mw_21 : Cond.methodLink RX0 110 yX0_sortOf ∈ wAll := List.mem_filter.mpr ⟨List.mem_of_getElem? (i := 282) (by decide +kernel), by decide +kernel⟩
theorem mw_22 : Cond.static yX0_sortOf ∈ wAll := List.mem_filter.mpr ⟨List.mem_of_getElem? (i := 283) (by decide +kernel), by decide +kernel⟩
theorem mw_23 : Cond.initialized RX0 ∈ wAll := List.mem_filter.mpr ⟨List.mem_of_getElem? (i := 57) (by decide +kernel), by decide +kernel⟩
theorem mw_24 : Cond.code yX0_takeToken cX0_takeToken 1 none ∈ wAll := List.mem_filter.mpr ⟨List.mem_of_getElem? (i := 281) (by decide +kernel), by decide +kernel⟩
theorem mw_25 : Cond.methodLink RX0 101 yJ0_length_8abf5 ∈ wAll := List.mem_filter.mpr ⟨List.mem_of_getElem? (i := 294) (by decide +kernel), by decide +kernel⟩
theorem mw_26 : Cond.instanceMethod yJ0_length_8abf5 ∈ wAll := List.mem_filter.mpr ⟨List.mem_of_getElem? (i := 295) (by decide +kernel), by decide +kernel⟩
theorem mw_27 : Cond.selects RJ0 yJ0_length_8abf5 yJ0_length_8abf5 ∈ wAll := List.mem_filter.mpr ⟨List.mem_of_getElem? (i := 296) (by decide +kernel), by decide +kernel⟩
theorem mw_28 : Cond.initialized RJ0 ∈ wAll := List.mem_filter.mpr ⟨List.mem_of_getElem? (i := 59) (by decide +kernel), by decide +kernel⟩
theorem mw_29 : Cond.code yJ0_length_8abf5 cJ0_length_8abf5 1 (some .int) ∈ wAll := List.mem_filter.mpr ⟨List.mem_of_getElem? (i := 297) (by decide +kernel), by decide +kernel⟩
theorem mw_30 : Cond.fieldLink RJ0 9 "java/lang/String" "value" "[B" ∈ wAll := List.mem_filter.mpr ⟨List.mem_of_getElem? (i := 986) (by decide +kernel), by decide +kernel⟩
theorem mw_31 : Cond.methodLink RJ0 335 yJ0_coder_7d493 ∈ wAll := List.mem_filter.mpr ⟨List.mem_of_getElem? (i := 298) (by decide +kernel), by decide +kernel⟩
theorem mw_32 : Cond.instanceMethod yJ0_coder_7d493 ∈ wAll := List.mem_filter.mpr ⟨List.mem_of_getElem? (i := 299) (by decide +kernel), by decide +kernel⟩
theorem mw_33 : Cond.selects RJ0 yJ0_coder_7d493 yJ0_coder_7d493 ∈ wAll := List.mem_filter.mpr ⟨List.mem_of_getElem? (i := 300) (by decide +kernel), by decide +kernel⟩
theorem mw_34 : Cond.code yJ0_coder_7d493 cJ0_coder_7d493 1 (some .byte) ∈ wAll := List.mem_filter.mpr ⟨List.mem_of_getElem? (i := 301) (by decide +kernel), by decide +kernel⟩
theorem mw_35 : Cond.fieldLink RJ0 38 "java/lang/String" "COMPACT_STRINGS" "Z" ∈ wAll := List.mem_filter.mpr ⟨List.mem_of_getElem? (i := 302) (by decide +kernel), by decide +kernel⟩
theorem mw_36 : Cond.fieldLink RJ0 15 "java/lang/String" "coder" "B" ∈ wAll := List.mem_filter.mpr ⟨List.mem_of_getElem? (i := 987) (by decide +kernel), by decide +kernel⟩
theorem mw_37 : Cond.methodLink RX0 106 yJ0_charAt_5068e ∈ wAll := List.mem_filter.mpr ⟨List.mem_of_getElem? (i := 304) (by decide +kernel), by decide +kernel⟩
theorem mw_38 : Cond.instanceMethod yJ0_charAt_5068e ∈ wAll := List.mem_filter.mpr ⟨List.mem_of_getElem? (i := 305) (by decide +kernel), by decide +kernel⟩
theorem mw_39 : Cond.selects RJ0 yJ0_charAt_5068e yJ0_charAt_5068e ∈ wAll := List.mem_filter.mpr ⟨List.mem_of_getElem? (i := 306) (by decide +kernel), by decide +kernel⟩
theorem mw_40 : Cond.code yJ0_charAt_5068e cJ0_charAt_5068e 2 (some .char) ∈ wAll := List.mem_filter.mpr ⟨List.mem_of_getElem? (i := 307) (by decide +kernel), by decide +kernel⟩
theorem mw_41 : Cond.methodLink RJ0 492 yJ0_isLatin1_aae02 ∈ wAll := List.mem_filter.mpr ⟨List.mem_of_getElem? (i := 308) (by decide +kernel), by decide +kernel⟩
theorem mw_42 : Cond.instanceMethod yJ0_isLatin1_aae02 ∈ wAll := List.mem_filter.mpr ⟨List.mem_of_getElem? (i := 309) (by decide +kernel), by decide +kernel⟩
theorem mw_43 : Cond.selects RJ0 yJ0_isLatin1_aae02 yJ0_isLatin1_aae02 ∈ wAll := List.mem_filter.mpr ⟨List.mem_of_getElem? (i := 310) (by decide +kernel), by decide +kernel⟩
theorem mw_44 : Cond.code yJ0_isLatin1_aae02 cJ0_isLatin1_aae02 1 (some .boolean) ∈ wAll := List.mem_filter.mpr ⟨List.mem_of_getElem? (i := 311) (by decide +kernel), by decide +kernel⟩
theorem mw_45 : Cond.methodLink RJ0 495 yJ1_charAt_3b067 ∈ wAll := List.mem_filter.mpr ⟨List.mem_of_getElem? (i := 312) (by decide +kernel), by decide +kernel⟩
theorem mw_46 : Cond.static yJ1_charAt_3b067 ∈ wAll := List.mem_filter.mpr ⟨List.mem_of_getElem? (i := 313) (by decide +kernel), by decide +kernel⟩
theorem mw_47 : Cond.initialized RJ1 ∈ wAll := List.mem_filter.mpr ⟨List.mem_of_getElem? (i := 60) (by decide +kernel), by decide +kernel⟩
theorem mw_48 : Cond.code yJ1_charAt_3b067 cJ1_charAt_3b067 2 (some .char) ∈ wAll := List.mem_filter.mpr ⟨List.mem_of_getElem? (i := 314) (by decide +kernel), by decide +kernel⟩
theorem mw_49 : Cond.methodLink RJ1 9 yJ0_checkIndex_df160 ∈ wAll := List.mem_filter.mpr ⟨List.mem_of_getElem? (i := 315) (by decide +kernel), by decide +kernel⟩
theorem mw_50 : Cond.static yJ0_checkIndex_df160 ∈ wAll := List.mem_filter.mpr ⟨List.mem_of_getElem? (i := 316) (by decide +kernel), by decide +kernel⟩
theorem mw_51 : Cond.code yJ0_checkIndex_df160 cJ0_checkIndex_df160 2 none ∈ wAll := List.mem_filter.mpr ⟨List.mem_of_getElem? (i := 317) (by decide +kernel), by decide +kernel⟩
theorem mw_52 : Cond.fieldLink RJ0 1053 "jdk/internal/util/Preconditions" "SIOOBE_FORMATTER" "Ljava/util/function/BiFunction;" ∈ wAll := List.mem_filter.mpr ⟨List.mem_of_getElem? (i := 318) (by decide +kernel), by decide +kernel⟩
theorem mw_53 : Cond.methodLink RJ0 1059 yJ3_checkIndex_8e157 ∈ wAll := List.mem_filter.mpr ⟨List.mem_of_getElem? (i := 320) (by decide +kernel), by decide +kernel⟩
theorem mw_54 : Cond.static yJ3_checkIndex_8e157 ∈ wAll := List.mem_filter.mpr ⟨List.mem_of_getElem? (i := 321) (by decide +kernel), by decide +kernel⟩
theorem mw_55 : Cond.initialized RJ3 ∈ wAll := List.mem_filter.mpr ⟨List.mem_of_getElem? (i := 61) (by decide +kernel), by decide +kernel⟩
theorem mw_56 : Cond.code yJ3_checkIndex_8e157 cJ3_checkIndex_8e157 3 (some .int) ∈ wAll := List.mem_filter.mpr ⟨List.mem_of_getElem? (i := 322) (by decide +kernel), by decide +kernel⟩
theorem mw_57 : Cond.methodLink RJ0 498 yJ2_charAt_3b067 ∈ wAll := List.mem_filter.mpr ⟨List.mem_of_getElem? (i := 323) (by decide +kernel), by decide +kernel⟩
theorem mw_58 : Cond.static yJ2_charAt_3b067 ∈ wAll := List.mem_filter.mpr ⟨List.mem_of_getElem? (i := 324) (by decide +kernel), by decide +kernel⟩
theorem mw_59 : Cond.initialized RJ2 ∈ wAll := List.mem_filter.mpr ⟨List.mem_of_getElem? (i := 62) (by decide +kernel), by decide +kernel⟩
theorem mw_60 : Cond.code yJ2_charAt_3b067 cJ2_charAt_3b067 2 (some .char) ∈ wAll := List.mem_filter.mpr ⟨List.mem_of_getElem? (i := 325) (by decide +kernel), by decide +kernel⟩
theorem mw_61 : Cond.methodLink RJ2 67 yJ2_checkIndex_2214a ∈ wAll := List.mem_filter.mpr ⟨List.mem_of_getElem? (i := 326) (by decide +kernel), by decide +kernel⟩
theorem mw_62 : Cond.static yJ2_checkIndex_2214a ∈ wAll := List.mem_filter.mpr ⟨List.mem_of_getElem? (i := 327) (by decide +kernel), by decide +kernel⟩
theorem mw_63 : Cond.code yJ2_checkIndex_2214a cJ2_checkIndex_2214a 2 none ∈ wAll := List.mem_filter.mpr ⟨List.mem_of_getElem? (i := 328) (by decide +kernel), by decide +kernel⟩
theorem mw_64 : Cond.methodLink RJ2 48 yJ2_length_9d52b ∈ wAll := List.mem_filter.mpr ⟨List.mem_of_getElem? (i := 329) (by decide +kernel), by decide +kernel⟩
theorem mw_65 : Cond.static yJ2_length_9d52b ∈ wAll := List.mem_filter.mpr ⟨List.mem_of_getElem? (i := 330) (by decide +kernel), by decide +kernel⟩
theorem mw_66 : Cond.code yJ2_length_9d52b cJ2_length_9d52b 1 (some .int) ∈ wAll := List.mem_filter.mpr ⟨List.mem_of_getElem? (i := 331) (by decide +kernel), by decide +kernel⟩
theorem mw_67 : Cond.methodLink RJ2 414 yJ0_checkIndex_df160 ∈ wAll := List.mem_filter.mpr ⟨List.mem_of_getElem? (i := 332) (by decide +kernel), by decide +kernel⟩
theorem mw_68 : Cond.methodLink RJ2 71 yJ2_getChar_3b067 ∈ wAll := List.mem_filter.mpr ⟨List.mem_of_getElem? (i := 333) (by decide +kernel), by decide +kernel⟩
theorem mw_69 : Cond.static yJ2_getChar_3b067 ∈ wAll := List.mem_filter.mpr ⟨List.mem_of_getElem? (i := 334) (by decide +kernel), by decide +kernel⟩
theorem mw_70 : Cond.code yJ2_getChar_3b067 cJ2_getChar_3b067 2 (some .char) ∈ wAll := List.mem_filter.mpr ⟨List.mem_of_getElem? (i := 335) (by decide +kernel), by decide +kernel⟩
theorem mw_71 : Cond.fieldLink RJ2 44 "java/lang/StringUTF16" "$assertionsDisabled" "Z" ∈ wAll := List.mem_filter.mpr ⟨List.mem_of_getElem? (i := 336) (by decide +kernel), by decide +kernel⟩
theorem mw_72 : Cond.fieldLink RJ2 59 "java/lang/StringUTF16" "HI_BYTE_SHIFT" "I" ∈ wAll := List.mem_filter.mpr ⟨List.mem_of_getElem? (i := 338) (by decide +kernel), by decide +kernel⟩
theorem mw_73 : Cond.fieldLink RJ2 63 "java/lang/StringUTF16" "LO_BYTE_SHIFT" "I" ∈ wAll := List.mem_filter.mpr ⟨List.mem_of_getElem? (i := 340) (by decide +kernel), by decide +kernel⟩
theorem mw_74 : Cond.code yX0_isWord cX0_isWord 3 (some .boolean) ∈ wAll := List.mem_filter.mpr ⟨List.mem_of_getElem? (i := 293) (by decide +kernel), by decide +kernel⟩
theorem mw_75 : Cond.code yX3_isWithin cX3_isWithin 3 (some .boolean) ∈ wAll := List.mem_filter.mpr ⟨List.mem_of_getElem? (i := 236) (by decide +kernel), by decide +kernel⟩
theorem mw_76 : Cond.fieldLink RX0 70 "WantedLater$Text" "number" "I" ∈ wAll := List.mem_filter.mpr ⟨List.mem_of_getElem? (i := 181) (by decide +kernel), by decide +kernel⟩
theorem mw_77 : Cond.methodLink RX0 28 yX0_takeToken ∈ wAll := List.mem_filter.mpr ⟨List.mem_of_getElem? (i := 278) (by decide +kernel), by decide +kernel⟩
theorem mw_78 : Cond.instanceMethod yX0_takeToken ∈ wAll := List.mem_filter.mpr ⟨List.mem_of_getElem? (i := 280) (by decide +kernel), by decide +kernel⟩
theorem mw_79 : Cond.selects RX0 yX0_takeToken yX0_takeToken ∈ wAll := List.mem_filter.mpr ⟨List.mem_of_getElem? (i := 2) (by decide +kernel), by decide +kernel⟩
theorem mw_80 : Cond.static yX3_isWithin ∈ wAll := List.mem_filter.mpr ⟨List.mem_of_getElem? (i := 235) (by decide +kernel), by decide +kernel⟩
theorem mw_81 : Cond.initialized RX3 ∈ wAll := List.mem_filter.mpr ⟨List.mem_of_getElem? (i := 54) (by decide +kernel), by decide +kernel⟩
theorem mw_82 : Cond.code yX0_takesNumber cX0_takesNumber 4 (some .boolean) ∈ wAll := List.mem_filter.mpr ⟨List.mem_of_getElem? (i := 349) (by decide +kernel), by decide +kernel⟩
theorem mw_83 : Cond.code yX0_takesStop cX0_takesStop 1 (some .boolean) ∈ wAll := List.mem_filter.mpr ⟨List.mem_of_getElem? (i := 354) (by decide +kernel), by decide +kernel⟩
theorem mw_84 : Cond.fieldLink RX0 73 "WantedLater$Town" "counts" "I" ∈ wAll := List.mem_filter.mpr ⟨List.mem_of_getElem? (i := 81) (by decide +kernel), by decide +kernel⟩
theorem mw_85 : Cond.methodLink RX0 66 yX0_takesNumber ∈ wAll := List.mem_filter.mpr ⟨List.mem_of_getElem? (i := 346) (by decide +kernel), by decide +kernel⟩
theorem mw_86 : Cond.instanceMethod yX0_takesNumber ∈ wAll := List.mem_filter.mpr ⟨List.mem_of_getElem? (i := 348) (by decide +kernel), by decide +kernel⟩
theorem mw_87 : Cond.selects RX0 yX0_takesNumber yX0_takesNumber ∈ wAll := List.mem_filter.mpr ⟨List.mem_of_getElem? (i := 6) (by decide +kernel), by decide +kernel⟩
theorem mw_88 : Cond.methodLink RX0 76 yX0_takesStop ∈ wAll := List.mem_filter.mpr ⟨List.mem_of_getElem? (i := 351) (by decide +kernel), by decide +kernel⟩
theorem mw_89 : Cond.instanceMethod yX0_takesStop ∈ wAll := List.mem_filter.mpr ⟨List.mem_of_getElem? (i := 353) (by decide +kernel), by decide +kernel⟩
theorem mw_90 : Cond.selects RX0 yX0_takesStop yX0_takesStop ∈ wAll := List.mem_filter.mpr ⟨List.mem_of_getElem? (i := 7) (by decide +kernel), by decide +kernel⟩
theorem mw_91 : Cond.code yX0_takesTown cX0_takesTown 2 (some .boolean) ∈ wAll := List.mem_filter.mpr ⟨List.mem_of_getElem? (i := 345) (by decide +kernel), by decide +kernel⟩
theorem mw_92 : Cond.fieldLink RX1 15 "WantedLater$Town" "kinds" "[I" ∈ wAll := List.mem_filter.mpr ⟨List.mem_of_getElem? (i := 100) (by decide +kernel), by decide +kernel⟩
theorem mw_93 : Cond.fieldLink RX1 19 "WantedLater$Town" "tempers" "[I" ∈ wAll := List.mem_filter.mpr ⟨List.mem_of_getElem? (i := 102) (by decide +kernel), by decide +kernel⟩
theorem mw_94 : Cond.code yX1_addOne cX1_addOne 3 (some .int) ∈ wAll := List.mem_filter.mpr ⟨List.mem_of_getElem? (i := 256) (by decide +kernel), by decide +kernel⟩
theorem mw_95 : Cond.fieldLink RX0 80 "WantedLater$Town" "people" "I" ∈ wAll := List.mem_filter.mpr ⟨List.mem_of_getElem? (i := 85) (by decide +kernel), by decide +kernel⟩
theorem mw_96 : Cond.methodLink RX0 83 yX1_addOne ∈ wAll := List.mem_filter.mpr ⟨List.mem_of_getElem? (i := 360) (by decide +kernel), by decide +kernel⟩
theorem mw_97 : Cond.instanceMethod yX1_addOne ∈ wAll := List.mem_filter.mpr ⟨List.mem_of_getElem? (i := 254) (by decide +kernel), by decide +kernel⟩
theorem mw_98 : Cond.selects RX1 yX1_addOne yX1_addOne ∈ wAll := List.mem_filter.mpr ⟨List.mem_of_getElem? (i := 255) (by decide +kernel), by decide +kernel⟩
theorem mw_99 : Cond.initialized RX1 ∈ wAll := List.mem_filter.mpr ⟨List.mem_of_getElem? (i := 55) (by decide +kernel), by decide +kernel⟩
theorem mw_100 : Cond.code yX0_takesOne cX0_takesOne 3 (some .boolean) ∈ wAll := List.mem_filter.mpr ⟨List.mem_of_getElem? (i := 359) (by decide +kernel), by decide +kernel⟩
theorem mw_101 : Cond.code yX3_withBit cX3_withBit 3 (some .int) ∈ wAll := List.mem_filter.mpr ⟨List.mem_of_getElem? (i := 368) (by decide +kernel), by decide +kernel⟩
theorem mw_102 : Cond.fieldLink RX0 87 "WantedLater$Town" "listed" "I" ∈ wAll := List.mem_filter.mpr ⟨List.mem_of_getElem? (i := 89) (by decide +kernel), by decide +kernel⟩
theorem mw_103 : Cond.static yX3_withBit ∈ wAll := List.mem_filter.mpr ⟨List.mem_of_getElem? (i := 367) (by decide +kernel), by decide +kernel⟩
theorem mw_104 : Cond.code yX0_takesListed cX0_takesListed 2 (some .boolean) ∈ wAll := List.mem_filter.mpr ⟨List.mem_of_getElem? (i := 365) (by decide +kernel), by decide +kernel⟩
theorem mw_105 : Cond.fieldLink RX0 94 "WantedLater$Town" "followed" "I" ∈ wAll := List.mem_filter.mpr ⟨List.mem_of_getElem? (i := 92) (by decide +kernel), by decide +kernel⟩
theorem mw_106 : Cond.code yX0_takesFollowed cX0_takesFollowed 2 (some .boolean) ∈ wAll := List.mem_filter.mpr ⟨List.mem_of_getElem? (i := 373) (by decide +kernel), by decide +kernel⟩
theorem mw_107 : Cond.methodLink RX0 43 yX0_isWord ∈ wAll := List.mem_filter.mpr ⟨List.mem_of_getElem? (i := 290) (by decide +kernel), by decide +kernel⟩
theorem mw_108 : Cond.instanceMethod yX0_isWord ∈ wAll := List.mem_filter.mpr ⟨List.mem_of_getElem? (i := 292) (by decide +kernel), by decide +kernel⟩
theorem mw_109 : Cond.selects RX0 yX0_isWord yX0_isWord ∈ wAll := List.mem_filter.mpr ⟨List.mem_of_getElem? (i := 4) (by decide +kernel), by decide +kernel⟩
theorem mw_110 : Cond.methodLink RX0 47 yX0_takesTown ∈ wAll := List.mem_filter.mpr ⟨List.mem_of_getElem? (i := 342) (by decide +kernel), by decide +kernel⟩
theorem mw_111 : Cond.instanceMethod yX0_takesTown ∈ wAll := List.mem_filter.mpr ⟨List.mem_of_getElem? (i := 344) (by decide +kernel), by decide +kernel⟩
theorem mw_112 : Cond.selects RX0 yX0_takesTown yX0_takesTown ∈ wAll := List.mem_filter.mpr ⟨List.mem_of_getElem? (i := 5) (by decide +kernel), by decide +kernel⟩
theorem mw_113 : Cond.methodLink RX0 53 yX0_takesOne ∈ wAll := List.mem_filter.mpr ⟨List.mem_of_getElem? (i := 356) (by decide +kernel), by decide +kernel⟩
theorem mw_114 : Cond.instanceMethod yX0_takesOne ∈ wAll := List.mem_filter.mpr ⟨List.mem_of_getElem? (i := 358) (by decide +kernel), by decide +kernel⟩
theorem mw_115 : Cond.selects RX0 yX0_takesOne yX0_takesOne ∈ wAll := List.mem_filter.mpr ⟨List.mem_of_getElem? (i := 8) (by decide +kernel), by decide +kernel⟩
theorem mw_116 : Cond.methodLink RX0 58 yX0_takesListed ∈ wAll := List.mem_filter.mpr ⟨List.mem_of_getElem? (i := 362) (by decide +kernel), by decide +kernel⟩
theorem mw_117 : Cond.instanceMethod yX0_takesListed ∈ wAll := List.mem_filter.mpr ⟨List.mem_of_getElem? (i := 364) (by decide +kernel), by decide +kernel⟩
theorem mw_118 : Cond.selects RX0 yX0_takesListed yX0_takesListed ∈ wAll := List.mem_filter.mpr ⟨List.mem_of_getElem? (i := 9) (by decide +kernel), by decide +kernel⟩
theorem mw_119 : Cond.methodLink RX0 63 yX0_takesFollowed ∈ wAll := List.mem_filter.mpr ⟨List.mem_of_getElem? (i := 370) (by decide +kernel), by decide +kernel⟩
theorem mw_120 : Cond.instanceMethod yX0_takesFollowed ∈ wAll := List.mem_filter.mpr ⟨List.mem_of_getElem? (i := 372) (by decide +kernel), by decide +kernel⟩
theorem mw_121 : Cond.selects RX0 yX0_takesFollowed yX0_takesFollowed ∈ wAll := List.mem_filter.mpr ⟨List.mem_of_getElem? (i := 10) (by decide +kernel), by decide +kernel⟩
theorem mw_122 : Cond.code yX0_takesItem cX0_takesItem 3 (some .boolean) ∈ wAll := List.mem_filter.mpr ⟨List.mem_of_getElem? (i := 288) (by decide +kernel), by decide +kernel⟩
theorem mw_123 : Cond.methodLink RX0 19 yX1_begin ∈ wAll := List.mem_filter.mpr ⟨List.mem_of_getElem? (i := 277) (by decide +kernel), by decide +kernel⟩
theorem mw_124 : Cond.instanceMethod yX1_begin ∈ wAll := List.mem_filter.mpr ⟨List.mem_of_getElem? (i := 242) (by decide +kernel), by decide +kernel⟩
theorem mw_125 : Cond.selects RX1 yX1_begin yX1_begin ∈ wAll := List.mem_filter.mpr ⟨List.mem_of_getElem? (i := 243) (by decide +kernel), by decide +kernel⟩
theorem mw_126 : Cond.methodLink RX0 34 yX0_takesItem ∈ wAll := List.mem_filter.mpr ⟨List.mem_of_getElem? (i := 285) (by decide +kernel), by decide +kernel⟩
theorem mw_127 : Cond.instanceMethod yX0_takesItem ∈ wAll := List.mem_filter.mpr ⟨List.mem_of_getElem? (i := 287) (by decide +kernel), by decide +kernel⟩
theorem mw_128 : Cond.selects RX0 yX0_takesItem yX0_takesItem ∈ wAll := List.mem_filter.mpr ⟨List.mem_of_getElem? (i := 3) (by decide +kernel), by decide +kernel⟩
theorem mw_129 : Cond.code yX0_readInto cX0_readInto 3 (some .int) ∈ wAll := List.mem_filter.mpr ⟨List.mem_of_getElem? (i := 276) (by decide +kernel), by decide +kernel⟩
theorem mw_130 : Cond.methodLink RX1 3 objectInit ∈ wAll := List.mem_filter.mpr ⟨List.mem_of_getElem? (i := 79) (by decide +kernel), by decide +kernel⟩
theorem mw_131 : Cond.arrayClass .int ∈ wAll := List.mem_filter.mpr ⟨List.mem_of_getElem? (i := 132) (by decide +kernel), by decide +kernel⟩
theorem mw_132 : Cond.fieldLink RX1 22 "WantedLater$Town" "notes" "[I" ∈ wAll := List.mem_filter.mpr ⟨List.mem_of_getElem? (i := 104) (by decide +kernel), by decide +kernel⟩
theorem mw_133 : Cond.fieldLink RX1 25 "WantedLater$Town" "past" "[I" ∈ wAll := List.mem_filter.mpr ⟨List.mem_of_getElem? (i := 106) (by decide +kernel), by decide +kernel⟩
theorem mw_134 : Cond.code yX1_init cX1_init 1 none ∈ wAll := List.mem_filter.mpr ⟨List.mem_of_getElem? (i := 78) (by decide +kernel), by decide +kernel⟩
theorem mw_135 : Cond.methodLink RX1 49 arraycopyName ∈ wAll := List.mem_filter.mpr ⟨List.mem_of_getElem? (i := 378) (by decide +kernel), by decide +kernel⟩
theorem mw_136 : Cond.native arraycopyName ∈ wAll := List.mem_filter.mpr ⟨List.mem_of_getElem? (i := 380) (by decide +kernel), by decide +kernel⟩
theorem mw_137 : Cond.static arraycopyName ∈ wAll := List.mem_filter.mpr ⟨List.mem_of_getElem? (i := 379) (by decide +kernel), by decide +kernel⟩
theorem mw_138 : Cond.initialized "java/lang/System" ∈ wAll := List.mem_filter.mpr ⟨List.mem_of_getElem? (i := 63) (by decide +kernel), by decide +kernel⟩
theorem mw_139 : Cond.code yX1_copyFrom cX1_copyFrom 2 none ∈ wAll := List.mem_filter.mpr ⟨List.mem_of_getElem? (i := 377) (by decide +kernel), by decide +kernel⟩
theorem mw_140 : Cond.code yX1_addNote cX1_addNote 7 (some .int) ∈ wAll := List.mem_filter.mpr ⟨List.mem_of_getElem? (i := 542) (by decide +kernel), by decide +kernel⟩
theorem mw_141 : Cond.methodLink RX3 253 Lib.Math.min.name ∈ wAll := List.mem_filter.mpr ⟨List.mem_of_getElem? (i := 425) (by decide +kernel), by decide +kernel⟩
theorem mw_142 : Cond.static Lib.Math.min.name ∈ wAll := List.mem_filter.mpr ⟨List.mem_of_getElem? (i := 426) (by decide +kernel), by decide +kernel⟩
theorem mw_143 : Cond.initialized "java/lang/Math" ∈ wAll := List.mem_filter.mpr ⟨List.mem_of_getElem? (i := 64) (by decide +kernel), by decide +kernel⟩
theorem mw_144 : Cond.code Lib.Math.min.name Lib.Math.min.code 2 (some .int) ∈ wAll := List.mem_filter.mpr ⟨List.mem_of_getElem? (i := 427) (by decide +kernel), by decide +kernel⟩
theorem mw_145 : Cond.methodLink RX3 248 Lib.Math.max.name ∈ wAll := List.mem_filter.mpr ⟨List.mem_of_getElem? (i := 428) (by decide +kernel), by decide +kernel⟩
theorem mw_146 : Cond.static Lib.Math.max.name ∈ wAll := List.mem_filter.mpr ⟨List.mem_of_getElem? (i := 429) (by decide +kernel), by decide +kernel⟩
theorem mw_147 : Cond.code Lib.Math.max.name Lib.Math.max.code 2 (some .int) ∈ wAll := List.mem_filter.mpr ⟨List.mem_of_getElem? (i := 430) (by decide +kernel), by decide +kernel⟩
theorem mw_148 : Cond.code yX3_actOf cX3_actOf 7 (some .int) ∈ wAll := List.mem_filter.mpr ⟨List.mem_of_getElem? (i := 424) (by decide +kernel), by decide +kernel⟩
theorem mw_149 : Cond.static yX3_actOf ∈ wAll := List.mem_filter.mpr ⟨List.mem_of_getElem? (i := 423) (by decide +kernel), by decide +kernel⟩
theorem mw_150 : Cond.code yX1_isNoteSo cX1_isNoteSo 4 (some .boolean) ∈ wAll := List.mem_filter.mpr ⟨List.mem_of_getElem? (i := 558) (by decide +kernel), by decide +kernel⟩
theorem mw_151 : Cond.methodLink RX1 59 yX1_isNoteSo ∈ wAll := List.mem_filter.mpr ⟨List.mem_of_getElem? (i := 555) (by decide +kernel), by decide +kernel⟩
theorem mw_152 : Cond.instanceMethod yX1_isNoteSo ∈ wAll := List.mem_filter.mpr ⟨List.mem_of_getElem? (i := 556) (by decide +kernel), by decide +kernel⟩
theorem mw_153 : Cond.selects RX1 yX1_isNoteSo yX1_isNoteSo ∈ wAll := List.mem_filter.mpr ⟨List.mem_of_getElem? (i := 557) (by decide +kernel), by decide +kernel⟩
theorem mw_154 : Cond.code yX1_kindsByNotes cX1_kindsByNotes 6 (some .int) ∈ wAll := List.mem_filter.mpr ⟨List.mem_of_getElem? (i := 554) (by decide +kernel), by decide +kernel⟩
theorem mw_155 : Cond.code yX3_bitOf cX3_bitOf 2 (some .int) ∈ wAll := List.mem_filter.mpr ⟨List.mem_of_getElem? (i := 391) (by decide +kernel), by decide +kernel⟩
theorem mw_156 : Cond.fieldLink RX1 67 "WantedLater$Walk" "kind" "I" ∈ wAll := List.mem_filter.mpr ⟨List.mem_of_getElem? (i := 141) (by decide +kernel), by decide +kernel⟩
theorem mw_157 : Cond.fieldLink RX1 72 "WantedLater$Walk" "temper" "I" ∈ wAll := List.mem_filter.mpr ⟨List.mem_of_getElem? (i := 143) (by decide +kernel), by decide +kernel⟩
theorem mw_158 : Cond.fieldLink RX1 75 "WantedLater$Walk" "counts" "I" ∈ wAll := List.mem_filter.mpr ⟨List.mem_of_getElem? (i := 146) (by decide +kernel), by decide +kernel⟩
theorem mw_159 : Cond.fieldLink RX1 76 "WantedLater$Walk" "day" "I" ∈ wAll := List.mem_filter.mpr ⟨List.mem_of_getElem? (i := 148) (by decide +kernel), by decide +kernel⟩
theorem mw_160 : Cond.fieldLink RX1 81 "WantedLater$Walk" "listed" "Z" ∈ wAll := List.mem_filter.mpr ⟨List.mem_of_getElem? (i := 150) (by decide +kernel), by decide +kernel⟩
theorem mw_161 : Cond.fieldLink RX1 84 "WantedLater$Walk" "followed" "Z" ∈ wAll := List.mem_filter.mpr ⟨List.mem_of_getElem? (i := 153) (by decide +kernel), by decide +kernel⟩
theorem mw_162 : Cond.static yX3_bitOf ∈ wAll := List.mem_filter.mpr ⟨List.mem_of_getElem? (i := 390) (by decide +kernel), by decide +kernel⟩
theorem mw_163 : Cond.code yX1_startWalk cX1_startWalk 3 none ∈ wAll := List.mem_filter.mpr ⟨List.mem_of_getElem? (i := 412) (by decide +kernel), by decide +kernel⟩
theorem mw_164 : Cond.fieldLink RX2 9 "WantedLater$Walk" "kind" "I" ∈ wAll := List.mem_filter.mpr ⟨List.mem_of_getElem? (i := 140) (by decide +kernel), by decide +kernel⟩
theorem mw_165 : Cond.fieldLink RX2 15 "WantedLater$Walk" "day" "I" ∈ wAll := List.mem_filter.mpr ⟨List.mem_of_getElem? (i := 147) (by decide +kernel), by decide +kernel⟩
theorem mw_166 : Cond.fieldLink RX2 18 "WantedLater$Walk" "followed" "Z" ∈ wAll := List.mem_filter.mpr ⟨List.mem_of_getElem? (i := 152) (by decide +kernel), by decide +kernel⟩
theorem mw_167 : Cond.fieldLink RX2 22 "WantedLater$Walk" "temper" "I" ∈ wAll := List.mem_filter.mpr ⟨List.mem_of_getElem? (i := 142) (by decide +kernel), by decide +kernel⟩
theorem mw_168 : Cond.fieldLink RX2 29 "WantedLater$Walk" "counts" "I" ∈ wAll := List.mem_filter.mpr ⟨List.mem_of_getElem? (i := 145) (by decide +kernel), by decide +kernel⟩
theorem mw_169 : Cond.code yX2_doesIt cX2_doesIt 1 (some .boolean) ∈ wAll := List.mem_filter.mpr ⟨List.mem_of_getElem? (i := 421) (by decide +kernel), by decide +kernel⟩
theorem mw_170 : Cond.code yX3_moreOf cX3_moreOf 1 (some .int) ∈ wAll := List.mem_filter.mpr ⟨List.mem_of_getElem? (i := 433) (by decide +kernel), by decide +kernel⟩
theorem mw_171 : Cond.fieldLink RX2 32 "WantedLater$Walk" "listed" "Z" ∈ wAll := List.mem_filter.mpr ⟨List.mem_of_getElem? (i := 149) (by decide +kernel), by decide +kernel⟩
theorem mw_172 : Cond.methodLink RX2 43 Lib.Math.min.name ∈ wAll := List.mem_filter.mpr ⟨List.mem_of_getElem? (i := 434) (by decide +kernel), by decide +kernel⟩
theorem mw_173 : Cond.methodLink RX2 49 Lib.Math.max.name ∈ wAll := List.mem_filter.mpr ⟨List.mem_of_getElem? (i := 435) (by decide +kernel), by decide +kernel⟩
theorem mw_174 : Cond.methodLink RX2 35 yX2_doesIt ∈ wAll := List.mem_filter.mpr ⟨List.mem_of_getElem? (i := 418) (by decide +kernel), by decide +kernel⟩
theorem mw_175 : Cond.instanceMethod yX2_doesIt ∈ wAll := List.mem_filter.mpr ⟨List.mem_of_getElem? (i := 419) (by decide +kernel), by decide +kernel⟩
theorem mw_176 : Cond.selects RX2 yX2_doesIt yX2_doesIt ∈ wAll := List.mem_filter.mpr ⟨List.mem_of_getElem? (i := 420) (by decide +kernel), by decide +kernel⟩
theorem mw_177 : Cond.initialized RX2 ∈ wAll := List.mem_filter.mpr ⟨List.mem_of_getElem? (i := 56) (by decide +kernel), by decide +kernel⟩
theorem mw_178 : Cond.static yX3_moreOf ∈ wAll := List.mem_filter.mpr ⟨List.mem_of_getElem? (i := 432) (by decide +kernel), by decide +kernel⟩
theorem mw_179 : Cond.code yX2_goBy cX2_goBy 3 (some .boolean) ∈ wAll := List.mem_filter.mpr ⟨List.mem_of_getElem? (i := 417) (by decide +kernel), by decide +kernel⟩
theorem mw_180 : Cond.methodLink RX1 86 yX1_startWalk ∈ wAll := List.mem_filter.mpr ⟨List.mem_of_getElem? (i := 409) (by decide +kernel), by decide +kernel⟩
theorem mw_181 : Cond.instanceMethod yX1_startWalk ∈ wAll := List.mem_filter.mpr ⟨List.mem_of_getElem? (i := 410) (by decide +kernel), by decide +kernel⟩
theorem mw_182 : Cond.selects RX1 yX1_startWalk yX1_startWalk ∈ wAll := List.mem_filter.mpr ⟨List.mem_of_getElem? (i := 411) (by decide +kernel), by decide +kernel⟩
theorem mw_183 : Cond.methodLink RX1 90 yX2_goBy ∈ wAll := List.mem_filter.mpr ⟨List.mem_of_getElem? (i := 414) (by decide +kernel), by decide +kernel⟩
theorem mw_184 : Cond.instanceMethod yX2_goBy ∈ wAll := List.mem_filter.mpr ⟨List.mem_of_getElem? (i := 415) (by decide +kernel), by decide +kernel⟩
theorem mw_185 : Cond.selects RX2 yX2_goBy yX2_goBy ∈ wAll := List.mem_filter.mpr ⟨List.mem_of_getElem? (i := 416) (by decide +kernel), by decide +kernel⟩
theorem mw_186 : Cond.methodLink RX1 94 yJ6_bitCount_0f7a4 ∈ wAll := List.mem_filter.mpr ⟨List.mem_of_getElem? (i := 437) (by decide +kernel), by decide +kernel⟩
theorem mw_187 : Cond.static yJ6_bitCount_0f7a4 ∈ wAll := List.mem_filter.mpr ⟨List.mem_of_getElem? (i := 438) (by decide +kernel), by decide +kernel⟩
theorem mw_188 : Cond.initialized RJ6 ∈ wAll := List.mem_filter.mpr ⟨List.mem_of_getElem? (i := 65) (by decide +kernel), by decide +kernel⟩
theorem mw_189 : Cond.code yJ6_bitCount_0f7a4 cJ6_bitCount_0f7a4 1 (some .int) ∈ wAll := List.mem_filter.mpr ⟨List.mem_of_getElem? (i := 439) (by decide +kernel), by decide +kernel⟩
theorem mw_190 : Cond.constant RJ6 265 (1431655765) ∈ wAll := List.mem_filter.mpr ⟨List.mem_of_getElem? (i := 440) (by decide +kernel), by decide +kernel⟩
theorem mw_191 : Cond.constant RJ6 266 (858993459) ∈ wAll := List.mem_filter.mpr ⟨List.mem_of_getElem? (i := 441) (by decide +kernel), by decide +kernel⟩
theorem mw_192 : Cond.constant RJ6 267 (252645135) ∈ wAll := List.mem_filter.mpr ⟨List.mem_of_getElem? (i := 442) (by decide +kernel), by decide +kernel⟩
theorem mw_193 : Cond.code yX1_goBy cX1_goBy 4 (some .int) ∈ wAll := List.mem_filter.mpr ⟨List.mem_of_getElem? (i := 408) (by decide +kernel), by decide +kernel⟩
theorem mw_194 : Cond.code yX1_keepPast cX1_keepPast 2 none ∈ wAll := List.mem_filter.mpr ⟨List.mem_of_getElem? (i := 395) (by decide +kernel), by decide +kernel⟩
theorem mw_195 : Cond.code yX1_takePast cX1_takePast 2 none ∈ wAll := List.mem_filter.mpr ⟨List.mem_of_getElem? (i := 454) (by decide +kernel), by decide +kernel⟩
theorem mw_196 : Cond.methodLink RX2 3 objectInit ∈ wAll := List.mem_filter.mpr ⟨List.mem_of_getElem? (i := 139) (by decide +kernel), by decide +kernel⟩
theorem mw_197 : Cond.code yX2_init cX2_init 1 none ∈ wAll := List.mem_filter.mpr ⟨List.mem_of_getElem? (i := 138) (by decide +kernel), by decide +kernel⟩
theorem mw_198 : Cond.code yX2_actOfDay cX2_actOfDay 1 (some .int) ∈ wAll := List.mem_filter.mpr ⟨List.mem_of_getElem? (i := 467) (by decide +kernel), by decide +kernel⟩
theorem mw_199 : Cond.methodLink RX3 3 objectInit ∈ wAll := List.mem_filter.mpr ⟨List.mem_of_getElem? (i := 71) (by decide +kernel), by decide +kernel⟩
theorem mw_200 : Cond.classLink RX3 9 RX1 ∈ wAll := List.mem_filter.mpr ⟨List.mem_of_getElem? (i := 74) (by decide +kernel), by decide +kernel⟩
theorem mw_201 : Cond.instantiable RX1 12 ∈ wAll := List.mem_filter.mpr ⟨List.mem_of_getElem? (i := 75) (by decide +kernel), by decide +kernel⟩
theorem mw_202 : Cond.fieldLink RX3 12 "WantedLater" "now" "LWantedLater$Town;" ∈ wAll := List.mem_filter.mpr ⟨List.mem_of_getElem? (i := 196) (by decide +kernel), by decide +kernel⟩
theorem mw_203 : Cond.fieldLink RX3 16 "WantedLater" "spare" "LWantedLater$Town;" ∈ wAll := List.mem_filter.mpr ⟨List.mem_of_getElem? (i := 197) (by decide +kernel), by decide +kernel⟩
theorem mw_204 : Cond.fieldLink RX3 19 "WantedLater" "images" "[LWantedLater$Town;" ∈ wAll := List.mem_filter.mpr ⟨List.mem_of_getElem? (i := 198) (by decide +kernel), by decide +kernel⟩
theorem mw_205 : Cond.arrayClass .boolean ∈ wAll := List.mem_filter.mpr ⟨List.mem_of_getElem? (i := 168) (by decide +kernel), by decide +kernel⟩
theorem mw_206 : Cond.fieldLink RX3 23 "WantedLater" "kept" "[Z" ∈ wAll := List.mem_filter.mpr ⟨List.mem_of_getElem? (i := 199) (by decide +kernel), by decide +kernel⟩
theorem mw_207 : Cond.classLink RX3 27 RX2 ∈ wAll := List.mem_filter.mpr ⟨List.mem_of_getElem? (i := 134) (by decide +kernel), by decide +kernel⟩
theorem mw_208 : Cond.instantiable RX2 6 ∈ wAll := List.mem_filter.mpr ⟨List.mem_of_getElem? (i := 135) (by decide +kernel), by decide +kernel⟩
theorem mw_209 : Cond.fieldLink RX3 30 "WantedLater" "walk" "LWantedLater$Walk;" ∈ wAll := List.mem_filter.mpr ⟨List.mem_of_getElem? (i := 200) (by decide +kernel), by decide +kernel⟩
theorem mw_210 : Cond.classLink RX3 34 RX0 ∈ wAll := List.mem_filter.mpr ⟨List.mem_of_getElem? (i := 169) (by decide +kernel), by decide +kernel⟩
theorem mw_211 : Cond.instantiable RX0 6 ∈ wAll := List.mem_filter.mpr ⟨List.mem_of_getElem? (i := 170) (by decide +kernel), by decide +kernel⟩
theorem mw_212 : Cond.fieldLink RX3 37 "WantedLater" "text" "LWantedLater$Text;" ∈ wAll := List.mem_filter.mpr ⟨List.mem_of_getElem? (i := 201) (by decide +kernel), by decide +kernel⟩
theorem mw_213 : Cond.fieldLink RX3 41 "WantedLater" "above" "J" ∈ wAll := List.mem_filter.mpr ⟨List.mem_of_getElem? (i := 202) (by decide +kernel), by decide +kernel⟩
theorem mw_214 : Cond.fieldLink RX3 45 "WantedLater" "below" "J" ∈ wAll := List.mem_filter.mpr ⟨List.mem_of_getElem? (i := 203) (by decide +kernel), by decide +kernel⟩
theorem mw_215 : Cond.instanceMethod yX1_init ∈ wAll := List.mem_filter.mpr ⟨List.mem_of_getElem? (i := 77) (by decide +kernel), by decide +kernel⟩
theorem mw_216 : Cond.instanceMethod yX2_init ∈ wAll := List.mem_filter.mpr ⟨List.mem_of_getElem? (i := 137) (by decide +kernel), by decide +kernel⟩
theorem mw_217 : Cond.instanceMethod yX0_init ∈ wAll := List.mem_filter.mpr ⟨List.mem_of_getElem? (i := 172) (by decide +kernel), by decide +kernel⟩
theorem mw_218 : Cond.code yX3_init cX3_init 2 none ∈ wAll := List.mem_filter.mpr ⟨List.mem_of_getElem? (i := 70) (by decide +kernel), by decide +kernel⟩
theorem mw_219 : Cond.fieldLink RX3 201 "WantedLater" "refusedBad" "I" ∈ wAll := List.mem_filter.mpr ⟨List.mem_of_getElem? (i := 204) (by decide +kernel), by decide +kernel⟩
theorem mw_220 : Cond.code yX3_refuseBad cX3_refuseBad 1 (some .int) ∈ wAll := List.mem_filter.mpr ⟨List.mem_of_getElem? (i := 240) (by decide +kernel), by decide +kernel⟩
theorem mw_221 : Cond.fieldLink RX3 56 "WantedLater$Town" "people" "I" ∈ wAll := List.mem_filter.mpr ⟨List.mem_of_getElem? (i := 84) (by decide +kernel), by decide +kernel⟩
theorem mw_222 : Cond.methodLink RX3 48 yX3_isWithin ∈ wAll := List.mem_filter.mpr ⟨List.mem_of_getElem? (i := 234) (by decide +kernel), by decide +kernel⟩
theorem mw_223 : Cond.methodLink RX3 52 yX3_refuseBad ∈ wAll := List.mem_filter.mpr ⟨List.mem_of_getElem? (i := 237) (by decide +kernel), by decide +kernel⟩
theorem mw_224 : Cond.instanceMethod yX3_refuseBad ∈ wAll := List.mem_filter.mpr ⟨List.mem_of_getElem? (i := 239) (by decide +kernel), by decide +kernel⟩
theorem mw_225 : Cond.selects RX3 yX3_refuseBad yX3_refuseBad ∈ wAll := List.mem_filter.mpr ⟨List.mem_of_getElem? (i := 0) (by decide +kernel), by decide +kernel⟩
theorem mw_226 : Cond.methodLink RX3 60 yX1_begin ∈ wAll := List.mem_filter.mpr ⟨List.mem_of_getElem? (i := 241) (by decide +kernel), by decide +kernel⟩
theorem mw_227 : Cond.code yX3_town cX3_town 3 (some .int) ∈ wAll := List.mem_filter.mpr ⟨List.mem_of_getElem? (i := 233) (by decide +kernel), by decide +kernel⟩
theorem mw_228 : Cond.fieldLink RX3 207 "WantedLater" "refusedFull" "I" ∈ wAll := List.mem_filter.mpr ⟨List.mem_of_getElem? (i := 206) (by decide +kernel), by decide +kernel⟩
theorem mw_229 : Cond.code yX3_refuseFull cX3_refuseFull 1 (some .int) ∈ wAll := List.mem_filter.mpr ⟨List.mem_of_getElem? (i := 252) (by decide +kernel), by decide +kernel⟩
theorem mw_230 : Cond.methodLink RX3 64 yX3_refuseFull ∈ wAll := List.mem_filter.mpr ⟨List.mem_of_getElem? (i := 249) (by decide +kernel), by decide +kernel⟩
theorem mw_231 : Cond.instanceMethod yX3_refuseFull ∈ wAll := List.mem_filter.mpr ⟨List.mem_of_getElem? (i := 251) (by decide +kernel), by decide +kernel⟩
theorem mw_232 : Cond.selects RX3 yX3_refuseFull yX3_refuseFull ∈ wAll := List.mem_filter.mpr ⟨List.mem_of_getElem? (i := 1) (by decide +kernel), by decide +kernel⟩
theorem mw_233 : Cond.methodLink RX3 67 yX1_addOne ∈ wAll := List.mem_filter.mpr ⟨List.mem_of_getElem? (i := 253) (by decide +kernel), by decide +kernel⟩
theorem mw_234 : Cond.code yX3_one cX3_one 3 (some .int) ∈ wAll := List.mem_filter.mpr ⟨List.mem_of_getElem? (i := 248) (by decide +kernel), by decide +kernel⟩
theorem mw_235 : Cond.fieldLink RX3 71 "WantedLater$Text" "length" "I" ∈ wAll := List.mem_filter.mpr ⟨List.mem_of_getElem? (i := 177) (by decide +kernel), by decide +kernel⟩
theorem mw_236 : Cond.methodLink RX3 74 yX0_add ∈ wAll := List.mem_filter.mpr ⟨List.mem_of_getElem? (i := 261) (by decide +kernel), by decide +kernel⟩
theorem mw_237 : Cond.instanceMethod yX0_add ∈ wAll := List.mem_filter.mpr ⟨List.mem_of_getElem? (i := 262) (by decide +kernel), by decide +kernel⟩
theorem mw_238 : Cond.selects RX0 yX0_add yX0_add ∈ wAll := List.mem_filter.mpr ⟨List.mem_of_getElem? (i := 263) (by decide +kernel), by decide +kernel⟩
theorem mw_239 : Cond.code yX3_type cX3_type 2 (some .int) ∈ wAll := List.mem_filter.mpr ⟨List.mem_of_getElem? (i := 260) (by decide +kernel), by decide +kernel⟩
theorem mw_240 : Cond.code yX3_clear cX3_clear 2 (some .int) ∈ wAll := List.mem_filter.mpr ⟨List.mem_of_getElem? (i := 268) (by decide +kernel), by decide +kernel⟩
theorem mw_241 : Cond.methodLink RX3 78 yX0_readInto ∈ wAll := List.mem_filter.mpr ⟨List.mem_of_getElem? (i := 273) (by decide +kernel), by decide +kernel⟩
theorem mw_242 : Cond.instanceMethod yX0_readInto ∈ wAll := List.mem_filter.mpr ⟨List.mem_of_getElem? (i := 274) (by decide +kernel), by decide +kernel⟩
theorem mw_243 : Cond.selects RX0 yX0_readInto yX0_readInto ∈ wAll := List.mem_filter.mpr ⟨List.mem_of_getElem? (i := 275) (by decide +kernel), by decide +kernel⟩
theorem mw_244 : Cond.methodLink RX3 82 yX1_copyFrom ∈ wAll := List.mem_filter.mpr ⟨List.mem_of_getElem? (i := 374) (by decide +kernel), by decide +kernel⟩
theorem mw_245 : Cond.instanceMethod yX1_copyFrom ∈ wAll := List.mem_filter.mpr ⟨List.mem_of_getElem? (i := 375) (by decide +kernel), by decide +kernel⟩
theorem mw_246 : Cond.selects RX1 yX1_copyFrom yX1_copyFrom ∈ wAll := List.mem_filter.mpr ⟨List.mem_of_getElem? (i := 376) (by decide +kernel), by decide +kernel⟩
theorem mw_247 : Cond.code yX3_read cX3_read 2 (some .int) ∈ wAll := List.mem_filter.mpr ⟨List.mem_of_getElem? (i := 272) (by decide +kernel), by decide +kernel⟩
theorem mw_248 : Cond.code yX3_isThere cX3_isThere 2 (some .boolean) ∈ wAll := List.mem_filter.mpr ⟨List.mem_of_getElem? (i := 388) (by decide +kernel), by decide +kernel⟩
theorem mw_249 : Cond.fieldLink RX3 90 "WantedLater$Town" "listed" "I" ∈ wAll := List.mem_filter.mpr ⟨List.mem_of_getElem? (i := 90) (by decide +kernel), by decide +kernel⟩
theorem mw_250 : Cond.methodLink RX3 86 yX3_isThere ∈ wAll := List.mem_filter.mpr ⟨List.mem_of_getElem? (i := 385) (by decide +kernel), by decide +kernel⟩
theorem mw_251 : Cond.instanceMethod yX3_isThere ∈ wAll := List.mem_filter.mpr ⟨List.mem_of_getElem? (i := 387) (by decide +kernel), by decide +kernel⟩
theorem mw_252 : Cond.selects RX3 yX3_isThere yX3_isThere ∈ wAll := List.mem_filter.mpr ⟨List.mem_of_getElem? (i := 11) (by decide +kernel), by decide +kernel⟩
theorem mw_253 : Cond.methodLink RX3 93 yX3_bitOf ∈ wAll := List.mem_filter.mpr ⟨List.mem_of_getElem? (i := 389) (by decide +kernel), by decide +kernel⟩
theorem mw_254 : Cond.methodLink RX3 96 yX1_keepPast ∈ wAll := List.mem_filter.mpr ⟨List.mem_of_getElem? (i := 392) (by decide +kernel), by decide +kernel⟩
theorem mw_255 : Cond.instanceMethod yX1_keepPast ∈ wAll := List.mem_filter.mpr ⟨List.mem_of_getElem? (i := 393) (by decide +kernel), by decide +kernel⟩
theorem mw_256 : Cond.selects RX1 yX1_keepPast yX1_keepPast ∈ wAll := List.mem_filter.mpr ⟨List.mem_of_getElem? (i := 394) (by decide +kernel), by decide +kernel⟩
theorem mw_257 : Cond.methodLink RX3 99 yX3_withBit ∈ wAll := List.mem_filter.mpr ⟨List.mem_of_getElem? (i := 396) (by decide +kernel), by decide +kernel⟩
theorem mw_258 : Cond.code yX3_list cX3_list 4 (some .int) ∈ wAll := List.mem_filter.mpr ⟨List.mem_of_getElem? (i := 384) (by decide +kernel), by decide +kernel⟩
theorem mw_259 : Cond.fieldLink RX3 103 "WantedLater$Town" "followed" "I" ∈ wAll := List.mem_filter.mpr ⟨List.mem_of_getElem? (i := 93) (by decide +kernel), by decide +kernel⟩
theorem mw_260 : Cond.code yX3_follow cX3_follow 4 (some .int) ∈ wAll := List.mem_filter.mpr ⟨List.mem_of_getElem? (i := 400) (by decide +kernel), by decide +kernel⟩
theorem mw_261 : Cond.methodLink RX3 106 yX1_goBy ∈ wAll := List.mem_filter.mpr ⟨List.mem_of_getElem? (i := 405) (by decide +kernel), by decide +kernel⟩
theorem mw_262 : Cond.instanceMethod yX1_goBy ∈ wAll := List.mem_filter.mpr ⟨List.mem_of_getElem? (i := 406) (by decide +kernel), by decide +kernel⟩
theorem mw_263 : Cond.selects RX1 yX1_goBy yX1_goBy ∈ wAll := List.mem_filter.mpr ⟨List.mem_of_getElem? (i := 407) (by decide +kernel), by decide +kernel⟩
theorem mw_264 : Cond.code yX3_day cX3_day 4 (some .int) ∈ wAll := List.mem_filter.mpr ⟨List.mem_of_getElem? (i := 404) (by decide +kernel), by decide +kernel⟩
theorem mw_265 : Cond.fieldLink RX3 204 "WantedLater" "refusedNo" "I" ∈ wAll := List.mem_filter.mpr ⟨List.mem_of_getElem? (i := 205) (by decide +kernel), by decide +kernel⟩
theorem mw_266 : Cond.code yX3_refuseNo cX3_refuseNo 1 (some .int) ∈ wAll := List.mem_filter.mpr ⟨List.mem_of_getElem? (i := 450) (by decide +kernel), by decide +kernel⟩
theorem mw_267 : Cond.fieldLink RX3 110 "WantedLater$Town" "undoable" "I" ∈ wAll := List.mem_filter.mpr ⟨List.mem_of_getElem? (i := 99) (by decide +kernel), by decide +kernel⟩
theorem mw_268 : Cond.fieldLink RX3 119 "WantedLater$Town" "day" "I" ∈ wAll := List.mem_filter.mpr ⟨List.mem_of_getElem? (i := 87) (by decide +kernel), by decide +kernel⟩
theorem mw_269 : Cond.methodLink RX3 113 yX3_refuseNo ∈ wAll := List.mem_filter.mpr ⟨List.mem_of_getElem? (i := 447) (by decide +kernel), by decide +kernel⟩
theorem mw_270 : Cond.instanceMethod yX3_refuseNo ∈ wAll := List.mem_filter.mpr ⟨List.mem_of_getElem? (i := 449) (by decide +kernel), by decide +kernel⟩
theorem mw_271 : Cond.selects RX3 yX3_refuseNo yX3_refuseNo ∈ wAll := List.mem_filter.mpr ⟨List.mem_of_getElem? (i := 12) (by decide +kernel), by decide +kernel⟩
theorem mw_272 : Cond.methodLink RX3 116 yX1_takePast ∈ wAll := List.mem_filter.mpr ⟨List.mem_of_getElem? (i := 451) (by decide +kernel), by decide +kernel⟩
theorem mw_273 : Cond.instanceMethod yX1_takePast ∈ wAll := List.mem_filter.mpr ⟨List.mem_of_getElem? (i := 452) (by decide +kernel), by decide +kernel⟩
theorem mw_274 : Cond.selects RX1 yX1_takePast yX1_takePast ∈ wAll := List.mem_filter.mpr ⟨List.mem_of_getElem? (i := 453) (by decide +kernel), by decide +kernel⟩
theorem mw_275 : Cond.code yX3_undo cX3_undo 1 (some .int) ∈ wAll := List.mem_filter.mpr ⟨List.mem_of_getElem? (i := 446) (by decide +kernel), by decide +kernel⟩
theorem mw_276 : Cond.methodLink RX3 132 yX1_startWalk ∈ wAll := List.mem_filter.mpr ⟨List.mem_of_getElem? (i := 463) (by decide +kernel), by decide +kernel⟩
theorem mw_277 : Cond.methodLink RX3 139 yX2_actOfDay ∈ wAll := List.mem_filter.mpr ⟨List.mem_of_getElem? (i := 464) (by decide +kernel), by decide +kernel⟩
theorem mw_278 : Cond.instanceMethod yX2_actOfDay ∈ wAll := List.mem_filter.mpr ⟨List.mem_of_getElem? (i := 465) (by decide +kernel), by decide +kernel⟩
theorem mw_279 : Cond.selects RX2 yX2_actOfDay yX2_actOfDay ∈ wAll := List.mem_filter.mpr ⟨List.mem_of_getElem? (i := 466) (by decide +kernel), by decide +kernel⟩
theorem mw_280 : Cond.code yX3_actToday cX3_actToday 2 (some .int) ∈ wAll := List.mem_filter.mpr ⟨List.mem_of_getElem? (i := 462) (by decide +kernel), by decide +kernel⟩
theorem mw_281 : Cond.fieldLink RX3 122 "WantedLater$Town" "kinds" "[I" ∈ wAll := List.mem_filter.mpr ⟨List.mem_of_getElem? (i := 101) (by decide +kernel), by decide +kernel⟩
theorem mw_282 : Cond.fieldLink RX3 126 "WantedLater$Town" "tempers" "[I" ∈ wAll := List.mem_filter.mpr ⟨List.mem_of_getElem? (i := 103) (by decide +kernel), by decide +kernel⟩
theorem mw_283 : Cond.methodLink RX3 129 yX3_actToday ∈ wAll := List.mem_filter.mpr ⟨List.mem_of_getElem? (i := 459) (by decide +kernel), by decide +kernel⟩
theorem mw_284 : Cond.instanceMethod yX3_actToday ∈ wAll := List.mem_filter.mpr ⟨List.mem_of_getElem? (i := 461) (by decide +kernel), by decide +kernel⟩
theorem mw_285 : Cond.selects RX3 yX3_actToday yX3_actToday ∈ wAll := List.mem_filter.mpr ⟨List.mem_of_getElem? (i := 13) (by decide +kernel), by decide +kernel⟩
theorem mw_286 : Cond.code yX3_of cX3_of 3 (some .int) ∈ wAll := List.mem_filter.mpr ⟨List.mem_of_getElem? (i := 458) (by decide +kernel), by decide +kernel⟩
theorem mw_287 : Cond.fieldLink RX3 142 "WantedLater$Walk" "temper" "I" ∈ wAll := List.mem_filter.mpr ⟨List.mem_of_getElem? (i := 144) (by decide +kernel), by decide +kernel⟩
theorem mw_288 : Cond.methodLink RX3 136 yX2_goBy ∈ wAll := List.mem_filter.mpr ⟨List.mem_of_getElem? (i := 472) (by decide +kernel), by decide +kernel⟩
theorem mw_289 : Cond.code yX3_then cX3_then 5 (some .int) ∈ wAll := List.mem_filter.mpr ⟨List.mem_of_getElem? (i := 471) (by decide +kernel), by decide +kernel⟩
theorem mw_290 : Cond.code yX3_when cX3_when 3 (some .int) ∈ wAll := List.mem_filter.mpr ⟨List.mem_of_getElem? (i := 476) (by decide +kernel), by decide +kernel⟩
theorem mw_291 : Cond.fieldLink RX3 230 "WantedLater$Walk" "listed" "Z" ∈ wAll := List.mem_filter.mpr ⟨List.mem_of_getElem? (i := 151) (by decide +kernel), by decide +kernel⟩
theorem mw_292 : Cond.fieldLink RX3 233 "WantedLater$Walk" "followed" "Z" ∈ wAll := List.mem_filter.mpr ⟨List.mem_of_getElem? (i := 154) (by decide +kernel), by decide +kernel⟩
theorem mw_293 : Cond.methodLink RX3 235 yX2_doesIt ∈ wAll := List.mem_filter.mpr ⟨List.mem_of_getElem? (i := 489) (by decide +kernel), by decide +kernel⟩
theorem mw_294 : Cond.code yX3_wouldDoIt cX3_wouldDoIt 5 (some .boolean) ∈ wAll := List.mem_filter.mpr ⟨List.mem_of_getElem? (i := 488) (by decide +kernel), by decide +kernel⟩
theorem mw_295 : Cond.methodLink RX3 226 yX3_wouldDoIt ∈ wAll := List.mem_filter.mpr ⟨List.mem_of_getElem? (i := 485) (by decide +kernel), by decide +kernel⟩
theorem mw_296 : Cond.instanceMethod yX3_wouldDoIt ∈ wAll := List.mem_filter.mpr ⟨List.mem_of_getElem? (i := 487) (by decide +kernel), by decide +kernel⟩
theorem mw_297 : Cond.selects RX3 yX3_wouldDoIt yX3_wouldDoIt ∈ wAll := List.mem_filter.mpr ⟨List.mem_of_getElem? (i := 15) (by decide +kernel), by decide +kernel⟩
theorem mw_298 : Cond.code yX3_whoDoIt cX3_whoDoIt 5 (some .int) ∈ wAll := List.mem_filter.mpr ⟨List.mem_of_getElem? (i := 484) (by decide +kernel), by decide +kernel⟩
theorem mw_299 : Cond.methodLink RX3 145 yX3_whoDoIt ∈ wAll := List.mem_filter.mpr ⟨List.mem_of_getElem? (i := 481) (by decide +kernel), by decide +kernel⟩
theorem mw_300 : Cond.instanceMethod yX3_whoDoIt ∈ wAll := List.mem_filter.mpr ⟨List.mem_of_getElem? (i := 483) (by decide +kernel), by decide +kernel⟩
theorem mw_301 : Cond.selects RX3 yX3_whoDoIt yX3_whoDoIt ∈ wAll := List.mem_filter.mpr ⟨List.mem_of_getElem? (i := 14) (by decide +kernel), by decide +kernel⟩
theorem mw_302 : Cond.code yX3_lack cX3_lack 1 (some .int) ∈ wAll := List.mem_filter.mpr ⟨List.mem_of_getElem? (i := 480) (by decide +kernel), by decide +kernel⟩
theorem mw_303 : Cond.code yX3_comesTrue cX3_comesTrue 8 (some .int) ∈ wAll := List.mem_filter.mpr ⟨List.mem_of_getElem? (i := 493) (by decide +kernel), by decide +kernel⟩
theorem mw_304 : Cond.code yX3_readings cX3_readings 5 (some .int) ∈ wAll := List.mem_filter.mpr ⟨List.mem_of_getElem? (i := 497) (by decide +kernel), by decide +kernel⟩
theorem mw_305 : Cond.methodLink RX3 149 yJ6_bitCount_0f7a4 ∈ wAll := List.mem_filter.mpr ⟨List.mem_of_getElem? (i := 502) (by decide +kernel), by decide +kernel⟩
theorem mw_306 : Cond.code yX3_roster cX3_roster 3 (some .int) ∈ wAll := List.mem_filter.mpr ⟨List.mem_of_getElem? (i := 501) (by decide +kernel), by decide +kernel⟩
theorem mw_307 : Cond.code yX3_isStruckBy cX3_isStruckBy 5 (some .boolean) ∈ wAll := List.mem_filter.mpr ⟨List.mem_of_getElem? (i := 514) (by decide +kernel), by decide +kernel⟩
theorem mw_308 : Cond.methodLink RX3 183 yX3_isStruckBy ∈ wAll := List.mem_filter.mpr ⟨List.mem_of_getElem? (i := 511) (by decide +kernel), by decide +kernel⟩
theorem mw_309 : Cond.instanceMethod yX3_isStruckBy ∈ wAll := List.mem_filter.mpr ⟨List.mem_of_getElem? (i := 513) (by decide +kernel), by decide +kernel⟩
theorem mw_310 : Cond.selects RX3 yX3_isStruckBy yX3_isStruckBy ∈ wAll := List.mem_filter.mpr ⟨List.mem_of_getElem? (i := 17) (by decide +kernel), by decide +kernel⟩
theorem mw_311 : Cond.code yX3_fewestDays cX3_fewestDays 6 (some .int) ∈ wAll := List.mem_filter.mpr ⟨List.mem_of_getElem? (i := 510) (by decide +kernel), by decide +kernel⟩
theorem mw_312 : Cond.methodLink RX3 154 yX3_fewestDays ∈ wAll := List.mem_filter.mpr ⟨List.mem_of_getElem? (i := 507) (by decide +kernel), by decide +kernel⟩
theorem mw_313 : Cond.instanceMethod yX3_fewestDays ∈ wAll := List.mem_filter.mpr ⟨List.mem_of_getElem? (i := 509) (by decide +kernel), by decide +kernel⟩
theorem mw_314 : Cond.selects RX3 yX3_fewestDays yX3_fewestDays ∈ wAll := List.mem_filter.mpr ⟨List.mem_of_getElem? (i := 16) (by decide +kernel), by decide +kernel⟩
theorem mw_315 : Cond.code yX3_off cX3_off 5 (some .int) ∈ wAll := List.mem_filter.mpr ⟨List.mem_of_getElem? (i := 506) (by decide +kernel), by decide +kernel⟩
theorem mw_316 : Cond.code yX3_isFollowedIn cX3_isFollowedIn 1 (some .boolean) ∈ wAll := List.mem_filter.mpr ⟨List.mem_of_getElem? (i := 525) (by decide +kernel), by decide +kernel⟩
theorem mw_317 : Cond.fieldLink RX3 217 "WantedLater$Town" "counts" "I" ∈ wAll := List.mem_filter.mpr ⟨List.mem_of_getElem? (i := 82) (by decide +kernel), by decide +kernel⟩
theorem mw_318 : Cond.methodLink RX3 238 yX3_isFollowedIn ∈ wAll := List.mem_filter.mpr ⟨List.mem_of_getElem? (i := 523) (by decide +kernel), by decide +kernel⟩
theorem mw_319 : Cond.static yX3_isFollowedIn ∈ wAll := List.mem_filter.mpr ⟨List.mem_of_getElem? (i := 524) (by decide +kernel), by decide +kernel⟩
theorem mw_320 : Cond.methodLink RX3 241 yX3_actOf ∈ wAll := List.mem_filter.mpr ⟨List.mem_of_getElem? (i := 530) (by decide +kernel), by decide +kernel⟩
theorem mw_321 : Cond.code yX3_isItIn cX3_isItIn 5 (some .boolean) ∈ wAll := List.mem_filter.mpr ⟨List.mem_of_getElem? (i := 529) (by decide +kernel), by decide +kernel⟩
theorem mw_322 : Cond.methodLink RX3 244 yX3_isItIn ∈ wAll := List.mem_filter.mpr ⟨List.mem_of_getElem? (i := 526) (by decide +kernel), by decide +kernel⟩
theorem mw_323 : Cond.instanceMethod yX3_isItIn ∈ wAll := List.mem_filter.mpr ⟨List.mem_of_getElem? (i := 528) (by decide +kernel), by decide +kernel⟩
theorem mw_324 : Cond.selects RX3 yX3_isItIn yX3_isItIn ∈ wAll := List.mem_filter.mpr ⟨List.mem_of_getElem? (i := 19) (by decide +kernel), by decide +kernel⟩
theorem mw_325 : Cond.code yX3_paysOne cX3_paysOne 3 (some .int) ∈ wAll := List.mem_filter.mpr ⟨List.mem_of_getElem? (i := 522) (by decide +kernel), by decide +kernel⟩
theorem mw_326 : Cond.code yX3_paysFollower cX3_paysFollower 3 (some .int) ∈ wAll := List.mem_filter.mpr ⟨List.mem_of_getElem? (i := 534) (by decide +kernel), by decide +kernel⟩
theorem mw_327 : Cond.methodLink RX3 157 yX3_paysOne ∈ wAll := List.mem_filter.mpr ⟨List.mem_of_getElem? (i := 519) (by decide +kernel), by decide +kernel⟩
theorem mw_328 : Cond.instanceMethod yX3_paysOne ∈ wAll := List.mem_filter.mpr ⟨List.mem_of_getElem? (i := 521) (by decide +kernel), by decide +kernel⟩
theorem mw_329 : Cond.selects RX3 yX3_paysOne yX3_paysOne ∈ wAll := List.mem_filter.mpr ⟨List.mem_of_getElem? (i := 18) (by decide +kernel), by decide +kernel⟩
theorem mw_330 : Cond.methodLink RX3 160 yX3_paysFollower ∈ wAll := List.mem_filter.mpr ⟨List.mem_of_getElem? (i := 531) (by decide +kernel), by decide +kernel⟩
theorem mw_331 : Cond.instanceMethod yX3_paysFollower ∈ wAll := List.mem_filter.mpr ⟨List.mem_of_getElem? (i := 533) (by decide +kernel), by decide +kernel⟩
theorem mw_332 : Cond.selects RX3 yX3_paysFollower yX3_paysFollower ∈ wAll := List.mem_filter.mpr ⟨List.mem_of_getElem? (i := 20) (by decide +kernel), by decide +kernel⟩
theorem mw_333 : Cond.code yX3_rests cX3_rests 6 (some .int) ∈ wAll := List.mem_filter.mpr ⟨List.mem_of_getElem? (i := 518) (by decide +kernel), by decide +kernel⟩
theorem mw_334 : Cond.fieldLink RX3 163 "WantedLater$Town" "noted" "I" ∈ wAll := List.mem_filter.mpr ⟨List.mem_of_getElem? (i := 97) (by decide +kernel), by decide +kernel⟩
theorem mw_335 : Cond.methodLink RX3 166 yX1_addNote ∈ wAll := List.mem_filter.mpr ⟨List.mem_of_getElem? (i := 539) (by decide +kernel), by decide +kernel⟩
theorem mw_336 : Cond.instanceMethod yX1_addNote ∈ wAll := List.mem_filter.mpr ⟨List.mem_of_getElem? (i := 540) (by decide +kernel), by decide +kernel⟩
theorem mw_337 : Cond.selects RX1 yX1_addNote yX1_addNote ∈ wAll := List.mem_filter.mpr ⟨List.mem_of_getElem? (i := 541) (by decide +kernel), by decide +kernel⟩
theorem mw_338 : Cond.code yX3_note cX3_note 6 (some .int) ∈ wAll := List.mem_filter.mpr ⟨List.mem_of_getElem? (i := 538) (by decide +kernel), by decide +kernel⟩
theorem mw_339 : Cond.code yX3_forget cX3_forget 2 (some .int) ∈ wAll := List.mem_filter.mpr ⟨List.mem_of_getElem? (i := 546) (by decide +kernel), by decide +kernel⟩
theorem mw_340 : Cond.methodLink RX3 170 yX1_kindsByNotes ∈ wAll := List.mem_filter.mpr ⟨List.mem_of_getElem? (i := 551) (by decide +kernel), by decide +kernel⟩
theorem mw_341 : Cond.instanceMethod yX1_kindsByNotes ∈ wAll := List.mem_filter.mpr ⟨List.mem_of_getElem? (i := 552) (by decide +kernel), by decide +kernel⟩
theorem mw_342 : Cond.selects RX1 yX1_kindsByNotes yX1_kindsByNotes ∈ wAll := List.mem_filter.mpr ⟨List.mem_of_getElem? (i := 553) (by decide +kernel), by decide +kernel⟩
theorem mw_343 : Cond.code yX3_is cX3_is 2 (some .int) ∈ wAll := List.mem_filter.mpr ⟨List.mem_of_getElem? (i := 550) (by decide +kernel), by decide +kernel⟩
theorem mw_344 : Cond.code yX3_mostAlike cX3_mostAlike 9 (some .int) ∈ wAll := List.mem_filter.mpr ⟨List.mem_of_getElem? (i := 566) (by decide +kernel), by decide +kernel⟩
theorem mw_345 : Cond.methodLink RX3 173 yX3_mostAlike ∈ wAll := List.mem_filter.mpr ⟨List.mem_of_getElem? (i := 564) (by decide +kernel), by decide +kernel⟩
theorem mw_346 : Cond.static yX3_mostAlike ∈ wAll := List.mem_filter.mpr ⟨List.mem_of_getElem? (i := 565) (by decide +kernel), by decide +kernel⟩
theorem mw_347 : Cond.code yX3_look cX3_look 8 (some .int) ∈ wAll := List.mem_filter.mpr ⟨List.mem_of_getElem? (i := 563) (by decide +kernel), by decide +kernel⟩
theorem mw_348 : Cond.code yX3_tempersOfSource cX3_tempersOfSource 5 (some .int) ∈ wAll := List.mem_filter.mpr ⟨List.mem_of_getElem? (i := 574) (by decide +kernel), by decide +kernel⟩
theorem mw_349 : Cond.code yX3_kindsOfSource cX3_kindsOfSource 4 (some .int) ∈ wAll := List.mem_filter.mpr ⟨List.mem_of_getElem? (i := 578) (by decide +kernel), by decide +kernel⟩
theorem mw_350 : Cond.methodLink RX3 177 yX3_tempersOfSource ∈ wAll := List.mem_filter.mpr ⟨List.mem_of_getElem? (i := 571) (by decide +kernel), by decide +kernel⟩
theorem mw_351 : Cond.instanceMethod yX3_tempersOfSource ∈ wAll := List.mem_filter.mpr ⟨List.mem_of_getElem? (i := 573) (by decide +kernel), by decide +kernel⟩
theorem mw_352 : Cond.selects RX3 yX3_tempersOfSource yX3_tempersOfSource ∈ wAll := List.mem_filter.mpr ⟨List.mem_of_getElem? (i := 21) (by decide +kernel), by decide +kernel⟩
theorem mw_353 : Cond.methodLink RX3 180 yX3_kindsOfSource ∈ wAll := List.mem_filter.mpr ⟨List.mem_of_getElem? (i := 575) (by decide +kernel), by decide +kernel⟩
theorem mw_354 : Cond.instanceMethod yX3_kindsOfSource ∈ wAll := List.mem_filter.mpr ⟨List.mem_of_getElem? (i := 577) (by decide +kernel), by decide +kernel⟩
theorem mw_355 : Cond.selects RX3 yX3_kindsOfSource yX3_kindsOfSource ∈ wAll := List.mem_filter.mpr ⟨List.mem_of_getElem? (i := 22) (by decide +kernel), by decide +kernel⟩
theorem mw_356 : Cond.code yX3_source cX3_source 2 (some .int) ∈ wAll := List.mem_filter.mpr ⟨List.mem_of_getElem? (i := 570) (by decide +kernel), by decide +kernel⟩
theorem mw_357 : Cond.code yX3_setFraction cX3_setFraction 12 none ∈ wAll := List.mem_filter.mpr ⟨List.mem_of_getElem? (i := 586) (by decide +kernel), by decide +kernel⟩
theorem mw_358 : Cond.methodLink RX3 186 yX3_setFraction ∈ wAll := List.mem_filter.mpr ⟨List.mem_of_getElem? (i := 583) (by decide +kernel), by decide +kernel⟩
theorem mw_359 : Cond.instanceMethod yX3_setFraction ∈ wAll := List.mem_filter.mpr ⟨List.mem_of_getElem? (i := 585) (by decide +kernel), by decide +kernel⟩
theorem mw_360 : Cond.selects RX3 yX3_setFraction yX3_setFraction ∈ wAll := List.mem_filter.mpr ⟨List.mem_of_getElem? (i := 23) (by decide +kernel), by decide +kernel⟩
theorem mw_361 : Cond.code yX3_odds cX3_odds 12 (some .int) ∈ wAll := List.mem_filter.mpr ⟨List.mem_of_getElem? (i := 582) (by decide +kernel), by decide +kernel⟩
theorem mw_362 : Cond.constant RX3 190 (999999) ∈ wAll := List.mem_filter.mpr ⟨List.mem_of_getElem? (i := 591) (by decide +kernel), by decide +kernel⟩
theorem mw_363 : Cond.constantLong RX3 191 (1103515245) ∈ wAll := List.mem_filter.mpr ⟨List.mem_of_getElem? (i := 592) (by decide +kernel), by decide +kernel⟩
theorem mw_364 : Cond.constantLong RX3 193 (12345) ∈ wAll := List.mem_filter.mpr ⟨List.mem_of_getElem? (i := 593) (by decide +kernel), by decide +kernel⟩
theorem mw_365 : Cond.constantLong RX3 195 (2147483648) ∈ wAll := List.mem_filter.mpr ⟨List.mem_of_getElem? (i := 594) (by decide +kernel), by decide +kernel⟩
theorem mw_366 : Cond.constantLong RX3 197 (65536) ∈ wAll := List.mem_filter.mpr ⟨List.mem_of_getElem? (i := 595) (by decide +kernel), by decide +kernel⟩
theorem mw_367 : Cond.constantLong RX3 199 (2) ∈ wAll := List.mem_filter.mpr ⟨List.mem_of_getElem? (i := 596) (by decide +kernel), by decide +kernel⟩
theorem mw_368 : Cond.code yX3_years cX3_years 8 (some .int) ∈ wAll := List.mem_filter.mpr ⟨List.mem_of_getElem? (i := 590) (by decide +kernel), by decide +kernel⟩
theorem mw_369 : Cond.code yX3_part cX3_part 2 (some .long) ∈ wAll := List.mem_filter.mpr ⟨List.mem_of_getElem? (i := 600) (by decide +kernel), by decide +kernel⟩
theorem mw_370 : Cond.code yX3_image cX3_image 2 (some .int) ∈ wAll := List.mem_filter.mpr ⟨List.mem_of_getElem? (i := 604) (by decide +kernel), by decide +kernel⟩
theorem mw_371 : Cond.code yX3_from cX3_from 2 (some .int) ∈ wAll := List.mem_filter.mpr ⟨List.mem_of_getElem? (i := 608) (by decide +kernel), by decide +kernel⟩
theorem mw_372 : Cond.code yX3_status cX3_status 2 (some .int) ∈ wAll := List.mem_filter.mpr ⟨List.mem_of_getElem? (i := 612) (by decide +kernel), by decide +kernel⟩
theorem mw_373 : Cond.fieldLink RX3 223 "WantedLater$Town" "struck" "I" ∈ wAll := List.mem_filter.mpr ⟨List.mem_of_getElem? (i := 95) (by decide +kernel), by decide +kernel⟩
theorem mw_374 : Cond.code yX3_howMany cX3_howMany 2 (some .int) ∈ wAll := List.mem_filter.mpr ⟨List.mem_of_getElem? (i := 620) (by decide +kernel), by decide +kernel⟩
theorem mw_375 : Cond.methodLink RX3 210 yX3_howMany ∈ wAll := List.mem_filter.mpr ⟨List.mem_of_getElem? (i := 617) (by decide +kernel), by decide +kernel⟩
theorem mw_376 : Cond.instanceMethod yX3_howMany ∈ wAll := List.mem_filter.mpr ⟨List.mem_of_getElem? (i := 619) (by decide +kernel), by decide +kernel⟩
theorem mw_377 : Cond.selects RX3 yX3_howMany yX3_howMany ∈ wAll := List.mem_filter.mpr ⟨List.mem_of_getElem? (i := 24) (by decide +kernel), by decide +kernel⟩
theorem mw_378 : Cond.code yX3_count cX3_count 2 (some .int) ∈ wAll := List.mem_filter.mpr ⟨List.mem_of_getElem? (i := 616) (by decide +kernel), by decide +kernel⟩
theorem mw_379 : Cond.constantLong RX3 213 (1213) ∈ wAll := List.mem_filter.mpr ⟨List.mem_of_getElem? (i := 625) (by decide +kernel), by decide +kernel⟩
theorem mw_380 : Cond.constantLong RX3 215 (31) ∈ wAll := List.mem_filter.mpr ⟨List.mem_of_getElem? (i := 626) (by decide +kernel), by decide +kernel⟩
theorem mw_381 : Cond.fieldLink RX3 220 "WantedLater$Town" "notes" "[I" ∈ wAll := List.mem_filter.mpr ⟨List.mem_of_getElem? (i := 105) (by decide +kernel), by decide +kernel⟩
theorem mw_382 : Cond.code yX3_digest cX3_digest 4 (some .long) ∈ wAll := List.mem_filter.mpr ⟨List.mem_of_getElem? (i := 624) (by decide +kernel), by decide +kernel⟩
theorem mw_383 : Cond.code yX4_begin cX4_begin 3 none ∈ wAll := List.mem_filter.mpr ⟨List.mem_of_getElem? (i := 635) (by decide +kernel), by decide +kernel⟩
theorem mw_384 : Cond.methodLink RX4 1 objectInit ∈ wAll := List.mem_filter.mpr ⟨List.mem_of_getElem? (i := 632) (by decide +kernel), by decide +kernel⟩
theorem mw_385 : Cond.fieldLink RX4 7 "WantedLaterModel" "now" "[I" ∈ wAll := List.mem_filter.mpr ⟨List.mem_of_getElem? (i := 636) (by decide +kernel), by decide +kernel⟩
theorem mw_386 : Cond.fieldLink RX4 13 "WantedLaterModel" "kept" "[I" ∈ wAll := List.mem_filter.mpr ⟨List.mem_of_getElem? (i := 637) (by decide +kernel), by decide +kernel⟩
theorem mw_387 : Cond.fieldLink RX4 16 "WantedLaterModel" "isKept" "[Z" ∈ wAll := List.mem_filter.mpr ⟨List.mem_of_getElem? (i := 638) (by decide +kernel), by decide +kernel⟩
theorem mw_388 : Cond.fieldLink RX4 20 "WantedLaterModel" "refused" "[I" ∈ wAll := List.mem_filter.mpr ⟨List.mem_of_getElem? (i := 639) (by decide +kernel), by decide +kernel⟩
theorem mw_389 : Cond.fieldLink RX4 23 "WantedLaterModel" "below" "J" ∈ wAll := List.mem_filter.mpr ⟨List.mem_of_getElem? (i := 641) (by decide +kernel), by decide +kernel⟩
theorem mw_390 : Cond.fieldLink RX4 27 "WantedLaterModel" "tempers" "[I" ∈ wAll := List.mem_filter.mpr ⟨List.mem_of_getElem? (i := 642) (by decide +kernel), by decide +kernel⟩
theorem mw_391 : Cond.fieldLink RX4 30 "WantedLaterModel" "his" "[I" ∈ wAll := List.mem_filter.mpr ⟨List.mem_of_getElem? (i := 646) (by decide +kernel), by decide +kernel⟩
theorem mw_392 : Cond.fieldLink RX4 33 "WantedLaterModel" "theirs" "[I" ∈ wAll := List.mem_filter.mpr ⟨List.mem_of_getElem? (i := 647) (by decide +kernel), by decide +kernel⟩
theorem mw_393 : Cond.fieldLink RX4 36 "WantedLaterModel" "manyBy" "[I" ∈ wAll := List.mem_filter.mpr ⟨List.mem_of_getElem? (i := 648) (by decide +kernel), by decide +kernel⟩
theorem mw_394 : Cond.fieldLink RX4 39 "WantedLaterModel" "bytes" "[I" ∈ wAll := List.mem_filter.mpr ⟨List.mem_of_getElem? (i := 649) (by decide +kernel), by decide +kernel⟩
theorem mw_395 : Cond.fieldLink RX4 42 "WantedLaterModel" "anew" "[I" ∈ wAll := List.mem_filter.mpr ⟨List.mem_of_getElem? (i := 655) (by decide +kernel), by decide +kernel⟩
theorem mw_396 : Cond.fieldLink RX4 45 "WantedLaterModel" "values" "[I" ∈ wAll := List.mem_filter.mpr ⟨List.mem_of_getElem? (i := 656) (by decide +kernel), by decide +kernel⟩
theorem mw_397 : Cond.methodLink RX4 48 yX4_begin ∈ wAll := List.mem_filter.mpr ⟨List.mem_of_getElem? (i := 633) (by decide +kernel), by decide +kernel⟩
theorem mw_398 : Cond.static yX4_begin ∈ wAll := List.mem_filter.mpr ⟨List.mem_of_getElem? (i := 634) (by decide +kernel), by decide +kernel⟩
theorem mw_399 : Cond.initialized RX4 ∈ wAll := List.mem_filter.mpr ⟨List.mem_of_getElem? (i := 58) (by decide +kernel), by decide +kernel⟩
theorem mw_400 : Cond.code yX4_init cX4_init 1 none ∈ wAll := List.mem_filter.mpr ⟨List.mem_of_getElem? (i := 631) (by decide +kernel), by decide +kernel⟩
theorem mw_401 : Cond.code yX4_in cX4_in 6 (some .boolean) ∈ wAll := List.mem_filter.mpr ⟨List.mem_of_getElem? (i := 707) (by decide +kernel), by decide +kernel⟩
theorem mw_402 : Cond.code yX4_bad cX4_bad 2 (some .int) ∈ wAll := List.mem_filter.mpr ⟨List.mem_of_getElem? (i := 711) (by decide +kernel), by decide +kernel⟩
theorem mw_403 : Cond.code yX4_no cX4_no 1 (some .int) ∈ wAll := List.mem_filter.mpr ⟨List.mem_of_getElem? (i := 795) (by decide +kernel), by decide +kernel⟩
theorem mw_404 : Cond.code yX4_full cX4_full 1 (some .int) ∈ wAll := List.mem_filter.mpr ⟨List.mem_of_getElem? (i := 724) (by decide +kernel), by decide +kernel⟩
theorem mw_405 : Cond.code yX4_bits cX4_bits 3 (some .int) ∈ wAll := List.mem_filter.mpr ⟨List.mem_of_getElem? (i := 787) (by decide +kernel), by decide +kernel⟩
theorem mw_406 : Cond.code yX4_has cX4_has 2 (some .boolean) ∈ wAll := List.mem_filter.mpr ⟨List.mem_of_getElem? (i := 763) (by decide +kernel), by decide +kernel⟩
theorem mw_407 : Cond.code yX4_many cX4_many 1 (some .int) ∈ wAll := List.mem_filter.mpr ⟨List.mem_of_getElem? (i := 715) (by decide +kernel), by decide +kernel⟩
theorem mw_408 : Cond.methodLink RX4 52 yX4_many ∈ wAll := List.mem_filter.mpr ⟨List.mem_of_getElem? (i := 712) (by decide +kernel), by decide +kernel⟩
theorem mw_409 : Cond.instanceMethod yX4_many ∈ wAll := List.mem_filter.mpr ⟨List.mem_of_getElem? (i := 714) (by decide +kernel), by decide +kernel⟩
theorem mw_410 : Cond.selects RX4 yX4_many yX4_many ∈ wAll := List.mem_filter.mpr ⟨List.mem_of_getElem? (i := 26) (by decide +kernel), by decide +kernel⟩
theorem mw_411 : Cond.methodLink RX4 56 yX4_in ∈ wAll := List.mem_filter.mpr ⟨List.mem_of_getElem? (i := 705) (by decide +kernel), by decide +kernel⟩
theorem mw_412 : Cond.static yX4_in ∈ wAll := List.mem_filter.mpr ⟨List.mem_of_getElem? (i := 706) (by decide +kernel), by decide +kernel⟩
theorem mw_413 : Cond.code yX4_isOne cX4_isOne 2 (some .boolean) ∈ wAll := List.mem_filter.mpr ⟨List.mem_of_getElem? (i := 735) (by decide +kernel), by decide +kernel⟩
theorem mw_414 : Cond.constantLong RX4 60 (5) ∈ wAll := List.mem_filter.mpr ⟨List.mem_of_getElem? (i := 704) (by decide +kernel), by decide +kernel⟩
theorem mw_415 : Cond.methodLink RX4 62 yX4_bad ∈ wAll := List.mem_filter.mpr ⟨List.mem_of_getElem? (i := 708) (by decide +kernel), by decide +kernel⟩
theorem mw_416 : Cond.instanceMethod yX4_bad ∈ wAll := List.mem_filter.mpr ⟨List.mem_of_getElem? (i := 710) (by decide +kernel), by decide +kernel⟩
theorem mw_417 : Cond.selects RX4 yX4_bad yX4_bad ∈ wAll := List.mem_filter.mpr ⟨List.mem_of_getElem? (i := 25) (by decide +kernel), by decide +kernel⟩
theorem mw_418 : Cond.code yX4_town cX4_town 3 (some .int) ∈ wAll := List.mem_filter.mpr ⟨List.mem_of_getElem? (i := 703) (by decide +kernel), by decide +kernel⟩
theorem mw_419 : Cond.code yX4_layOne cX4_layOne 3 none ∈ wAll := List.mem_filter.mpr ⟨List.mem_of_getElem? (i := 727) (by decide +kernel), by decide +kernel⟩
theorem mw_420 : Cond.constantLong RX4 66 (30) ∈ wAll := List.mem_filter.mpr ⟨List.mem_of_getElem? (i := 720) (by decide +kernel), by decide +kernel⟩
theorem mw_421 : Cond.methodLink RX4 68 yX4_full ∈ wAll := List.mem_filter.mpr ⟨List.mem_of_getElem? (i := 721) (by decide +kernel), by decide +kernel⟩
theorem mw_422 : Cond.instanceMethod yX4_full ∈ wAll := List.mem_filter.mpr ⟨List.mem_of_getElem? (i := 723) (by decide +kernel), by decide +kernel⟩
theorem mw_423 : Cond.selects RX4 yX4_full yX4_full ∈ wAll := List.mem_filter.mpr ⟨List.mem_of_getElem? (i := 27) (by decide +kernel), by decide +kernel⟩
theorem mw_424 : Cond.methodLink RX4 71 yX4_layOne ∈ wAll := List.mem_filter.mpr ⟨List.mem_of_getElem? (i := 725) (by decide +kernel), by decide +kernel⟩
theorem mw_425 : Cond.static yX4_layOne ∈ wAll := List.mem_filter.mpr ⟨List.mem_of_getElem? (i := 726) (by decide +kernel), by decide +kernel⟩
theorem mw_426 : Cond.code yX4_one cX4_one 3 (some .int) ∈ wAll := List.mem_filter.mpr ⟨List.mem_of_getElem? (i := 719) (by decide +kernel), by decide +kernel⟩
theorem mw_427 : Cond.code yX4_actAs cX4_actAs 7 (some .int) ∈ wAll := List.mem_filter.mpr ⟨List.mem_of_getElem? (i := 778) (by decide +kernel), by decide +kernel⟩
theorem mw_428 : Cond.code yX4_moreAs cX4_moreAs 1 (some .int) ∈ wAll := List.mem_filter.mpr ⟨List.mem_of_getElem? (i := 784) (by decide +kernel), by decide +kernel⟩
theorem mw_429 : Cond.methodLink RX4 75 yX4_moreAs ∈ wAll := List.mem_filter.mpr ⟨List.mem_of_getElem? (i := 782) (by decide +kernel), by decide +kernel⟩
theorem mw_430 : Cond.static yX4_moreAs ∈ wAll := List.mem_filter.mpr ⟨List.mem_of_getElem? (i := 783) (by decide +kernel), by decide +kernel⟩
theorem mw_431 : Cond.code yX4_temperBehind cX4_temperBehind 4 (some .int) ∈ wAll := List.mem_filter.mpr ⟨List.mem_of_getElem? (i := 781) (by decide +kernel), by decide +kernel⟩
theorem mw_432 : Cond.fieldLink RX4 78 "WantedLaterModel" "listed" "I" ∈ wAll := List.mem_filter.mpr ⟨List.mem_of_getElem? (i := 643) (by decide +kernel), by decide +kernel⟩
theorem mw_433 : Cond.fieldLink RX4 82 "WantedLaterModel" "following" "I" ∈ wAll := List.mem_filter.mpr ⟨List.mem_of_getElem? (i := 644) (by decide +kernel), by decide +kernel⟩
theorem mw_434 : Cond.fieldLink RX4 85 "WantedLaterModel" "dayThen" "I" ∈ wAll := List.mem_filter.mpr ⟨List.mem_of_getElem? (i := 645) (by decide +kernel), by decide +kernel⟩
theorem mw_435 : Cond.code yX4_layHand cX4_layHand 2 none ∈ wAll := List.mem_filter.mpr ⟨List.mem_of_getElem? (i := 756) (by decide +kernel), by decide +kernel⟩
theorem mw_436 : Cond.code yX4_kindOf cX4_kindOf 2 (some .int) ∈ wAll := List.mem_filter.mpr ⟨List.mem_of_getElem? (i := 775) (by decide +kernel), by decide +kernel⟩
theorem mw_437 : Cond.methodLink RX4 88 yX4_kindOf ∈ wAll := List.mem_filter.mpr ⟨List.mem_of_getElem? (i := 772) (by decide +kernel), by decide +kernel⟩
theorem mw_438 : Cond.instanceMethod yX4_kindOf ∈ wAll := List.mem_filter.mpr ⟨List.mem_of_getElem? (i := 774) (by decide +kernel), by decide +kernel⟩
theorem mw_439 : Cond.selects RX4 yX4_kindOf yX4_kindOf ∈ wAll := List.mem_filter.mpr ⟨List.mem_of_getElem? (i := 35) (by decide +kernel), by decide +kernel⟩
theorem mw_440 : Cond.methodLink RX4 91 yX4_has ∈ wAll := List.mem_filter.mpr ⟨List.mem_of_getElem? (i := 761) (by decide +kernel), by decide +kernel⟩
theorem mw_441 : Cond.static yX4_has ∈ wAll := List.mem_filter.mpr ⟨List.mem_of_getElem? (i := 762) (by decide +kernel), by decide +kernel⟩
theorem mw_442 : Cond.methodLink RX4 95 yX4_actAs ∈ wAll := List.mem_filter.mpr ⟨List.mem_of_getElem? (i := 776) (by decide +kernel), by decide +kernel⟩
theorem mw_443 : Cond.static yX4_actAs ∈ wAll := List.mem_filter.mpr ⟨List.mem_of_getElem? (i := 777) (by decide +kernel), by decide +kernel⟩
theorem mw_444 : Cond.code yX4_actOf cX4_actOf 2 (some .int) ∈ wAll := List.mem_filter.mpr ⟨List.mem_of_getElem? (i := 771) (by decide +kernel), by decide +kernel⟩
theorem mw_445 : Cond.methodLink RX4 99 yX4_actOf ∈ wAll := List.mem_filter.mpr ⟨List.mem_of_getElem? (i := 768) (by decide +kernel), by decide +kernel⟩
theorem mw_446 : Cond.instanceMethod yX4_actOf ∈ wAll := List.mem_filter.mpr ⟨List.mem_of_getElem? (i := 770) (by decide +kernel), by decide +kernel⟩
theorem mw_447 : Cond.selects RX4 yX4_actOf yX4_actOf ∈ wAll := List.mem_filter.mpr ⟨List.mem_of_getElem? (i := 34) (by decide +kernel), by decide +kernel⟩
theorem mw_448 : Cond.code yX4_doesIt cX4_doesIt 2 (some .boolean) ∈ wAll := List.mem_filter.mpr ⟨List.mem_of_getElem? (i := 767) (by decide +kernel), by decide +kernel⟩
theorem mw_449 : Cond.methodLink RX4 102 yX4_doesIt ∈ wAll := List.mem_filter.mpr ⟨List.mem_of_getElem? (i := 764) (by decide +kernel), by decide +kernel⟩
theorem mw_450 : Cond.instanceMethod yX4_doesIt ∈ wAll := List.mem_filter.mpr ⟨List.mem_of_getElem? (i := 766) (by decide +kernel), by decide +kernel⟩
theorem mw_451 : Cond.selects RX4 yX4_doesIt yX4_doesIt ∈ wAll := List.mem_filter.mpr ⟨List.mem_of_getElem? (i := 33) (by decide +kernel), by decide +kernel⟩
theorem mw_452 : Cond.methodLink RX4 106 yX4_temperBehind ∈ wAll := List.mem_filter.mpr ⟨List.mem_of_getElem? (i := 779) (by decide +kernel), by decide +kernel⟩
theorem mw_453 : Cond.static yX4_temperBehind ∈ wAll := List.mem_filter.mpr ⟨List.mem_of_getElem? (i := 780) (by decide +kernel), by decide +kernel⟩
theorem mw_454 : Cond.code yX4_goDay cX4_goDay 3 (some .int) ∈ wAll := List.mem_filter.mpr ⟨List.mem_of_getElem? (i := 760) (by decide +kernel), by decide +kernel⟩
theorem mw_455 : Cond.code yX4_keep cX4_keep 2 none ∈ wAll := List.mem_filter.mpr ⟨List.mem_of_getElem? (i := 743) (by decide +kernel), by decide +kernel⟩
theorem mw_456 : Cond.methodLink RX4 110 yX4_keep ∈ wAll := List.mem_filter.mpr ⟨List.mem_of_getElem? (i := 740) (by decide +kernel), by decide +kernel⟩
theorem mw_457 : Cond.instanceMethod yX4_keep ∈ wAll := List.mem_filter.mpr ⟨List.mem_of_getElem? (i := 742) (by decide +kernel), by decide +kernel⟩
theorem mw_458 : Cond.selects RX4 yX4_keep yX4_keep ∈ wAll := List.mem_filter.mpr ⟨List.mem_of_getElem? (i := 30) (by decide +kernel), by decide +kernel⟩
theorem mw_459 : Cond.code yX4_turn cX4_turn 5 (some .int) ∈ wAll := List.mem_filter.mpr ⟨List.mem_of_getElem? (i := 739) (by decide +kernel), by decide +kernel⟩
theorem mw_460 : Cond.methodLink RX4 113 yX4_isOne ∈ wAll := List.mem_filter.mpr ⟨List.mem_of_getElem? (i := 732) (by decide +kernel), by decide +kernel⟩
theorem mw_461 : Cond.instanceMethod yX4_isOne ∈ wAll := List.mem_filter.mpr ⟨List.mem_of_getElem? (i := 734) (by decide +kernel), by decide +kernel⟩
theorem mw_462 : Cond.selects RX4 yX4_isOne yX4_isOne ∈ wAll := List.mem_filter.mpr ⟨List.mem_of_getElem? (i := 28) (by decide +kernel), by decide +kernel⟩
theorem mw_463 : Cond.methodLink RX4 116 yX4_turn ∈ wAll := List.mem_filter.mpr ⟨List.mem_of_getElem? (i := 736) (by decide +kernel), by decide +kernel⟩
theorem mw_464 : Cond.instanceMethod yX4_turn ∈ wAll := List.mem_filter.mpr ⟨List.mem_of_getElem? (i := 738) (by decide +kernel), by decide +kernel⟩
theorem mw_465 : Cond.selects RX4 yX4_turn yX4_turn ∈ wAll := List.mem_filter.mpr ⟨List.mem_of_getElem? (i := 29) (by decide +kernel), by decide +kernel⟩
theorem mw_466 : Cond.code yX4_list cX4_list 3 (some .int) ∈ wAll := List.mem_filter.mpr ⟨List.mem_of_getElem? (i := 731) (by decide +kernel), by decide +kernel⟩
theorem mw_467 : Cond.code yX4_follow cX4_follow 3 (some .int) ∈ wAll := List.mem_filter.mpr ⟨List.mem_of_getElem? (i := 747) (by decide +kernel), by decide +kernel⟩
theorem mw_468 : Cond.constantLong RX4 120 (60) ∈ wAll := List.mem_filter.mpr ⟨List.mem_of_getElem? (i := 752) (by decide +kernel), by decide +kernel⟩
theorem mw_469 : Cond.methodLink RX4 122 yX4_layHand ∈ wAll := List.mem_filter.mpr ⟨List.mem_of_getElem? (i := 753) (by decide +kernel), by decide +kernel⟩
theorem mw_470 : Cond.instanceMethod yX4_layHand ∈ wAll := List.mem_filter.mpr ⟨List.mem_of_getElem? (i := 755) (by decide +kernel), by decide +kernel⟩
theorem mw_471 : Cond.selects RX4 yX4_layHand yX4_layHand ∈ wAll := List.mem_filter.mpr ⟨List.mem_of_getElem? (i := 31) (by decide +kernel), by decide +kernel⟩
theorem mw_472 : Cond.methodLink RX4 125 yX4_goDay ∈ wAll := List.mem_filter.mpr ⟨List.mem_of_getElem? (i := 757) (by decide +kernel), by decide +kernel⟩
theorem mw_473 : Cond.instanceMethod yX4_goDay ∈ wAll := List.mem_filter.mpr ⟨List.mem_of_getElem? (i := 759) (by decide +kernel), by decide +kernel⟩
theorem mw_474 : Cond.selects RX4 yX4_goDay yX4_goDay ∈ wAll := List.mem_filter.mpr ⟨List.mem_of_getElem? (i := 32) (by decide +kernel), by decide +kernel⟩
theorem mw_475 : Cond.methodLink RX4 128 yX4_bits ∈ wAll := List.mem_filter.mpr ⟨List.mem_of_getElem? (i := 785) (by decide +kernel), by decide +kernel⟩
theorem mw_476 : Cond.static yX4_bits ∈ wAll := List.mem_filter.mpr ⟨List.mem_of_getElem? (i := 786) (by decide +kernel), by decide +kernel⟩
theorem mw_477 : Cond.code yX4_day cX4_day 6 (some .int) ∈ wAll := List.mem_filter.mpr ⟨List.mem_of_getElem? (i := 751) (by decide +kernel), by decide +kernel⟩
theorem mw_478 : Cond.methodLink RX4 131 yX4_no ∈ wAll := List.mem_filter.mpr ⟨List.mem_of_getElem? (i := 792) (by decide +kernel), by decide +kernel⟩
theorem mw_479 : Cond.instanceMethod yX4_no ∈ wAll := List.mem_filter.mpr ⟨List.mem_of_getElem? (i := 794) (by decide +kernel), by decide +kernel⟩
theorem mw_480 : Cond.selects RX4 yX4_no yX4_no ∈ wAll := List.mem_filter.mpr ⟨List.mem_of_getElem? (i := 36) (by decide +kernel), by decide +kernel⟩
theorem mw_481 : Cond.code yX4_undo cX4_undo 2 (some .int) ∈ wAll := List.mem_filter.mpr ⟨List.mem_of_getElem? (i := 791) (by decide +kernel), by decide +kernel⟩
theorem mw_482 : Cond.constantLong RX4 134 (4) ∈ wAll := List.mem_filter.mpr ⟨List.mem_of_getElem? (i := 800) (by decide +kernel), by decide +kernel⟩
theorem mw_483 : Cond.code yX4_of cX4_of 3 (some .int) ∈ wAll := List.mem_filter.mpr ⟨List.mem_of_getElem? (i := 799) (by decide +kernel), by decide +kernel⟩
theorem mw_484 : Cond.code yX4_then cX4_then 6 (some .int) ∈ wAll := List.mem_filter.mpr ⟨List.mem_of_getElem? (i := 804) (by decide +kernel), by decide +kernel⟩
theorem mw_485 : Cond.code yX4_when cX4_when 3 (some .int) ∈ wAll := List.mem_filter.mpr ⟨List.mem_of_getElem? (i := 808) (by decide +kernel), by decide +kernel⟩
theorem mw_486 : Cond.code yX4_doesItIn cX4_doesItIn 7 (some .boolean) ∈ wAll := List.mem_filter.mpr ⟨List.mem_of_getElem? (i := 816) (by decide +kernel), by decide +kernel⟩
theorem mw_487 : Cond.methodLink RX4 136 yX4_doesItIn ∈ wAll := List.mem_filter.mpr ⟨List.mem_of_getElem? (i := 813) (by decide +kernel), by decide +kernel⟩
theorem mw_488 : Cond.instanceMethod yX4_doesItIn ∈ wAll := List.mem_filter.mpr ⟨List.mem_of_getElem? (i := 815) (by decide +kernel), by decide +kernel⟩
theorem mw_489 : Cond.selects RX4 yX4_doesItIn yX4_doesItIn ∈ wAll := List.mem_filter.mpr ⟨List.mem_of_getElem? (i := 37) (by decide +kernel), by decide +kernel⟩
theorem mw_490 : Cond.code yX4_lack cX4_lack 3 (some .int) ∈ wAll := List.mem_filter.mpr ⟨List.mem_of_getElem? (i := 812) (by decide +kernel), by decide +kernel⟩
theorem mw_491 : Cond.code yX4_comesTrue cX4_comesTrue 9 (some .int) ∈ wAll := List.mem_filter.mpr ⟨List.mem_of_getElem? (i := 820) (by decide +kernel), by decide +kernel⟩
theorem mw_492 : Cond.code yX4_readings cX4_readings 5 (some .int) ∈ wAll := List.mem_filter.mpr ⟨List.mem_of_getElem? (i := 824) (by decide +kernel), by decide +kernel⟩
theorem mw_493 : Cond.constantLong RX4 140 (9) ∈ wAll := List.mem_filter.mpr ⟨List.mem_of_getElem? (i := 829) (by decide +kernel), by decide +kernel⟩
theorem mw_494 : Cond.code yX4_roster cX4_roster 3 (some .int) ∈ wAll := List.mem_filter.mpr ⟨List.mem_of_getElem? (i := 828) (by decide +kernel), by decide +kernel⟩
theorem mw_495 : Cond.code yX4_isStruck cX4_isStruck 6 (some .boolean) ∈ wAll := List.mem_filter.mpr ⟨List.mem_of_getElem? (i := 838) (by decide +kernel), by decide +kernel⟩
theorem mw_496 : Cond.constantLong RX4 142 (8) ∈ wAll := List.mem_filter.mpr ⟨List.mem_of_getElem? (i := 834) (by decide +kernel), by decide +kernel⟩
theorem mw_497 : Cond.methodLink RX4 144 yX4_isStruck ∈ wAll := List.mem_filter.mpr ⟨List.mem_of_getElem? (i := 835) (by decide +kernel), by decide +kernel⟩
theorem mw_498 : Cond.instanceMethod yX4_isStruck ∈ wAll := List.mem_filter.mpr ⟨List.mem_of_getElem? (i := 837) (by decide +kernel), by decide +kernel⟩
theorem mw_499 : Cond.selects RX4 yX4_isStruck yX4_isStruck ∈ wAll := List.mem_filter.mpr ⟨List.mem_of_getElem? (i := 38) (by decide +kernel), by decide +kernel⟩
theorem mw_500 : Cond.code yX4_off cX4_off 7 (some .int) ∈ wAll := List.mem_filter.mpr ⟨List.mem_of_getElem? (i := 833) (by decide +kernel), by decide +kernel⟩
theorem mw_501 : Cond.code yX4_rests cX4_rests 8 (some .int) ∈ wAll := List.mem_filter.mpr ⟨List.mem_of_getElem? (i := 842) (by decide +kernel), by decide +kernel⟩
theorem mw_502 : Cond.constantLong RX4 148 (99) ∈ wAll := List.mem_filter.mpr ⟨List.mem_of_getElem? (i := 847) (by decide +kernel), by decide +kernel⟩
theorem mw_503 : Cond.code yX4_note cX4_note 7 (some .int) ∈ wAll := List.mem_filter.mpr ⟨List.mem_of_getElem? (i := 846) (by decide +kernel), by decide +kernel⟩
theorem mw_504 : Cond.code yX4_forget cX4_forget 2 (some .int) ∈ wAll := List.mem_filter.mpr ⟨List.mem_of_getElem? (i := 851) (by decide +kernel), by decide +kernel⟩
theorem mw_505 : Cond.code yX4_kindsOf cX4_kindsOf 7 (some .int) ∈ wAll := List.mem_filter.mpr ⟨List.mem_of_getElem? (i := 859) (by decide +kernel), by decide +kernel⟩
theorem mw_506 : Cond.methodLink RX4 150 yX4_kindsOf ∈ wAll := List.mem_filter.mpr ⟨List.mem_of_getElem? (i := 856) (by decide +kernel), by decide +kernel⟩
theorem mw_507 : Cond.instanceMethod yX4_kindsOf ∈ wAll := List.mem_filter.mpr ⟨List.mem_of_getElem? (i := 858) (by decide +kernel), by decide +kernel⟩
theorem mw_508 : Cond.selects RX4 yX4_kindsOf yX4_kindsOf ∈ wAll := List.mem_filter.mpr ⟨List.mem_of_getElem? (i := 39) (by decide +kernel), by decide +kernel⟩
theorem mw_509 : Cond.code yX4_is cX4_is 2 (some .int) ∈ wAll := List.mem_filter.mpr ⟨List.mem_of_getElem? (i := 855) (by decide +kernel), by decide +kernel⟩
theorem mw_510 : Cond.constant RX4 153 (1000000) ∈ wAll := List.mem_filter.mpr ⟨List.mem_of_getElem? (i := 864) (by decide +kernel), by decide +kernel⟩
theorem mw_511 : Cond.code yX4_look cX4_look 10 (some .int) ∈ wAll := List.mem_filter.mpr ⟨List.mem_of_getElem? (i := 863) (by decide +kernel), by decide +kernel⟩
theorem mw_512 : Cond.code yX4_manySources cX4_manySources 5 (some .int) ∈ wAll := List.mem_filter.mpr ⟨List.mem_of_getElem? (i := 872) (by decide +kernel), by decide +kernel⟩
theorem mw_513 : Cond.code yX4_areKindsEven cX4_areKindsEven 6 (some .boolean) ∈ wAll := List.mem_filter.mpr ⟨List.mem_of_getElem? (i := 876) (by decide +kernel), by decide +kernel⟩
theorem mw_514 : Cond.methodLink RX4 154 yX4_manySources ∈ wAll := List.mem_filter.mpr ⟨List.mem_of_getElem? (i := 869) (by decide +kernel), by decide +kernel⟩
theorem mw_515 : Cond.instanceMethod yX4_manySources ∈ wAll := List.mem_filter.mpr ⟨List.mem_of_getElem? (i := 871) (by decide +kernel), by decide +kernel⟩
theorem mw_516 : Cond.selects RX4 yX4_manySources yX4_manySources ∈ wAll := List.mem_filter.mpr ⟨List.mem_of_getElem? (i := 40) (by decide +kernel), by decide +kernel⟩
theorem mw_517 : Cond.methodLink RX4 157 yX4_areKindsEven ∈ wAll := List.mem_filter.mpr ⟨List.mem_of_getElem? (i := 873) (by decide +kernel), by decide +kernel⟩
theorem mw_518 : Cond.instanceMethod yX4_areKindsEven ∈ wAll := List.mem_filter.mpr ⟨List.mem_of_getElem? (i := 875) (by decide +kernel), by decide +kernel⟩
theorem mw_519 : Cond.selects RX4 yX4_areKindsEven yX4_areKindsEven ∈ wAll := List.mem_filter.mpr ⟨List.mem_of_getElem? (i := 41) (by decide +kernel), by decide +kernel⟩
theorem mw_520 : Cond.code yX4_source cX4_source 2 (some .int) ∈ wAll := List.mem_filter.mpr ⟨List.mem_of_getElem? (i := 868) (by decide +kernel), by decide +kernel⟩
theorem mw_521 : Cond.fieldLink RX4 161 "WantedLaterModel" "above" "J" ∈ wAll := List.mem_filter.mpr ⟨List.mem_of_getElem? (i := 640) (by decide +kernel), by decide +kernel⟩
theorem mw_522 : Cond.code yX4_fraction cX4_fraction 11 none ∈ wAll := List.mem_filter.mpr ⟨List.mem_of_getElem? (i := 885) (by decide +kernel), by decide +kernel⟩
theorem mw_523 : Cond.constantLong RX4 164 (10) ∈ wAll := List.mem_filter.mpr ⟨List.mem_of_getElem? (i := 881) (by decide +kernel), by decide +kernel⟩
theorem mw_524 : Cond.methodLink RX4 166 yX4_fraction ∈ wAll := List.mem_filter.mpr ⟨List.mem_of_getElem? (i := 882) (by decide +kernel), by decide +kernel⟩
theorem mw_525 : Cond.instanceMethod yX4_fraction ∈ wAll := List.mem_filter.mpr ⟨List.mem_of_getElem? (i := 884) (by decide +kernel), by decide +kernel⟩
theorem mw_526 : Cond.selects RX4 yX4_fraction yX4_fraction ∈ wAll := List.mem_filter.mpr ⟨List.mem_of_getElem? (i := 42) (by decide +kernel), by decide +kernel⟩
theorem mw_527 : Cond.code yX4_odds cX4_odds 12 (some .int) ∈ wAll := List.mem_filter.mpr ⟨List.mem_of_getElem? (i := 880) (by decide +kernel), by decide +kernel⟩
theorem mw_528 : Cond.constantLong RX4 170 (999999) ∈ wAll := List.mem_filter.mpr ⟨List.mem_of_getElem? (i := 890) (by decide +kernel), by decide +kernel⟩
theorem mw_529 : Cond.constantLong RX4 172 (1103515245) ∈ wAll := List.mem_filter.mpr ⟨List.mem_of_getElem? (i := 891) (by decide +kernel), by decide +kernel⟩
theorem mw_530 : Cond.constantLong RX4 174 (12345) ∈ wAll := List.mem_filter.mpr ⟨List.mem_of_getElem? (i := 892) (by decide +kernel), by decide +kernel⟩
theorem mw_531 : Cond.constantLong RX4 176 (2147483648) ∈ wAll := List.mem_filter.mpr ⟨List.mem_of_getElem? (i := 893) (by decide +kernel), by decide +kernel⟩
theorem mw_532 : Cond.constantLong RX4 178 (65536) ∈ wAll := List.mem_filter.mpr ⟨List.mem_of_getElem? (i := 894) (by decide +kernel), by decide +kernel⟩
theorem mw_533 : Cond.constantLong RX4 180 (2) ∈ wAll := List.mem_filter.mpr ⟨List.mem_of_getElem? (i := 895) (by decide +kernel), by decide +kernel⟩
theorem mw_534 : Cond.code yX4_years cX4_years 8 (some .int) ∈ wAll := List.mem_filter.mpr ⟨List.mem_of_getElem? (i := 889) (by decide +kernel), by decide +kernel⟩
theorem mw_535 : Cond.constantLong RX4 182 (127) ∈ wAll := List.mem_filter.mpr ⟨List.mem_of_getElem? (i := 900) (by decide +kernel), by decide +kernel⟩
theorem mw_536 : Cond.fieldLink RX4 184 "WantedLaterModel" "bytesLong" "I" ∈ wAll := List.mem_filter.mpr ⟨List.mem_of_getElem? (i := 650) (by decide +kernel), by decide +kernel⟩
theorem mw_537 : Cond.code yX4_type cX4_type 2 (some .int) ∈ wAll := List.mem_filter.mpr ⟨List.mem_of_getElem? (i := 899) (by decide +kernel), by decide +kernel⟩
theorem mw_538 : Cond.code yX4_clear cX4_clear 2 (some .int) ∈ wAll := List.mem_filter.mpr ⟨List.mem_of_getElem? (i := 904) (by decide +kernel), by decide +kernel⟩
theorem mw_539 : Cond.constantLong RX4 187 (97) ∈ wAll := List.mem_filter.mpr ⟨List.mem_of_getElem? (i := 916) (by decide +kernel), by decide +kernel⟩
theorem mw_540 : Cond.constantLong RX4 189 (122) ∈ wAll := List.mem_filter.mpr ⟨List.mem_of_getElem? (i := 917) (by decide +kernel), by decide +kernel⟩
theorem mw_541 : Cond.code yX4_isSmall cX4_isSmall 1 (some .boolean) ∈ wAll := List.mem_filter.mpr ⟨List.mem_of_getElem? (i := 915) (by decide +kernel), by decide +kernel⟩
theorem mw_542 : Cond.constantLong RX4 191 (48) ∈ wAll := List.mem_filter.mpr ⟨List.mem_of_getElem? (i := 921) (by decide +kernel), by decide +kernel⟩
theorem mw_543 : Cond.constantLong RX4 193 (57) ∈ wAll := List.mem_filter.mpr ⟨List.mem_of_getElem? (i := 922) (by decide +kernel), by decide +kernel⟩
theorem mw_544 : Cond.code yX4_isFigure cX4_isFigure 1 (some .boolean) ∈ wAll := List.mem_filter.mpr ⟨List.mem_of_getElem? (i := 920) (by decide +kernel), by decide +kernel⟩
theorem mw_545 : Cond.fieldLink RX4 195 "WantedLaterModel" "tokenAt" "I" ∈ wAll := List.mem_filter.mpr ⟨List.mem_of_getElem? (i := 651) (by decide +kernel), by decide +kernel⟩
theorem mw_546 : Cond.fieldLink RX4 198 "WantedLaterModel" "tokenLong" "I" ∈ wAll := List.mem_filter.mpr ⟨List.mem_of_getElem? (i := 652) (by decide +kernel), by decide +kernel⟩
theorem mw_547 : Cond.fieldLink RX4 201 "WantedLaterModel" "token" "I" ∈ wAll := List.mem_filter.mpr ⟨List.mem_of_getElem? (i := 653) (by decide +kernel), by decide +kernel⟩
theorem mw_548 : Cond.fieldLink RX4 204 "WantedLaterModel" "value" "I" ∈ wAll := List.mem_filter.mpr ⟨List.mem_of_getElem? (i := 654) (by decide +kernel), by decide +kernel⟩
theorem mw_549 : Cond.methodLink RX4 207 yX4_isSmall ∈ wAll := List.mem_filter.mpr ⟨List.mem_of_getElem? (i := 913) (by decide +kernel), by decide +kernel⟩
theorem mw_550 : Cond.static yX4_isSmall ∈ wAll := List.mem_filter.mpr ⟨List.mem_of_getElem? (i := 914) (by decide +kernel), by decide +kernel⟩
theorem mw_551 : Cond.methodLink RX4 210 yX4_isFigure ∈ wAll := List.mem_filter.mpr ⟨List.mem_of_getElem? (i := 918) (by decide +kernel), by decide +kernel⟩
theorem mw_552 : Cond.static yX4_isFigure ∈ wAll := List.mem_filter.mpr ⟨List.mem_of_getElem? (i := 919) (by decide +kernel), by decide +kernel⟩
theorem mw_553 : Cond.code yX4_lookAt cX4_lookAt 5 none ∈ wAll := List.mem_filter.mpr ⟨List.mem_of_getElem? (i := 912) (by decide +kernel), by decide +kernel⟩
theorem mw_554 : Cond.methodLink RX4 213 yX4_lookAt ∈ wAll := List.mem_filter.mpr ⟨List.mem_of_getElem? (i := 909) (by decide +kernel), by decide +kernel⟩
theorem mw_555 : Cond.instanceMethod yX4_lookAt ∈ wAll := List.mem_filter.mpr ⟨List.mem_of_getElem? (i := 911) (by decide +kernel), by decide +kernel⟩
theorem mw_556 : Cond.selects RX4 yX4_lookAt yX4_lookAt ∈ wAll := List.mem_filter.mpr ⟨List.mem_of_getElem? (i := 43) (by decide +kernel), by decide +kernel⟩
theorem mw_557 : Cond.code yX4_goBehind cX4_goBehind 1 none ∈ wAll := List.mem_filter.mpr ⟨List.mem_of_getElem? (i := 934) (by decide +kernel), by decide +kernel⟩
theorem mw_558 : Cond.code yX4_spells cX4_spells 10 (some .boolean) ∈ wAll := List.mem_filter.mpr ⟨List.mem_of_getElem? (i := 930) (by decide +kernel), by decide +kernel⟩
theorem mw_559 : Cond.methodLink RX4 217 yX4_goBehind ∈ wAll := List.mem_filter.mpr ⟨List.mem_of_getElem? (i := 931) (by decide +kernel), by decide +kernel⟩
theorem mw_560 : Cond.instanceMethod yX4_goBehind ∈ wAll := List.mem_filter.mpr ⟨List.mem_of_getElem? (i := 933) (by decide +kernel), by decide +kernel⟩
theorem mw_561 : Cond.selects RX4 yX4_goBehind yX4_goBehind ∈ wAll := List.mem_filter.mpr ⟨List.mem_of_getElem? (i := 46) (by decide +kernel), by decide +kernel⟩
theorem mw_562 : Cond.code yX4_takes cX4_takes 4 (some .boolean) ∈ wAll := List.mem_filter.mpr ⟨List.mem_of_getElem? (i := 938) (by decide +kernel), by decide +kernel⟩
theorem mw_563 : Cond.methodLink RX4 220 yX4_spells ∈ wAll := List.mem_filter.mpr ⟨List.mem_of_getElem? (i := 927) (by decide +kernel), by decide +kernel⟩
theorem mw_564 : Cond.instanceMethod yX4_spells ∈ wAll := List.mem_filter.mpr ⟨List.mem_of_getElem? (i := 929) (by decide +kernel), by decide +kernel⟩
theorem mw_565 : Cond.selects RX4 yX4_spells yX4_spells ∈ wAll := List.mem_filter.mpr ⟨List.mem_of_getElem? (i := 45) (by decide +kernel), by decide +kernel⟩
theorem mw_566 : Cond.methodLink RX4 224 yX4_takes ∈ wAll := List.mem_filter.mpr ⟨List.mem_of_getElem? (i := 935) (by decide +kernel), by decide +kernel⟩
theorem mw_567 : Cond.instanceMethod yX4_takes ∈ wAll := List.mem_filter.mpr ⟨List.mem_of_getElem? (i := 937) (by decide +kernel), by decide +kernel⟩
theorem mw_568 : Cond.selects RX4 yX4_takes yX4_takes ∈ wAll := List.mem_filter.mpr ⟨List.mem_of_getElem? (i := 47) (by decide +kernel), by decide +kernel⟩
theorem mw_569 : Cond.code yX4_takesTown cX4_takesTown 1 (some .boolean) ∈ wAll := List.mem_filter.mpr ⟨List.mem_of_getElem? (i := 926) (by decide +kernel), by decide +kernel⟩
theorem mw_570 : Cond.code yX4_takesOne cX4_takesOne 1 (some .boolean) ∈ wAll := List.mem_filter.mpr ⟨List.mem_of_getElem? (i := 946) (by decide +kernel), by decide +kernel⟩
theorem mw_571 : Cond.code yX4_takesBit cX4_takesBit 2 (some .boolean) ∈ wAll := List.mem_filter.mpr ⟨List.mem_of_getElem? (i := 950) (by decide +kernel), by decide +kernel⟩
theorem mw_572 : Cond.methodLink RX4 227 yX4_takesOne ∈ wAll := List.mem_filter.mpr ⟨List.mem_of_getElem? (i := 943) (by decide +kernel), by decide +kernel⟩
theorem mw_573 : Cond.instanceMethod yX4_takesOne ∈ wAll := List.mem_filter.mpr ⟨List.mem_of_getElem? (i := 945) (by decide +kernel), by decide +kernel⟩
theorem mw_574 : Cond.selects RX4 yX4_takesOne yX4_takesOne ∈ wAll := List.mem_filter.mpr ⟨List.mem_of_getElem? (i := 49) (by decide +kernel), by decide +kernel⟩
theorem mw_575 : Cond.methodLink RX4 230 yX4_takesBit ∈ wAll := List.mem_filter.mpr ⟨List.mem_of_getElem? (i := 947) (by decide +kernel), by decide +kernel⟩
theorem mw_576 : Cond.instanceMethod yX4_takesBit ∈ wAll := List.mem_filter.mpr ⟨List.mem_of_getElem? (i := 949) (by decide +kernel), by decide +kernel⟩
theorem mw_577 : Cond.selects RX4 yX4_takesBit yX4_takesBit ∈ wAll := List.mem_filter.mpr ⟨List.mem_of_getElem? (i := 50) (by decide +kernel), by decide +kernel⟩
theorem mw_578 : Cond.code yX4_takesItem cX4_takesItem 1 (some .boolean) ∈ wAll := List.mem_filter.mpr ⟨List.mem_of_getElem? (i := 942) (by decide +kernel), by decide +kernel⟩
theorem mw_579 : Cond.methodLink RX4 233 yX4_takesTown ∈ wAll := List.mem_filter.mpr ⟨List.mem_of_getElem? (i := 923) (by decide +kernel), by decide +kernel⟩
theorem mw_580 : Cond.instanceMethod yX4_takesTown ∈ wAll := List.mem_filter.mpr ⟨List.mem_of_getElem? (i := 925) (by decide +kernel), by decide +kernel⟩
theorem mw_581 : Cond.selects RX4 yX4_takesTown yX4_takesTown ∈ wAll := List.mem_filter.mpr ⟨List.mem_of_getElem? (i := 44) (by decide +kernel), by decide +kernel⟩
theorem mw_582 : Cond.methodLink RX4 236 yX4_takesItem ∈ wAll := List.mem_filter.mpr ⟨List.mem_of_getElem? (i := 939) (by decide +kernel), by decide +kernel⟩
theorem mw_583 : Cond.instanceMethod yX4_takesItem ∈ wAll := List.mem_filter.mpr ⟨List.mem_of_getElem? (i := 941) (by decide +kernel), by decide +kernel⟩
theorem mw_584 : Cond.selects RX4 yX4_takesItem yX4_takesItem ∈ wAll := List.mem_filter.mpr ⟨List.mem_of_getElem? (i := 48) (by decide +kernel), by decide +kernel⟩
theorem mw_585 : Cond.code yX4_read cX4_read 3 (some .int) ∈ wAll := List.mem_filter.mpr ⟨List.mem_of_getElem? (i := 908) (by decide +kernel), by decide +kernel⟩
theorem mw_586 : Cond.code yX4_part cX4_part 2 (some .long) ∈ wAll := List.mem_filter.mpr ⟨List.mem_of_getElem? (i := 954) (by decide +kernel), by decide +kernel⟩
theorem mw_587 : Cond.code yX4_image cX4_image 3 (some .int) ∈ wAll := List.mem_filter.mpr ⟨List.mem_of_getElem? (i := 958) (by decide +kernel), by decide +kernel⟩
theorem mw_588 : Cond.code yX4_from cX4_from 3 (some .int) ∈ wAll := List.mem_filter.mpr ⟨List.mem_of_getElem? (i := 962) (by decide +kernel), by decide +kernel⟩
theorem mw_589 : Cond.code yX4_status cX4_status 2 (some .int) ∈ wAll := List.mem_filter.mpr ⟨List.mem_of_getElem? (i := 966) (by decide +kernel), by decide +kernel⟩
theorem mw_590 : Cond.code yX4_counted cX4_counted 2 (some .int) ∈ wAll := List.mem_filter.mpr ⟨List.mem_of_getElem? (i := 975) (by decide +kernel), by decide +kernel⟩
theorem mw_591 : Cond.constantLong RX4 239 (7) ∈ wAll := List.mem_filter.mpr ⟨List.mem_of_getElem? (i := 971) (by decide +kernel), by decide +kernel⟩
theorem mw_592 : Cond.methodLink RX4 241 yX4_counted ∈ wAll := List.mem_filter.mpr ⟨List.mem_of_getElem? (i := 972) (by decide +kernel), by decide +kernel⟩
theorem mw_593 : Cond.instanceMethod yX4_counted ∈ wAll := List.mem_filter.mpr ⟨List.mem_of_getElem? (i := 974) (by decide +kernel), by decide +kernel⟩
theorem mw_594 : Cond.selects RX4 yX4_counted yX4_counted ∈ wAll := List.mem_filter.mpr ⟨List.mem_of_getElem? (i := 51) (by decide +kernel), by decide +kernel⟩
theorem mw_595 : Cond.code yX4_count cX4_count 2 (some .int) ∈ wAll := List.mem_filter.mpr ⟨List.mem_of_getElem? (i := 970) (by decide +kernel), by decide +kernel⟩
theorem mw_596 : Cond.constantLong RX4 244 (31) ∈ wAll := List.mem_filter.mpr ⟨List.mem_of_getElem? (i := 981) (by decide +kernel), by decide +kernel⟩
theorem mw_597 : Cond.code yX4_sums cX4_sums 8 (some .long) ∈ wAll := List.mem_filter.mpr ⟨List.mem_of_getElem? (i := 985) (by decide +kernel), by decide +kernel⟩
theorem mw_598 : Cond.constantLong RX4 246 (1213) ∈ wAll := List.mem_filter.mpr ⟨List.mem_of_getElem? (i := 980) (by decide +kernel), by decide +kernel⟩
theorem mw_599 : Cond.methodLink RX4 248 yX4_sums ∈ wAll := List.mem_filter.mpr ⟨List.mem_of_getElem? (i := 982) (by decide +kernel), by decide +kernel⟩
theorem mw_600 : Cond.instanceMethod yX4_sums ∈ wAll := List.mem_filter.mpr ⟨List.mem_of_getElem? (i := 984) (by decide +kernel), by decide +kernel⟩
theorem mw_601 : Cond.selects RX4 yX4_sums yX4_sums ∈ wAll := List.mem_filter.mpr ⟨List.mem_of_getElem? (i := 52) (by decide +kernel), by decide +kernel⟩
theorem mw_602 : Cond.code yX4_digest cX4_digest 4 (some .long) ∈ wAll := List.mem_filter.mpr ⟨List.mem_of_getElem? (i := 979) (by decide +kernel), by decide +kernel⟩
theorem mw_603 : Cond.classLink RL 7 RX3 ∈ wAll := List.mem_filter.mpr ⟨List.mem_of_getElem? (i := 66) (by decide +kernel), by decide +kernel⟩
theorem mw_604 : Cond.instantiable RX3 11 ∈ wAll := List.mem_filter.mpr ⟨List.mem_of_getElem? (i := 67) (by decide +kernel), by decide +kernel⟩
theorem mw_605 : Cond.classLink RL 10 RX4 ∈ wAll := List.mem_filter.mpr ⟨List.mem_of_getElem? (i := 627) (by decide +kernel), by decide +kernel⟩
theorem mw_606 : Cond.instantiable RX4 21 ∈ wAll := List.mem_filter.mpr ⟨List.mem_of_getElem? (i := 628) (by decide +kernel), by decide +kernel⟩
theorem mw_607 : Cond.methodLink RL 9 yX3_init ∈ wAll := List.mem_filter.mpr ⟨List.mem_of_getElem? (i := 68) (by decide +kernel), by decide +kernel⟩
theorem mw_608 : Cond.instanceMethod yX3_init ∈ wAll := List.mem_filter.mpr ⟨List.mem_of_getElem? (i := 69) (by decide +kernel), by decide +kernel⟩
theorem mw_609 : Cond.methodLink RL 12 yX4_init ∈ wAll := List.mem_filter.mpr ⟨List.mem_of_getElem? (i := 629) (by decide +kernel), by decide +kernel⟩
theorem mw_610 : Cond.instanceMethod yX4_init ∈ wAll := List.mem_filter.mpr ⟨List.mem_of_getElem? (i := 630) (by decide +kernel), by decide +kernel⟩
theorem mw_611 : Cond.methodLink RL 13 yX3_town ∈ wAll := List.mem_filter.mpr ⟨List.mem_of_getElem? (i := 230) (by decide +kernel), by decide +kernel⟩
theorem mw_612 : Cond.instanceMethod yX3_town ∈ wAll := List.mem_filter.mpr ⟨List.mem_of_getElem? (i := 231) (by decide +kernel), by decide +kernel⟩
theorem mw_613 : Cond.selects RX3 yX3_town yX3_town ∈ wAll := List.mem_filter.mpr ⟨List.mem_of_getElem? (i := 232) (by decide +kernel), by decide +kernel⟩
theorem mw_614 : Cond.methodLink RL 17 yX4_town ∈ wAll := List.mem_filter.mpr ⟨List.mem_of_getElem? (i := 700) (by decide +kernel), by decide +kernel⟩
theorem mw_615 : Cond.instanceMethod yX4_town ∈ wAll := List.mem_filter.mpr ⟨List.mem_of_getElem? (i := 701) (by decide +kernel), by decide +kernel⟩
theorem mw_616 : Cond.selects RX4 yX4_town yX4_town ∈ wAll := List.mem_filter.mpr ⟨List.mem_of_getElem? (i := 702) (by decide +kernel), by decide +kernel⟩
theorem mw_617 : Cond.methodLink RL 18 yX3_one ∈ wAll := List.mem_filter.mpr ⟨List.mem_of_getElem? (i := 245) (by decide +kernel), by decide +kernel⟩
theorem mw_618 : Cond.instanceMethod yX3_one ∈ wAll := List.mem_filter.mpr ⟨List.mem_of_getElem? (i := 246) (by decide +kernel), by decide +kernel⟩
theorem mw_619 : Cond.selects RX3 yX3_one yX3_one ∈ wAll := List.mem_filter.mpr ⟨List.mem_of_getElem? (i := 247) (by decide +kernel), by decide +kernel⟩
theorem mw_620 : Cond.methodLink RL 22 yX4_one ∈ wAll := List.mem_filter.mpr ⟨List.mem_of_getElem? (i := 716) (by decide +kernel), by decide +kernel⟩
theorem mw_621 : Cond.instanceMethod yX4_one ∈ wAll := List.mem_filter.mpr ⟨List.mem_of_getElem? (i := 717) (by decide +kernel), by decide +kernel⟩
theorem mw_622 : Cond.selects RX4 yX4_one yX4_one ∈ wAll := List.mem_filter.mpr ⟨List.mem_of_getElem? (i := 718) (by decide +kernel), by decide +kernel⟩
theorem mw_623 : Cond.methodLink RL 23 yX3_type ∈ wAll := List.mem_filter.mpr ⟨List.mem_of_getElem? (i := 257) (by decide +kernel), by decide +kernel⟩
theorem mw_624 : Cond.instanceMethod yX3_type ∈ wAll := List.mem_filter.mpr ⟨List.mem_of_getElem? (i := 258) (by decide +kernel), by decide +kernel⟩
theorem mw_625 : Cond.selects RX3 yX3_type yX3_type ∈ wAll := List.mem_filter.mpr ⟨List.mem_of_getElem? (i := 259) (by decide +kernel), by decide +kernel⟩
theorem mw_626 : Cond.methodLink RL 26 yX4_type ∈ wAll := List.mem_filter.mpr ⟨List.mem_of_getElem? (i := 896) (by decide +kernel), by decide +kernel⟩
theorem mw_627 : Cond.instanceMethod yX4_type ∈ wAll := List.mem_filter.mpr ⟨List.mem_of_getElem? (i := 897) (by decide +kernel), by decide +kernel⟩
theorem mw_628 : Cond.selects RX4 yX4_type yX4_type ∈ wAll := List.mem_filter.mpr ⟨List.mem_of_getElem? (i := 898) (by decide +kernel), by decide +kernel⟩
theorem mw_629 : Cond.methodLink RL 27 yX3_clear ∈ wAll := List.mem_filter.mpr ⟨List.mem_of_getElem? (i := 265) (by decide +kernel), by decide +kernel⟩
theorem mw_630 : Cond.instanceMethod yX3_clear ∈ wAll := List.mem_filter.mpr ⟨List.mem_of_getElem? (i := 266) (by decide +kernel), by decide +kernel⟩
theorem mw_631 : Cond.selects RX3 yX3_clear yX3_clear ∈ wAll := List.mem_filter.mpr ⟨List.mem_of_getElem? (i := 267) (by decide +kernel), by decide +kernel⟩
theorem mw_632 : Cond.methodLink RL 31 yX4_clear ∈ wAll := List.mem_filter.mpr ⟨List.mem_of_getElem? (i := 901) (by decide +kernel), by decide +kernel⟩
theorem mw_633 : Cond.instanceMethod yX4_clear ∈ wAll := List.mem_filter.mpr ⟨List.mem_of_getElem? (i := 902) (by decide +kernel), by decide +kernel⟩
theorem mw_634 : Cond.selects RX4 yX4_clear yX4_clear ∈ wAll := List.mem_filter.mpr ⟨List.mem_of_getElem? (i := 903) (by decide +kernel), by decide +kernel⟩
theorem mw_635 : Cond.methodLink RL 32 yX3_read ∈ wAll := List.mem_filter.mpr ⟨List.mem_of_getElem? (i := 269) (by decide +kernel), by decide +kernel⟩
theorem mw_636 : Cond.instanceMethod yX3_read ∈ wAll := List.mem_filter.mpr ⟨List.mem_of_getElem? (i := 270) (by decide +kernel), by decide +kernel⟩
theorem mw_637 : Cond.selects RX3 yX3_read yX3_read ∈ wAll := List.mem_filter.mpr ⟨List.mem_of_getElem? (i := 271) (by decide +kernel), by decide +kernel⟩
theorem mw_638 : Cond.methodLink RL 35 yX4_read ∈ wAll := List.mem_filter.mpr ⟨List.mem_of_getElem? (i := 905) (by decide +kernel), by decide +kernel⟩
theorem mw_639 : Cond.instanceMethod yX4_read ∈ wAll := List.mem_filter.mpr ⟨List.mem_of_getElem? (i := 906) (by decide +kernel), by decide +kernel⟩
theorem mw_640 : Cond.selects RX4 yX4_read yX4_read ∈ wAll := List.mem_filter.mpr ⟨List.mem_of_getElem? (i := 907) (by decide +kernel), by decide +kernel⟩
theorem mw_641 : Cond.methodLink RL 36 yX3_list ∈ wAll := List.mem_filter.mpr ⟨List.mem_of_getElem? (i := 381) (by decide +kernel), by decide +kernel⟩
theorem mw_642 : Cond.instanceMethod yX3_list ∈ wAll := List.mem_filter.mpr ⟨List.mem_of_getElem? (i := 382) (by decide +kernel), by decide +kernel⟩
theorem mw_643 : Cond.selects RX3 yX3_list yX3_list ∈ wAll := List.mem_filter.mpr ⟨List.mem_of_getElem? (i := 383) (by decide +kernel), by decide +kernel⟩
theorem mw_644 : Cond.methodLink RL 39 yX4_list ∈ wAll := List.mem_filter.mpr ⟨List.mem_of_getElem? (i := 728) (by decide +kernel), by decide +kernel⟩
theorem mw_645 : Cond.instanceMethod yX4_list ∈ wAll := List.mem_filter.mpr ⟨List.mem_of_getElem? (i := 729) (by decide +kernel), by decide +kernel⟩
theorem mw_646 : Cond.selects RX4 yX4_list yX4_list ∈ wAll := List.mem_filter.mpr ⟨List.mem_of_getElem? (i := 730) (by decide +kernel), by decide +kernel⟩
theorem mw_647 : Cond.methodLink RL 40 yX3_follow ∈ wAll := List.mem_filter.mpr ⟨List.mem_of_getElem? (i := 397) (by decide +kernel), by decide +kernel⟩
theorem mw_648 : Cond.instanceMethod yX3_follow ∈ wAll := List.mem_filter.mpr ⟨List.mem_of_getElem? (i := 398) (by decide +kernel), by decide +kernel⟩
theorem mw_649 : Cond.selects RX3 yX3_follow yX3_follow ∈ wAll := List.mem_filter.mpr ⟨List.mem_of_getElem? (i := 399) (by decide +kernel), by decide +kernel⟩
theorem mw_650 : Cond.methodLink RL 43 yX4_follow ∈ wAll := List.mem_filter.mpr ⟨List.mem_of_getElem? (i := 744) (by decide +kernel), by decide +kernel⟩
theorem mw_651 : Cond.instanceMethod yX4_follow ∈ wAll := List.mem_filter.mpr ⟨List.mem_of_getElem? (i := 745) (by decide +kernel), by decide +kernel⟩
theorem mw_652 : Cond.selects RX4 yX4_follow yX4_follow ∈ wAll := List.mem_filter.mpr ⟨List.mem_of_getElem? (i := 746) (by decide +kernel), by decide +kernel⟩
theorem mw_653 : Cond.methodLink RL 44 yX3_day ∈ wAll := List.mem_filter.mpr ⟨List.mem_of_getElem? (i := 401) (by decide +kernel), by decide +kernel⟩
theorem mw_654 : Cond.instanceMethod yX3_day ∈ wAll := List.mem_filter.mpr ⟨List.mem_of_getElem? (i := 402) (by decide +kernel), by decide +kernel⟩
theorem mw_655 : Cond.selects RX3 yX3_day yX3_day ∈ wAll := List.mem_filter.mpr ⟨List.mem_of_getElem? (i := 403) (by decide +kernel), by decide +kernel⟩
theorem mw_656 : Cond.methodLink RL 47 yX4_day ∈ wAll := List.mem_filter.mpr ⟨List.mem_of_getElem? (i := 748) (by decide +kernel), by decide +kernel⟩
theorem mw_657 : Cond.instanceMethod yX4_day ∈ wAll := List.mem_filter.mpr ⟨List.mem_of_getElem? (i := 749) (by decide +kernel), by decide +kernel⟩
theorem mw_658 : Cond.selects RX4 yX4_day yX4_day ∈ wAll := List.mem_filter.mpr ⟨List.mem_of_getElem? (i := 750) (by decide +kernel), by decide +kernel⟩
theorem mw_659 : Cond.methodLink RL 48 yX3_undo ∈ wAll := List.mem_filter.mpr ⟨List.mem_of_getElem? (i := 443) (by decide +kernel), by decide +kernel⟩
theorem mw_660 : Cond.instanceMethod yX3_undo ∈ wAll := List.mem_filter.mpr ⟨List.mem_of_getElem? (i := 444) (by decide +kernel), by decide +kernel⟩
theorem mw_661 : Cond.selects RX3 yX3_undo yX3_undo ∈ wAll := List.mem_filter.mpr ⟨List.mem_of_getElem? (i := 445) (by decide +kernel), by decide +kernel⟩
theorem mw_662 : Cond.methodLink RL 51 yX4_undo ∈ wAll := List.mem_filter.mpr ⟨List.mem_of_getElem? (i := 788) (by decide +kernel), by decide +kernel⟩
theorem mw_663 : Cond.instanceMethod yX4_undo ∈ wAll := List.mem_filter.mpr ⟨List.mem_of_getElem? (i := 789) (by decide +kernel), by decide +kernel⟩
theorem mw_664 : Cond.selects RX4 yX4_undo yX4_undo ∈ wAll := List.mem_filter.mpr ⟨List.mem_of_getElem? (i := 790) (by decide +kernel), by decide +kernel⟩
theorem mw_665 : Cond.methodLink RL 52 yX3_of ∈ wAll := List.mem_filter.mpr ⟨List.mem_of_getElem? (i := 455) (by decide +kernel), by decide +kernel⟩
theorem mw_666 : Cond.instanceMethod yX3_of ∈ wAll := List.mem_filter.mpr ⟨List.mem_of_getElem? (i := 456) (by decide +kernel), by decide +kernel⟩
theorem mw_667 : Cond.selects RX3 yX3_of yX3_of ∈ wAll := List.mem_filter.mpr ⟨List.mem_of_getElem? (i := 457) (by decide +kernel), by decide +kernel⟩
theorem mw_668 : Cond.methodLink RL 55 yX4_of ∈ wAll := List.mem_filter.mpr ⟨List.mem_of_getElem? (i := 796) (by decide +kernel), by decide +kernel⟩
theorem mw_669 : Cond.instanceMethod yX4_of ∈ wAll := List.mem_filter.mpr ⟨List.mem_of_getElem? (i := 797) (by decide +kernel), by decide +kernel⟩
theorem mw_670 : Cond.selects RX4 yX4_of yX4_of ∈ wAll := List.mem_filter.mpr ⟨List.mem_of_getElem? (i := 798) (by decide +kernel), by decide +kernel⟩
theorem mw_671 : Cond.methodLink RL 56 yX3_then ∈ wAll := List.mem_filter.mpr ⟨List.mem_of_getElem? (i := 468) (by decide +kernel), by decide +kernel⟩
theorem mw_672 : Cond.instanceMethod yX3_then ∈ wAll := List.mem_filter.mpr ⟨List.mem_of_getElem? (i := 469) (by decide +kernel), by decide +kernel⟩
theorem mw_673 : Cond.selects RX3 yX3_then yX3_then ∈ wAll := List.mem_filter.mpr ⟨List.mem_of_getElem? (i := 470) (by decide +kernel), by decide +kernel⟩
theorem mw_674 : Cond.methodLink RL 60 yX4_then ∈ wAll := List.mem_filter.mpr ⟨List.mem_of_getElem? (i := 801) (by decide +kernel), by decide +kernel⟩
theorem mw_675 : Cond.instanceMethod yX4_then ∈ wAll := List.mem_filter.mpr ⟨List.mem_of_getElem? (i := 802) (by decide +kernel), by decide +kernel⟩
theorem mw_676 : Cond.selects RX4 yX4_then yX4_then ∈ wAll := List.mem_filter.mpr ⟨List.mem_of_getElem? (i := 803) (by decide +kernel), by decide +kernel⟩
theorem mw_677 : Cond.methodLink RL 61 yX3_when ∈ wAll := List.mem_filter.mpr ⟨List.mem_of_getElem? (i := 473) (by decide +kernel), by decide +kernel⟩
theorem mw_678 : Cond.instanceMethod yX3_when ∈ wAll := List.mem_filter.mpr ⟨List.mem_of_getElem? (i := 474) (by decide +kernel), by decide +kernel⟩
theorem mw_679 : Cond.selects RX3 yX3_when yX3_when ∈ wAll := List.mem_filter.mpr ⟨List.mem_of_getElem? (i := 475) (by decide +kernel), by decide +kernel⟩
theorem mw_680 : Cond.methodLink RL 64 yX4_when ∈ wAll := List.mem_filter.mpr ⟨List.mem_of_getElem? (i := 805) (by decide +kernel), by decide +kernel⟩
theorem mw_681 : Cond.instanceMethod yX4_when ∈ wAll := List.mem_filter.mpr ⟨List.mem_of_getElem? (i := 806) (by decide +kernel), by decide +kernel⟩
theorem mw_682 : Cond.selects RX4 yX4_when yX4_when ∈ wAll := List.mem_filter.mpr ⟨List.mem_of_getElem? (i := 807) (by decide +kernel), by decide +kernel⟩
theorem mw_683 : Cond.methodLink RL 65 yX3_lack ∈ wAll := List.mem_filter.mpr ⟨List.mem_of_getElem? (i := 477) (by decide +kernel), by decide +kernel⟩
theorem mw_684 : Cond.instanceMethod yX3_lack ∈ wAll := List.mem_filter.mpr ⟨List.mem_of_getElem? (i := 478) (by decide +kernel), by decide +kernel⟩
theorem mw_685 : Cond.selects RX3 yX3_lack yX3_lack ∈ wAll := List.mem_filter.mpr ⟨List.mem_of_getElem? (i := 479) (by decide +kernel), by decide +kernel⟩
theorem mw_686 : Cond.methodLink RL 68 yX4_lack ∈ wAll := List.mem_filter.mpr ⟨List.mem_of_getElem? (i := 809) (by decide +kernel), by decide +kernel⟩
theorem mw_687 : Cond.instanceMethod yX4_lack ∈ wAll := List.mem_filter.mpr ⟨List.mem_of_getElem? (i := 810) (by decide +kernel), by decide +kernel⟩
theorem mw_688 : Cond.selects RX4 yX4_lack yX4_lack ∈ wAll := List.mem_filter.mpr ⟨List.mem_of_getElem? (i := 811) (by decide +kernel), by decide +kernel⟩
theorem mw_689 : Cond.methodLink RL 69 yX3_comesTrue ∈ wAll := List.mem_filter.mpr ⟨List.mem_of_getElem? (i := 490) (by decide +kernel), by decide +kernel⟩
theorem mw_690 : Cond.instanceMethod yX3_comesTrue ∈ wAll := List.mem_filter.mpr ⟨List.mem_of_getElem? (i := 491) (by decide +kernel), by decide +kernel⟩
theorem mw_691 : Cond.selects RX3 yX3_comesTrue yX3_comesTrue ∈ wAll := List.mem_filter.mpr ⟨List.mem_of_getElem? (i := 492) (by decide +kernel), by decide +kernel⟩
theorem mw_692 : Cond.methodLink RL 72 yX4_comesTrue ∈ wAll := List.mem_filter.mpr ⟨List.mem_of_getElem? (i := 817) (by decide +kernel), by decide +kernel⟩
theorem mw_693 : Cond.instanceMethod yX4_comesTrue ∈ wAll := List.mem_filter.mpr ⟨List.mem_of_getElem? (i := 818) (by decide +kernel), by decide +kernel⟩
theorem mw_694 : Cond.selects RX4 yX4_comesTrue yX4_comesTrue ∈ wAll := List.mem_filter.mpr ⟨List.mem_of_getElem? (i := 819) (by decide +kernel), by decide +kernel⟩
theorem mw_695 : Cond.methodLink RL 73 yX3_readings ∈ wAll := List.mem_filter.mpr ⟨List.mem_of_getElem? (i := 494) (by decide +kernel), by decide +kernel⟩
theorem mw_696 : Cond.instanceMethod yX3_readings ∈ wAll := List.mem_filter.mpr ⟨List.mem_of_getElem? (i := 495) (by decide +kernel), by decide +kernel⟩
theorem mw_697 : Cond.selects RX3 yX3_readings yX3_readings ∈ wAll := List.mem_filter.mpr ⟨List.mem_of_getElem? (i := 496) (by decide +kernel), by decide +kernel⟩
theorem mw_698 : Cond.methodLink RL 76 yX4_readings ∈ wAll := List.mem_filter.mpr ⟨List.mem_of_getElem? (i := 821) (by decide +kernel), by decide +kernel⟩
theorem mw_699 : Cond.instanceMethod yX4_readings ∈ wAll := List.mem_filter.mpr ⟨List.mem_of_getElem? (i := 822) (by decide +kernel), by decide +kernel⟩
theorem mw_700 : Cond.selects RX4 yX4_readings yX4_readings ∈ wAll := List.mem_filter.mpr ⟨List.mem_of_getElem? (i := 823) (by decide +kernel), by decide +kernel⟩
theorem mw_701 : Cond.methodLink RL 77 yX3_roster ∈ wAll := List.mem_filter.mpr ⟨List.mem_of_getElem? (i := 498) (by decide +kernel), by decide +kernel⟩
theorem mw_702 : Cond.instanceMethod yX3_roster ∈ wAll := List.mem_filter.mpr ⟨List.mem_of_getElem? (i := 499) (by decide +kernel), by decide +kernel⟩
theorem mw_703 : Cond.selects RX3 yX3_roster yX3_roster ∈ wAll := List.mem_filter.mpr ⟨List.mem_of_getElem? (i := 500) (by decide +kernel), by decide +kernel⟩
theorem mw_704 : Cond.methodLink RL 80 yX4_roster ∈ wAll := List.mem_filter.mpr ⟨List.mem_of_getElem? (i := 825) (by decide +kernel), by decide +kernel⟩
theorem mw_705 : Cond.instanceMethod yX4_roster ∈ wAll := List.mem_filter.mpr ⟨List.mem_of_getElem? (i := 826) (by decide +kernel), by decide +kernel⟩
theorem mw_706 : Cond.selects RX4 yX4_roster yX4_roster ∈ wAll := List.mem_filter.mpr ⟨List.mem_of_getElem? (i := 827) (by decide +kernel), by decide +kernel⟩
theorem mw_707 : Cond.methodLink RL 81 yX3_off ∈ wAll := List.mem_filter.mpr ⟨List.mem_of_getElem? (i := 503) (by decide +kernel), by decide +kernel⟩
theorem mw_708 : Cond.instanceMethod yX3_off ∈ wAll := List.mem_filter.mpr ⟨List.mem_of_getElem? (i := 504) (by decide +kernel), by decide +kernel⟩
theorem mw_709 : Cond.selects RX3 yX3_off yX3_off ∈ wAll := List.mem_filter.mpr ⟨List.mem_of_getElem? (i := 505) (by decide +kernel), by decide +kernel⟩
theorem mw_710 : Cond.methodLink RL 84 yX4_off ∈ wAll := List.mem_filter.mpr ⟨List.mem_of_getElem? (i := 830) (by decide +kernel), by decide +kernel⟩
theorem mw_711 : Cond.instanceMethod yX4_off ∈ wAll := List.mem_filter.mpr ⟨List.mem_of_getElem? (i := 831) (by decide +kernel), by decide +kernel⟩
theorem mw_712 : Cond.selects RX4 yX4_off yX4_off ∈ wAll := List.mem_filter.mpr ⟨List.mem_of_getElem? (i := 832) (by decide +kernel), by decide +kernel⟩
theorem mw_713 : Cond.methodLink RL 85 yX3_rests ∈ wAll := List.mem_filter.mpr ⟨List.mem_of_getElem? (i := 515) (by decide +kernel), by decide +kernel⟩
theorem mw_714 : Cond.instanceMethod yX3_rests ∈ wAll := List.mem_filter.mpr ⟨List.mem_of_getElem? (i := 516) (by decide +kernel), by decide +kernel⟩
theorem mw_715 : Cond.selects RX3 yX3_rests yX3_rests ∈ wAll := List.mem_filter.mpr ⟨List.mem_of_getElem? (i := 517) (by decide +kernel), by decide +kernel⟩
theorem mw_716 : Cond.methodLink RL 88 yX4_rests ∈ wAll := List.mem_filter.mpr ⟨List.mem_of_getElem? (i := 839) (by decide +kernel), by decide +kernel⟩
theorem mw_717 : Cond.instanceMethod yX4_rests ∈ wAll := List.mem_filter.mpr ⟨List.mem_of_getElem? (i := 840) (by decide +kernel), by decide +kernel⟩
theorem mw_718 : Cond.selects RX4 yX4_rests yX4_rests ∈ wAll := List.mem_filter.mpr ⟨List.mem_of_getElem? (i := 841) (by decide +kernel), by decide +kernel⟩
theorem mw_719 : Cond.methodLink RL 89 yX3_note ∈ wAll := List.mem_filter.mpr ⟨List.mem_of_getElem? (i := 535) (by decide +kernel), by decide +kernel⟩
theorem mw_720 : Cond.instanceMethod yX3_note ∈ wAll := List.mem_filter.mpr ⟨List.mem_of_getElem? (i := 536) (by decide +kernel), by decide +kernel⟩
theorem mw_721 : Cond.selects RX3 yX3_note yX3_note ∈ wAll := List.mem_filter.mpr ⟨List.mem_of_getElem? (i := 537) (by decide +kernel), by decide +kernel⟩
theorem mw_722 : Cond.methodLink RL 93 yX4_note ∈ wAll := List.mem_filter.mpr ⟨List.mem_of_getElem? (i := 843) (by decide +kernel), by decide +kernel⟩
theorem mw_723 : Cond.instanceMethod yX4_note ∈ wAll := List.mem_filter.mpr ⟨List.mem_of_getElem? (i := 844) (by decide +kernel), by decide +kernel⟩
theorem mw_724 : Cond.selects RX4 yX4_note yX4_note ∈ wAll := List.mem_filter.mpr ⟨List.mem_of_getElem? (i := 845) (by decide +kernel), by decide +kernel⟩
theorem mw_725 : Cond.methodLink RL 94 yX3_forget ∈ wAll := List.mem_filter.mpr ⟨List.mem_of_getElem? (i := 543) (by decide +kernel), by decide +kernel⟩
theorem mw_726 : Cond.instanceMethod yX3_forget ∈ wAll := List.mem_filter.mpr ⟨List.mem_of_getElem? (i := 544) (by decide +kernel), by decide +kernel⟩
theorem mw_727 : Cond.selects RX3 yX3_forget yX3_forget ∈ wAll := List.mem_filter.mpr ⟨List.mem_of_getElem? (i := 545) (by decide +kernel), by decide +kernel⟩
theorem mw_728 : Cond.methodLink RL 97 yX4_forget ∈ wAll := List.mem_filter.mpr ⟨List.mem_of_getElem? (i := 848) (by decide +kernel), by decide +kernel⟩
theorem mw_729 : Cond.instanceMethod yX4_forget ∈ wAll := List.mem_filter.mpr ⟨List.mem_of_getElem? (i := 849) (by decide +kernel), by decide +kernel⟩
theorem mw_730 : Cond.selects RX4 yX4_forget yX4_forget ∈ wAll := List.mem_filter.mpr ⟨List.mem_of_getElem? (i := 850) (by decide +kernel), by decide +kernel⟩
theorem mw_731 : Cond.methodLink RL 98 yX3_is ∈ wAll := List.mem_filter.mpr ⟨List.mem_of_getElem? (i := 547) (by decide +kernel), by decide +kernel⟩
theorem mw_732 : Cond.instanceMethod yX3_is ∈ wAll := List.mem_filter.mpr ⟨List.mem_of_getElem? (i := 548) (by decide +kernel), by decide +kernel⟩
theorem mw_733 : Cond.selects RX3 yX3_is yX3_is ∈ wAll := List.mem_filter.mpr ⟨List.mem_of_getElem? (i := 549) (by decide +kernel), by decide +kernel⟩
theorem mw_734 : Cond.methodLink RL 101 yX4_is ∈ wAll := List.mem_filter.mpr ⟨List.mem_of_getElem? (i := 852) (by decide +kernel), by decide +kernel⟩
theorem mw_735 : Cond.instanceMethod yX4_is ∈ wAll := List.mem_filter.mpr ⟨List.mem_of_getElem? (i := 853) (by decide +kernel), by decide +kernel⟩
theorem mw_736 : Cond.selects RX4 yX4_is yX4_is ∈ wAll := List.mem_filter.mpr ⟨List.mem_of_getElem? (i := 854) (by decide +kernel), by decide +kernel⟩
theorem mw_737 : Cond.methodLink RL 102 yX3_look ∈ wAll := List.mem_filter.mpr ⟨List.mem_of_getElem? (i := 560) (by decide +kernel), by decide +kernel⟩
theorem mw_738 : Cond.instanceMethod yX3_look ∈ wAll := List.mem_filter.mpr ⟨List.mem_of_getElem? (i := 561) (by decide +kernel), by decide +kernel⟩
theorem mw_739 : Cond.selects RX3 yX3_look yX3_look ∈ wAll := List.mem_filter.mpr ⟨List.mem_of_getElem? (i := 562) (by decide +kernel), by decide +kernel⟩
theorem mw_740 : Cond.methodLink RL 105 yX4_look ∈ wAll := List.mem_filter.mpr ⟨List.mem_of_getElem? (i := 860) (by decide +kernel), by decide +kernel⟩
theorem mw_741 : Cond.instanceMethod yX4_look ∈ wAll := List.mem_filter.mpr ⟨List.mem_of_getElem? (i := 861) (by decide +kernel), by decide +kernel⟩
theorem mw_742 : Cond.selects RX4 yX4_look yX4_look ∈ wAll := List.mem_filter.mpr ⟨List.mem_of_getElem? (i := 862) (by decide +kernel), by decide +kernel⟩
theorem mw_743 : Cond.methodLink RL 106 yX3_source ∈ wAll := List.mem_filter.mpr ⟨List.mem_of_getElem? (i := 567) (by decide +kernel), by decide +kernel⟩
theorem mw_744 : Cond.instanceMethod yX3_source ∈ wAll := List.mem_filter.mpr ⟨List.mem_of_getElem? (i := 568) (by decide +kernel), by decide +kernel⟩
theorem mw_745 : Cond.selects RX3 yX3_source yX3_source ∈ wAll := List.mem_filter.mpr ⟨List.mem_of_getElem? (i := 569) (by decide +kernel), by decide +kernel⟩
theorem mw_746 : Cond.methodLink RL 109 yX4_source ∈ wAll := List.mem_filter.mpr ⟨List.mem_of_getElem? (i := 865) (by decide +kernel), by decide +kernel⟩
theorem mw_747 : Cond.instanceMethod yX4_source ∈ wAll := List.mem_filter.mpr ⟨List.mem_of_getElem? (i := 866) (by decide +kernel), by decide +kernel⟩
theorem mw_748 : Cond.selects RX4 yX4_source yX4_source ∈ wAll := List.mem_filter.mpr ⟨List.mem_of_getElem? (i := 867) (by decide +kernel), by decide +kernel⟩
theorem mw_749 : Cond.methodLink RL 110 yX3_odds ∈ wAll := List.mem_filter.mpr ⟨List.mem_of_getElem? (i := 579) (by decide +kernel), by decide +kernel⟩
theorem mw_750 : Cond.instanceMethod yX3_odds ∈ wAll := List.mem_filter.mpr ⟨List.mem_of_getElem? (i := 580) (by decide +kernel), by decide +kernel⟩
theorem mw_751 : Cond.selects RX3 yX3_odds yX3_odds ∈ wAll := List.mem_filter.mpr ⟨List.mem_of_getElem? (i := 581) (by decide +kernel), by decide +kernel⟩
theorem mw_752 : Cond.methodLink RL 113 yX4_odds ∈ wAll := List.mem_filter.mpr ⟨List.mem_of_getElem? (i := 877) (by decide +kernel), by decide +kernel⟩
theorem mw_753 : Cond.instanceMethod yX4_odds ∈ wAll := List.mem_filter.mpr ⟨List.mem_of_getElem? (i := 878) (by decide +kernel), by decide +kernel⟩
theorem mw_754 : Cond.selects RX4 yX4_odds yX4_odds ∈ wAll := List.mem_filter.mpr ⟨List.mem_of_getElem? (i := 879) (by decide +kernel), by decide +kernel⟩
theorem mw_755 : Cond.methodLink RL 114 yX3_years ∈ wAll := List.mem_filter.mpr ⟨List.mem_of_getElem? (i := 587) (by decide +kernel), by decide +kernel⟩
theorem mw_756 : Cond.instanceMethod yX3_years ∈ wAll := List.mem_filter.mpr ⟨List.mem_of_getElem? (i := 588) (by decide +kernel), by decide +kernel⟩
theorem mw_757 : Cond.selects RX3 yX3_years yX3_years ∈ wAll := List.mem_filter.mpr ⟨List.mem_of_getElem? (i := 589) (by decide +kernel), by decide +kernel⟩
theorem mw_758 : Cond.methodLink RL 117 yX4_years ∈ wAll := List.mem_filter.mpr ⟨List.mem_of_getElem? (i := 886) (by decide +kernel), by decide +kernel⟩
theorem mw_759 : Cond.instanceMethod yX4_years ∈ wAll := List.mem_filter.mpr ⟨List.mem_of_getElem? (i := 887) (by decide +kernel), by decide +kernel⟩
theorem mw_760 : Cond.selects RX4 yX4_years yX4_years ∈ wAll := List.mem_filter.mpr ⟨List.mem_of_getElem? (i := 888) (by decide +kernel), by decide +kernel⟩
theorem mw_761 : Cond.methodLink RL 118 yX3_part ∈ wAll := List.mem_filter.mpr ⟨List.mem_of_getElem? (i := 597) (by decide +kernel), by decide +kernel⟩
theorem mw_762 : Cond.instanceMethod yX3_part ∈ wAll := List.mem_filter.mpr ⟨List.mem_of_getElem? (i := 598) (by decide +kernel), by decide +kernel⟩
theorem mw_763 : Cond.selects RX3 yX3_part yX3_part ∈ wAll := List.mem_filter.mpr ⟨List.mem_of_getElem? (i := 599) (by decide +kernel), by decide +kernel⟩
theorem mw_764 : Cond.methodLink RL 122 yX4_part ∈ wAll := List.mem_filter.mpr ⟨List.mem_of_getElem? (i := 951) (by decide +kernel), by decide +kernel⟩
theorem mw_765 : Cond.instanceMethod yX4_part ∈ wAll := List.mem_filter.mpr ⟨List.mem_of_getElem? (i := 952) (by decide +kernel), by decide +kernel⟩
theorem mw_766 : Cond.selects RX4 yX4_part yX4_part ∈ wAll := List.mem_filter.mpr ⟨List.mem_of_getElem? (i := 953) (by decide +kernel), by decide +kernel⟩
theorem mw_767 : Cond.methodLink RL 123 yX3_image ∈ wAll := List.mem_filter.mpr ⟨List.mem_of_getElem? (i := 601) (by decide +kernel), by decide +kernel⟩
theorem mw_768 : Cond.instanceMethod yX3_image ∈ wAll := List.mem_filter.mpr ⟨List.mem_of_getElem? (i := 602) (by decide +kernel), by decide +kernel⟩
theorem mw_769 : Cond.selects RX3 yX3_image yX3_image ∈ wAll := List.mem_filter.mpr ⟨List.mem_of_getElem? (i := 603) (by decide +kernel), by decide +kernel⟩
theorem mw_770 : Cond.methodLink RL 126 yX4_image ∈ wAll := List.mem_filter.mpr ⟨List.mem_of_getElem? (i := 955) (by decide +kernel), by decide +kernel⟩
theorem mw_771 : Cond.instanceMethod yX4_image ∈ wAll := List.mem_filter.mpr ⟨List.mem_of_getElem? (i := 956) (by decide +kernel), by decide +kernel⟩
theorem mw_772 : Cond.selects RX4 yX4_image yX4_image ∈ wAll := List.mem_filter.mpr ⟨List.mem_of_getElem? (i := 957) (by decide +kernel), by decide +kernel⟩
theorem mw_773 : Cond.methodLink RL 127 yX3_from ∈ wAll := List.mem_filter.mpr ⟨List.mem_of_getElem? (i := 605) (by decide +kernel), by decide +kernel⟩
theorem mw_774 : Cond.instanceMethod yX3_from ∈ wAll := List.mem_filter.mpr ⟨List.mem_of_getElem? (i := 606) (by decide +kernel), by decide +kernel⟩
theorem mw_775 : Cond.selects RX3 yX3_from yX3_from ∈ wAll := List.mem_filter.mpr ⟨List.mem_of_getElem? (i := 607) (by decide +kernel), by decide +kernel⟩
theorem mw_776 : Cond.methodLink RL 130 yX4_from ∈ wAll := List.mem_filter.mpr ⟨List.mem_of_getElem? (i := 959) (by decide +kernel), by decide +kernel⟩
theorem mw_777 : Cond.instanceMethod yX4_from ∈ wAll := List.mem_filter.mpr ⟨List.mem_of_getElem? (i := 960) (by decide +kernel), by decide +kernel⟩
theorem mw_778 : Cond.selects RX4 yX4_from yX4_from ∈ wAll := List.mem_filter.mpr ⟨List.mem_of_getElem? (i := 961) (by decide +kernel), by decide +kernel⟩
theorem mw_779 : Cond.methodLink RL 131 yX3_status ∈ wAll := List.mem_filter.mpr ⟨List.mem_of_getElem? (i := 609) (by decide +kernel), by decide +kernel⟩
theorem mw_780 : Cond.instanceMethod yX3_status ∈ wAll := List.mem_filter.mpr ⟨List.mem_of_getElem? (i := 610) (by decide +kernel), by decide +kernel⟩
theorem mw_781 : Cond.selects RX3 yX3_status yX3_status ∈ wAll := List.mem_filter.mpr ⟨List.mem_of_getElem? (i := 611) (by decide +kernel), by decide +kernel⟩
theorem mw_782 : Cond.methodLink RL 134 yX4_status ∈ wAll := List.mem_filter.mpr ⟨List.mem_of_getElem? (i := 963) (by decide +kernel), by decide +kernel⟩
theorem mw_783 : Cond.instanceMethod yX4_status ∈ wAll := List.mem_filter.mpr ⟨List.mem_of_getElem? (i := 964) (by decide +kernel), by decide +kernel⟩
theorem mw_784 : Cond.selects RX4 yX4_status yX4_status ∈ wAll := List.mem_filter.mpr ⟨List.mem_of_getElem? (i := 965) (by decide +kernel), by decide +kernel⟩
theorem mw_785 : Cond.methodLink RL 135 yX3_count ∈ wAll := List.mem_filter.mpr ⟨List.mem_of_getElem? (i := 613) (by decide +kernel), by decide +kernel⟩
theorem mw_786 : Cond.instanceMethod yX3_count ∈ wAll := List.mem_filter.mpr ⟨List.mem_of_getElem? (i := 614) (by decide +kernel), by decide +kernel⟩
theorem mw_787 : Cond.selects RX3 yX3_count yX3_count ∈ wAll := List.mem_filter.mpr ⟨List.mem_of_getElem? (i := 615) (by decide +kernel), by decide +kernel⟩
theorem mw_788 : Cond.methodLink RL 138 yX4_count ∈ wAll := List.mem_filter.mpr ⟨List.mem_of_getElem? (i := 967) (by decide +kernel), by decide +kernel⟩
theorem mw_789 : Cond.instanceMethod yX4_count ∈ wAll := List.mem_filter.mpr ⟨List.mem_of_getElem? (i := 968) (by decide +kernel), by decide +kernel⟩
theorem mw_790 : Cond.selects RX4 yX4_count yX4_count ∈ wAll := List.mem_filter.mpr ⟨List.mem_of_getElem? (i := 969) (by decide +kernel), by decide +kernel⟩
theorem mw_791 : Cond.methodLink RL 139 yX3_digest ∈ wAll := List.mem_filter.mpr ⟨List.mem_of_getElem? (i := 621) (by decide +kernel), by decide +kernel⟩
theorem mw_792 : Cond.instanceMethod yX3_digest ∈ wAll := List.mem_filter.mpr ⟨List.mem_of_getElem? (i := 622) (by decide +kernel), by decide +kernel⟩
theorem mw_793 : Cond.selects RX3 yX3_digest yX3_digest ∈ wAll := List.mem_filter.mpr ⟨List.mem_of_getElem? (i := 623) (by decide +kernel), by decide +kernel⟩
theorem mw_794 : Cond.methodLink RL 143 yX4_digest ∈ wAll := List.mem_filter.mpr ⟨List.mem_of_getElem? (i := 976) (by decide +kernel), by decide +kernel⟩
theorem mw_795 : Cond.instanceMethod yX4_digest ∈ wAll := List.mem_filter.mpr ⟨List.mem_of_getElem? (i := 977) (by decide +kernel), by decide +kernel⟩
theorem mw_796 : Cond.selects RX4 yX4_digest yX4_digest ∈ wAll := List.mem_filter.mpr ⟨List.mem_of_getElem? (i := 978) (by decide +kernel), by decide +kernel⟩
theorem mwF_0 : ∀ w ∈ u_ws RX0 TX0 6, w ∈ wAll := by decide +kernel
theorem mwF_1 : ∀ w ∈ u_ws RX1 TX1 12, w ∈ wAll := by decide +kernel
theorem mwF_2 : ∀ w ∈ u_ws RX2 TX2 6, w ∈ wAll := by decide +kernel
theorem mwF_3 : ∀ w ∈ u_ws RX3 TX3 11, w ∈ wAll := by decide +kernel
theorem mwF_4 : ∀ w ∈ u_ws RX4 TX4 21, w ∈ wAll := by decide +kernel
