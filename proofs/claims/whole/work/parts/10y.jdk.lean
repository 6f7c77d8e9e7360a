/-! printed by wip/whole/gen/jdk.py: words of the JDK's members -/
theorem zj_ini_String : (.initialized "java/lang/String" : Cond) ∈ zTs := List.mem_filter.mpr ⟨zin_1 _ (List.mem_of_getElem? (i := 14) (by decide +kernel)), rfl⟩
theorem zj_ini_StringLatin1 : (.initialized "java/lang/StringLatin1" : Cond) ∈ zTs := List.mem_filter.mpr ⟨zin_1 _ (List.mem_of_getElem? (i := 15) (by decide +kernel)), rfl⟩
theorem zj_ini_Math : (.initialized "java/lang/Math" : Cond) ∈ zTs := List.mem_filter.mpr ⟨zin_1 _ (List.mem_of_getElem? (i := 18) (by decide +kernel)), rfl⟩
theorem zj_ini_Pre : (.initialized "jdk/internal/util/Preconditions" : Cond) ∈ zTs := List.mem_filter.mpr ⟨zin_1 _ (List.mem_of_getElem? (i := 16) (by decide +kernel)), rfl⟩
theorem zj_oinst : (.instanceMethod objectInit : Cond) ∈ zTs := List.mem_filter.mpr ⟨zin_1 _ (List.mem_of_getElem? (i := 26) (by decide +kernel)), rfl⟩
theorem zj_ocode : (.code objectInit ⟨#[0xb1]⟩ 1 none : Cond) ∈ zTs := List.mem_filter.mpr ⟨zin_1 _ (List.mem_of_getElem? (i := 27) (rfl)), rfl⟩
theorem zj_st_max : (.static Lib.Math.max.name : Cond) ∈ zTs := List.mem_filter.mpr ⟨zin_4 _ (List.mem_of_getElem? (i := 180) (by decide +kernel)), rfl⟩
theorem zj_cd_max : (.code Lib.Math.max.name Lib.Math.max.code 2 (some .int) : Cond) ∈ zTs := List.mem_filter.mpr ⟨zin_4 _ (List.mem_of_getElem? (i := 181) (rfl)), rfl⟩
theorem zj_st_min : (.static Lib.Math.min.name : Cond) ∈ zTs := List.mem_filter.mpr ⟨zin_5 _ (List.mem_of_getElem? (i := 2) (by decide +kernel)), rfl⟩
theorem zj_cd_min : (.code Lib.Math.min.name Lib.Math.min.code 2 (some .int) : Cond) ∈ zTs := List.mem_filter.mpr ⟨zin_5 _ (List.mem_of_getElem? (i := 3) (rfl)), rfl⟩
theorem zj_st_abs : (.static Lib.Math.abs.name : Cond) ∈ zTs := List.mem_filter.mpr ⟨zin_4 _ (List.mem_of_getElem? (i := 218) (by decide +kernel)), rfl⟩
theorem zj_cd_abs : (.code Lib.Math.abs.name Lib.Math.abs.code 1 (some .int) : Cond) ∈ zTs := List.mem_filter.mpr ⟨zin_4 _ (List.mem_of_getElem? (i := 219) (rfl)), rfl⟩
theorem zj_cd_length : (.code yJ0_length_8abf5 cJ0_length_8abf5 1 (some .int) : Cond) ∈ zTs := List.mem_filter.mpr ⟨zin_3 _ (List.mem_of_getElem? (i := 113) (rfl)), rfl⟩
theorem zj_in_length : (.instanceMethod yJ0_length_8abf5 : Cond) ∈ zTs := List.mem_filter.mpr ⟨zin_3 _ (List.mem_of_getElem? (i := 111) (by decide +kernel)), rfl⟩
theorem zj_se_length : (.selects "java/lang/String" yJ0_length_8abf5 yJ0_length_8abf5 : Cond) ∈ zTs := List.mem_filter.mpr ⟨zin_3 _ (List.mem_of_getElem? (i := 112) (by decide +kernel)), rfl⟩
theorem zj_cd_coder : (.code yJ0_coder_7d493 cJ0_coder_7d493 1 (some .byte) : Cond) ∈ zTs := List.mem_filter.mpr ⟨zin_3 _ (List.mem_of_getElem? (i := 117) (rfl)), rfl⟩
theorem zj_in_coder : (.instanceMethod yJ0_coder_7d493 : Cond) ∈ zTs := List.mem_filter.mpr ⟨zin_3 _ (List.mem_of_getElem? (i := 115) (by decide +kernel)), rfl⟩
theorem zj_se_coder : (.selects "java/lang/String" yJ0_coder_7d493 yJ0_coder_7d493 : Cond) ∈ zTs := List.mem_filter.mpr ⟨zin_3 _ (List.mem_of_getElem? (i := 116) (by decide +kernel)), rfl⟩
theorem zj_cd_charAt : (.code yJ0_charAt_5068e cJ0_charAt_5068e 2 (some .char) : Cond) ∈ zTs := List.mem_filter.mpr ⟨zin_3 _ (List.mem_of_getElem? (i := 123) (rfl)), rfl⟩
theorem zj_in_charAt : (.instanceMethod yJ0_charAt_5068e : Cond) ∈ zTs := List.mem_filter.mpr ⟨zin_3 _ (List.mem_of_getElem? (i := 121) (by decide +kernel)), rfl⟩
theorem zj_se_charAt : (.selects "java/lang/String" yJ0_charAt_5068e yJ0_charAt_5068e : Cond) ∈ zTs := List.mem_filter.mpr ⟨zin_3 _ (List.mem_of_getElem? (i := 122) (by decide +kernel)), rfl⟩
theorem zj_cd_isLatin1 : (.code yJ0_isLatin1_aae02 cJ0_isLatin1_aae02 1 (some .boolean) : Cond) ∈ zTs := List.mem_filter.mpr ⟨zin_3 _ (List.mem_of_getElem? (i := 127) (rfl)), rfl⟩
theorem zj_in_isLatin1 : (.instanceMethod yJ0_isLatin1_aae02 : Cond) ∈ zTs := List.mem_filter.mpr ⟨zin_3 _ (List.mem_of_getElem? (i := 125) (by decide +kernel)), rfl⟩
theorem zj_se_isLatin1 : (.selects "java/lang/String" yJ0_isLatin1_aae02 yJ0_isLatin1_aae02 : Cond) ∈ zTs := List.mem_filter.mpr ⟨zin_3 _ (List.mem_of_getElem? (i := 126) (by decide +kernel)), rfl⟩
theorem zj_cd_lcharAt : (.code yJ1_charAt_3b067 cJ1_charAt_3b067 2 (some .char) : Cond) ∈ zTs := List.mem_filter.mpr ⟨zin_3 _ (List.mem_of_getElem? (i := 130) (rfl)), rfl⟩
theorem zj_st_lcharAt : (.static yJ1_charAt_3b067 : Cond) ∈ zTs := List.mem_filter.mpr ⟨zin_3 _ (List.mem_of_getElem? (i := 129) (by decide +kernel)), rfl⟩
theorem zj_cd_scheck : (.code yJ0_checkIndex_df160 cJ0_checkIndex_df160 2 none : Cond) ∈ zTs := List.mem_filter.mpr ⟨zin_3 _ (List.mem_of_getElem? (i := 133) (rfl)), rfl⟩
theorem zj_st_scheck : (.static yJ0_checkIndex_df160 : Cond) ∈ zTs := List.mem_filter.mpr ⟨zin_3 _ (List.mem_of_getElem? (i := 132) (by decide +kernel)), rfl⟩
theorem zj_cd_pcheck : (.code yJ3_checkIndex_8e157 cJ3_checkIndex_8e157 3 (some .int) : Cond) ∈ zTs := List.mem_filter.mpr ⟨zin_3 _ (List.mem_of_getElem? (i := 138) (rfl)), rfl⟩
theorem zj_st_pcheck : (.static yJ3_checkIndex_8e157 : Cond) ∈ zTs := List.mem_filter.mpr ⟨zin_3 _ (List.mem_of_getElem? (i := 137) (by decide +kernel)), rfl⟩
theorem zj_ln_coder : (.methodLink "java/lang/String" 335 yJ0_coder_7d493 : Cond) ∈ zTs := List.mem_filter.mpr ⟨zin_3 _ (List.mem_of_getElem? (i := 114) (by decide +kernel)), rfl⟩
theorem zj_ln_isLatin1 : (.methodLink "java/lang/String" 492 yJ0_isLatin1_aae02 : Cond) ∈ zTs := List.mem_filter.mpr ⟨zin_3 _ (List.mem_of_getElem? (i := 124) (by decide +kernel)), rfl⟩
theorem zj_ln_lcharAt : (.methodLink "java/lang/String" 495 yJ1_charAt_3b067 : Cond) ∈ zTs := List.mem_filter.mpr ⟨zin_3 _ (List.mem_of_getElem? (i := 128) (by decide +kernel)), rfl⟩
theorem zj_ln_scheck : (.methodLink "java/lang/StringLatin1" 9 yJ0_checkIndex_df160 : Cond) ∈ zTs := List.mem_filter.mpr ⟨zin_3 _ (List.mem_of_getElem? (i := 131) (by decide +kernel)), rfl⟩
theorem zj_ln_pcheck : (.methodLink "java/lang/String" 1059 yJ3_checkIndex_8e157 : Cond) ∈ zTs := List.mem_filter.mpr ⟨zin_3 _ (List.mem_of_getElem? (i := 136) (by decide +kernel)), rfl⟩
theorem zj_fl_compact : (.fieldLink "java/lang/String" 38 "java/lang/String" "COMPACT_STRINGS" "Z" : Cond) ∈ zTs := List.mem_filter.mpr ⟨zin_3 _ (List.mem_of_getElem? (i := 118) (by decide +kernel)), rfl⟩
theorem zj_fl_sioobe : (.fieldLink "java/lang/String" 1053 "jdk/internal/util/Preconditions" "SIOOBE_FORMATTER" "Ljava/util/function/BiFunction;" : Cond) ∈ zTs := List.mem_filter.mpr ⟨zin_3 _ (List.mem_of_getElem? (i := 134) (by decide +kernel)), rfl⟩
theorem zj_fl_value : (.fieldLink "java/lang/String" 9 "java/lang/String" "value" "[B" : Cond) ∈ zTs := List.mem_filter.mpr ⟨zin_9 _ (List.mem_of_getElem? (i := 219) (by decide +kernel)), rfl⟩
theorem zj_fl_scoder : (.fieldLink "java/lang/String" 15 "java/lang/String" "coder" "B" : Cond) ∈ zTs := List.mem_filter.mpr ⟨zin_9 _ (List.mem_of_getElem? (i := 220) (by decide +kernel)), rfl⟩
theorem zj_arr_int : (.arrayClass .int : Cond) ∈ zTs := List.mem_filter.mpr ⟨zin_1 _ (List.mem_of_getElem? (i := 81) (by decide +kernel)), rfl⟩
theorem zj_arr_byte : (.arrayClass .byte : Cond) ∈ zTs := List.mem_filter.mpr ⟨zin_4 _ (List.mem_of_getElem? (i := 40) (by decide +kernel)), rfl⟩
theorem zj_arr_boolean : (.arrayClass .boolean : Cond) ∈ zTs := List.mem_filter.mpr ⟨zin_7 _ (List.mem_of_getElem? (i := 79) (by decide +kernel)), rfl⟩
theorem zj_arr_long : (.arrayClass .long : Cond) ∈ zTs := List.mem_filter.mpr ⟨zin_1 _ (List.mem_of_getElem? (i := 185) (by decide +kernel)), rfl⟩
