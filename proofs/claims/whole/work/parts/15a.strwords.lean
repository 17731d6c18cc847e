theorem qC_J0_coder_7d493 : Cond.code yJ0_coder_7d493 cJ0_coder_7d493 1 (some .byte) ∈ xT := xT_tb (xt_4 (List.mem_of_getElem? (i := 164) rfl)) (by decide +kernel)
theorem qM_J0_335 : Cond.methodLink RJ0 335 yJ0_coder_7d493 ∈ xT := xT_tb (xt_4 (List.mem_of_getElem? (i := 161) (by decide +kernel))) (by decide +kernel)
theorem qI_J0_coder_7d493 : Cond.instanceMethod yJ0_coder_7d493 ∈ xT := xT_tb (xt_4 (List.mem_of_getElem? (i := 162) (by decide +kernel))) (by decide +kernel)
theorem qL_J0_coder_7d493 : Cond.selects RJ0 yJ0_coder_7d493 yJ0_coder_7d493 ∈ xT := xT_tb (xt_4 (List.mem_of_getElem? (i := 163) (by decide +kernel))) (by decide +kernel)
theorem qC_J0_isLatin1_aae02 : Cond.code yJ0_isLatin1_aae02 cJ0_isLatin1_aae02 1 (some .boolean) ∈ xT := xT_tb (xt_4 (List.mem_of_getElem? (i := 174) rfl)) (by decide +kernel)
theorem qM_J0_492 : Cond.methodLink RJ0 492 yJ0_isLatin1_aae02 ∈ xT := xT_tb (xt_4 (List.mem_of_getElem? (i := 171) (by decide +kernel))) (by decide +kernel)
theorem qI_J0_isLatin1_aae02 : Cond.instanceMethod yJ0_isLatin1_aae02 ∈ xT := xT_tb (xt_4 (List.mem_of_getElem? (i := 172) (by decide +kernel))) (by decide +kernel)
theorem qL_J0_isLatin1_aae02 : Cond.selects RJ0 yJ0_isLatin1_aae02 yJ0_isLatin1_aae02 ∈ xT := xT_tb (xt_4 (List.mem_of_getElem? (i := 173) (by decide +kernel))) (by decide +kernel)
theorem qC_J1_charAt_3b067 : Cond.code yJ1_charAt_3b067 cJ1_charAt_3b067 2 (some .char) ∈ xT := xT_tb (xt_4 (List.mem_of_getElem? (i := 177) rfl)) (by decide +kernel)
theorem qJ_J1 : Cond.initialized RJ1 ∈ xT := xT_tb (xt_1 (List.mem_of_getElem? (i := 14) (by decide +kernel))) (by decide +kernel)
theorem qM_J0_495 : Cond.methodLink RJ0 495 yJ1_charAt_3b067 ∈ xT := xT_tb (xt_4 (List.mem_of_getElem? (i := 175) (by decide +kernel))) (by decide +kernel)
theorem qS_J1_charAt_3b067 : Cond.static yJ1_charAt_3b067 ∈ xT := xT_tb (xt_4 (List.mem_of_getElem? (i := 176) (by decide +kernel))) (by decide +kernel)
theorem qC_J0_checkIndex_df160 : Cond.code yJ0_checkIndex_df160 cJ0_checkIndex_df160 2 none ∈ xT := xT_tb (xt_4 (List.mem_of_getElem? (i := 180) rfl)) (by decide +kernel)
theorem qM_J1_9 : Cond.methodLink RJ1 9 yJ0_checkIndex_df160 ∈ xT := xT_tb (xt_4 (List.mem_of_getElem? (i := 178) (by decide +kernel))) (by decide +kernel)
theorem qS_J0_checkIndex_df160 : Cond.static yJ0_checkIndex_df160 ∈ xT := xT_tb (xt_4 (List.mem_of_getElem? (i := 179) (by decide +kernel))) (by decide +kernel)
theorem qC_J3_checkIndex_8e157 : Cond.code yJ3_checkIndex_8e157 cJ3_checkIndex_8e157 3 (some .int) ∈ xT := xT_tb (xt_4 (List.mem_of_getElem? (i := 185) rfl)) (by decide +kernel)
theorem qJ_J3 : Cond.initialized RJ3 ∈ xT := xT_tb (xt_1 (List.mem_of_getElem? (i := 15) (by decide +kernel))) (by decide +kernel)
theorem qM_J0_1059 : Cond.methodLink RJ0 1059 yJ3_checkIndex_8e157 ∈ xT := xT_tb (xt_4 (List.mem_of_getElem? (i := 183) (by decide +kernel))) (by decide +kernel)
theorem qS_J3_checkIndex_8e157 : Cond.static yJ3_checkIndex_8e157 ∈ xT := xT_tb (xt_4 (List.mem_of_getElem? (i := 184) (by decide +kernel))) (by decide +kernel)
theorem qF_J0_9 : Cond.fieldLink RJ0 9 "java/lang/String" "value" "[B" ∈ xT := xT_tb (xt_6 (List.mem_of_getElem? (i := 43) (by decide +kernel))) (by decide +kernel)
theorem qF_J0_15 : Cond.fieldLink RJ0 15 "java/lang/String" "coder" "B" ∈ xT := xT_tb (xt_6 (List.mem_of_getElem? (i := 44) (by decide +kernel))) (by decide +kernel)
theorem qF_J0_38 : Cond.fieldLink RJ0 38 "java/lang/String" "COMPACT_STRINGS" "Z" ∈ xT := xT_tb (xt_4 (List.mem_of_getElem? (i := 165) (by decide +kernel))) (by decide +kernel)
theorem qF_J0_1053 : Cond.fieldLink RJ0 1053 "jdk/internal/util/Preconditions" "SIOOBE_FORMATTER" "Ljava/util/function/BiFunction;" ∈ xT := xT_tb (xt_4 (List.mem_of_getElem? (i := 181) (by decide +kernel))) (by decide +kernel)
theorem cw_J0_335 : xCV RJ0 335 yJ0_coder_7d493 cJ0_coder_7d493 1 (some .byte) 0 := ⟨⟨⟨by decide, by decide, by decide +kernel⟩, qC_J0_coder_7d493, qJ_J0, by decide⟩, qM_J0_335, qI_J0_coder_7d493, qL_J0_coder_7d493⟩
theorem cw_J0_492 : xCV RJ0 492 yJ0_isLatin1_aae02 cJ0_isLatin1_aae02 1 (some .boolean) 0 := ⟨⟨⟨by decide, by decide, by decide +kernel⟩, qC_J0_isLatin1_aae02, qJ_J0, by decide⟩, qM_J0_492, qI_J0_isLatin1_aae02, qL_J0_isLatin1_aae02⟩
theorem cw_J0_495 : xCS RJ0 495 yJ1_charAt_3b067 cJ1_charAt_3b067 2 (some .char) 2 := ⟨⟨⟨by decide, by decide, by decide +kernel⟩, qC_J1_charAt_3b067, qJ_J1, by decide⟩, qM_J0_495, qS_J1_charAt_3b067⟩
theorem cw_J1_9 : xCS RJ1 9 yJ0_checkIndex_df160 cJ0_checkIndex_df160 2 none 2 := ⟨⟨⟨by decide, by decide, by decide +kernel⟩, qC_J0_checkIndex_df160, qJ_J0, by decide⟩, qM_J1_9, qS_J0_checkIndex_df160⟩
theorem cw_J0_1059 : xCS RJ0 1059 yJ3_checkIndex_8e157 cJ3_checkIndex_8e157 3 (some .int) 3 := ⟨⟨⟨by decide, by decide, by decide +kernel⟩, qC_J3_checkIndex_8e157, qJ_J3, by decide⟩, qM_J0_1059, qS_J3_checkIndex_8e157⟩
