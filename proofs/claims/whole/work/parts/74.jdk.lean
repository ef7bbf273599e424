/-! ===== printed: the JDK's methods on written texts ===== -/
abbrev mS_length : MI := (⟨"java/lang/String", "length", "()I"⟩, prog_22_method_54_code, 1, some .int, [])
theorem mfS_length : MF mS_length 0 := ⟨tw4 145 rfl rfl, tw1 18 (by decide +kernel) (by decide +kernel), by decide +kernel, by decide +kernel, by decide, by decide +kernel⟩
theorem dS_length_0 : decode prog_22_method_54_code 0 = .ok (.aload_n 0, 1) := by decide +kernel
theorem dS_length_1 : decode prog_22_method_54_code 1 = .ok (.getfield 9, 3) := by decide +kernel
theorem dS_length_4 : decode prog_22_method_54_code 4 = .ok (.arraylength, 1) := by decide +kernel
theorem dS_length_5 : decode prog_22_method_54_code 5 = .ok (.aload_n 0, 1) := by decide +kernel
theorem dS_length_6 : decode prog_22_method_54_code 6 = .ok (.invokevirtual 335, 3) := by decide +kernel
theorem dS_length_9 : decode prog_22_method_54_code 9 = .ok (.ishr, 1) := by decide +kernel
theorem dS_length_10 : decode prog_22_method_54_code 10 = .ok (.ireturn, 1) := by decide +kernel
abbrev mS_coder : MI := (⟨"java/lang/String", "coder", "()B"⟩, prog_22_method_152_code, 1, some .byte, [])
theorem mfS_coder : MF mS_coder 0 := ⟨tw4 149 rfl rfl, tw1 18 (by decide +kernel) (by decide +kernel), by decide +kernel, by decide +kernel, by decide, by decide +kernel⟩
theorem dS_coder_0 : decode prog_22_method_152_code 0 = .ok (.getstatic 38, 3) := by decide +kernel
theorem dS_coder_3 : decode prog_22_method_152_code 3 = .ok (.ifCond .eq 10, 3) := by decide +kernel
theorem dS_coder_6 : decode prog_22_method_152_code 6 = .ok (.aload_n 0, 1) := by decide +kernel
theorem dS_coder_7 : decode prog_22_method_152_code 7 = .ok (.getfield 15, 3) := by decide +kernel
theorem dS_coder_10 : decode prog_22_method_152_code 10 = .ok (.goto 4, 3) := by decide +kernel
theorem dS_coder_14 : decode prog_22_method_152_code 14 = .ok (.ireturn, 1) := by decide +kernel
abbrev mS_charAt : MI := (⟨"java/lang/String", "charAt", "(I)C"⟩, prog_22_method_56_code, 2, some .char, [])
theorem mfS_charAt : MF mS_charAt 1 := ⟨tw4 155 rfl rfl, tw1 18 (by decide +kernel) (by decide +kernel), by decide +kernel, by decide +kernel, by decide, by decide +kernel⟩
theorem dS_charAt_0 : decode prog_22_method_56_code 0 = .ok (.aload_n 0, 1) := by decide +kernel
theorem dS_charAt_1 : decode prog_22_method_56_code 1 = .ok (.invokevirtual 492, 3) := by decide +kernel
theorem dS_charAt_4 : decode prog_22_method_56_code 4 = .ok (.ifCond .eq 12, 3) := by decide +kernel
theorem dS_charAt_7 : decode prog_22_method_56_code 7 = .ok (.aload_n 0, 1) := by decide +kernel
theorem dS_charAt_8 : decode prog_22_method_56_code 8 = .ok (.getfield 9, 3) := by decide +kernel
theorem dS_charAt_11 : decode prog_22_method_56_code 11 = .ok (.iload_n 1, 1) := by decide +kernel
theorem dS_charAt_12 : decode prog_22_method_56_code 12 = .ok (.invokestatic 495, 3) := by decide +kernel
theorem dS_charAt_15 : decode prog_22_method_56_code 15 = .ok (.ireturn, 1) := by decide +kernel
abbrev mS_isLatin1 : MI := (⟨"java/lang/String", "isLatin1", "()Z"⟩, prog_22_method_154_code, 1, some .boolean, [])
theorem mfS_isLatin1 : MF mS_isLatin1 0 := ⟨tw4 159 rfl rfl, tw1 18 (by decide +kernel) (by decide +kernel), by decide +kernel, by decide +kernel, by decide, by decide +kernel⟩
theorem dS_isLatin1_0 : decode prog_22_method_154_code 0 = .ok (.getstatic 38, 3) := by decide +kernel
theorem dS_isLatin1_3 : decode prog_22_method_154_code 3 = .ok (.ifCond .eq 14, 3) := by decide +kernel
theorem dS_isLatin1_6 : decode prog_22_method_154_code 6 = .ok (.aload_n 0, 1) := by decide +kernel
theorem dS_isLatin1_7 : decode prog_22_method_154_code 7 = .ok (.getfield 15, 3) := by decide +kernel
theorem dS_isLatin1_10 : decode prog_22_method_154_code 10 = .ok (.ifCond .ne 7, 3) := by decide +kernel
theorem dS_isLatin1_13 : decode prog_22_method_154_code 13 = .ok (.iconst 1, 1) := by decide +kernel
theorem dS_isLatin1_14 : decode prog_22_method_154_code 14 = .ok (.goto 4, 3) := by decide +kernel
theorem dS_isLatin1_18 : decode prog_22_method_154_code 18 = .ok (.ireturn, 1) := by decide +kernel
abbrev mS_checkIndex : MI := (⟨"java/lang/String", "checkIndex", "(II)V"⟩, prog_22_method_155_code, 2, none, [])
theorem mfS_checkIndex : MF mS_checkIndex 2 := ⟨tw4 165 rfl rfl, tw1 18 (by decide +kernel) (by decide +kernel), by decide +kernel, by decide +kernel, by decide, by decide +kernel⟩
theorem dS_checkIndex_0 : decode prog_22_method_155_code 0 = .ok (.iload_n 0, 1) := by decide +kernel
theorem dS_checkIndex_1 : decode prog_22_method_155_code 1 = .ok (.iload_n 1, 1) := by decide +kernel
theorem dS_checkIndex_2 : decode prog_22_method_155_code 2 = .ok (.getstatic 1053, 3) := by decide +kernel
theorem dS_checkIndex_5 : decode prog_22_method_155_code 5 = .ok (.invokestatic 1059, 3) := by decide +kernel
theorem dS_checkIndex_8 : decode prog_22_method_155_code 8 = .ok (.pop, 1) := by decide +kernel
theorem dS_checkIndex_9 : decode prog_22_method_155_code 9 = .ok (.return_, 1) := by decide +kernel
abbrev mL_charAt : MI := (⟨"java/lang/StringLatin1", "charAt", "([BI)C"⟩, prog_23_method_2_code, 2, some .char, [])
theorem mfL_charAt : MF mL_charAt 2 := ⟨tw4 162 rfl rfl, tw1 19 (by decide +kernel) (by decide +kernel), by decide +kernel, by decide +kernel, by decide, by decide +kernel⟩
theorem dL_charAt_0 : decode prog_23_method_2_code 0 = .ok (.iload_n 1, 1) := by decide +kernel
theorem dL_charAt_1 : decode prog_23_method_2_code 1 = .ok (.aload_n 0, 1) := by decide +kernel
theorem dL_charAt_2 : decode prog_23_method_2_code 2 = .ok (.arraylength, 1) := by decide +kernel
theorem dL_charAt_3 : decode prog_23_method_2_code 3 = .ok (.invokestatic 9, 3) := by decide +kernel
theorem dL_charAt_6 : decode prog_23_method_2_code 6 = .ok (.aload_n 0, 1) := by decide +kernel
theorem dL_charAt_7 : decode prog_23_method_2_code 7 = .ok (.iload_n 1, 1) := by decide +kernel
theorem dL_charAt_8 : decode prog_23_method_2_code 8 = .ok (.baload, 1) := by decide +kernel
theorem dL_charAt_9 : decode prog_23_method_2_code 9 = .ok (.sipush 255, 3) := by decide +kernel
theorem dL_charAt_12 : decode prog_23_method_2_code 12 = .ok (.iand, 1) := by decide +kernel
theorem dL_charAt_13 : decode prog_23_method_2_code 13 = .ok (.i2c, 1) := by decide +kernel
theorem dL_charAt_14 : decode prog_23_method_2_code 14 = .ok (.ireturn, 1) := by decide +kernel
abbrev mP_checkIndex : MI := (⟨"jdk/internal/util/Preconditions", "checkIndex", "(IILjava/util/function/BiFunction;)I"⟩, prog_30_method_11_code, 3, some .int, [])
theorem mfP_checkIndex : MF mP_checkIndex 3 := ⟨tw4 170 rfl rfl, tw1 20 (by decide +kernel) (by decide +kernel), by decide +kernel, by decide +kernel, by decide, by decide +kernel⟩
theorem dP_checkIndex_0 : decode prog_30_method_11_code 0 = .ok (.iload_n 0, 1) := by decide +kernel
theorem dP_checkIndex_1 : decode prog_30_method_11_code 1 = .ok (.ifCond .lt 8, 3) := by decide +kernel
theorem dP_checkIndex_4 : decode prog_30_method_11_code 4 = .ok (.iload_n 0, 1) := by decide +kernel
theorem dP_checkIndex_5 : decode prog_30_method_11_code 5 = .ok (.iload_n 1, 1) := by decide +kernel
theorem dP_checkIndex_6 : decode prog_30_method_11_code 6 = .ok (.if_icmp .lt 10, 3) := by decide +kernel
theorem dP_checkIndex_16 : decode prog_30_method_11_code 16 = .ok (.iload_n 0, 1) := by decide +kernel
theorem dP_checkIndex_17 : decode prog_30_method_11_code 17 = .ok (.ireturn, 1) := by decide +kernel
theorem lkS_335 : LV1 "java/lang/String" 335 mS_coder := ⟨tw4 146 (by decide +kernel) (by decide +kernel), tw4 147 (by decide +kernel) (by decide +kernel), tw4 148 (by decide +kernel) (by decide +kernel)⟩
theorem lkS_492 : LV1 "java/lang/String" 492 mS_isLatin1 := ⟨tw4 156 (by decide +kernel) (by decide +kernel), tw4 157 (by decide +kernel) (by decide +kernel), tw4 158 (by decide +kernel) (by decide +kernel)⟩
theorem lkS_495 : LS1 "java/lang/String" 495 mL_charAt := ⟨tw4 160 (by decide +kernel) (by decide +kernel), tw4 161 (by decide +kernel) (by decide +kernel)⟩
theorem lkL_9 : LS1 "java/lang/StringLatin1" 9 mS_checkIndex := ⟨tw4 163 (by decide +kernel) (by decide +kernel), tw4 164 (by decide +kernel) (by decide +kernel)⟩
theorem lkS_1059 : LS1 "java/lang/String" 1059 mP_checkIndex := ⟨tw4 168 (by decide +kernel) (by decide +kernel), tw4 169 (by decide +kernel) (by decide +kernel)⟩
theorem lkX9_56 : LV1 "TwoForOne$Tokens" 56 mS_length := ⟨tw4 142 (by decide +kernel) (by decide +kernel), tw4 143 (by decide +kernel) (by decide +kernel), tw4 144 (by decide +kernel) (by decide +kernel)⟩
theorem lkX9_60 : LV1 "TwoForOne$Tokens" 60 mS_charAt := ⟨tw4 152 (by decide +kernel) (by decide +kernel), tw4 153 (by decide +kernel) (by decide +kernel), tw4 154 (by decide +kernel) (by decide +kernel)⟩
theorem flS_38 : Cond.fieldLink "java/lang/String" 38 "java/lang/String" "COMPACT_STRINGS" "Z" ∈ TW := tw4 150 (by decide +kernel) (by decide +kernel)
theorem flS_9 : Cond.fieldLink "java/lang/String" 9 "java/lang/String" "value" "[B" ∈ TW := tw9 120 (by decide +kernel) (by decide +kernel)
theorem flS_15 : Cond.fieldLink "java/lang/String" 15 "java/lang/String" "coder" "B" ∈ TW := tw9 121 (by decide +kernel) (by decide +kernel)
theorem flS_1053 : Cond.fieldLink "java/lang/String" 1053 "jdk/internal/util/Preconditions" "SIOOBE_FORMATTER" "Ljava/util/function/BiFunction;" ∈ TW := tw4 166 (by decide +kernel) (by decide +kernel)
