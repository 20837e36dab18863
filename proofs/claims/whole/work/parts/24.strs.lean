/-! STRING CONSTANTS and the JDK's own methods of them -/
theorem pn_J0 : plainName RJ0 = true := by decide +kernel
theorem pn_J1 : plainName RJ1 = true := by decide +kernel
theorem pn_J3 : plainName RJ3 = true := by decide +kernel
theorem kJ0_length_8abf5 : CAV yJ0_length_8abf5 cJ0_length_8abf5 1 (some .int) 0 := ⟨tk2 (i := 239) (by decide +kernel) rfl, tk1 (i := 20) (by decide +kernel) rfl, tk2 (i := 237) (by decide +kernel) rfl, tk2 (i := 238) (by decide +kernel) rfl, by decide +kernel, by decide +kernel, by decide +kernel⟩
theorem dJ0_length_8abf5_0 : decode cJ0_length_8abf5 0 = .ok (.aload_n 0, 1) := by decide +kernel
theorem dJ0_length_8abf5_1 : decode cJ0_length_8abf5 1 = .ok (.getfield 9, 3) := by decide +kernel
theorem dJ0_length_8abf5_4 : decode cJ0_length_8abf5 4 = .ok (.arraylength, 1) := by decide +kernel
theorem dJ0_length_8abf5_5 : decode cJ0_length_8abf5 5 = .ok (.aload_n 0, 1) := by decide +kernel
theorem dJ0_length_8abf5_6 : decode cJ0_length_8abf5 6 = .ok (.invokevirtual 335, 3) := by decide +kernel
theorem dJ0_length_8abf5_9 : decode cJ0_length_8abf5 9 = .ok (.ishr, 1) := by decide +kernel
theorem dJ0_length_8abf5_10 : decode cJ0_length_8abf5 10 = .ok (.ireturn, 1) := by decide +kernel
theorem kJ0_coder_7d493 : CAV yJ0_coder_7d493 cJ0_coder_7d493 1 (some .byte) 0 := ⟨tk3 (i := 3) (by decide +kernel) rfl, tk1 (i := 20) (by decide +kernel) rfl, tk3 (i := 1) (by decide +kernel) rfl, tk3 (i := 2) (by decide +kernel) rfl, by decide +kernel, by decide +kernel, by decide +kernel⟩
theorem dJ0_coder_7d493_0 : decode cJ0_coder_7d493 0 = .ok (.getstatic 38, 3) := by decide +kernel
theorem dJ0_coder_7d493_3 : decode cJ0_coder_7d493 3 = .ok (.ifCond .eq 10, 3) := by decide +kernel
theorem dJ0_coder_7d493_6 : decode cJ0_coder_7d493 6 = .ok (.aload_n 0, 1) := by decide +kernel
theorem dJ0_coder_7d493_7 : decode cJ0_coder_7d493 7 = .ok (.getfield 15, 3) := by decide +kernel
theorem dJ0_coder_7d493_10 : decode cJ0_coder_7d493 10 = .ok (.goto 4, 3) := by decide +kernel
theorem dJ0_coder_7d493_13 : decode cJ0_coder_7d493 13 = .ok (.iconst 1, 1) := by decide +kernel
theorem dJ0_coder_7d493_14 : decode cJ0_coder_7d493 14 = .ok (.ireturn, 1) := by decide +kernel
theorem kJ0_isLatin1_aae02 : CAV yJ0_isLatin1_aae02 cJ0_isLatin1_aae02 1 (some .boolean) 0 := ⟨tk3 (i := 13) (by decide +kernel) rfl, tk1 (i := 20) (by decide +kernel) rfl, tk3 (i := 11) (by decide +kernel) rfl, tk3 (i := 12) (by decide +kernel) rfl, by decide +kernel, by decide +kernel, by decide +kernel⟩
theorem dJ0_isLatin1_aae02_0 : decode cJ0_isLatin1_aae02 0 = .ok (.getstatic 38, 3) := by decide +kernel
theorem dJ0_isLatin1_aae02_3 : decode cJ0_isLatin1_aae02 3 = .ok (.ifCond .eq 14, 3) := by decide +kernel
theorem dJ0_isLatin1_aae02_6 : decode cJ0_isLatin1_aae02 6 = .ok (.aload_n 0, 1) := by decide +kernel
theorem dJ0_isLatin1_aae02_7 : decode cJ0_isLatin1_aae02 7 = .ok (.getfield 15, 3) := by decide +kernel
theorem dJ0_isLatin1_aae02_10 : decode cJ0_isLatin1_aae02 10 = .ok (.ifCond .ne 7, 3) := by decide +kernel
theorem dJ0_isLatin1_aae02_13 : decode cJ0_isLatin1_aae02 13 = .ok (.iconst 1, 1) := by decide +kernel
theorem dJ0_isLatin1_aae02_14 : decode cJ0_isLatin1_aae02 14 = .ok (.goto 4, 3) := by decide +kernel
theorem dJ0_isLatin1_aae02_17 : decode cJ0_isLatin1_aae02 17 = .ok (.iconst 0, 1) := by decide +kernel
theorem dJ0_isLatin1_aae02_18 : decode cJ0_isLatin1_aae02 18 = .ok (.ireturn, 1) := by decide +kernel
theorem kJ0_charAt_5068e : CAV yJ0_charAt_5068e cJ0_charAt_5068e 2 (some .char) 1 := ⟨tk3 (i := 9) (by decide +kernel) rfl, tk1 (i := 20) (by decide +kernel) rfl, tk3 (i := 7) (by decide +kernel) rfl, tk3 (i := 8) (by decide +kernel) rfl, by decide +kernel, by decide +kernel, by decide +kernel⟩
theorem dJ0_charAt_5068e_0 : decode cJ0_charAt_5068e 0 = .ok (.aload_n 0, 1) := by decide +kernel
theorem dJ0_charAt_5068e_1 : decode cJ0_charAt_5068e 1 = .ok (.invokevirtual 492, 3) := by decide +kernel
theorem dJ0_charAt_5068e_4 : decode cJ0_charAt_5068e 4 = .ok (.ifCond .eq 12, 3) := by decide +kernel
theorem dJ0_charAt_5068e_7 : decode cJ0_charAt_5068e 7 = .ok (.aload_n 0, 1) := by decide +kernel
theorem dJ0_charAt_5068e_8 : decode cJ0_charAt_5068e 8 = .ok (.getfield 9, 3) := by decide +kernel
theorem dJ0_charAt_5068e_11 : decode cJ0_charAt_5068e 11 = .ok (.iload_n 1, 1) := by decide +kernel
theorem dJ0_charAt_5068e_12 : decode cJ0_charAt_5068e 12 = .ok (.invokestatic 495, 3) := by decide +kernel
theorem dJ0_charAt_5068e_15 : decode cJ0_charAt_5068e 15 = .ok (.ireturn, 1) := by decide +kernel
theorem dJ0_charAt_5068e_16 : decode cJ0_charAt_5068e 16 = .ok (.aload_n 0, 1) := by decide +kernel
theorem dJ0_charAt_5068e_17 : decode cJ0_charAt_5068e 17 = .ok (.getfield 9, 3) := by decide +kernel
theorem dJ0_charAt_5068e_20 : decode cJ0_charAt_5068e 20 = .ok (.iload_n 1, 1) := by decide +kernel
theorem dJ0_charAt_5068e_21 : decode cJ0_charAt_5068e 21 = .ok (.invokestatic 498, 3) := by decide +kernel
theorem dJ0_charAt_5068e_24 : decode cJ0_charAt_5068e 24 = .ok (.ireturn, 1) := by decide +kernel
theorem kJ0_checkIndex_df160 : CAS yJ0_checkIndex_df160 cJ0_checkIndex_df160 2 none 2 := ⟨tk3 (i := 19) (by decide +kernel) rfl, tk1 (i := 20) (by decide +kernel) rfl, tk3 (i := 18) (by decide +kernel) rfl, by decide +kernel, by decide +kernel, by decide +kernel⟩
theorem dJ0_checkIndex_df160_0 : decode cJ0_checkIndex_df160 0 = .ok (.iload_n 0, 1) := by decide +kernel
theorem dJ0_checkIndex_df160_1 : decode cJ0_checkIndex_df160 1 = .ok (.iload_n 1, 1) := by decide +kernel
theorem dJ0_checkIndex_df160_2 : decode cJ0_checkIndex_df160 2 = .ok (.getstatic 1053, 3) := by decide +kernel
theorem dJ0_checkIndex_df160_5 : decode cJ0_checkIndex_df160 5 = .ok (.invokestatic 1059, 3) := by decide +kernel
theorem dJ0_checkIndex_df160_8 : decode cJ0_checkIndex_df160 8 = .ok (.pop, 1) := by decide +kernel
theorem dJ0_checkIndex_df160_9 : decode cJ0_checkIndex_df160 9 = .ok (.return_, 1) := by decide +kernel
theorem kJ0_indexOf_0f7a4 : CAV yJ0_indexOf_0f7a4 cJ0_indexOf_0f7a4 2 (some .int) 1 := ⟨tk3 (i := 76) (by decide +kernel) rfl, tk1 (i := 20) (by decide +kernel) rfl, tk3 (i := 74) (by decide +kernel) rfl, tk3 (i := 75) (by decide +kernel) rfl, by decide +kernel, by decide +kernel, by decide +kernel⟩
theorem dJ0_indexOf_0f7a4_0 : decode cJ0_indexOf_0f7a4 0 = .ok (.aload_n 0, 1) := by decide +kernel
theorem dJ0_indexOf_0f7a4_1 : decode cJ0_indexOf_0f7a4 1 = .ok (.iload_n 1, 1) := by decide +kernel
theorem dJ0_indexOf_0f7a4_2 : decode cJ0_indexOf_0f7a4 2 = .ok (.iconst 0, 1) := by decide +kernel
theorem dJ0_indexOf_0f7a4_3 : decode cJ0_indexOf_0f7a4 3 = .ok (.invokevirtual 633, 3) := by decide +kernel
theorem dJ0_indexOf_0f7a4_6 : decode cJ0_indexOf_0f7a4 6 = .ok (.ireturn, 1) := by decide +kernel
theorem kJ0_indexOf_7cf53 : CAV yJ0_indexOf_7cf53 cJ0_indexOf_7cf53 3 (some .int) 2 := ⟨tk3 (i := 80) (by decide +kernel) rfl, tk1 (i := 20) (by decide +kernel) rfl, tk3 (i := 78) (by decide +kernel) rfl, tk3 (i := 79) (by decide +kernel) rfl, by decide +kernel, by decide +kernel, by decide +kernel⟩
theorem dJ0_indexOf_7cf53_0 : decode cJ0_indexOf_7cf53 0 = .ok (.aload_n 0, 1) := by decide +kernel
theorem dJ0_indexOf_7cf53_1 : decode cJ0_indexOf_7cf53 1 = .ok (.invokevirtual 492, 3) := by decide +kernel
theorem dJ0_indexOf_7cf53_4 : decode cJ0_indexOf_7cf53 4 = .ok (.ifCond .eq 19, 3) := by decide +kernel
theorem dJ0_indexOf_7cf53_7 : decode cJ0_indexOf_7cf53 7 = .ok (.aload_n 0, 1) := by decide +kernel
theorem dJ0_indexOf_7cf53_8 : decode cJ0_indexOf_7cf53 8 = .ok (.getfield 9, 3) := by decide +kernel
theorem dJ0_indexOf_7cf53_11 : decode cJ0_indexOf_7cf53 11 = .ok (.iload_n 1, 1) := by decide +kernel
theorem dJ0_indexOf_7cf53_12 : decode cJ0_indexOf_7cf53 12 = .ok (.iload_n 2, 1) := by decide +kernel
theorem dJ0_indexOf_7cf53_13 : decode cJ0_indexOf_7cf53 13 = .ok (.aload_n 0, 1) := by decide +kernel
theorem dJ0_indexOf_7cf53_14 : decode cJ0_indexOf_7cf53 14 = .ok (.invokevirtual 505, 3) := by decide +kernel
theorem dJ0_indexOf_7cf53_17 : decode cJ0_indexOf_7cf53 17 = .ok (.invokestatic 637, 3) := by decide +kernel
theorem dJ0_indexOf_7cf53_20 : decode cJ0_indexOf_7cf53 20 = .ok (.goto 16, 3) := by decide +kernel
theorem dJ0_indexOf_7cf53_23 : decode cJ0_indexOf_7cf53 23 = .ok (.aload_n 0, 1) := by decide +kernel
theorem dJ0_indexOf_7cf53_24 : decode cJ0_indexOf_7cf53 24 = .ok (.getfield 9, 3) := by decide +kernel
theorem dJ0_indexOf_7cf53_27 : decode cJ0_indexOf_7cf53 27 = .ok (.iload_n 1, 1) := by decide +kernel
theorem dJ0_indexOf_7cf53_28 : decode cJ0_indexOf_7cf53 28 = .ok (.iload_n 2, 1) := by decide +kernel
theorem dJ0_indexOf_7cf53_29 : decode cJ0_indexOf_7cf53 29 = .ok (.aload_n 0, 1) := by decide +kernel
theorem dJ0_indexOf_7cf53_30 : decode cJ0_indexOf_7cf53 30 = .ok (.invokevirtual 505, 3) := by decide +kernel
theorem dJ0_indexOf_7cf53_33 : decode cJ0_indexOf_7cf53 33 = .ok (.invokestatic 640, 3) := by decide +kernel
theorem dJ0_indexOf_7cf53_36 : decode cJ0_indexOf_7cf53 36 = .ok (.ireturn, 1) := by decide +kernel
theorem kJ1_charAt_3b067 : CAS yJ1_charAt_3b067 cJ1_charAt_3b067 2 (some .char) 2 := ⟨tk3 (i := 16) (by decide +kernel) rfl, tk1 (i := 21) (by decide +kernel) rfl, tk3 (i := 15) (by decide +kernel) rfl, by decide +kernel, by decide +kernel, by decide +kernel⟩
theorem dJ1_charAt_3b067_0 : decode cJ1_charAt_3b067 0 = .ok (.iload_n 1, 1) := by decide +kernel
theorem dJ1_charAt_3b067_1 : decode cJ1_charAt_3b067 1 = .ok (.aload_n 0, 1) := by decide +kernel
theorem dJ1_charAt_3b067_2 : decode cJ1_charAt_3b067 2 = .ok (.arraylength, 1) := by decide +kernel
theorem dJ1_charAt_3b067_3 : decode cJ1_charAt_3b067 3 = .ok (.invokestatic 9, 3) := by decide +kernel
theorem dJ1_charAt_3b067_6 : decode cJ1_charAt_3b067 6 = .ok (.aload_n 0, 1) := by decide +kernel
theorem dJ1_charAt_3b067_7 : decode cJ1_charAt_3b067 7 = .ok (.iload_n 1, 1) := by decide +kernel
theorem dJ1_charAt_3b067_8 : decode cJ1_charAt_3b067 8 = .ok (.baload, 1) := by decide +kernel
theorem dJ1_charAt_3b067_9 : decode cJ1_charAt_3b067 9 = .ok (.sipush 255, 3) := by decide +kernel
theorem dJ1_charAt_3b067_12 : decode cJ1_charAt_3b067 12 = .ok (.iand, 1) := by decide +kernel
theorem dJ1_charAt_3b067_13 : decode cJ1_charAt_3b067 13 = .ok (.i2c, 1) := by decide +kernel
theorem dJ1_charAt_3b067_14 : decode cJ1_charAt_3b067 14 = .ok (.ireturn, 1) := by decide +kernel
theorem kJ1_canEncode_9a6ad : CAS yJ1_canEncode_9a6ad cJ1_canEncode_9a6ad 1 (some .boolean) 1 := ⟨tk3 (i := 87) (by decide +kernel) rfl, tk1 (i := 21) (by decide +kernel) rfl, tk3 (i := 86) (by decide +kernel) rfl, by decide +kernel, by decide +kernel, by decide +kernel⟩
theorem dJ1_canEncode_9a6ad_0 : decode cJ1_canEncode_9a6ad 0 = .ok (.iload_n 0, 1) := by decide +kernel
theorem dJ1_canEncode_9a6ad_1 : decode cJ1_canEncode_9a6ad 1 = .ok (.ifCond .lt 14, 3) := by decide +kernel
theorem dJ1_canEncode_9a6ad_4 : decode cJ1_canEncode_9a6ad 4 = .ok (.iload_n 0, 1) := by decide +kernel
theorem dJ1_canEncode_9a6ad_5 : decode cJ1_canEncode_9a6ad 5 = .ok (.sipush 255, 3) := by decide +kernel
theorem dJ1_canEncode_9a6ad_8 : decode cJ1_canEncode_9a6ad 8 = .ok (.if_icmp .gt 7, 3) := by decide +kernel
theorem dJ1_canEncode_9a6ad_11 : decode cJ1_canEncode_9a6ad 11 = .ok (.iconst 1, 1) := by decide +kernel
theorem dJ1_canEncode_9a6ad_12 : decode cJ1_canEncode_9a6ad 12 = .ok (.goto 4, 3) := by decide +kernel
theorem dJ1_canEncode_9a6ad_15 : decode cJ1_canEncode_9a6ad 15 = .ok (.iconst 0, 1) := by decide +kernel
theorem dJ1_canEncode_9a6ad_16 : decode cJ1_canEncode_9a6ad 16 = .ok (.ireturn, 1) := by decide +kernel
theorem kJ1_indexOf_4cfef : CAS yJ1_indexOf_4cfef cJ1_indexOf_4cfef 4 (some .int) 4 := ⟨tk3 (i := 84) (by decide +kernel) rfl, tk1 (i := 21) (by decide +kernel) rfl, tk3 (i := 83) (by decide +kernel) rfl, by decide +kernel, by decide +kernel, by decide +kernel⟩
theorem dJ1_indexOf_4cfef_0 : decode cJ1_indexOf_4cfef 0 = .ok (.iload_n 1, 1) := by decide +kernel
theorem dJ1_indexOf_4cfef_1 : decode cJ1_indexOf_4cfef 1 = .ok (.invokestatic 88, 3) := by decide +kernel
theorem dJ1_indexOf_4cfef_4 : decode cJ1_indexOf_4cfef 4 = .ok (.ifCond .ne 5, 3) := by decide +kernel
theorem dJ1_indexOf_4cfef_7 : decode cJ1_indexOf_4cfef 7 = .ok (.iconst (-1), 1) := by decide +kernel
theorem dJ1_indexOf_4cfef_8 : decode cJ1_indexOf_4cfef 8 = .ok (.ireturn, 1) := by decide +kernel
theorem dJ1_indexOf_4cfef_9 : decode cJ1_indexOf_4cfef 9 = .ok (.iload_n 2, 1) := by decide +kernel
theorem dJ1_indexOf_4cfef_10 : decode cJ1_indexOf_4cfef 10 = .ok (.iconst 0, 1) := by decide +kernel
theorem dJ1_indexOf_4cfef_11 : decode cJ1_indexOf_4cfef 11 = .ok (.invokestatic 92, 3) := by decide +kernel
theorem dJ1_indexOf_4cfef_14 : decode cJ1_indexOf_4cfef 14 = .ok (.istore_n 2, 1) := by decide +kernel
theorem dJ1_indexOf_4cfef_15 : decode cJ1_indexOf_4cfef 15 = .ok (.iload_n 3, 1) := by decide +kernel
theorem dJ1_indexOf_4cfef_16 : decode cJ1_indexOf_4cfef 16 = .ok (.aload_n 0, 1) := by decide +kernel
theorem dJ1_indexOf_4cfef_17 : decode cJ1_indexOf_4cfef 17 = .ok (.arraylength, 1) := by decide +kernel
theorem dJ1_indexOf_4cfef_18 : decode cJ1_indexOf_4cfef 18 = .ok (.invokestatic 38, 3) := by decide +kernel
theorem dJ1_indexOf_4cfef_21 : decode cJ1_indexOf_4cfef 21 = .ok (.istore_n 3, 1) := by decide +kernel
theorem dJ1_indexOf_4cfef_22 : decode cJ1_indexOf_4cfef 22 = .ok (.iload_n 2, 1) := by decide +kernel
theorem dJ1_indexOf_4cfef_23 : decode cJ1_indexOf_4cfef 23 = .ok (.iload_n 3, 1) := by decide +kernel
theorem dJ1_indexOf_4cfef_24 : decode cJ1_indexOf_4cfef 24 = .ok (.if_icmp .lt 5, 3) := by decide +kernel
theorem dJ1_indexOf_4cfef_27 : decode cJ1_indexOf_4cfef 27 = .ok (.iconst (-1), 1) := by decide +kernel
theorem dJ1_indexOf_4cfef_28 : decode cJ1_indexOf_4cfef 28 = .ok (.ireturn, 1) := by decide +kernel
theorem dJ1_indexOf_4cfef_29 : decode cJ1_indexOf_4cfef 29 = .ok (.aload_n 0, 1) := by decide +kernel
theorem dJ1_indexOf_4cfef_30 : decode cJ1_indexOf_4cfef 30 = .ok (.iload_n 1, 1) := by decide +kernel
theorem dJ1_indexOf_4cfef_31 : decode cJ1_indexOf_4cfef 31 = .ok (.iload_n 2, 1) := by decide +kernel
theorem dJ1_indexOf_4cfef_32 : decode cJ1_indexOf_4cfef 32 = .ok (.iload_n 3, 1) := by decide +kernel
theorem dJ1_indexOf_4cfef_33 : decode cJ1_indexOf_4cfef 33 = .ok (.invokestatic 95, 3) := by decide +kernel
theorem dJ1_indexOf_4cfef_36 : decode cJ1_indexOf_4cfef 36 = .ok (.ireturn, 1) := by decide +kernel
theorem kJ1_indexOfChar_4cfef : CAS yJ1_indexOfChar_4cfef cJ1_indexOfChar_4cfef 6 (some .int) 4 := ⟨tk3 (i := 96) (by decide +kernel) rfl, tk1 (i := 21) (by decide +kernel) rfl, tk3 (i := 95) (by decide +kernel) rfl, by decide +kernel, by decide +kernel, by decide +kernel⟩
theorem dJ1_indexOfChar_4cfef_0 : decode cJ1_indexOfChar_4cfef 0 = .ok (.iload_n 1, 1) := by decide +kernel
theorem dJ1_indexOfChar_4cfef_1 : decode cJ1_indexOfChar_4cfef 1 = .ok (.i2b, 1) := by decide +kernel
theorem dJ1_indexOfChar_4cfef_2 : decode cJ1_indexOfChar_4cfef 2 = .ok (.istore 4, 2) := by decide +kernel
theorem dJ1_indexOfChar_4cfef_4 : decode cJ1_indexOfChar_4cfef 4 = .ok (.iload_n 2, 1) := by decide +kernel
theorem dJ1_indexOfChar_4cfef_5 : decode cJ1_indexOfChar_4cfef 5 = .ok (.istore 5, 2) := by decide +kernel
theorem dJ1_indexOfChar_4cfef_7 : decode cJ1_indexOfChar_4cfef 7 = .ok (.iload 5, 2) := by decide +kernel
theorem dJ1_indexOfChar_4cfef_9 : decode cJ1_indexOfChar_4cfef 9 = .ok (.iload_n 3, 1) := by decide +kernel
theorem dJ1_indexOfChar_4cfef_10 : decode cJ1_indexOfChar_4cfef 10 = .ok (.if_icmp .ge 21, 3) := by decide +kernel
theorem dJ1_indexOfChar_4cfef_13 : decode cJ1_indexOfChar_4cfef 13 = .ok (.aload_n 0, 1) := by decide +kernel
theorem dJ1_indexOfChar_4cfef_14 : decode cJ1_indexOfChar_4cfef 14 = .ok (.iload 5, 2) := by decide +kernel
theorem dJ1_indexOfChar_4cfef_16 : decode cJ1_indexOfChar_4cfef 16 = .ok (.baload, 1) := by decide +kernel
theorem dJ1_indexOfChar_4cfef_17 : decode cJ1_indexOfChar_4cfef 17 = .ok (.iload 4, 2) := by decide +kernel
theorem dJ1_indexOfChar_4cfef_19 : decode cJ1_indexOfChar_4cfef 19 = .ok (.if_icmp .ne 6, 3) := by decide +kernel
theorem dJ1_indexOfChar_4cfef_22 : decode cJ1_indexOfChar_4cfef 22 = .ok (.iload 5, 2) := by decide +kernel
theorem dJ1_indexOfChar_4cfef_24 : decode cJ1_indexOfChar_4cfef 24 = .ok (.ireturn, 1) := by decide +kernel
theorem dJ1_indexOfChar_4cfef_25 : decode cJ1_indexOfChar_4cfef 25 = .ok (.iinc 5 1, 3) := by decide +kernel
theorem dJ1_indexOfChar_4cfef_28 : decode cJ1_indexOfChar_4cfef 28 = .ok (.goto (-21), 3) := by decide +kernel
theorem dJ1_indexOfChar_4cfef_31 : decode cJ1_indexOfChar_4cfef 31 = .ok (.iconst (-1), 1) := by decide +kernel
theorem dJ1_indexOfChar_4cfef_32 : decode cJ1_indexOfChar_4cfef 32 = .ok (.ireturn, 1) := by decide +kernel
theorem kJ3_checkIndex_8e157 : CAS yJ3_checkIndex_8e157 cJ3_checkIndex_8e157 3 (some .int) 3 := ⟨tk3 (i := 24) (by decide +kernel) rfl, tk1 (i := 22) (by decide +kernel) rfl, tk3 (i := 23) (by decide +kernel) rfl, by decide +kernel, by decide +kernel, by decide +kernel⟩
theorem dJ3_checkIndex_8e157_0 : decode cJ3_checkIndex_8e157 0 = .ok (.iload_n 0, 1) := by decide +kernel
theorem dJ3_checkIndex_8e157_1 : decode cJ3_checkIndex_8e157 1 = .ok (.ifCond .lt 8, 3) := by decide +kernel
theorem dJ3_checkIndex_8e157_4 : decode cJ3_checkIndex_8e157 4 = .ok (.iload_n 0, 1) := by decide +kernel
theorem dJ3_checkIndex_8e157_5 : decode cJ3_checkIndex_8e157 5 = .ok (.iload_n 1, 1) := by decide +kernel
theorem dJ3_checkIndex_8e157_6 : decode cJ3_checkIndex_8e157 6 = .ok (.if_icmp .lt 10, 3) := by decide +kernel
theorem dJ3_checkIndex_8e157_9 : decode cJ3_checkIndex_8e157 9 = .ok (.aload_n 2, 1) := by decide +kernel
theorem dJ3_checkIndex_8e157_10 : decode cJ3_checkIndex_8e157 10 = .ok (.iload_n 0, 1) := by decide +kernel
theorem dJ3_checkIndex_8e157_11 : decode cJ3_checkIndex_8e157 11 = .ok (.iload_n 1, 1) := by decide +kernel
theorem dJ3_checkIndex_8e157_12 : decode cJ3_checkIndex_8e157 12 = .ok (.invokestatic 95, 3) := by decide +kernel
theorem dJ3_checkIndex_8e157_15 : decode cJ3_checkIndex_8e157 15 = .ok (.athrow, 1) := by decide +kernel
theorem dJ3_checkIndex_8e157_16 : decode cJ3_checkIndex_8e157 16 = .ok (.iload_n 0, 1) := by decide +kernel
theorem dJ3_checkIndex_8e157_17 : decode cJ3_checkIndex_8e157 17 = .ok (.ireturn, 1) := by decide +kernel
theorem jJ0_38 : Cond.fieldLink RJ0 38 "java/lang/String" "COMPACT_STRINGS" "Z" ∈ lw_all := tk3 (i := 4) (by decide +kernel) rfl
-- COMPACT_STRINGS
theorem jJ0_1053 : Cond.fieldLink RJ0 1053 "jdk/internal/util/Preconditions" "SIOOBE_FORMATTER" "Ljava/util/function/BiFunction;" ∈ lw_all := tk3 (i := 20) (by decide +kernel) rfl
-- SIOOBE_FORMATTER
theorem xJ1_92 : Cond.methodLink RJ1 92 Lib.Math.max.name ∈ lw_all := tk3 (i := 88) (by decide +kernel) rfl
theorem xJ1_38 : Cond.methodLink RJ1 38 Lib.Math.min.name ∈ lw_all := tk3 (i := 91) (by decide +kernel) rfl
theorem jX14_81 : Cond.fieldLink RX14 81 "SpiceQuayModel" "WORDS" "[Ljava/lang/String;" ∈ lw_all := tk7 (i := 138) (by decide +kernel) rfl
-- WORDS
theorem jJ0_9 : Cond.fieldLink RJ0 9 "java/lang/String" "value" "[B" ∈ lw_all := tk9 (i := 24) (by decide +kernel) rfl
theorem jJ0_15 : Cond.fieldLink RJ0 15 "java/lang/String" "coder" "B" ∈ lw_all := tk9 (i := 25) (by decide +kernel) rfl
def litX10_84 : List Int32 := [115, 112, 105, 99, 101, 32, 108, 111, 115, 115, 32, 103, 117, 105, 108, 100, 32, 102, 101, 101, 32, 98, 105, 97, 115, 32, 109, 101, 114, 99, 104, 97, 110, 116, 32, 99, 111, 105, 110, 115, 32, 99, 114, 101, 100, 105, 116, 32, 108, 111, 116, 32, 111, 102, 32, 115, 97, 99, 107, 115, 32, 102, 111, 114, 32, 119, 101, 105, 103, 104, 32, 98, 121, 32, 115, 101, 108, 108, 32, 116, 111, 32, 112, 97, 121, 32, 115, 117, 109, 32, 119, 104, 101, 110, 32, 100, 97, 121, 32, 100, 97, 109, 112, 32, 119, 101, 105, 103, 104, 116, 32, 99, 104, 111, 112, 32, 97, 103, 101, 32, 100, 101, 98, 116, 115, 32, 111, 119, 101, 115, 32, 111, 119, 110, 115, 32, 110, 111, 116, 32, 97, 110, 100, 32, 111, 114, 32, 109, 105, 110, 32, 109, 97, 120, 32]
def txX10_84 : String := "spice loss guild fee bias merchant coins credit lot of sacks for weigh by sell to pay sum when day damp weight chop age debts owes owns not and or min max "
def litX10_77 : List Int32 := [40, 41, 91, 93, 59, 44, 43, 45, 42, 47, 60, 62, 61]
def txX10_77 : String := "()[];,+-*/<>="
def litX14_74 : List Int32 := [40, 41, 91, 93, 59, 44, 43, 45, 42, 47, 60, 62, 61]
def txX14_74 : String := "()[];,+-*/<>="
def litW : List (List Int32) := [[115, 112, 105, 99, 101], [108, 111, 115, 115], [103, 117, 105, 108, 100], [102, 101, 101], [98, 105, 97, 115], [109, 101, 114, 99, 104, 97, 110, 116], [99, 111, 105, 110, 115], [99, 114, 101, 100, 105, 116], [108, 111, 116], [111, 102], [115, 97, 99, 107, 115], [102, 111, 114], [119, 101, 105, 103, 104], [98, 121], [115, 101, 108, 108], [116, 111], [112, 97, 121], [115, 117, 109], [119, 104, 101, 110], [100, 97, 121], [100, 97, 109, 112], [119, 101, 105, 103, 104, 116], [99, 104, 111, 112], [97, 103, 101], [100, 101, 98, 116, 115], [111, 119, 101, 115], [111, 119, 110, 115], [110, 111, 116], [97, 110, 100], [111, 114], [109, 105, 110], [109, 97, 120]]
abbrev cx0 (Γ : Cx) : State := Γ.2.2.2.2
def sb_ok (Γ : Cx) (av : Nat) (bs : List Int32) : Prop := va_T .byte av bs.length (fun j => .int (bs.getD j 0)) (gA Γ) (cx0 Γ) (cx0 Γ).heap ∧ bs.length ≤ 4000 ∧ ∀ b ∈ bs, b.toInt8.toInt32 = b
def sl_ok (Γ : Cx) (ad av : Nat) (bs : List Int32) : Prop := va_O "java/lang/String" ad (gA Γ) (cx0 Γ) (cx0 Γ).heap ∧ va_OF "java/lang/String" "coder" "B" (.int 0) ad (gA Γ) (cx0 Γ) (cx0 Γ).heap ∧ va_OF "java/lang/String" "value" "[B" (.ref av) ad (gA Γ) (cx0 Γ) (cx0 Γ).heap ∧ sb_ok Γ av bs
def LT (Γ : Cx) (own : String) (k : Nat) (tx : String) (bs : List Int32) : Prop := ∃ ad av, vk_R own k tx ad (cx0 Γ) ∧ sl_ok Γ ad av bs
def LW (Γ : Cx) : Prop := ∃ (aw : Nat) (adw avw : Nat → Nat), va_Z "SpiceQuayModel" "WORDS" "[Ljava/lang/String;" (.ref aw) (gA Γ) (cx0 Γ) (cx0 Γ).heap ∧ va_T (.object "java/lang/String") aw 32 (fun j => .ref (adw j)) (gA Γ) (cx0 Γ) (cx0 Γ).heap ∧ ∀ j : Nat, j < 32 → sl_ok Γ (adw j) (avw j) (litW.getD j [])
/-- what the entry gives of strings -/
def EF (Γ : Cx) : Prop := va_Z "java/lang/String" "COMPACT_STRINGS" "Z" (.int 1) (gA Γ) (cx0 Γ) (cx0 Γ).heap ∧ va_Zq "jdk/internal/util/Preconditions" "SIOOBE_FORMATTER" "Ljava/util/function/BiFunction;" (gA Γ) (cx0 Γ) (cx0 Γ).heap ∧ LT Γ RX10 84 txX10_84 litX10_84 ∧ LT Γ RX10 77 txX10_77 litX10_77 ∧ LT Γ RX14 74 txX14_74 litX14_74 ∧ LW Γ
theorem EN.ag {Γ : Cx} {s : State} (hE : EN Γ s) : ∀ a : Nat, a < (cx0 Γ).heap.size → ¬ gA Γ a → s.heap[a]? = (cx0 Γ).heap[a]? := fun a _ ha => hE.2.2 a (Nat.lt_of_not_le ha)
theorem EN.T {Γ : Cx} {s : State} (hE : EN Γ s) {ty : FieldType} {t N : Nat} {f : Nat → Value} (h : va_T ty t N f (gA Γ) (cx0 Γ) (cx0 Γ).heap) : va_T ty t N f (gA Γ) s s.heap := va_T.moved hE.1.alike (h.kept hE.ag)
theorem EN.O {Γ : Cx} {s : State} (hE : EN Γ s) {E : String} {t : Nat} (h : va_O E t (gA Γ) (cx0 Γ) (cx0 Γ).heap) : va_O E t (gA Γ) s s.heap := va_O.moved hE.1.alike (h.kept hE.ag)
theorem EN.OF {Γ : Cx} {s : State} (hE : EN Γ s) {a b d : String} {v : Value} {t : Nat} (h : va_OF a b d v t (gA Γ) (cx0 Γ) (cx0 Γ).heap) : va_OF a b d v t (gA Γ) s s.heap := va_OF.moved hE.1.alike (h.kept hE.ag)
theorem EN.Z {Γ : Cx} {s : State} (hE : EN Γ s) {a b d : String} {v : Value} (h : va_Z a b d v (gA Γ) (cx0 Γ) (cx0 Γ).heap) : va_Z a b d v (gA Γ) s s.heap := va_Z.moved hE.1.alike (h.kept hE.ag)
theorem LT.get {Γ : Cx} {s : State} {own tx : String} {k : Nat} {bs : List Int32} (hE : EN Γ s) (h : LT Γ own k tx bs) : ∃ ad av, vk_R own k tx ad s ∧ sl_ok Γ ad av bs := by
  obtain ⟨ad, av, h1, h2⟩ := h
  exact ⟨ad, av, vk_R.warm hE.1 h1, h2⟩
theorem q_ch (x : Int32) : narrow .char (.int (x.toUInt32 % 65536).toInt32) = .int (x.toUInt32 % 65536).toInt32 := by
  have e : ∀ y : UInt32, y.toInt32.toUInt32 = y := fun y => by simp
  have e2 : ∀ y : UInt32, y % 65536 % 65536 = y % 65536 := fun y => UInt32.toNat_inj.mp (by simp)
  simp [narrow, e, e2]
section WS
variable {p : Program} {l : Launch} {e : Env} {R : Room} {s : State} {m : MethodId} {args : Array Value} {below : List Frame} {meth : Method} {c : Code} {H H0 : Heap} {locs : List Loc} {cells slots : Nat} {Q : State → Prop}
variable {cc : ByteArray} {pc nL : Nat} {ls : Array Slot} {st0 rest As : List Value} {Γ : Cx} {sh : Sh} {v v1 : Va} {w : Vl} {own : String} {idx ci j a n nn hh mL mc ms : Nat} {cs : List Nat} {y : MethodName} {b : ByteArray} {ret : Option FieldType}
theorem sl_recv {ad av : Nat} {bs : List Int32} (hE : EN Γ s) (hS : va_S (gA Γ) s.heap H locs) (h : sl_ok Γ ad av bs) : ∃ cell : Cell, H[ad]? = some cell ∧ cell.vm.isStatics = false ∧ s.vm.findClass "java/lang/String" = some cell.cls := by
  obtain ⟨cell, h1, h2, h3, -⟩ := (hE.O h.1).kept hS.2.1
  exact ⟨cell, h1, h2, h3⟩
theorem s_rV (hx : p.tables.exec = Jvm.exec) (hb : c.code = cc) (hml : c.maxLocals = nL) (hts : ∀ w ∈ lw_all, w.before args s = true) (hown : s.vm.findClass own = some m.cls) (hK : wK Γ s) {rm : Room} {Pc : Array Value → State → Prop} {Qc : Array Value → State → Outcome → State → Prop} {free : Addr → Prop} (hM : Met l y (ws_ y b mL ret) rm Pc Qc mc ms free) (hrc : rm.cells = mc) (hrs : rm.slots = ms) (hC : CAV y b mL ret nn) (hL : ML own idx y) (hrecv : ∃ cell : Cell, H[a]? = some cell ∧ cell.vm.isStatics = false ∧ s.vm.findClass y.cls = some cell.cls) (hbl : FrameBlind Pc) (hpc : ∀ U : State, U.heap = H → s.WarmedH U.vm → Pc (Value.ref (a) :: As).toArray U) (hst : st0 = As.reverse ++ .ref (a) :: rest) (hls : ls.size = nL) (hn : As.length = nn) (hW : (rest.map fun v => v.category).sum ≤ 8) (hR : rm.frames + 1 ≤ R.frames ∧ 8 + (mL + 11) + rm.locals ≤ R.locals) (hf : cells + mc ≤ R.cells ∧ slots + ms ≤ R.slots) (hdg : decode cc pc = .ok (.invokevirtual idx, 3)) : va_Run p l e R s m args below meth c H locs cells slots mc ms (F0 m pc ls st0) rest (Qc (Value.ref (a) :: As).toArray) free := by
  obtain ⟨-, -, h1, h2, hax⟩ := id hC
  rcases hL with hl | ⟨host, hl⟩
  · exact va_runV (C := y.cls) (n := nn) ⟨hx, hb, hml, hown, hts⟩ hM ⟨⟨hrc, hrs, hR.1, hR.2, w_hws hts hC.1, List.mem_cons_self, hts _ hC.1, hts _ hC.2.1, ⟨hax.1, hax.2.1⟩, w_len hax, hts _ hl⟩, hts _ h1, hts _ h2⟩ ⟨hbl, hrecv, hpc⟩ rfl hn hls hst (by simpa [JFrame.monitorRoom] using hW) hdg hf
  · exact va_runVN (C := y.cls) (n := nn) ⟨hx, hb, hml, hown, hts⟩ hM ⟨⟨⟨hrc, hrs, hR.1, hR.2, w_hws hts hC.1, List.mem_cons_self⟩, hts _ hC.1, hts _ hC.2.1, ⟨hax.1, hax.2.1⟩, w_len hax, hts _ hl⟩, hts _ h1, hts _ h2⟩ ⟨hbl, hrecv, hpc⟩ rfl hn hls hst (by simpa [JFrame.monitorRoom] using hW) hdg hf
theorem s_cVi (hx : p.tables.exec = Jvm.exec) (hb : c.code = cc) (hml : c.maxLocals = nL) (hts : ∀ w ∈ lw_all, w.before args s = true) (hown : s.vm.findClass own = some m.cls) (hK : wK Γ s) (hP : Wd Γ sh v w H) (hS : va_S (gA Γ) s.heap H locs) (hz : H.size = Γ.2.1 + n) (hE : EN Γ s) {post : Int32 → Va → Prop} (hM : MetI l y b mL ret hh Γ sh v w n (.ref (a) :: As) post) (hC : CAV y b mL ret nn) (hL : ML own idx y) (hrecv : ∃ cell : Cell, H[a]? = some cell ∧ cell.vm.isStatics = false ∧ s.vm.findClass y.cls = some cell.cls) (hst : st0 = As.reverse ++ .ref (a) :: rest) (hn : As.length = nn) (hls : ls.size = nL) (hW : (rest.map fun v => v.category).sum ≤ 8) (hR : hh + 1 ≤ R.frames ∧ 8 + (mL + 11) + 40 * hh ≤ R.locals) (hf : cells ≤ R.cells ∧ slots ≤ R.slots) (hdg : decode cc pc = .ok (.invokevirtual idx, 3)) (kk : ∀ (r : Int32) (v1 : Va) (H1 : Heap) (locs1 : List Loc), post r v1 → H1.size = Γ.2.1 + n → Wd Γ sh v1 w H1 → va_S (gA Γ) s.heap H1 locs1 → W p l e R s m args below meth c H1 locs1 cells slots Q (F0 m (pc + 3) ls (.int r :: rest))) : W p l e R s m args below meth c H locs cells slots Q (F0 m pc ls st0) := by
  refine va_calli (s_rV hx hb hml hts hown hK hM rfl rfl hC hL hrecv PN.blind (w_pn hK hE hS hP hz) hst hls hn hW hR hf hdg) hS (fun q _ h => h) (fun q h => h) (fun r u t H1 locs1 ht hvm hp hB hz1 hk1 hS1 => ?_)
  obtain ⟨hP1, -, hz2, -⟩ := hB
  rw [ht] at hP1 hz2
  exact kk r u H1 locs1 hp hz2 hP1 hS1
theorem z_sVi (hx : p.tables.exec = Jvm.exec) (hb : c.code = cc) (hml : c.maxLocals = nL) (hts : ∀ w ∈ lw_all, w.before args s = true) (hown : s.vm.findClass own = some m.cls) (hK : wK Γ s) (hP : Wd Γ sh v w H) (hS : va_S (gA Γ) s.heap H locs) (hz : H.size = Γ.2.1 + n) (hE : EN Γ s) {r1 : Int32} (hM : MetI l y b mL ret hh Γ sh v w n (.ref (a) :: As) (fun x u => x = r1 ∧ u = v1)) (hC : CAV y b mL ret nn) (hL : ML own idx y) (hrecv : ∃ cell : Cell, H[a]? = some cell ∧ cell.vm.isStatics = false ∧ s.vm.findClass y.cls = some cell.cls) (hst : st0 = As.reverse ++ .ref (a) :: rest) (hn : As.length = nn) (hls : ls.size = nL) (hW : (rest.map fun v => v.category).sum ≤ 8) (hR : hh + 1 ≤ R.frames ∧ 8 + (mL + 11) + 40 * hh ≤ R.locals) (hf : cells ≤ R.cells ∧ slots ≤ R.slots) (hdg : decode cc pc = .ok (.invokevirtual idx, 3)) (kk : ∀ (H1 : Heap) (locs1 : List Loc), H1.size = Γ.2.1 + n → Wd Γ sh v1 w H1 → va_S (gA Γ) s.heap H1 locs1 → W p l e R s m args below meth c H1 locs1 cells slots Q (F0 m (pc + 3) ls (.int r1 :: rest))) : W p l e R s m args below meth c H locs cells slots Q (F0 m pc ls st0) := by
  refine s_cVi hx hb hml hts hown hK hP hS hz hE hM hC hL hrecv hst hn hls hW hR hf hdg fun r u H1 locs1 hp h1 h2 h3 => ?_
  obtain ⟨rfl, rfl⟩ := hp
  exact kk H1 locs1 h1 h2 h3
end WS
