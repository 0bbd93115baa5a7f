/-! text builders: numbers and letters -/
theorem dJ5_isLatin1_aae02_0 : decode cJ5_isLatin1_aae02 0 = .ok (.getstatic 18, 3) := by decide +kernel
theorem dJ5_isLatin1_aae02_3 : decode cJ5_isLatin1_aae02 3 = .ok (.ifCond .eq 14, 3) := by decide +kernel
theorem dJ5_isLatin1_aae02_6 : decode cJ5_isLatin1_aae02 6 = .ok (.aload_n 0, 1) := by decide +kernel
theorem dJ5_isLatin1_aae02_7 : decode cJ5_isLatin1_aae02 7 = .ok (.getfield 22, 3) := by decide +kernel
theorem dJ5_isLatin1_aae02_10 : decode cJ5_isLatin1_aae02 10 = .ok (.ifCond .ne 7, 3) := by decide +kernel
theorem dJ5_isLatin1_aae02_13 : decode cJ5_isLatin1_aae02 13 = .ok (.iconst 1, 1) := by decide +kernel
theorem dJ5_isLatin1_aae02_14 : decode cJ5_isLatin1_aae02 14 = .ok (.goto 4, 3) := by decide +kernel
theorem dJ5_isLatin1_aae02_17 : decode cJ5_isLatin1_aae02 17 = .ok (.iconst 0, 1) := by decide +kernel
theorem dJ5_isLatin1_aae02_18 : decode cJ5_isLatin1_aae02 18 = .ok (.ireturn, 1) := by decide +kernel
theorem dJ6_stringSize_0f7a4_0 : decode cJ6_stringSize_0f7a4 0 = .ok (.iconst 1, 1) := by decide +kernel
theorem dJ6_stringSize_0f7a4_1 : decode cJ6_stringSize_0f7a4 1 = .ok (.istore_n 1, 1) := by decide +kernel
theorem dJ6_stringSize_0f7a4_2 : decode cJ6_stringSize_0f7a4 2 = .ok (.iload_n 0, 1) := by decide +kernel
theorem dJ6_stringSize_0f7a4_3 : decode cJ6_stringSize_0f7a4 3 = .ok (.ifCond .lt 8, 3) := by decide +kernel
theorem dJ6_stringSize_0f7a4_6 : decode cJ6_stringSize_0f7a4 6 = .ok (.iconst 0, 1) := by decide +kernel
theorem dJ6_stringSize_0f7a4_7 : decode cJ6_stringSize_0f7a4 7 = .ok (.istore_n 1, 1) := by decide +kernel
theorem dJ6_stringSize_0f7a4_8 : decode cJ6_stringSize_0f7a4 8 = .ok (.iload_n 0, 1) := by decide +kernel
theorem dJ6_stringSize_0f7a4_9 : decode cJ6_stringSize_0f7a4 9 = .ok (.ineg, 1) := by decide +kernel
theorem dJ6_stringSize_0f7a4_10 : decode cJ6_stringSize_0f7a4 10 = .ok (.istore_n 0, 1) := by decide +kernel
theorem dJ6_stringSize_0f7a4_11 : decode cJ6_stringSize_0f7a4 11 = .ok (.bipush (-10), 2) := by decide +kernel
theorem dJ6_stringSize_0f7a4_13 : decode cJ6_stringSize_0f7a4 13 = .ok (.istore_n 2, 1) := by decide +kernel
theorem dJ6_stringSize_0f7a4_14 : decode cJ6_stringSize_0f7a4 14 = .ok (.iconst 1, 1) := by decide +kernel
theorem dJ6_stringSize_0f7a4_15 : decode cJ6_stringSize_0f7a4 15 = .ok (.istore_n 3, 1) := by decide +kernel
theorem dJ6_stringSize_0f7a4_16 : decode cJ6_stringSize_0f7a4 16 = .ok (.iload_n 3, 1) := by decide +kernel
theorem dJ6_stringSize_0f7a4_17 : decode cJ6_stringSize_0f7a4 17 = .ok (.bipush 10, 2) := by decide +kernel
theorem dJ6_stringSize_0f7a4_19 : decode cJ6_stringSize_0f7a4 19 = .ok (.if_icmp .ge 23, 3) := by decide +kernel
theorem dJ6_stringSize_0f7a4_22 : decode cJ6_stringSize_0f7a4 22 = .ok (.iload_n 0, 1) := by decide +kernel
theorem dJ6_stringSize_0f7a4_23 : decode cJ6_stringSize_0f7a4 23 = .ok (.iload_n 2, 1) := by decide +kernel
theorem dJ6_stringSize_0f7a4_24 : decode cJ6_stringSize_0f7a4 24 = .ok (.if_icmp .le 7, 3) := by decide +kernel
theorem dJ6_stringSize_0f7a4_27 : decode cJ6_stringSize_0f7a4 27 = .ok (.iload_n 3, 1) := by decide +kernel
theorem dJ6_stringSize_0f7a4_28 : decode cJ6_stringSize_0f7a4 28 = .ok (.iload_n 1, 1) := by decide +kernel
theorem dJ6_stringSize_0f7a4_29 : decode cJ6_stringSize_0f7a4 29 = .ok (.iadd, 1) := by decide +kernel
theorem dJ6_stringSize_0f7a4_30 : decode cJ6_stringSize_0f7a4 30 = .ok (.ireturn, 1) := by decide +kernel
theorem dJ6_stringSize_0f7a4_31 : decode cJ6_stringSize_0f7a4 31 = .ok (.bipush 10, 2) := by decide +kernel
theorem dJ6_stringSize_0f7a4_33 : decode cJ6_stringSize_0f7a4 33 = .ok (.iload_n 2, 1) := by decide +kernel
theorem dJ6_stringSize_0f7a4_34 : decode cJ6_stringSize_0f7a4 34 = .ok (.imul, 1) := by decide +kernel
theorem dJ6_stringSize_0f7a4_35 : decode cJ6_stringSize_0f7a4 35 = .ok (.istore_n 2, 1) := by decide +kernel
theorem dJ6_stringSize_0f7a4_36 : decode cJ6_stringSize_0f7a4 36 = .ok (.iinc 3 1, 3) := by decide +kernel
theorem dJ6_stringSize_0f7a4_39 : decode cJ6_stringSize_0f7a4 39 = .ok (.goto (-23), 3) := by decide +kernel
theorem dJ6_stringSize_0f7a4_42 : decode cJ6_stringSize_0f7a4 42 = .ok (.bipush 10, 2) := by decide +kernel
theorem dJ6_stringSize_0f7a4_44 : decode cJ6_stringSize_0f7a4 44 = .ok (.iload_n 1, 1) := by decide +kernel
theorem dJ6_stringSize_0f7a4_45 : decode cJ6_stringSize_0f7a4 45 = .ok (.iadd, 1) := by decide +kernel
theorem dJ6_stringSize_0f7a4_46 : decode cJ6_stringSize_0f7a4 46 = .ok (.ireturn, 1) := by decide +kernel
theorem dJ6_getChars_ba4f3_0 : decode cJ6_getChars_ba4f3 0 = .ok (.iload_n 1, 1) := by decide +kernel
theorem dJ6_getChars_ba4f3_1 : decode cJ6_getChars_ba4f3 1 = .ok (.istore 5, 2) := by decide +kernel
theorem dJ6_getChars_ba4f3_3 : decode cJ6_getChars_ba4f3 3 = .ok (.iload_n 0, 1) := by decide +kernel
theorem dJ6_getChars_ba4f3_4 : decode cJ6_getChars_ba4f3 4 = .ok (.ifCond .ge 7, 3) := by decide +kernel
theorem dJ6_getChars_ba4f3_7 : decode cJ6_getChars_ba4f3 7 = .ok (.iconst 1, 1) := by decide +kernel
theorem dJ6_getChars_ba4f3_8 : decode cJ6_getChars_ba4f3 8 = .ok (.goto 4, 3) := by decide +kernel
theorem dJ6_getChars_ba4f3_11 : decode cJ6_getChars_ba4f3 11 = .ok (.iconst 0, 1) := by decide +kernel
theorem dJ6_getChars_ba4f3_12 : decode cJ6_getChars_ba4f3 12 = .ok (.istore 6, 2) := by decide +kernel
theorem dJ6_getChars_ba4f3_14 : decode cJ6_getChars_ba4f3 14 = .ok (.iload 6, 2) := by decide +kernel
theorem dJ6_getChars_ba4f3_16 : decode cJ6_getChars_ba4f3 16 = .ok (.ifCond .ne 6, 3) := by decide +kernel
theorem dJ6_getChars_ba4f3_19 : decode cJ6_getChars_ba4f3 19 = .ok (.iload_n 0, 1) := by decide +kernel
theorem dJ6_getChars_ba4f3_20 : decode cJ6_getChars_ba4f3 20 = .ok (.ineg, 1) := by decide +kernel
theorem dJ6_getChars_ba4f3_21 : decode cJ6_getChars_ba4f3 21 = .ok (.istore_n 0, 1) := by decide +kernel
theorem dJ6_getChars_ba4f3_22 : decode cJ6_getChars_ba4f3 22 = .ok (.iload_n 0, 1) := by decide +kernel
theorem dJ6_getChars_ba4f3_23 : decode cJ6_getChars_ba4f3 23 = .ok (.bipush (-100), 2) := by decide +kernel
theorem dJ6_getChars_ba4f3_25 : decode cJ6_getChars_ba4f3 25 = .ok (.if_icmp .gt 47, 3) := by decide +kernel
theorem dJ6_getChars_ba4f3_28 : decode cJ6_getChars_ba4f3 28 = .ok (.iload_n 0, 1) := by decide +kernel
theorem dJ6_getChars_ba4f3_29 : decode cJ6_getChars_ba4f3 29 = .ok (.bipush 100, 2) := by decide +kernel
theorem dJ6_getChars_ba4f3_31 : decode cJ6_getChars_ba4f3 31 = .ok (.idiv, 1) := by decide +kernel
theorem dJ6_getChars_ba4f3_32 : decode cJ6_getChars_ba4f3 32 = .ok (.istore_n 3, 1) := by decide +kernel
theorem dJ6_getChars_ba4f3_33 : decode cJ6_getChars_ba4f3 33 = .ok (.iload_n 3, 1) := by decide +kernel
theorem dJ6_getChars_ba4f3_34 : decode cJ6_getChars_ba4f3 34 = .ok (.bipush 100, 2) := by decide +kernel
theorem dJ6_getChars_ba4f3_36 : decode cJ6_getChars_ba4f3 36 = .ok (.imul, 1) := by decide +kernel
theorem dJ6_getChars_ba4f3_37 : decode cJ6_getChars_ba4f3 37 = .ok (.iload_n 0, 1) := by decide +kernel
theorem dJ6_getChars_ba4f3_38 : decode cJ6_getChars_ba4f3 38 = .ok (.isub, 1) := by decide +kernel
theorem dJ6_getChars_ba4f3_39 : decode cJ6_getChars_ba4f3 39 = .ok (.istore 4, 2) := by decide +kernel
theorem dJ6_getChars_ba4f3_41 : decode cJ6_getChars_ba4f3 41 = .ok (.iload_n 3, 1) := by decide +kernel
theorem dJ6_getChars_ba4f3_42 : decode cJ6_getChars_ba4f3 42 = .ok (.istore_n 0, 1) := by decide +kernel
theorem dJ6_getChars_ba4f3_43 : decode cJ6_getChars_ba4f3 43 = .ok (.aload_n 2, 1) := by decide +kernel
theorem dJ6_getChars_ba4f3_44 : decode cJ6_getChars_ba4f3 44 = .ok (.iinc 5 (-1), 3) := by decide +kernel
theorem dJ6_getChars_ba4f3_47 : decode cJ6_getChars_ba4f3 47 = .ok (.iload 5, 2) := by decide +kernel
theorem dJ6_getChars_ba4f3_49 : decode cJ6_getChars_ba4f3 49 = .ok (.getstatic 83, 3) := by decide +kernel
theorem dJ6_getChars_ba4f3_52 : decode cJ6_getChars_ba4f3 52 = .ok (.iload 4, 2) := by decide +kernel
theorem dJ6_getChars_ba4f3_54 : decode cJ6_getChars_ba4f3 54 = .ok (.baload, 1) := by decide +kernel
theorem dJ6_getChars_ba4f3_55 : decode cJ6_getChars_ba4f3 55 = .ok (.bastore, 1) := by decide +kernel
theorem dJ6_getChars_ba4f3_56 : decode cJ6_getChars_ba4f3 56 = .ok (.aload_n 2, 1) := by decide +kernel
theorem dJ6_getChars_ba4f3_57 : decode cJ6_getChars_ba4f3 57 = .ok (.iinc 5 (-1), 3) := by decide +kernel
theorem dJ6_getChars_ba4f3_60 : decode cJ6_getChars_ba4f3 60 = .ok (.iload 5, 2) := by decide +kernel
theorem dJ6_getChars_ba4f3_62 : decode cJ6_getChars_ba4f3 62 = .ok (.getstatic 87, 3) := by decide +kernel
theorem dJ6_getChars_ba4f3_65 : decode cJ6_getChars_ba4f3 65 = .ok (.iload 4, 2) := by decide +kernel
theorem dJ6_getChars_ba4f3_67 : decode cJ6_getChars_ba4f3 67 = .ok (.baload, 1) := by decide +kernel
theorem dJ6_getChars_ba4f3_68 : decode cJ6_getChars_ba4f3 68 = .ok (.bastore, 1) := by decide +kernel
theorem dJ6_getChars_ba4f3_69 : decode cJ6_getChars_ba4f3 69 = .ok (.goto (-47), 3) := by decide +kernel
theorem dJ6_getChars_ba4f3_72 : decode cJ6_getChars_ba4f3 72 = .ok (.aload_n 2, 1) := by decide +kernel
theorem dJ6_getChars_ba4f3_73 : decode cJ6_getChars_ba4f3 73 = .ok (.iinc 5 (-1), 3) := by decide +kernel
theorem dJ6_getChars_ba4f3_76 : decode cJ6_getChars_ba4f3 76 = .ok (.iload 5, 2) := by decide +kernel
theorem dJ6_getChars_ba4f3_78 : decode cJ6_getChars_ba4f3 78 = .ok (.getstatic 83, 3) := by decide +kernel
theorem dJ6_getChars_ba4f3_81 : decode cJ6_getChars_ba4f3 81 = .ok (.iload_n 0, 1) := by decide +kernel
theorem dJ6_getChars_ba4f3_82 : decode cJ6_getChars_ba4f3 82 = .ok (.ineg, 1) := by decide +kernel
theorem dJ6_getChars_ba4f3_83 : decode cJ6_getChars_ba4f3 83 = .ok (.baload, 1) := by decide +kernel
theorem dJ6_getChars_ba4f3_84 : decode cJ6_getChars_ba4f3 84 = .ok (.bastore, 1) := by decide +kernel
theorem dJ6_getChars_ba4f3_85 : decode cJ6_getChars_ba4f3 85 = .ok (.iload_n 0, 1) := by decide +kernel
theorem dJ6_getChars_ba4f3_86 : decode cJ6_getChars_ba4f3 86 = .ok (.bipush (-9), 2) := by decide +kernel
theorem dJ6_getChars_ba4f3_88 : decode cJ6_getChars_ba4f3 88 = .ok (.if_icmp .ge 16, 3) := by decide +kernel
theorem dJ6_getChars_ba4f3_91 : decode cJ6_getChars_ba4f3 91 = .ok (.aload_n 2, 1) := by decide +kernel
theorem dJ6_getChars_ba4f3_92 : decode cJ6_getChars_ba4f3 92 = .ok (.iinc 5 (-1), 3) := by decide +kernel
theorem dJ6_getChars_ba4f3_95 : decode cJ6_getChars_ba4f3 95 = .ok (.iload 5, 2) := by decide +kernel
theorem dJ6_getChars_ba4f3_97 : decode cJ6_getChars_ba4f3 97 = .ok (.getstatic 87, 3) := by decide +kernel
theorem dJ6_getChars_ba4f3_100 : decode cJ6_getChars_ba4f3 100 = .ok (.iload_n 0, 1) := by decide +kernel
theorem dJ6_getChars_ba4f3_101 : decode cJ6_getChars_ba4f3 101 = .ok (.ineg, 1) := by decide +kernel
theorem dJ6_getChars_ba4f3_102 : decode cJ6_getChars_ba4f3 102 = .ok (.baload, 1) := by decide +kernel
theorem dJ6_getChars_ba4f3_103 : decode cJ6_getChars_ba4f3 103 = .ok (.bastore, 1) := by decide +kernel
theorem dJ6_getChars_ba4f3_104 : decode cJ6_getChars_ba4f3 104 = .ok (.iload 6, 2) := by decide +kernel
theorem dJ6_getChars_ba4f3_106 : decode cJ6_getChars_ba4f3 106 = .ok (.ifCond .eq 12, 3) := by decide +kernel
theorem dJ6_getChars_ba4f3_109 : decode cJ6_getChars_ba4f3 109 = .ok (.aload_n 2, 1) := by decide +kernel
theorem dJ6_getChars_ba4f3_110 : decode cJ6_getChars_ba4f3 110 = .ok (.iinc 5 (-1), 3) := by decide +kernel
theorem dJ6_getChars_ba4f3_113 : decode cJ6_getChars_ba4f3 113 = .ok (.iload 5, 2) := by decide +kernel
theorem dJ6_getChars_ba4f3_115 : decode cJ6_getChars_ba4f3 115 = .ok (.bipush 45, 2) := by decide +kernel
theorem dJ6_getChars_ba4f3_117 : decode cJ6_getChars_ba4f3 117 = .ok (.bastore, 1) := by decide +kernel
theorem dJ6_getChars_ba4f3_118 : decode cJ6_getChars_ba4f3 118 = .ok (.iload 5, 2) := by decide +kernel
theorem dJ6_getChars_ba4f3_120 : decode cJ6_getChars_ba4f3 120 = .ok (.ireturn, 1) := by decide +kernel
theorem dJ5_append_c97b9_0 : decode cJ5_append_c97b9 0 = .ok (.aload_n 0, 1) := by decide +kernel
theorem dJ5_append_c97b9_1 : decode cJ5_append_c97b9 1 = .ok (.getfield 79, 3) := by decide +kernel
theorem dJ5_append_c97b9_4 : decode cJ5_append_c97b9 4 = .ok (.istore_n 2, 1) := by decide +kernel
theorem dJ5_append_c97b9_5 : decode cJ5_append_c97b9 5 = .ok (.iload_n 2, 1) := by decide +kernel
theorem dJ5_append_c97b9_6 : decode cJ5_append_c97b9 6 = .ok (.iload_n 1, 1) := by decide +kernel
theorem dJ5_append_c97b9_7 : decode cJ5_append_c97b9 7 = .ok (.invokestatic 245, 3) := by decide +kernel
theorem dJ5_append_c97b9_10 : decode cJ5_append_c97b9 10 = .ok (.iadd, 1) := by decide +kernel
theorem dJ5_append_c97b9_11 : decode cJ5_append_c97b9 11 = .ok (.istore_n 3, 1) := by decide +kernel
theorem dJ5_append_c97b9_12 : decode cJ5_append_c97b9 12 = .ok (.aload_n 0, 1) := by decide +kernel
theorem dJ5_append_c97b9_13 : decode cJ5_append_c97b9 13 = .ok (.iload_n 3, 1) := by decide +kernel
theorem dJ5_append_c97b9_14 : decode cJ5_append_c97b9 14 = .ok (.invokevirtual 100, 3) := by decide +kernel
theorem dJ5_append_c97b9_17 : decode cJ5_append_c97b9 17 = .ok (.aload_n 0, 1) := by decide +kernel
theorem dJ5_append_c97b9_18 : decode cJ5_append_c97b9 18 = .ok (.invokevirtual 83, 3) := by decide +kernel
theorem dJ5_append_c97b9_21 : decode cJ5_append_c97b9 21 = .ok (.ifCond .eq 16, 3) := by decide +kernel
theorem dJ5_append_c97b9_24 : decode cJ5_append_c97b9 24 = .ok (.iload_n 1, 1) := by decide +kernel
theorem dJ5_append_c97b9_25 : decode cJ5_append_c97b9 25 = .ok (.iload_n 3, 1) := by decide +kernel
theorem dJ5_append_c97b9_26 : decode cJ5_append_c97b9 26 = .ok (.aload_n 0, 1) := by decide +kernel
theorem dJ5_append_c97b9_27 : decode cJ5_append_c97b9 27 = .ok (.getfield 15, 3) := by decide +kernel
theorem dJ5_append_c97b9_30 : decode cJ5_append_c97b9 30 = .ok (.invokestatic 248, 3) := by decide +kernel
theorem dJ5_append_c97b9_33 : decode cJ5_append_c97b9 33 = .ok (.pop, 1) := by decide +kernel
theorem dJ5_append_c97b9_34 : decode cJ5_append_c97b9 34 = .ok (.goto 14, 3) := by decide +kernel
theorem dJ5_append_c97b9_37 : decode cJ5_append_c97b9 37 = .ok (.iload_n 1, 1) := by decide +kernel
theorem dJ5_append_c97b9_38 : decode cJ5_append_c97b9 38 = .ok (.iload_n 2, 1) := by decide +kernel
theorem dJ5_append_c97b9_39 : decode cJ5_append_c97b9 39 = .ok (.iload_n 3, 1) := by decide +kernel
theorem dJ5_append_c97b9_40 : decode cJ5_append_c97b9 40 = .ok (.aload_n 0, 1) := by decide +kernel
theorem dJ5_append_c97b9_41 : decode cJ5_append_c97b9 41 = .ok (.getfield 15, 3) := by decide +kernel
theorem dJ5_append_c97b9_44 : decode cJ5_append_c97b9 44 = .ok (.invokestatic 251, 3) := by decide +kernel
theorem dJ5_append_c97b9_47 : decode cJ5_append_c97b9 47 = .ok (.pop, 1) := by decide +kernel
theorem dJ5_append_c97b9_48 : decode cJ5_append_c97b9 48 = .ok (.aload_n 0, 1) := by decide +kernel
theorem dJ5_append_c97b9_49 : decode cJ5_append_c97b9 49 = .ok (.iload_n 3, 1) := by decide +kernel
theorem dJ5_append_c97b9_50 : decode cJ5_append_c97b9 50 = .ok (.putfield 79, 3) := by decide +kernel
theorem dJ5_append_c97b9_53 : decode cJ5_append_c97b9 53 = .ok (.aload_n 0, 1) := by decide +kernel
theorem dJ5_append_c97b9_54 : decode cJ5_append_c97b9 54 = .ok (.areturn, 1) := by decide +kernel
theorem dJ4_append_bf812_0 : decode cJ4_append_bf812 0 = .ok (.aload_n 0, 1) := by decide +kernel
theorem dJ4_append_bf812_1 : decode cJ4_append_bf812 1 = .ok (.iload_n 1, 1) := by decide +kernel
theorem dJ4_append_bf812_2 : decode cJ4_append_bf812 2 = .ok (.invokespecial 53, 3) := by decide +kernel
theorem dJ4_append_bf812_5 : decode cJ4_append_bf812 5 = .ok (.pop, 1) := by decide +kernel
theorem dJ4_append_bf812_6 : decode cJ4_append_bf812 6 = .ok (.aload_n 0, 1) := by decide +kernel
theorem dJ4_append_bf812_7 : decode cJ4_append_bf812 7 = .ok (.areturn, 1) := by decide +kernel
theorem dJ1_canEncode_fc78d_0 : decode cJ1_canEncode_fc78d 0 = .ok (.iload_n 0, 1) := by decide +kernel
theorem dJ1_canEncode_fc78d_1 : decode cJ1_canEncode_fc78d 1 = .ok (.sipush 255, 3) := by decide +kernel
theorem dJ1_canEncode_fc78d_4 : decode cJ1_canEncode_fc78d 4 = .ok (.if_icmp .gt 7, 3) := by decide +kernel
theorem dJ1_canEncode_fc78d_7 : decode cJ1_canEncode_fc78d 7 = .ok (.iconst 1, 1) := by decide +kernel
theorem dJ1_canEncode_fc78d_8 : decode cJ1_canEncode_fc78d 8 = .ok (.goto 4, 3) := by decide +kernel
theorem dJ1_canEncode_fc78d_11 : decode cJ1_canEncode_fc78d 11 = .ok (.iconst 0, 1) := by decide +kernel
theorem dJ1_canEncode_fc78d_12 : decode cJ1_canEncode_fc78d 12 = .ok (.ireturn, 1) := by decide +kernel
theorem dJ5_append_3fe6f_0 : decode cJ5_append_3fe6f 0 = .ok (.aload_n 0, 1) := by decide +kernel
theorem dJ5_append_3fe6f_1 : decode cJ5_append_3fe6f 1 = .ok (.aload_n 0, 1) := by decide +kernel
theorem dJ5_append_3fe6f_2 : decode cJ5_append_3fe6f 2 = .ok (.getfield 79, 3) := by decide +kernel
theorem dJ5_append_3fe6f_5 : decode cJ5_append_3fe6f 5 = .ok (.iconst 1, 1) := by decide +kernel
theorem dJ5_append_3fe6f_6 : decode cJ5_append_3fe6f 6 = .ok (.iadd, 1) := by decide +kernel
theorem dJ5_append_3fe6f_7 : decode cJ5_append_3fe6f 7 = .ok (.invokevirtual 100, 3) := by decide +kernel
theorem dJ5_append_3fe6f_10 : decode cJ5_append_3fe6f 10 = .ok (.aload_n 0, 1) := by decide +kernel
theorem dJ5_append_3fe6f_11 : decode cJ5_append_3fe6f 11 = .ok (.invokevirtual 83, 3) := by decide +kernel
theorem dJ5_append_3fe6f_14 : decode cJ5_append_3fe6f 14 = .ok (.ifCond .eq 31, 3) := by decide +kernel
theorem dJ5_append_3fe6f_17 : decode cJ5_append_3fe6f 17 = .ok (.iload_n 1, 1) := by decide +kernel
theorem dJ5_append_3fe6f_18 : decode cJ5_append_3fe6f 18 = .ok (.invokestatic 191, 3) := by decide +kernel
theorem dJ5_append_3fe6f_21 : decode cJ5_append_3fe6f 21 = .ok (.ifCond .eq 24, 3) := by decide +kernel
theorem dJ5_append_3fe6f_24 : decode cJ5_append_3fe6f 24 = .ok (.aload_n 0, 1) := by decide +kernel
theorem dJ5_append_3fe6f_25 : decode cJ5_append_3fe6f 25 = .ok (.getfield 15, 3) := by decide +kernel
theorem dJ5_append_3fe6f_28 : decode cJ5_append_3fe6f 28 = .ok (.aload_n 0, 1) := by decide +kernel
theorem dJ5_append_3fe6f_29 : decode cJ5_append_3fe6f 29 = .ok (.dup, 1) := by decide +kernel
theorem dJ5_append_3fe6f_30 : decode cJ5_append_3fe6f 30 = .ok (.getfield 79, 3) := by decide +kernel
theorem dJ5_append_3fe6f_33 : decode cJ5_append_3fe6f 33 = .ok (.dup_x1, 1) := by decide +kernel
theorem dJ5_append_3fe6f_34 : decode cJ5_append_3fe6f 34 = .ok (.iconst 1, 1) := by decide +kernel
theorem dJ5_append_3fe6f_35 : decode cJ5_append_3fe6f 35 = .ok (.iadd, 1) := by decide +kernel
theorem dJ5_append_3fe6f_36 : decode cJ5_append_3fe6f 36 = .ok (.putfield 79, 3) := by decide +kernel
theorem dJ5_append_3fe6f_39 : decode cJ5_append_3fe6f 39 = .ok (.iload_n 1, 1) := by decide +kernel
theorem dJ5_append_3fe6f_40 : decode cJ5_append_3fe6f 40 = .ok (.i2b, 1) := by decide +kernel
theorem dJ5_append_3fe6f_41 : decode cJ5_append_3fe6f 41 = .ok (.bastore, 1) := by decide +kernel
theorem dJ5_append_3fe6f_42 : decode cJ5_append_3fe6f 42 = .ok (.goto 33, 3) := by decide +kernel
theorem dJ5_append_3fe6f_45 : decode cJ5_append_3fe6f 45 = .ok (.aload_n 0, 1) := by decide +kernel
theorem dJ5_append_3fe6f_46 : decode cJ5_append_3fe6f 46 = .ok (.invokevirtual 83, 3) := by decide +kernel
theorem dJ5_append_3fe6f_49 : decode cJ5_append_3fe6f 49 = .ok (.ifCond .eq 7, 3) := by decide +kernel
theorem dJ5_append_3fe6f_52 : decode cJ5_append_3fe6f 52 = .ok (.aload_n 0, 1) := by decide +kernel
theorem dJ5_append_3fe6f_53 : decode cJ5_append_3fe6f 53 = .ok (.invokevirtual 195, 3) := by decide +kernel
theorem dJ5_append_3fe6f_56 : decode cJ5_append_3fe6f 56 = .ok (.aload_n 0, 1) := by decide +kernel
theorem dJ5_append_3fe6f_57 : decode cJ5_append_3fe6f 57 = .ok (.getfield 15, 3) := by decide +kernel
theorem dJ5_append_3fe6f_60 : decode cJ5_append_3fe6f 60 = .ok (.aload_n 0, 1) := by decide +kernel
theorem dJ5_append_3fe6f_61 : decode cJ5_append_3fe6f 61 = .ok (.dup, 1) := by decide +kernel
theorem dJ5_append_3fe6f_62 : decode cJ5_append_3fe6f 62 = .ok (.getfield 79, 3) := by decide +kernel
theorem dJ5_append_3fe6f_65 : decode cJ5_append_3fe6f 65 = .ok (.dup_x1, 1) := by decide +kernel
theorem dJ5_append_3fe6f_66 : decode cJ5_append_3fe6f 66 = .ok (.iconst 1, 1) := by decide +kernel
theorem dJ5_append_3fe6f_67 : decode cJ5_append_3fe6f 67 = .ok (.iadd, 1) := by decide +kernel
theorem dJ5_append_3fe6f_68 : decode cJ5_append_3fe6f 68 = .ok (.putfield 79, 3) := by decide +kernel
theorem dJ5_append_3fe6f_71 : decode cJ5_append_3fe6f 71 = .ok (.iload_n 1, 1) := by decide +kernel
theorem dJ5_append_3fe6f_72 : decode cJ5_append_3fe6f 72 = .ok (.invokestatic 197, 3) := by decide +kernel
theorem dJ5_append_3fe6f_75 : decode cJ5_append_3fe6f 75 = .ok (.aload_n 0, 1) := by decide +kernel
theorem dJ5_append_3fe6f_76 : decode cJ5_append_3fe6f 76 = .ok (.areturn, 1) := by decide +kernel
theorem dJ4_append_cf468_0 : decode cJ4_append_cf468 0 = .ok (.aload_n 0, 1) := by decide +kernel
theorem dJ4_append_cf468_1 : decode cJ4_append_cf468 1 = .ok (.iload_n 1, 1) := by decide +kernel
theorem dJ4_append_cf468_2 : decode cJ4_append_cf468 2 = .ok (.invokespecial 50, 3) := by decide +kernel
theorem dJ4_append_cf468_5 : decode cJ4_append_cf468 5 = .ok (.pop, 1) := by decide +kernel
theorem dJ4_append_cf468_6 : decode cJ4_append_cf468 6 = .ok (.aload_n 0, 1) := by decide +kernel
theorem dJ4_append_cf468_7 : decode cJ4_append_cf468 7 = .ok (.areturn, 1) := by decide +kernel
theorem kp_J5_append_c97b9 : KP yJ5_append_c97b9 cJ5_append_c97b9 4 (Option.some (FieldType.object "java/lang/AbstractStringBuilder")) 1 := ⟨tw_5_26, tw_5_25, tw_1_19, by decide, by decide, by decide +kernel⟩
theorem kp_J5_append_3fe6f : KP yJ5_append_3fe6f cJ5_append_3fe6f 2 (Option.some (FieldType.object "java/lang/AbstractStringBuilder")) 1 := ⟨tw_5_177, tw_5_176, tw_1_19, by decide, by decide, by decide +kernel⟩
theorem kp_J5_isLatin1_aae02 : KP yJ5_isLatin1_aae02 cJ5_isLatin1_aae02 1 (Option.some FieldType.boolean) 0 := ⟨tw_4_209, tw_4_206, tw_1_19, by decide, by decide, by decide +kernel⟩
theorem kv_J6_stringSize_0f7a4 : KS yJ6_stringSize_0f7a4 cJ6_stringSize_0f7a4 4 (Option.some FieldType.int) 1 := ⟨tw_5_29, tw_5_28, tw_1_26, by decide, by decide, by decide +kernel⟩
theorem kv_J6_getChars_ba4f3 : KS yJ6_getChars_ba4f3 cJ6_getChars_ba4f3 7 (Option.some FieldType.int) 3 := ⟨tw_5_32, tw_5_31, tw_1_26, by decide, by decide, by decide +kernel⟩
theorem kv_J4_append_bf812 : KV yJ4_append_bf812 cJ4_append_bf812 2 (Option.some (FieldType.object "java/lang/StringBuilder")) 1 := ⟨tw_5_23, tw_5_21, tw_5_22, tw_1_20, by decide, by decide, by decide +kernel⟩
theorem kv_J1_canEncode_fc78d : KS yJ1_canEncode_fc78d cJ1_canEncode_fc78d 1 (Option.some FieldType.boolean) 1 := ⟨tw_5_180, tw_5_179, tw_1_24, by decide, by decide, by decide +kernel⟩
theorem kv_J4_append_cf468 : KV yJ4_append_cf468 cJ4_append_cf468 2 (Option.some (FieldType.object "java/lang/StringBuilder")) 1 := ⟨tw_5_174, tw_5_172, tw_5_173, tw_1_20, by decide, by decide, by decide +kernel⟩
theorem nI_neg {x : Nat} (h : x < 2 ^ 30) : (-nI x).toInt = -(x : Int) := by
  have h1 : (nI x).toInt = (x : Int) := nI_toInt (by omega)
  have h2 := pk_sub_toInt (a := 0) (b := x) (by omega) (by omega)
  rw [show (-nI x : Int32) = nI 0 - nI x from by show -nI x = 0 - nI x; simp, h2]
  omega
theorem nI_prm {k : Nat} (h : 1 ≤ k) : nI k + (-1) = nI (k - 1) := by
  rw [← nIsub h, Int32.sub_eq_add_neg]
  rfl
theorem nI_nle' {x c : Nat} (hx : x < 2 ^ 30) (hc : c < 2 ^ 30) : (-nI x ≤ -nI c) ↔ c ≤ x := by
  rw [Int32.le_iff_toInt_le, nI_neg hx, nI_neg hc]
  omega
def dgn (x : Nat) : Nat := if x < 10 then 1 else if x < 100 then 2 else if x < 1000 then 3 else 4
def dgc (x j : Nat) : Int32 := nI (48 + (x / 10 ^ (dgn x - 1 - j)) % 10)
theorem dgn_pos (x : Nat) : 1 ≤ dgn x ∧ dgn x ≤ 4 := by unfold dgn; split <;> (try split) <;> (try split) <;> omega
theorem dig_fit : ∀ d, d < 10 → fits .byte (.int (nI (48 + d))) = true := by decide +kernel
theorem dig_nar : ∀ d, d < 10 → vp_nar .byte (nI (48 + d)) = nI (48 + d) := by decide +kernel
theorem dgc_fit (x j : Nat) : fits .byte (.int (dgc x j)) = true := dig_fit _ (Nat.mod_lt _ (by decide))
theorem dg_split : ∀ a, a < 100 → ∀ b, b < 100 → (-(nI (100 * a + b))) / 100 = -(nI a) ∧ (-(nI a)) * 100 - (-(nI (100 * a + b))) = nI b := by decide +kernel
theorem dg_neg : ∀ a, a < 100 → -(-(nI a)) = nI a := by decide +kernel
def b_put (b : Nat → Int32) (k x : Nat) : Nat → Int32 := fun j => if k - dgn x ≤ j ∧ j < k then dgc x (j - (k - dgn x)) else b j
set_option maxHeartbeats 4000000 in
set_option maxRecDepth 100000 in
theorem k_isl1 (l : Launch) (G : Gx) (a v : Nat) (n0 : Int32) (sz : Nat) : k_M l yJ5_isLatin1_aae02 cJ5_isLatin1_aae02 1 (Option.some FieldType.boolean) 0 0 0 0 G (fun H => va_at G.1 z_cl (a, e_sb v n0) H) sz [.ref a] (some (.int 1)) (fun H => H.size = sz) (fun q => False) := by
  refine k_begin (by decide +kernel) (Nat.le_of_ble_eq_true rfl) [(0, .ref a)] rfl (fun p e s m args below meth c ls C hnm hsz hP hO hl => ?_)
  have S : va_S (fun q => False) s.heap s.heap [] := va_S.rf
  refine u_gets C hO C.2.2.2.2.2.1.2.2.2.2.2.2.2.1 tw_4_152 dJ5_isLatin1_aae02_0 ?_
  refine lv_if_eq (tgt := 17) C.1 C.2.1 dJ5_isLatin1_aae02_3 (by decide) (fun c_3 => absurd c_3 (by decide)) (fun c_3 => ?_)
  refine lv_aload_n C.1 C.2.1 dJ5_isLatin1_aae02_6 rfl (lv_at hl 0 rfl) ?_
  refine u_get C hP cf_14 1 (by decide) rfl tw_4_161 dJ5_isLatin1_aae02_7 ?_
  refine lv_if_ne (tgt := 17) C.1 C.2.1 dJ5_isLatin1_aae02_10 (by decide) (fun c_ => absurd rfl c_) (fun c_ => ?_)
  refine lv_iconst (v := 1) C.1 C.2.1 dJ5_isLatin1_aae02_13 (by decide) ?_
  refine lv_goto (tgt := 18) C.1 C.2.1 dJ5_isLatin1_aae02_14 (by decide) ?_
  exact k_zret C S rfl hsz (Nat.le_of_ble_eq_true rfl) (Nat.le_of_ble_eq_true rfl) dJ5_isLatin1_aae02_18
set_option maxHeartbeats 4000000 in
set_option maxRecDepth 100000 in
theorem k_strsz (l : Launch) (G : Gx) (x : Nat) (hx : x < 10000) (sz : Nat) : k_M l yJ6_stringSize_0f7a4 cJ6_stringSize_0f7a4 4 (Option.some FieldType.int) 0 0 0 0 G (fun H => True) sz [.int (nI x)] (some (.int (nI (dgn x)))) (fun H => H.size = sz) (fun q => False) := by
  refine k_begin (by decide +kernel) (Nat.le_of_ble_eq_true rfl) [(0, .int (nI x))] rfl (fun p e s m args below meth c ls C hnm hsz hP hO hl => ?_)
  have S : va_S (fun q => False) s.heap s.heap [] := va_S.rf
  refine lv_iconst (v := 1) C.1 C.2.1 dJ6_stringSize_0f7a4_0 (by decide) ?_
  refine lv_istore_n (lv' := [(1, .int 1), (0, .int (nI x))]) C.1 C.2.1 dJ6_stringSize_0f7a4_1 rfl hl (by decide) rfl (fun ls hl => ?_)
  refine lv_iload_n C.1 C.2.1 dJ6_stringSize_0f7a4_2 rfl (lv_at hl 1 rfl) ?_
  refine lv_if_lt (tgt := 11) C.1 C.2.1 dJ6_stringSize_0f7a4_3 (by decide) (fun c_ => absurd c_ (nI_pos (by omega))) (fun c_ => ?_)
  refine lv_iconst (v := 0) C.1 C.2.1 dJ6_stringSize_0f7a4_6 (by decide) ?_
  refine lv_istore_n (lv' := [(1, .int 0), (0, .int (nI x))]) C.1 C.2.1 dJ6_stringSize_0f7a4_7 rfl hl (by decide) rfl (fun ls hl => ?_)
  refine lv_iload_n C.1 C.2.1 dJ6_stringSize_0f7a4_8 rfl (lv_at hl 1 rfl) ?_
  refine lv_ineg C.1 C.2.1 dJ6_stringSize_0f7a4_9 ?_
  refine lv_istore_n (lv' := [(0, .int (-nI x)), (1, .int 0)]) C.1 C.2.1 dJ6_stringSize_0f7a4_10 rfl hl (by decide) rfl (fun ls hl => ?_)
  refine lv_bipush (v := -10) C.1 C.2.1 dJ6_stringSize_0f7a4_11 (by decide) ?_
  refine lv_istore_n (lv' := [(2, .int (-10)), (0, .int (-nI x)), (1, .int 0)]) C.1 C.2.1 dJ6_stringSize_0f7a4_13 rfl hl (by decide) rfl (fun ls hl => ?_)
  refine lv_iconst (v := 1) C.1 C.2.1 dJ6_stringSize_0f7a4_14 (by decide) ?_
  refine lv_istore_n (lv' := [(3, .int 1), (2, .int (-10)), (0, .int (-nI x)), (1, .int 0)]) C.1 C.2.1 dJ6_stringSize_0f7a4_15 rfl hl (by decide) rfl (fun ls hl => ?_)
  refine lv_iload_n C.1 C.2.1 dJ6_stringSize_0f7a4_16 rfl (lv_at hl 0 rfl) ?_
  refine lv_bipush (v := 10) C.1 C.2.1 dJ6_stringSize_0f7a4_17 (by decide) ?_
  refine lv_icmp_ge (tgt := 42) C.1 C.2.1 dJ6_stringSize_0f7a4_19 (by decide) (fun c_ => absurd c_ (by decide)) (fun c_ => ?_)
  refine lv_iload_n C.1 C.2.1 dJ6_stringSize_0f7a4_22 rfl (lv_at hl 2 rfl) ?_
  refine lv_iload_n C.1 C.2.1 dJ6_stringSize_0f7a4_23 rfl (lv_at hl 1 rfl) ?_
  refine lv_icmp_le (tgt := 31) C.1 C.2.1 dJ6_stringSize_0f7a4_24 (by decide) (fun c_ => ?_) (fun c_ => ?_)
  · have hge : 10 ≤ x := (nI_nle' (c := 10) (by omega) (by decide)).mp c_
    refine lv_bipush (v := 10) C.1 C.2.1 dJ6_stringSize_0f7a4_31 (by decide) ?_
    refine lv_iload_n C.1 C.2.1 dJ6_stringSize_0f7a4_33 rfl (lv_at hl 1 rfl) ?_
    refine lv_imul C.1 C.2.1 dJ6_stringSize_0f7a4_34 ?_
    rw [show (10 : Int32) * (-10) = (-100) by decide]
    refine lv_istore_n (lv' := [(2, .int (-100)), (3, .int 1), (0, .int (-nI x)), (1, .int 0)]) C.1 C.2.1 dJ6_stringSize_0f7a4_35 rfl hl (by decide) rfl (fun ls hl => ?_)
    refine lv_iinc (v := 2) (lv' := [(3, .int 2), (2, .int (-100)), (0, .int (-nI x)), (1, .int 0)]) C.1 C.2.1 dJ6_stringSize_0f7a4_36 hl (k := 1) rfl rfl (by decide) rfl (fun ls hl => ?_)
    refine lv_goto (tgt := 16) C.1 C.2.1 dJ6_stringSize_0f7a4_39 (by decide) ?_
    refine lv_iload_n C.1 C.2.1 dJ6_stringSize_0f7a4_16 rfl (lv_at hl 0 rfl) ?_
    refine lv_bipush (v := 10) C.1 C.2.1 dJ6_stringSize_0f7a4_17 (by decide) ?_
    refine lv_icmp_ge (tgt := 42) C.1 C.2.1 dJ6_stringSize_0f7a4_19 (by decide) (fun c_ => absurd c_ (by decide)) (fun c_ => ?_)
    refine lv_iload_n C.1 C.2.1 dJ6_stringSize_0f7a4_22 rfl (lv_at hl 2 rfl) ?_
    refine lv_iload_n C.1 C.2.1 dJ6_stringSize_0f7a4_23 rfl (lv_at hl 1 rfl) ?_
    refine lv_icmp_le (tgt := 31) C.1 C.2.1 dJ6_stringSize_0f7a4_24 (by decide) (fun c_ => ?_) (fun c_ => ?_)
    · have hge : 100 ≤ x := (nI_nle' (c := 100) (by omega) (by decide)).mp c_
      refine lv_bipush (v := 10) C.1 C.2.1 dJ6_stringSize_0f7a4_31 (by decide) ?_
      refine lv_iload_n C.1 C.2.1 dJ6_stringSize_0f7a4_33 rfl (lv_at hl 1 rfl) ?_
      refine lv_imul C.1 C.2.1 dJ6_stringSize_0f7a4_34 ?_
      rw [show (10 : Int32) * (-100) = (-1000) by decide]
      refine lv_istore_n (lv' := [(2, .int (-1000)), (3, .int 2), (0, .int (-nI x)), (1, .int 0)]) C.1 C.2.1 dJ6_stringSize_0f7a4_35 rfl hl (by decide) rfl (fun ls hl => ?_)
      refine lv_iinc (v := 3) (lv' := [(3, .int 3), (2, .int (-1000)), (0, .int (-nI x)), (1, .int 0)]) C.1 C.2.1 dJ6_stringSize_0f7a4_36 hl (k := 1) rfl rfl (by decide) rfl (fun ls hl => ?_)
      refine lv_goto (tgt := 16) C.1 C.2.1 dJ6_stringSize_0f7a4_39 (by decide) ?_
      refine lv_iload_n C.1 C.2.1 dJ6_stringSize_0f7a4_16 rfl (lv_at hl 0 rfl) ?_
      refine lv_bipush (v := 10) C.1 C.2.1 dJ6_stringSize_0f7a4_17 (by decide) ?_
      refine lv_icmp_ge (tgt := 42) C.1 C.2.1 dJ6_stringSize_0f7a4_19 (by decide) (fun c_ => absurd c_ (by decide)) (fun c_ => ?_)
      refine lv_iload_n C.1 C.2.1 dJ6_stringSize_0f7a4_22 rfl (lv_at hl 2 rfl) ?_
      refine lv_iload_n C.1 C.2.1 dJ6_stringSize_0f7a4_23 rfl (lv_at hl 1 rfl) ?_
      refine lv_icmp_le (tgt := 31) C.1 C.2.1 dJ6_stringSize_0f7a4_24 (by decide) (fun c_ => ?_) (fun c_ => ?_)
      · have hge : 1000 ≤ x := (nI_nle' (c := 1000) (by omega) (by decide)).mp c_
        refine lv_bipush (v := 10) C.1 C.2.1 dJ6_stringSize_0f7a4_31 (by decide) ?_
        refine lv_iload_n C.1 C.2.1 dJ6_stringSize_0f7a4_33 rfl (lv_at hl 1 rfl) ?_
        refine lv_imul C.1 C.2.1 dJ6_stringSize_0f7a4_34 ?_
        rw [show (10 : Int32) * (-1000) = (-10000) by decide]
        refine lv_istore_n (lv' := [(2, .int (-10000)), (3, .int 3), (0, .int (-nI x)), (1, .int 0)]) C.1 C.2.1 dJ6_stringSize_0f7a4_35 rfl hl (by decide) rfl (fun ls hl => ?_)
        refine lv_iinc (v := 4) (lv' := [(3, .int 4), (2, .int (-10000)), (0, .int (-nI x)), (1, .int 0)]) C.1 C.2.1 dJ6_stringSize_0f7a4_36 hl (k := 1) rfl rfl (by decide) rfl (fun ls hl => ?_)
        refine lv_goto (tgt := 16) C.1 C.2.1 dJ6_stringSize_0f7a4_39 (by decide) ?_
        refine lv_iload_n C.1 C.2.1 dJ6_stringSize_0f7a4_16 rfl (lv_at hl 0 rfl) ?_
        refine lv_bipush (v := 10) C.1 C.2.1 dJ6_stringSize_0f7a4_17 (by decide) ?_
        refine lv_icmp_ge (tgt := 42) C.1 C.2.1 dJ6_stringSize_0f7a4_19 (by decide) (fun c_ => absurd c_ (by decide)) (fun c_ => ?_)
        refine lv_iload_n C.1 C.2.1 dJ6_stringSize_0f7a4_22 rfl (lv_at hl 2 rfl) ?_
        refine lv_iload_n C.1 C.2.1 dJ6_stringSize_0f7a4_23 rfl (lv_at hl 1 rfl) ?_
        refine lv_icmp_le (tgt := 31) C.1 C.2.1 dJ6_stringSize_0f7a4_24 (by decide) (fun c_ => absurd ((nI_nle' (c := 10000) (by omega) (by decide)).mp c_) (by omega)) (fun c_ => ?_)
        have hlt : x < 10000 := Nat.not_le.mp (fun q => c_ ((nI_nle' (c := 10000) (by omega) (by decide)).mpr q))
        refine lv_iload_n C.1 C.2.1 dJ6_stringSize_0f7a4_27 rfl (lv_at hl 0 rfl) ?_
        refine lv_iload_n C.1 C.2.1 dJ6_stringSize_0f7a4_28 rfl (lv_at hl 3 rfl) ?_
        refine lv_iadd C.1 C.2.1 dJ6_stringSize_0f7a4_29 ?_
        rw [show dgn x = 4 by unfold dgn; rw [if_neg (by omega)];  rw [if_neg (by omega)];  rw [if_neg (by omega)]; skip]
        exact k_iret C S hsz (Nat.le_of_ble_eq_true rfl) (Nat.le_of_ble_eq_true rfl) dJ6_stringSize_0f7a4_30
      · have hlt : x < 1000 := Nat.not_le.mp (fun q => c_ ((nI_nle' (c := 1000) (by omega) (by decide)).mpr q))
        refine lv_iload_n C.1 C.2.1 dJ6_stringSize_0f7a4_27 rfl (lv_at hl 0 rfl) ?_
        refine lv_iload_n C.1 C.2.1 dJ6_stringSize_0f7a4_28 rfl (lv_at hl 3 rfl) ?_
        refine lv_iadd C.1 C.2.1 dJ6_stringSize_0f7a4_29 ?_
        rw [show dgn x = 3 by unfold dgn; rw [if_neg (by omega)];  rw [if_neg (by omega)]; rw [if_pos hlt]]
        exact k_iret C S hsz (Nat.le_of_ble_eq_true rfl) (Nat.le_of_ble_eq_true rfl) dJ6_stringSize_0f7a4_30
    · have hlt : x < 100 := Nat.not_le.mp (fun q => c_ ((nI_nle' (c := 100) (by omega) (by decide)).mpr q))
      refine lv_iload_n C.1 C.2.1 dJ6_stringSize_0f7a4_27 rfl (lv_at hl 0 rfl) ?_
      refine lv_iload_n C.1 C.2.1 dJ6_stringSize_0f7a4_28 rfl (lv_at hl 3 rfl) ?_
      refine lv_iadd C.1 C.2.1 dJ6_stringSize_0f7a4_29 ?_
      rw [show dgn x = 2 by unfold dgn; rw [if_neg (by omega)]; rw [if_pos hlt]]
      exact k_iret C S hsz (Nat.le_of_ble_eq_true rfl) (Nat.le_of_ble_eq_true rfl) dJ6_stringSize_0f7a4_30
  · have hlt : x < 10 := Nat.not_le.mp (fun q => c_ ((nI_nle' (c := 10) (by omega) (by decide)).mpr q))
    refine lv_iload_n C.1 C.2.1 dJ6_stringSize_0f7a4_27 rfl (lv_at hl 0 rfl) ?_
    refine lv_iload_n C.1 C.2.1 dJ6_stringSize_0f7a4_28 rfl (lv_at hl 3 rfl) ?_
    refine lv_iadd C.1 C.2.1 dJ6_stringSize_0f7a4_29 ?_
    rw [show dgn x = 1 by unfold dgn; rw [if_pos hlt]]
    exact k_iret C S hsz (Nat.le_of_ble_eq_true rfl) (Nat.le_of_ble_eq_true rfl) dJ6_stringSize_0f7a4_30
set_option maxHeartbeats 4000000 in
set_option maxRecDepth 100000 in
theorem va_T.toO {G : Gx} {s : State} {H : Heap} {ty : FieldType} {t N : Nat} {f : Nat → Value} {A : Nat → Prop} (hT : va_T ty t N f A s G.2.2.1) (hO : z_O G H) : va_T ty t N f (fun _ => False) s H := by
  obtain ⟨cell, g1, g2, g3, g4, g5, g6, g7⟩ := hT
  exact ⟨cell, (hO.2 _ (Array.getElem?_eq_some_iff.mp g1).1).trans g1, g2, g3, g4, g5, g6, id⟩
theorem dgs_1 {own : String} {cc : ByteArray} {nL : Nat} {ret : Option FieldType} {p : Program} {s : State} {m : MethodId} {args : Array Value} {meth : Method} {c : Code} {G : Gx} (C : Cx p s m args meth c own cc nL ret G) : va_Z "java/lang/Integer" "DigitOnes" "[B" (.ref (G.2.2.2 4)) (z_B G) s G.2.2.1 ∧ va_T .byte (G.2.2.2 4) 100 (fun j => .int (nI (48 + j % 10))) (z_B G) s G.2.2.1 := C.2.2.2.2.2.1.2.2.2.2.2.2.2.2.2.2.2.2.2 _ (List.mem_of_getElem? (i := 0) rfl)
theorem dgs_2 {own : String} {cc : ByteArray} {nL : Nat} {ret : Option FieldType} {p : Program} {s : State} {m : MethodId} {args : Array Value} {meth : Method} {c : Code} {G : Gx} (C : Cx p s m args meth c own cc nL ret G) : va_Z "java/lang/Integer" "DigitTens" "[B" (.ref (G.2.2.2 5)) (z_B G) s G.2.2.1 ∧ va_T .byte (G.2.2.2 5) 100 (fun j => .int (nI (48 + j / 10))) (z_B G) s G.2.2.1 := C.2.2.2.2.2.1.2.2.2.2.2.2.2.2.2.2.2.2.2 _ (List.mem_of_getElem? (i := 1) rfl)
set_option maxHeartbeats 4000000 in
set_option maxRecDepth 100000 in
theorem w_getch_72 {p : Program} {l : Launch} {e : Env} {R : Room} {s : State} {m : MethodId} {args : Array Value} {below : List Frame} {meth : Method} {c : Code} {G : Gx} {A : Nat → Prop} {H0 H : Heap} {locs : List Loc} {ls : Array Slot} {Q : State → Prop} {cells slots : Nat} (C : Cx p s m args meth c yJ6_getChars_ba4f3.cls cJ6_getChars_ba4f3 7 (some .int) G) (S : va_S A H0 H locs) (hO : z_O G H) {v mm k a : Nat} {b : Nat → Int32} (ha : a < 100) (hk : dgn a ≤ k) (hkm : k ≤ mm) (hmm : mm ≤ 500) (hA : A v) (hGv : G.2.2.1.size ≤ v) (hv : va_at G.1 z_cl (v, e_by G mm b) H) (hl : lv_has ls 7 [(0, .int (-nI a)), (2, .ref v), (5, .int (nI k)), (6, .int 0)])
    (kk : ∀ (H1 : Heap) (locs1 : List Loc) (ls : Array Slot), H1.size = H.size → (∀ q : Nat, q ≠ v → H1[q]? = H[q]?) → va_at G.1 z_cl (v, e_by G mm (b_put b k a)) H1 → va_S A H0 H1 locs1 → lv_has ls 7 [(5, .int (nI (k - dgn a)))] → W p l e R s m args below meth c H1 locs1 cells slots Q (F0 m 118 ls [])) : W p l e R s m args below meth c H locs cells slots Q (F0 m 72 ls []) := by
  have hd := dgn_pos a
  refine lv_aload_n C.1 C.2.1 dJ6_getChars_ba4f3_72 rfl (lv_at hl 1 rfl) ?_
  refine lv_iinc (v := nI k + (-1)) (lv' := [(5, .int (nI k + (-1))), (0, .int (-nI a)), (2, .ref v), (6, .int 0)]) C.1 C.2.1 dJ6_getChars_ba4f3_73 hl (k := 2) rfl rfl (by decide) rfl (fun ls hl => ?_)
  rw [nI_prm (by omega)] at hl
  refine lv_iload C.1 C.2.1 dJ6_getChars_ba4f3_76 (lv_at hl 0 rfl) ?_
  refine u_gets C hO (dgs_1 C).1 tw_5_33 dJ6_getChars_ba4f3_78 ?_
  refine lv_iload_n C.1 C.2.1 dJ6_getChars_ba4f3_81 rfl (lv_at hl 1 rfl) ?_
  refine lv_ineg C.1 C.2.1 dJ6_getChars_ba4f3_82 ?_
  rw [dg_neg a ha]
  refine u_Tald C ((dgs_1 C).2.toO hO) (i := nI a) (by rw [nI_clamp (by omega)]; exact fun q => q.elim (fun q => nI_pos (by omega) q) (fun q => by omega)) rfl dJ6_getChars_ba4f3_83 ?_
  rw [nI_clamp (show a < 2 ^ 31 by omega)]
  refine u_bast C S hv hA (i := nI (k - 1)) (by rw [nI_clamp (by omega)]; exact fun q => q.elim (fun q => nI_pos (by omega) q) (fun q => by omega)) dJ6_getChars_ba4f3_84 (fun H1 locs1 z1 o1 h1 S1 => ?_)
  rw [nI_clamp (show k - 1 < 2 ^ 31 by omega), dig_nar _ (Nat.mod_lt a (by decide))] at h1
  have hO1 := hO.put z1 o1 hGv
  refine lv_iload_n C.1 C.2.1 dJ6_getChars_ba4f3_85 rfl (lv_at hl 1 rfl) ?_
  refine lv_bipush (v := -9) C.1 C.2.1 dJ6_getChars_ba4f3_86 (by decide) ?_
  refine lv_icmp_ge (tgt := 104) C.1 C.2.1 dJ6_getChars_ba4f3_88 (by decide) (fun cg => ?_) (fun cg => ?_)
  · have hlt : a < 10 := by
      have h9 : (-nI 9 : Int32) ≤ -nI a := cg
      have := (nI_nle' (x := 9) (c := a) (by decide) (by omega)).mp h9
      omega
    have hd1 : dgn a = 1 := if_pos hlt
    refine lv_iload C.1 C.2.1 dJ6_getChars_ba4f3_104 (lv_at hl 3 rfl) ?_
    refine lv_if_eq (tgt := 118) C.1 C.2.1 dJ6_getChars_ba4f3_106 (by decide) (fun c_ => ?_) (fun c_ => absurd rfl c_)
    refine kk H1 locs1 ls z1 o1 ?_ S1 (by rw [hd1]; exact lv_sub hl [0] rfl)
    have e9 : b_put b k a = upd b (k - 1) (nI (48 + a % 10)) := by
      funext j
      unfold b_put upd dgc
      rw [hd1]
      by_cases cj : j = k - 1
      · rw [if_pos ⟨by omega, by omega⟩, if_pos cj, show 1 - 1 - (j - (k - 1)) = 0 by omega, Nat.pow_zero, Nat.div_one]
      · rw [if_neg (by omega), if_neg cj]
    rw [e9]
    exact h1
  · have hge : 10 ≤ a := by
      rcases Nat.lt_or_ge a 10 with h | h
      · exact absurd (show (-nI 9 : Int32) ≤ -nI a from (nI_nle' (x := 9) (c := a) (by decide) (by omega)).mpr (by omega)) cg
      · exact h
    have hd1 : dgn a = 2 := by unfold dgn; rw [if_neg (by omega), if_pos ha]
    refine lv_aload_n C.1 C.2.1 dJ6_getChars_ba4f3_91 rfl (lv_at hl 2 rfl) ?_
    refine lv_iinc (v := nI (k - 1) + (-1)) (lv' := [(5, .int (nI (k - 1) + (-1))), (0, .int (-nI a)), (2, .ref v), (6, .int 0)]) C.1 C.2.1 dJ6_getChars_ba4f3_92 hl (k := 0) rfl rfl (by decide) rfl (fun ls hl => ?_)
    rw [nI_prm (by omega), show k - 1 - 1 = k - 2 from rfl] at hl
    refine lv_iload C.1 C.2.1 dJ6_getChars_ba4f3_95 (lv_at hl 0 rfl) ?_
    refine u_gets C hO1 (dgs_2 C).1 tw_5_35 dJ6_getChars_ba4f3_97 ?_
    refine lv_iload_n C.1 C.2.1 dJ6_getChars_ba4f3_100 rfl (lv_at hl 1 rfl) ?_
    refine lv_ineg C.1 C.2.1 dJ6_getChars_ba4f3_101 ?_
    rw [dg_neg a ha]
    refine u_Tald C ((dgs_2 C).2.toO hO1) (i := nI a) (by rw [nI_clamp (by omega)]; exact fun q => q.elim (fun q => nI_pos (by omega) q) (fun q => by omega)) rfl dJ6_getChars_ba4f3_102 ?_
    rw [nI_clamp (show a < 2 ^ 31 by omega)]
    refine u_bast C S1 h1 hA (i := nI (k - 2)) (by rw [nI_clamp (by omega)]; exact fun q => q.elim (fun q => nI_pos (by omega) q) (fun q => by omega)) dJ6_getChars_ba4f3_103 (fun H2 locs2 z2 o2 h2 S2 => ?_)
    rw [nI_clamp (show k - 2 < 2 ^ 31 by omega), dig_nar _ (show a / 10 < 10 by omega)] at h2
    refine lv_iload C.1 C.2.1 dJ6_getChars_ba4f3_104 (lv_at hl 3 rfl) ?_
    refine lv_if_eq (tgt := 118) C.1 C.2.1 dJ6_getChars_ba4f3_106 (by decide) (fun c_ => ?_) (fun c_ => absurd rfl c_)
    refine kk H2 locs2 ls (z2.trans z1) (fun q hq => (o2 q hq).trans (o1 q hq)) ?_ S2 (by rw [hd1]; exact lv_sub hl [0] rfl)
    have e9 : b_put b k a = upd (upd b (k - 1) (nI (48 + a % 10))) (k - 2) (nI (48 + a / 10)) := by
      funext j
      unfold b_put upd dgc
      rw [hd1]
      by_cases cj : j = k - 2
      · rw [if_pos ⟨by omega, by omega⟩, if_pos cj, show 2 - 1 - (j - (k - 2)) = 1 by omega, Nat.pow_one, Nat.mod_eq_of_lt (by omega)]
      · rw [if_neg cj]
        by_cases cj1 : j = k - 1
        · rw [if_pos ⟨by omega, by omega⟩, if_pos cj1, show 2 - 1 - (j - (k - 2)) = 0 by omega, Nat.pow_zero, Nat.div_one]
        · rw [if_neg (by omega), if_neg cj1]
    rw [e9]
    exact h2

set_option maxHeartbeats 4000000 in
set_option maxRecDepth 100000 in
theorem k_getch (l : Launch) (G : Gx) (v mm k x : Nat) (b : Nat → Int32) (hx : x < 10000) (hk : dgn x ≤ k) (hkm : k ≤ mm) (hmm : mm ≤ 500) (hGv : G.2.2.1.size ≤ v) (sz : Nat) : k_M l yJ6_getChars_ba4f3 cJ6_getChars_ba4f3 7 (Option.some FieldType.int) 0 0 0 0 G (fun H => va_at G.1 z_cl (v, e_by G mm b) H) sz [.int (nI x), .int (nI k), .ref v] (some (.int (nI (k - dgn x)))) (fun H => H.size = sz ∧ va_at G.1 z_cl (v, e_by G mm (b_put b k x)) H) (fun q => q = v) := by
  refine k_begin (by decide +kernel) (Nat.le_of_ble_eq_true rfl) [(0, .int (nI x)), (1, .int (nI k)), (2, .ref v)] rfl (fun p e s m args below meth c ls C hnm hsz hP hO hl => ?_)
  have S : va_S (fun q => q = v) s.heap s.heap [] := va_S.rf
  refine lv_iload_n C.1 C.2.1 dJ6_getChars_ba4f3_0 rfl (lv_at hl 1 rfl) ?_
  refine lv_istore (lv' := [(5, .int (nI k)), (0, .int (nI x)), (1, .int (nI k)), (2, .ref v)]) C.1 C.2.1 dJ6_getChars_ba4f3_1 hl (by decide) rfl (fun ls hl => ?_)
  refine lv_iload_n C.1 C.2.1 dJ6_getChars_ba4f3_3 rfl (lv_at hl 1 rfl) ?_
  refine lv_if_ge (tgt := 11) C.1 C.2.1 dJ6_getChars_ba4f3_4 (by decide) (fun c_ => ?_) (fun c_ => absurd (nI_pos' (by omega)) c_)
  refine lv_iconst (v := 0) C.1 C.2.1 dJ6_getChars_ba4f3_11 (by decide) ?_
  refine lv_istore (lv' := [(6, .int 0), (5, .int (nI k)), (0, .int (nI x)), (1, .int (nI k)), (2, .ref v)]) C.1 C.2.1 dJ6_getChars_ba4f3_12 hl (by decide) rfl (fun ls hl => ?_)
  refine lv_iload C.1 C.2.1 dJ6_getChars_ba4f3_14 (lv_at hl 0 rfl) ?_
  refine lv_if_ne (tgt := 22) C.1 C.2.1 dJ6_getChars_ba4f3_16 (by decide) (fun c_ => absurd rfl c_) (fun c_ => ?_)
  refine lv_iload_n C.1 C.2.1 dJ6_getChars_ba4f3_19 rfl (lv_at hl 2 rfl) ?_
  refine lv_ineg C.1 C.2.1 dJ6_getChars_ba4f3_20 ?_
  refine lv_istore_n (lv' := [(0, .int (-nI x)), (6, .int 0), (5, .int (nI k)), (1, .int (nI k)), (2, .ref v)]) C.1 C.2.1 dJ6_getChars_ba4f3_21 rfl hl (by decide) rfl (fun ls hl => ?_)
  refine lv_iload_n C.1 C.2.1 dJ6_getChars_ba4f3_22 rfl (lv_at hl 0 rfl) ?_
  refine lv_bipush (v := -100) C.1 C.2.1 dJ6_getChars_ba4f3_23 (by decide) ?_
  refine lv_icmp_gt (tgt := 72) C.1 C.2.1 dJ6_getChars_ba4f3_25 (by decide) (fun cg => ?_) (fun cg => ?_)
  · have hlt : x < 100 := by
      rcases Nat.lt_or_ge x 100 with h | h
      · exact h
      · exact absurd ((nI_nle' (x := x) (c := 100) (by omega) (by decide)).mpr h) (Int32.not_le.mpr cg)
    refine w_getch_72 C S hO hlt hk hkm hmm rfl hGv hP (lv_sub hl [0, 4, 2, 1] rfl) (fun H1 locs1 ls z1 o1 h1 S hl => ?_)
    refine lv_iload C.1 C.2.1 dJ6_getChars_ba4f3_118 (lv_at hl 0 rfl) ?_
    exact k_iret C S ⟨z1.trans hsz, h1⟩ (Nat.le_of_ble_eq_true rfl) (Nat.le_of_ble_eq_true rfl) dJ6_getChars_ba4f3_120
  · have hge : 100 ≤ x := (nI_nle' (x := x) (c := 100) (by omega) (by decide)).mp (Int32.not_lt.mp cg)
    obtain ⟨f1, f2⟩ := dg_split (x / 100) (by omega) (x % 100) (by omega)
    have exx : 100 * (x / 100) + x % 100 = x := by omega
    rw [exx] at f1 f2
    have hd : dgn x = dgn (x / 100) + 2 := by
      unfold dgn
      rw [if_neg (show ¬ x < 10 by omega), if_neg (show ¬ x < 100 by omega)]
      by_cases c9 : x < 1000
      · rw [if_pos c9, if_pos (show x / 100 < 10 by omega)]
      · rw [if_neg c9, if_neg (show ¬ x / 100 < 10 by omega), if_pos (show x / 100 < 100 by omega)]
    have hd0 := dgn_pos (x / 100)
    refine lv_iload_n C.1 C.2.1 dJ6_getChars_ba4f3_28 rfl (lv_at hl 0 rfl) ?_
    refine lv_bipush (v := 100) C.1 C.2.1 dJ6_getChars_ba4f3_29 (by decide) ?_
    refine lv_idiv C.1 C.2.1 dJ6_getChars_ba4f3_31 (by decide) ?_
    rw [f1]
    refine lv_istore_n (lv' := [(3, .int (-nI (x / 100))), (0, .int (-nI x)), (6, .int 0), (5, .int (nI k)), (1, .int (nI k)), (2, .ref v)]) C.1 C.2.1 dJ6_getChars_ba4f3_32 rfl hl (by decide) rfl (fun ls hl => ?_)
    refine lv_iload_n C.1 C.2.1 dJ6_getChars_ba4f3_33 rfl (lv_at hl 0 rfl) ?_
    refine lv_bipush (v := 100) C.1 C.2.1 dJ6_getChars_ba4f3_34 (by decide) ?_
    refine lv_imul C.1 C.2.1 dJ6_getChars_ba4f3_36 ?_
    refine lv_iload_n C.1 C.2.1 dJ6_getChars_ba4f3_37 rfl (lv_at hl 1 rfl) ?_
    refine lv_isub C.1 C.2.1 dJ6_getChars_ba4f3_38 ?_
    rw [f2]
    refine lv_istore (lv' := [(4, .int (nI (x % 100))), (3, .int (-nI (x / 100))), (0, .int (-nI x)), (6, .int 0), (5, .int (nI k)), (1, .int (nI k)), (2, .ref v)]) C.1 C.2.1 dJ6_getChars_ba4f3_39 hl (by decide) rfl (fun ls hl => ?_)
    refine lv_iload_n C.1 C.2.1 dJ6_getChars_ba4f3_41 rfl (lv_at hl 1 rfl) ?_
    refine lv_istore_n (lv' := [(0, .int (-nI (x / 100))), (4, .int (nI (x % 100))), (3, .int (-nI (x / 100))), (6, .int 0), (5, .int (nI k)), (1, .int (nI k)), (2, .ref v)]) C.1 C.2.1 dJ6_getChars_ba4f3_42 rfl hl (by decide) rfl (fun ls hl => ?_)
    refine lv_aload_n C.1 C.2.1 dJ6_getChars_ba4f3_43 rfl (lv_at hl 6 rfl) ?_
    refine lv_iinc (v := nI k + (-1)) (lv' := [(5, .int (nI k + (-1))), (0, .int (-nI (x / 100))), (4, .int (nI (x % 100))), (3, .int (-nI (x / 100))), (6, .int 0), (1, .int (nI k)), (2, .ref v)]) C.1 C.2.1 dJ6_getChars_ba4f3_44 hl (k := 4) rfl rfl (by decide) rfl (fun ls hl => ?_)
    rw [nI_prm (by omega)] at hl
    refine lv_iload C.1 C.2.1 dJ6_getChars_ba4f3_47 (lv_at hl 0 rfl) ?_
    refine u_gets C hO (dgs_1 C).1 tw_5_33 dJ6_getChars_ba4f3_49 ?_
    refine lv_iload C.1 C.2.1 dJ6_getChars_ba4f3_52 (lv_at hl 2 rfl) ?_
    refine u_Tald C ((dgs_1 C).2.toO hO) (i := nI (x % 100)) (by rw [nI_clamp (by omega)]; exact fun q => q.elim (fun q => nI_pos (by omega) q) (fun q => by omega)) rfl dJ6_getChars_ba4f3_54 ?_
    rw [nI_clamp (show x % 100 < 2 ^ 31 by omega)]
    refine u_bast C S hP rfl (i := nI (k - 1)) (by rw [nI_clamp (by omega)]; exact fun q => q.elim (fun q => nI_pos (by omega) q) (fun q => by omega)) dJ6_getChars_ba4f3_55 (fun H1 locs1 z1 o1 h1 S => ?_)
    rw [nI_clamp (show k - 1 < 2 ^ 31 by omega), dig_nar _ (Nat.mod_lt _ (by decide))] at h1
    have hO1 := hO.put z1 o1 hGv
    refine lv_aload_n C.1 C.2.1 dJ6_getChars_ba4f3_56 rfl (lv_at hl 6 rfl) ?_
    refine lv_iinc (v := nI (k - 1) + (-1)) (lv' := [(5, .int (nI (k - 1) + (-1))), (0, .int (-nI (x / 100))), (4, .int (nI (x % 100))), (3, .int (-nI (x / 100))), (6, .int 0), (1, .int (nI k)), (2, .ref v)]) C.1 C.2.1 dJ6_getChars_ba4f3_57 hl (k := 0) rfl rfl (by decide) rfl (fun ls hl => ?_)
    rw [nI_prm (by omega), show k - 1 - 1 = k - 2 from rfl] at hl
    refine lv_iload C.1 C.2.1 dJ6_getChars_ba4f3_60 (lv_at hl 0 rfl) ?_
    refine u_gets C hO1 (dgs_2 C).1 tw_5_35 dJ6_getChars_ba4f3_62 ?_
    refine lv_iload C.1 C.2.1 dJ6_getChars_ba4f3_65 (lv_at hl 2 rfl) ?_
    refine u_Tald C ((dgs_2 C).2.toO hO1) (i := nI (x % 100)) (by rw [nI_clamp (by omega)]; exact fun q => q.elim (fun q => nI_pos (by omega) q) (fun q => by omega)) rfl dJ6_getChars_ba4f3_67 ?_
    rw [nI_clamp (show x % 100 < 2 ^ 31 by omega)]
    refine u_bast C S h1 rfl (i := nI (k - 2)) (by rw [nI_clamp (by omega)]; exact fun q => q.elim (fun q => nI_pos (by omega) q) (fun q => by omega)) dJ6_getChars_ba4f3_68 (fun H2 locs2 z2 o2 h2 S => ?_)
    rw [nI_clamp (show k - 2 < 2 ^ 31 by omega), dig_nar _ (show x % 100 / 10 < 10 by omega)] at h2
    have hO2 := hO1.put z2 o2 hGv
    refine lv_goto (tgt := 22) C.1 C.2.1 dJ6_getChars_ba4f3_69 (by decide) ?_
    refine lv_iload_n C.1 C.2.1 dJ6_getChars_ba4f3_22 rfl (lv_at hl 1 rfl) ?_
    refine lv_bipush (v := -100) C.1 C.2.1 dJ6_getChars_ba4f3_23 (by decide) ?_
    refine lv_icmp_gt (tgt := 72) C.1 C.2.1 dJ6_getChars_ba4f3_25 (by decide) (fun cg => ?_) (fun cg => absurd ((nI_nle' (x := x / 100) (c := 100) (by omega) (by decide)).mp (Int32.not_lt.mp cg)) (by omega))
    refine w_getch_72 C S hO2 (show x / 100 < 100 by omega) (k := k - 2) (by omega) (by omega) hmm rfl hGv h2 (lv_sub hl [1, 6, 0, 4] rfl) (fun H3 locs3 ls z3 o3 h3 S hl => ?_)
    refine lv_iload C.1 C.2.1 dJ6_getChars_ba4f3_118 (lv_at hl 0 rfl) ?_
    rw [show k - 2 - dgn (x / 100) = k - dgn x by omega]
    refine k_iret C S ⟨by rw [z3, z2, z1, hsz], ?_⟩ (Nat.le_of_ble_eq_true rfl) (Nat.le_of_ble_eq_true rfl) dJ6_getChars_ba4f3_120
    have e9 : b_put b k x = b_put (upd (upd b (k - 1) (nI (48 + x % 100 % 10))) (k - 2) (nI (48 + x % 100 / 10))) (k - 2) (x / 100) := by
      funext j
      unfold b_put
      rw [show k - 2 - dgn (x / 100) = k - dgn x by omega]
      by_cases c1 : k - dgn x ≤ j ∧ j < k - 2
      · rw [if_pos ⟨c1.1, by omega⟩, if_pos c1]
        unfold dgc
        rw [hd, Nat.div_div_eq_div_mul, show (100 : Nat) = 10 ^ 2 from rfl, ← Nat.pow_add, show 2 + (dgn (x / 10 ^ 2) - 1 - (j - (k - (dgn (x / 10 ^ 2) + 2)))) = dgn (x / 10 ^ 2) + 2 - 1 - (j - (k - (dgn (x / 10 ^ 2) + 2))) from by have : 10 ^ 2 = 100 := rfl; rw [this] at *; omega]
      · rw [if_neg c1]
        unfold upd
        by_cases c2 : j = k - 2
        · rw [if_pos ⟨by omega, by omega⟩, if_pos c2]
          unfold dgc
          rw [show dgn x - 1 - (j - (k - dgn x)) = 1 by omega, Nat.pow_one, show x / 10 % 10 = x % 100 / 10 by omega]
        · rw [if_neg c2]
          by_cases c3 : j = k - 1
          · rw [if_pos ⟨by omega, by omega⟩, if_pos c3]
            unfold dgc
            rw [show dgn x - 1 - (j - (k - dgn x)) = 0 by omega, Nat.pow_zero, Nat.div_one, show x % 10 = x % 100 % 10 by omega]
          · rw [if_neg (by omega), if_neg c3]
    rw [e9]
    exact h3
