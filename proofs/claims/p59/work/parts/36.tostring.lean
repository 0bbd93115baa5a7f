/-! text builders: made, and read out as strings; letters of a string -/
theorem dJ5_getValue_6d5f1_0 : decode cJ5_getValue_6d5f1 0 = .ok (.aload_n 0, 1) := by decide +kernel
theorem dJ5_getValue_6d5f1_1 : decode cJ5_getValue_6d5f1 1 = .ok (.getfield 15, 3) := by decide +kernel
theorem dJ5_getValue_6d5f1_4 : decode cJ5_getValue_6d5f1 4 = .ok (.areturn, 1) := by decide +kernel
theorem dJ5_length_8abf5_0 : decode cJ5_length_8abf5 0 = .ok (.aload_n 0, 1) := by decide +kernel
theorem dJ5_length_8abf5_1 : decode cJ5_length_8abf5 1 = .ok (.getfield 79, 3) := by decide +kernel
theorem dJ5_length_8abf5_4 : decode cJ5_length_8abf5 4 = .ok (.ireturn, 1) := by decide +kernel
theorem dJ4_length_8abf5_0 : decode cJ4_length_8abf5 0 = .ok (.aload_n 0, 1) := by decide +kernel
theorem dJ4_length_8abf5_1 : decode cJ4_length_8abf5 1 = .ok (.invokespecial 343, 3) := by decide +kernel
theorem dJ4_length_8abf5_4 : decode cJ4_length_8abf5 4 = .ok (.ireturn, 1) := by decide +kernel
theorem dJ7_checkLength_df160_0 : decode cJ7_checkLength_df160 0 = .ok (.iload_n 1, 1) := by decide +kernel
theorem dJ7_checkLength_df160_1 : decode cJ7_checkLength_df160 1 = .ok (.iload_n 0, 1) := by decide +kernel
theorem dJ7_checkLength_df160_2 : decode cJ7_checkLength_df160 2 = .ok (.if_icmp .ge 35, 3) := by decide +kernel
theorem dJ7_checkLength_df160_5 : decode cJ7_checkLength_df160 5 = .ok (.new 43, 3) := by decide +kernel
theorem dJ7_checkLength_df160_8 : decode cJ7_checkLength_df160 8 = .ok (.dup, 1) := by decide +kernel
theorem dJ7_checkLength_df160_9 : decode cJ7_checkLength_df160 9 = .ok (.new 45, 3) := by decide +kernel
theorem dJ7_checkLength_df160_12 : decode cJ7_checkLength_df160 12 = .ok (.dup, 1) := by decide +kernel
theorem dJ7_checkLength_df160_13 : decode cJ7_checkLength_df160 13 = .ok (.invokespecial 47, 3) := by decide +kernel
theorem dJ7_checkLength_df160_16 : decode cJ7_checkLength_df160 16 = .ok (.iload_n 0, 1) := by decide +kernel
theorem dJ7_checkLength_df160_17 : decode cJ7_checkLength_df160 17 = .ok (.invokevirtual 54, 3) := by decide +kernel
theorem dJ7_checkLength_df160_20 : decode cJ7_checkLength_df160 20 = .ok (.ldc_w 337, 3) := by decide +kernel
theorem dJ7_checkLength_df160_23 : decode cJ7_checkLength_df160 23 = .ok (.invokevirtual 50, 3) := by decide +kernel
theorem dJ7_checkLength_df160_26 : decode cJ7_checkLength_df160 26 = .ok (.iload_n 1, 1) := by decide +kernel
theorem dJ7_checkLength_df160_27 : decode cJ7_checkLength_df160 27 = .ok (.invokevirtual 54, 3) := by decide +kernel
theorem dJ7_checkLength_df160_30 : decode cJ7_checkLength_df160 30 = .ok (.invokevirtual 61, 3) := by decide +kernel
theorem dJ7_checkLength_df160_33 : decode cJ7_checkLength_df160 33 = .ok (.invokespecial 65, 3) := by decide +kernel
theorem dJ7_checkLength_df160_36 : decode cJ7_checkLength_df160 36 = .ok (.athrow, 1) := by decide +kernel
theorem dJ7_checkLength_df160_37 : decode cJ7_checkLength_df160 37 = .ok (.return_, 1) := by decide +kernel
theorem dJ7_copyOfRangeByte_39247_0 : decode cJ7_copyOfRangeByte_39247 0 = .ok (.iload_n 1, 1) := by decide +kernel
theorem dJ7_copyOfRangeByte_39247_1 : decode cJ7_copyOfRangeByte_39247 1 = .ok (.iload_n 2, 1) := by decide +kernel
theorem dJ7_copyOfRangeByte_39247_2 : decode cJ7_copyOfRangeByte_39247 2 = .ok (.invokestatic 343, 3) := by decide +kernel
theorem dJ7_copyOfRangeByte_39247_5 : decode cJ7_copyOfRangeByte_39247 5 = .ok (.iload_n 2, 1) := by decide +kernel
theorem dJ7_copyOfRangeByte_39247_6 : decode cJ7_copyOfRangeByte_39247 6 = .ok (.iload_n 1, 1) := by decide +kernel
theorem dJ7_copyOfRangeByte_39247_7 : decode cJ7_copyOfRangeByte_39247 7 = .ok (.isub, 1) := by decide +kernel
theorem dJ7_copyOfRangeByte_39247_8 : decode cJ7_copyOfRangeByte_39247 8 = .ok (.istore_n 3, 1) := by decide +kernel
theorem dJ7_copyOfRangeByte_39247_9 : decode cJ7_copyOfRangeByte_39247 9 = .ok (.iload_n 3, 1) := by decide +kernel
theorem dJ7_copyOfRangeByte_39247_10 : decode cJ7_copyOfRangeByte_39247 10 = .ok (.newarray .byte, 2) := by decide +kernel
theorem dJ7_copyOfRangeByte_39247_12 : decode cJ7_copyOfRangeByte_39247 12 = .ok (.astore 4, 2) := by decide +kernel
theorem dJ7_copyOfRangeByte_39247_14 : decode cJ7_copyOfRangeByte_39247 14 = .ok (.aload_n 0, 1) := by decide +kernel
theorem dJ7_copyOfRangeByte_39247_15 : decode cJ7_copyOfRangeByte_39247 15 = .ok (.iload_n 1, 1) := by decide +kernel
theorem dJ7_copyOfRangeByte_39247_16 : decode cJ7_copyOfRangeByte_39247 16 = .ok (.aload 4, 2) := by decide +kernel
theorem dJ7_copyOfRangeByte_39247_18 : decode cJ7_copyOfRangeByte_39247 18 = .ok (.iconst 0, 1) := by decide +kernel
theorem dJ7_copyOfRangeByte_39247_19 : decode cJ7_copyOfRangeByte_39247 19 = .ok (.aload_n 0, 1) := by decide +kernel
theorem dJ7_copyOfRangeByte_39247_20 : decode cJ7_copyOfRangeByte_39247 20 = .ok (.arraylength, 1) := by decide +kernel
theorem dJ7_copyOfRangeByte_39247_21 : decode cJ7_copyOfRangeByte_39247 21 = .ok (.iload_n 1, 1) := by decide +kernel
theorem dJ7_copyOfRangeByte_39247_22 : decode cJ7_copyOfRangeByte_39247 22 = .ok (.isub, 1) := by decide +kernel
theorem dJ7_copyOfRangeByte_39247_23 : decode cJ7_copyOfRangeByte_39247 23 = .ok (.iload_n 3, 1) := by decide +kernel
theorem dJ7_copyOfRangeByte_39247_24 : decode cJ7_copyOfRangeByte_39247 24 = .ok (.invokestatic 304, 3) := by decide +kernel
theorem dJ7_copyOfRangeByte_39247_27 : decode cJ7_copyOfRangeByte_39247 27 = .ok (.invokestatic 150, 3) := by decide +kernel
theorem dJ7_copyOfRangeByte_39247_30 : decode cJ7_copyOfRangeByte_39247 30 = .ok (.aload 4, 2) := by decide +kernel
theorem dJ7_copyOfRangeByte_39247_32 : decode cJ7_copyOfRangeByte_39247 32 = .ok (.areturn, 1) := by decide +kernel
theorem dJ7_copyOfRange_39247_0 : decode cJ7_copyOfRange_39247 0 = .ok (.iload_n 1, 1) := by decide +kernel
theorem dJ7_copyOfRange_39247_1 : decode cJ7_copyOfRange_39247 1 = .ok (.ifCond .ne 9, 3) := by decide +kernel
theorem dJ7_copyOfRange_39247_4 : decode cJ7_copyOfRange_39247 4 = .ok (.iload_n 2, 1) := by decide +kernel
theorem dJ7_copyOfRange_39247_5 : decode cJ7_copyOfRange_39247 5 = .ok (.aload_n 0, 1) := by decide +kernel
theorem dJ7_copyOfRange_39247_6 : decode cJ7_copyOfRange_39247 6 = .ok (.arraylength, 1) := by decide +kernel
theorem dJ7_copyOfRange_39247_7 : decode cJ7_copyOfRange_39247 7 = .ok (.if_icmp .eq 10, 3) := by decide +kernel
theorem dJ7_copyOfRange_39247_10 : decode cJ7_copyOfRange_39247 10 = .ok (.aload_n 0, 1) := by decide +kernel
theorem dJ7_copyOfRange_39247_11 : decode cJ7_copyOfRange_39247 11 = .ok (.iload_n 1, 1) := by decide +kernel
theorem dJ7_copyOfRange_39247_12 : decode cJ7_copyOfRange_39247 12 = .ok (.iload_n 2, 1) := by decide +kernel
theorem dJ7_copyOfRange_39247_13 : decode cJ7_copyOfRange_39247 13 = .ok (.invokestatic 339, 3) := by decide +kernel
theorem dJ7_copyOfRange_39247_16 : decode cJ7_copyOfRange_39247 16 = .ok (.areturn, 1) := by decide +kernel
theorem dJ7_copyOfRange_39247_17 : decode cJ7_copyOfRange_39247 17 = .ok (.aload_n 0, 1) := by decide +kernel
theorem dJ7_copyOfRange_39247_18 : decode cJ7_copyOfRange_39247 18 = .ok (.invokevirtual 310, 3) := by decide +kernel
theorem dJ7_copyOfRange_39247_21 : decode cJ7_copyOfRange_39247 21 = .ok (.checkcast 311, 3) := by decide +kernel
theorem dJ7_copyOfRange_39247_24 : decode cJ7_copyOfRange_39247 24 = .ok (.areturn, 1) := by decide +kernel
theorem dJ0_init_db425_0 : decode cJ0_init_db425 0 = .ok (.aload_n 0, 1) := by decide +kernel
theorem dJ0_init_db425_1 : decode cJ0_init_db425 1 = .ok (.invokespecial 1, 3) := by decide +kernel
theorem dJ0_init_db425_4 : decode cJ0_init_db425 4 = .ok (.aload_n 1, 1) := by decide +kernel
theorem dJ0_init_db425_5 : decode cJ0_init_db425 5 = .ok (.invokevirtual 552, 3) := by decide +kernel
theorem dJ0_init_db425_8 : decode cJ0_init_db425 8 = .ok (.astore_n 3, 1) := by decide +kernel
theorem dJ0_init_db425_9 : decode cJ0_init_db425 9 = .ok (.aload_n 1, 1) := by decide +kernel
theorem dJ0_init_db425_10 : decode cJ0_init_db425 10 = .ok (.invokevirtual 549, 3) := by decide +kernel
theorem dJ0_init_db425_13 : decode cJ0_init_db425 13 = .ok (.istore 4, 2) := by decide +kernel
theorem dJ0_init_db425_15 : decode cJ0_init_db425 15 = .ok (.aload_n 1, 1) := by decide +kernel
theorem dJ0_init_db425_16 : decode cJ0_init_db425 16 = .ok (.invokevirtual 1047, 3) := by decide +kernel
theorem dJ0_init_db425_19 : decode cJ0_init_db425 19 = .ok (.ifCond .eq 22, 3) := by decide +kernel
theorem dJ0_init_db425_22 : decode cJ0_init_db425 22 = .ok (.aload_n 0, 1) := by decide +kernel
theorem dJ0_init_db425_23 : decode cJ0_init_db425 23 = .ok (.iconst 0, 1) := by decide +kernel
theorem dJ0_init_db425_24 : decode cJ0_init_db425 24 = .ok (.putfield 15, 3) := by decide +kernel
theorem dJ0_init_db425_27 : decode cJ0_init_db425 27 = .ok (.aload_n 0, 1) := by decide +kernel
theorem dJ0_init_db425_28 : decode cJ0_init_db425 28 = .ok (.aload_n 3, 1) := by decide +kernel
theorem dJ0_init_db425_29 : decode cJ0_init_db425 29 = .ok (.iconst 0, 1) := by decide +kernel
theorem dJ0_init_db425_30 : decode cJ0_init_db425 30 = .ok (.iload 4, 2) := by decide +kernel
theorem dJ0_init_db425_32 : decode cJ0_init_db425 32 = .ok (.invokestatic 54, 3) := by decide +kernel
theorem dJ0_init_db425_35 : decode cJ0_init_db425 35 = .ok (.putfield 9, 3) := by decide +kernel
theorem dJ0_init_db425_38 : decode cJ0_init_db425 38 = .ok (.goto 59, 3) := by decide +kernel
theorem dJ0_init_db425_41 : decode cJ0_init_db425 41 = .ok (.getstatic 38, 3) := by decide +kernel
theorem dJ0_init_db425_44 : decode cJ0_init_db425 44 = .ok (.ifCond .eq 35, 3) := by decide +kernel
theorem dJ0_init_db425_47 : decode cJ0_init_db425 47 = .ok (.aload_n 1, 1) := by decide +kernel
theorem dJ0_init_db425_48 : decode cJ0_init_db425 48 = .ok (.getfield 1048, 3) := by decide +kernel
theorem dJ0_init_db425_51 : decode cJ0_init_db425 51 = .ok (.ifCond .eq 28, 3) := by decide +kernel
theorem dJ0_init_db425_54 : decode cJ0_init_db425 54 = .ok (.aload_n 0, 1) := by decide +kernel
theorem dJ0_init_db425_55 : decode cJ0_init_db425 55 = .ok (.aload_n 3, 1) := by decide +kernel
theorem dJ0_init_db425_56 : decode cJ0_init_db425 56 = .ok (.iconst 0, 1) := by decide +kernel
theorem dJ0_init_db425_57 : decode cJ0_init_db425 57 = .ok (.iload 4, 2) := by decide +kernel
theorem dJ0_init_db425_59 : decode cJ0_init_db425 59 = .ok (.invokestatic 1051, 3) := by decide +kernel
theorem dJ0_init_db425_62 : decode cJ0_init_db425 62 = .ok (.putfield 9, 3) := by decide +kernel
theorem dJ0_init_db425_65 : decode cJ0_init_db425 65 = .ok (.aload_n 0, 1) := by decide +kernel
theorem dJ0_init_db425_66 : decode cJ0_init_db425 66 = .ok (.aload_n 0, 1) := by decide +kernel
theorem dJ0_init_db425_67 : decode cJ0_init_db425 67 = .ok (.getfield 9, 3) := by decide +kernel
theorem dJ0_init_db425_70 : decode cJ0_init_db425 70 = .ok (.iload 4, 2) := by decide +kernel
theorem dJ0_init_db425_72 : decode cJ0_init_db425 72 = .ok (.invokestatic 47, 3) := by decide +kernel
theorem dJ0_init_db425_75 : decode cJ0_init_db425 75 = .ok (.putfield 15, 3) := by decide +kernel
theorem dJ0_init_db425_78 : decode cJ0_init_db425 78 = .ok (.return_, 1) := by decide +kernel
theorem dJ0_init_db425_79 : decode cJ0_init_db425 79 = .ok (.aload_n 0, 1) := by decide +kernel
theorem dJ0_init_db425_80 : decode cJ0_init_db425 80 = .ok (.iconst 1, 1) := by decide +kernel
theorem dJ0_init_db425_81 : decode cJ0_init_db425 81 = .ok (.putfield 15, 3) := by decide +kernel
theorem dJ0_init_db425_84 : decode cJ0_init_db425 84 = .ok (.aload_n 0, 1) := by decide +kernel
theorem dJ0_init_db425_85 : decode cJ0_init_db425 85 = .ok (.aload_n 3, 1) := by decide +kernel
theorem dJ0_init_db425_86 : decode cJ0_init_db425 86 = .ok (.iconst 0, 1) := by decide +kernel
theorem dJ0_init_db425_87 : decode cJ0_init_db425 87 = .ok (.iload 4, 2) := by decide +kernel
theorem dJ0_init_db425_89 : decode cJ0_init_db425 89 = .ok (.iconst 1, 1) := by decide +kernel
theorem dJ0_init_db425_90 : decode cJ0_init_db425 90 = .ok (.ishl, 1) := by decide +kernel
theorem dJ0_init_db425_91 : decode cJ0_init_db425 91 = .ok (.invokestatic 54, 3) := by decide +kernel
theorem dJ0_init_db425_94 : decode cJ0_init_db425 94 = .ok (.putfield 9, 3) := by decide +kernel
theorem dJ0_init_db425_97 : decode cJ0_init_db425 97 = .ok (.return_, 1) := by decide +kernel
theorem dJ0_init_81219_0 : decode cJ0_init_81219 0 = .ok (.aload_n 0, 1) := by decide +kernel
theorem dJ0_init_81219_1 : decode cJ0_init_81219 1 = .ok (.aload_n 1, 1) := by decide +kernel
theorem dJ0_init_81219_2 : decode cJ0_init_81219 2 = .ok (.aconst_null, 1) := by decide +kernel
theorem dJ0_init_81219_3 : decode cJ0_init_81219 3 = .ok (.invokespecial 489, 3) := by decide +kernel
theorem dJ0_init_81219_6 : decode cJ0_init_81219 6 = .ok (.return_, 1) := by decide +kernel
theorem dJ4_toString_0e30d_0 : decode cJ4_toString_0e30d 0 = .ok (.new 18, 3) := by decide +kernel
theorem dJ4_toString_0e30d_3 : decode cJ4_toString_0e30d 3 = .ok (.dup, 1) := by decide +kernel
theorem dJ4_toString_0e30d_4 : decode cJ4_toString_0e30d 4 = .ok (.aload_n 0, 1) := by decide +kernel
theorem dJ4_toString_0e30d_5 : decode cJ4_toString_0e30d 5 = .ok (.invokespecial 137, 3) := by decide +kernel
theorem dJ4_toString_0e30d_8 : decode cJ4_toString_0e30d 8 = .ok (.areturn, 1) := by decide +kernel
theorem dJ5_init_d00df_0 : decode cJ5_init_d00df 0 = .ok (.aload_n 0, 1) := by decide +kernel
theorem dJ5_init_d00df_1 : decode cJ5_init_d00df 1 = .ok (.invokespecial 3, 3) := by decide +kernel
theorem dJ5_init_d00df_4 : decode cJ5_init_d00df 4 = .ok (.getstatic 18, 3) := by decide +kernel
theorem dJ5_init_d00df_7 : decode cJ5_init_d00df 7 = .ok (.ifCond .eq 18, 3) := by decide +kernel
theorem dJ5_init_d00df_10 : decode cJ5_init_d00df 10 = .ok (.aload_n 0, 1) := by decide +kernel
theorem dJ5_init_d00df_11 : decode cJ5_init_d00df 11 = .ok (.iload_n 1, 1) := by decide +kernel
theorem dJ5_init_d00df_12 : decode cJ5_init_d00df 12 = .ok (.newarray .byte, 2) := by decide +kernel
theorem dJ5_init_d00df_14 : decode cJ5_init_d00df 14 = .ok (.putfield 15, 3) := by decide +kernel
theorem dJ5_init_d00df_17 : decode cJ5_init_d00df 17 = .ok (.aload_n 0, 1) := by decide +kernel
theorem dJ5_init_d00df_18 : decode cJ5_init_d00df 18 = .ok (.iconst 0, 1) := by decide +kernel
theorem dJ5_init_d00df_19 : decode cJ5_init_d00df 19 = .ok (.putfield 22, 3) := by decide +kernel
theorem dJ5_init_d00df_22 : decode cJ5_init_d00df 22 = .ok (.goto 16, 3) := by decide +kernel
theorem dJ5_init_d00df_25 : decode cJ5_init_d00df 25 = .ok (.aload_n 0, 1) := by decide +kernel
theorem dJ5_init_d00df_26 : decode cJ5_init_d00df 26 = .ok (.iload_n 1, 1) := by decide +kernel
theorem dJ5_init_d00df_27 : decode cJ5_init_d00df 27 = .ok (.invokestatic 26, 3) := by decide +kernel
theorem dJ5_init_d00df_30 : decode cJ5_init_d00df 30 = .ok (.putfield 15, 3) := by decide +kernel
theorem dJ5_init_d00df_33 : decode cJ5_init_d00df 33 = .ok (.aload_n 0, 1) := by decide +kernel
theorem dJ5_init_d00df_34 : decode cJ5_init_d00df 34 = .ok (.iconst 1, 1) := by decide +kernel
theorem dJ5_init_d00df_35 : decode cJ5_init_d00df 35 = .ok (.putfield 22, 3) := by decide +kernel
theorem dJ5_init_d00df_38 : decode cJ5_init_d00df 38 = .ok (.return_, 1) := by decide +kernel
theorem dJ4_init_da8c8_0 : decode cJ4_init_da8c8 0 = .ok (.aload_n 0, 1) := by decide +kernel
theorem dJ4_init_da8c8_1 : decode cJ4_init_da8c8 1 = .ok (.bipush 16, 2) := by decide +kernel
theorem dJ4_init_da8c8_3 : decode cJ4_init_da8c8 3 = .ok (.invokespecial 1, 3) := by decide +kernel
theorem dJ4_init_da8c8_6 : decode cJ4_init_da8c8 6 = .ok (.return_, 1) := by decide +kernel
theorem dJ4_append_cf1ce_0 : decode cJ4_append_cf1ce 0 = .ok (.aload_n 0, 1) := by decide +kernel
theorem dJ4_append_cf1ce_1 : decode cJ4_append_cf1ce 1 = .ok (.aload_n 1, 1) := by decide +kernel
theorem dJ4_append_cf1ce_2 : decode cJ4_append_cf1ce 2 = .ok (.invokevirtual 23, 3) := by decide +kernel
theorem dJ4_append_cf1ce_5 : decode cJ4_append_cf1ce 5 = .ok (.areturn, 1) := by decide +kernel
theorem dJ5_init_a7421_0 : decode cJ5_init_a7421 0 = .ok (.aload_n 0, 1) := by decide +kernel
theorem dJ5_init_a7421_1 : decode cJ5_init_a7421 1 = .ok (.invokespecial 3, 3) := by decide +kernel
theorem dJ5_init_a7421_4 : decode cJ5_init_a7421 4 = .ok (.aload_n 1, 1) := by decide +kernel
theorem dJ5_init_a7421_5 : decode cJ5_init_a7421 5 = .ok (.invokevirtual 32, 3) := by decide +kernel
theorem dJ5_init_a7421_8 : decode cJ5_init_a7421 8 = .ok (.istore_n 2, 1) := by decide +kernel
theorem dJ5_init_a7421_9 : decode cJ5_init_a7421 9 = .ok (.iload_n 2, 1) := by decide +kernel
theorem dJ5_init_a7421_10 : decode cJ5_init_a7421 10 = .ok (.ldc 38, 2) := by decide +kernel
theorem dJ5_init_a7421_12 : decode cJ5_init_a7421 12 = .ok (.if_icmp .ge 10, 3) := by decide +kernel
theorem dJ5_init_a7421_15 : decode cJ5_init_a7421 15 = .ok (.iload_n 2, 1) := by decide +kernel
theorem dJ5_init_a7421_16 : decode cJ5_init_a7421 16 = .ok (.bipush 16, 2) := by decide +kernel
theorem dJ5_init_a7421_18 : decode cJ5_init_a7421 18 = .ok (.iadd, 1) := by decide +kernel
theorem dJ5_init_a7421_19 : decode cJ5_init_a7421 19 = .ok (.goto 5, 3) := by decide +kernel
theorem dJ5_init_a7421_22 : decode cJ5_init_a7421 22 = .ok (.ldc 39, 2) := by decide +kernel
theorem dJ5_init_a7421_24 : decode cJ5_init_a7421 24 = .ok (.istore_n 3, 1) := by decide +kernel
theorem dJ5_init_a7421_25 : decode cJ5_init_a7421 25 = .ok (.aload_n 1, 1) := by decide +kernel
theorem dJ5_init_a7421_26 : decode cJ5_init_a7421 26 = .ok (.invokevirtual 40, 3) := by decide +kernel
theorem dJ5_init_a7421_29 : decode cJ5_init_a7421 29 = .ok (.istore 4, 2) := by decide +kernel
theorem dJ5_init_a7421_31 : decode cJ5_init_a7421 31 = .ok (.aload_n 0, 1) := by decide +kernel
theorem dJ5_init_a7421_32 : decode cJ5_init_a7421 32 = .ok (.iload 4, 2) := by decide +kernel
theorem dJ5_init_a7421_34 : decode cJ5_init_a7421 34 = .ok (.putfield 22, 3) := by decide +kernel
theorem dJ5_init_a7421_37 : decode cJ5_init_a7421 37 = .ok (.aload_n 0, 1) := by decide +kernel
theorem dJ5_init_a7421_38 : decode cJ5_init_a7421 38 = .ok (.iload 4, 2) := by decide +kernel
theorem dJ5_init_a7421_40 : decode cJ5_init_a7421 40 = .ok (.ifCond .ne 9, 3) := by decide +kernel
theorem dJ5_init_a7421_43 : decode cJ5_init_a7421 43 = .ok (.iload_n 3, 1) := by decide +kernel
theorem dJ5_init_a7421_44 : decode cJ5_init_a7421 44 = .ok (.newarray .byte, 2) := by decide +kernel
theorem dJ5_init_a7421_46 : decode cJ5_init_a7421 46 = .ok (.goto 7, 3) := by decide +kernel
theorem dJ5_init_a7421_49 : decode cJ5_init_a7421 49 = .ok (.iload_n 3, 1) := by decide +kernel
theorem dJ5_init_a7421_50 : decode cJ5_init_a7421 50 = .ok (.invokestatic 26, 3) := by decide +kernel
theorem dJ5_init_a7421_53 : decode cJ5_init_a7421 53 = .ok (.putfield 15, 3) := by decide +kernel
theorem dJ5_init_a7421_56 : decode cJ5_init_a7421 56 = .ok (.aload_n 0, 1) := by decide +kernel
theorem dJ5_init_a7421_57 : decode cJ5_init_a7421 57 = .ok (.aload_n 1, 1) := by decide +kernel
theorem dJ5_init_a7421_58 : decode cJ5_init_a7421 58 = .ok (.invokevirtual 43, 3) := by decide +kernel
theorem dJ5_init_a7421_61 : decode cJ5_init_a7421 61 = .ok (.pop, 1) := by decide +kernel
theorem dJ5_init_a7421_62 : decode cJ5_init_a7421 62 = .ok (.return_, 1) := by decide +kernel
theorem dJ4_init_a7421_0 : decode cJ4_init_a7421 0 = .ok (.aload_n 0, 1) := by decide +kernel
theorem dJ4_init_a7421_1 : decode cJ4_init_a7421 1 = .ok (.aload_n 1, 1) := by decide +kernel
theorem dJ4_init_a7421_2 : decode cJ4_init_a7421 2 = .ok (.invokespecial 7, 3) := by decide +kernel
theorem dJ4_init_a7421_5 : decode cJ4_init_a7421 5 = .ok (.return_, 1) := by decide +kernel
theorem kp_J5_getValue_6d5f1 : KP yJ5_getValue_6d5f1 cJ5_getValue_6d5f1 1 (Option.some (FieldType.array FieldType.byte)) 0 := ⟨tw_5_68, tw_5_65, tw_1_19, by decide, by decide, by decide +kernel⟩
theorem kp_J5_length_8abf5 : KP yJ5_length_8abf5 cJ5_length_8abf5 1 (Option.some FieldType.int) 0 := ⟨tw_5_76, tw_5_70, tw_1_19, by decide, by decide, by decide +kernel⟩
theorem kp_J4_length_8abf5 : KP yJ4_length_8abf5 cJ4_length_8abf5 1 (Option.some FieldType.int) 0 := ⟨tw_5_74, tw_5_73, tw_1_20, by decide, by decide, by decide +kernel⟩
theorem kp_J4_append_cf1ce : KP yJ4_append_cf1ce cJ4_append_cf1ce 2 (Option.some (FieldType.object "java/lang/AbstractStringBuilder")) 1 := ⟨tw_5_117, tw_5_116, tw_1_20, by decide, by decide, by decide +kernel⟩
theorem kv_J7_checkLength_df160 : KS yJ7_checkLength_df160 cJ7_checkLength_df160 2 none 2 := ⟨tw_5_86, tw_5_85, tw_1_7, by decide, by decide, by decide +kernel⟩
theorem kv_J7_copyOfRangeByte_39247 : KS yJ7_copyOfRangeByte_39247 cJ7_copyOfRangeByte_39247 5 (Option.some (FieldType.array FieldType.byte)) 3 := ⟨tw_5_83, tw_5_82, tw_1_7, by decide, by decide, by decide +kernel⟩
theorem kv_J7_copyOfRange_39247 : KS yJ7_copyOfRange_39247 cJ7_copyOfRange_39247 3 (Option.some (FieldType.array FieldType.byte)) 3 := ⟨tw_5_80, tw_5_79, tw_1_7, by decide, by decide, by decide +kernel⟩
theorem kv_J0_init_db425 : KI yJ0_init_db425 cJ0_init_db425 5 2 := ⟨tw_5_62, tw_5_61, tw_1_21, rfl, by decide, by decide, by decide +kernel⟩
theorem kv_J0_init_81219 : KI yJ0_init_81219 cJ0_init_81219 2 1 := ⟨tw_5_59, tw_5_58, tw_1_21, rfl, by decide, by decide, by decide +kernel⟩
theorem kv_J4_toString_0e30d : KV yJ4_toString_0e30d cJ4_toString_0e30d 1 (Option.some (FieldType.object "java/lang/String")) 0 := ⟨tw_5_54, tw_5_52, tw_5_53, tw_1_20, by decide, by decide, by decide +kernel⟩
theorem kv_J5_init_d00df : KI yJ5_init_d00df cJ5_init_d00df 2 1 := ⟨tw_4_150, tw_4_149, tw_1_19, rfl, by decide, by decide, by decide +kernel⟩
theorem kv_J4_init_da8c8 : KI yJ4_init_da8c8 cJ4_init_da8c8 1 0 := ⟨tw_4_147, tw_4_146, tw_1_20, rfl, by decide, by decide, by decide +kernel⟩
theorem kv_J5_init_a7421 : KI yJ5_init_a7421 cJ5_init_a7421 5 1 := ⟨tw_5_113, tw_5_112, tw_1_19, rfl, by decide, by decide, by decide +kernel⟩
theorem kv_J4_init_a7421 : KI yJ4_init_a7421 cJ4_init_a7421 2 1 := ⟨tw_5_110, tw_5_109, tw_1_20, rfl, by decide, by decide, by decide +kernel⟩
set_option maxHeartbeats 4000000 in
set_option maxRecDepth 100000 in
theorem k_getval (l : Launch) (G : Gx) (a v : Nat) (n0 : Int32) (sz : Nat) : k_M l yJ5_getValue_6d5f1 cJ5_getValue_6d5f1 1 (Option.some (FieldType.array FieldType.byte)) 0 0 0 0 G (fun H => va_at G.1 z_cl (a, e_sb v n0) H) sz [.ref a] (some (.ref v)) (fun H => H.size = sz) (fun q => False) := by
  refine k_begin (by decide +kernel) (Nat.le_of_ble_eq_true rfl) [(0, .ref a)] rfl (fun p e s m args below meth c ls C hnm hsz hP hO hl => ?_)
  have S : va_S (fun q => False) s.heap s.heap [] := va_S.rf
  refine lv_aload_n C.1 C.2.1 dJ5_getValue_6d5f1_0 rfl (lv_at hl 0 rfl) ?_
  refine u_get C hP cf_14 0 (by decide) rfl tw_4_160 dJ5_getValue_6d5f1_1 ?_
  exact k_aret C S (Or.inr ⟨_, rfl⟩) (Or.inr ⟨_, rfl⟩) hsz (Nat.le_of_ble_eq_true rfl) (Nat.le_of_ble_eq_true rfl) dJ5_getValue_6d5f1_4
set_option maxHeartbeats 4000000 in
set_option maxRecDepth 100000 in
theorem k_len5 (l : Launch) (G : Gx) (a v : Nat) (n0 : Int32) (sz : Nat) : k_M l yJ5_length_8abf5 cJ5_length_8abf5 1 (Option.some FieldType.int) 0 0 0 0 G (fun H => va_at G.1 z_cl (a, e_sb v n0) H) sz [.ref a] (some (.int n0)) (fun H => H.size = sz) (fun q => False) := by
  refine k_begin (by decide +kernel) (Nat.le_of_ble_eq_true rfl) [(0, .ref a)] rfl (fun p e s m args below meth c ls C hnm hsz hP hO hl => ?_)
  have S : va_S (fun q => False) s.heap s.heap [] := va_S.rf
  refine lv_aload_n C.1 C.2.1 dJ5_length_8abf5_0 rfl (lv_at hl 0 rfl) ?_
  refine u_get C hP cf_14 3 (by decide) rfl tw_4_163 dJ5_length_8abf5_1 ?_
  exact k_iret C S hsz (Nat.le_of_ble_eq_true rfl) (Nat.le_of_ble_eq_true rfl) dJ5_length_8abf5_4
set_option maxHeartbeats 4000000 in
set_option maxRecDepth 100000 in
theorem k_len4 (l : Launch) (G : Gx) (a v : Nat) (n0 : Int32) (sz : Nat) : k_M l yJ4_length_8abf5 cJ4_length_8abf5 1 (Option.some FieldType.int) 1 20 0 0 G (fun H => va_at G.1 z_cl (a, e_sb v n0) H) sz [.ref a] (some (.int n0)) (fun H => H.size = sz) (fun q => False) := by
  refine k_begin (by decide +kernel) (Nat.le_of_ble_eq_true rfl) [(0, .ref a)] rfl (fun p e s m args below meth c ls C hnm hsz hP hO hl => ?_)
  have S : va_S (fun q => False) s.heap s.heap [] := va_S.rf
  refine lv_aload_n C.1 C.2.1 dJ4_length_8abf5_0 rfl (lv_at hl 0 rfl) ?_
  refine k_callSU C S hO (u_clsO C.2.2.2.2.2.1 hP cf_14.1) (ci := 14) rfl [] (k_len5 l G a v n0 sz) hsz hP kp_J5_length_8abf5 (by decide) tw_5_71 tw_4_172 tw_5_75 ⟨(Nat.le_of_ble_eq_true rfl), (Nat.le_of_ble_eq_true rfl)⟩ rfl rfl (Nat.le_of_ble_eq_true rfl) hl.1 ⟨(Nat.le_of_ble_eq_true rfl), (Nat.le_of_ble_eq_true rfl)⟩ dJ4_length_8abf5_1 (fun x h => h) (fun H1 locs1 hp1 hle1 o1 S => ?_)
  exact k_iret C S hp1 (Nat.le_of_ble_eq_true rfl) (Nat.le_of_ble_eq_true rfl) dJ4_length_8abf5_4
set_option maxHeartbeats 4000000 in
set_option maxRecDepth 100000 in
theorem k_cklen (l : Launch) (G : Gx) (x y : Int32) (h : x ≤ y) (sz : Nat) : k_M l yJ7_checkLength_df160 cJ7_checkLength_df160 2 none 0 0 0 0 G (fun H => True) sz [.int x, .int y] none (fun H => H.size = sz) (fun q => False) := by
  refine k_begin (by decide +kernel) (Nat.le_of_ble_eq_true rfl) [(0, .int x), (1, .int y)] rfl (fun p e s m args below meth c ls C hnm hsz hP hO hl => ?_)
  have S : va_S (fun q => False) s.heap s.heap [] := va_S.rf
  refine lv_iload_n C.1 C.2.1 dJ7_checkLength_df160_0 rfl (lv_at hl 1 rfl) ?_
  refine lv_iload_n C.1 C.2.1 dJ7_checkLength_df160_1 rfl (lv_at hl 0 rfl) ?_
  refine lv_icmp_ge (tgt := 37) C.1 C.2.1 dJ7_checkLength_df160_2 (by decide) (fun c_ => ?_) (fun c_ => absurd h c_)
  exact k_vret C S hsz (Nat.le_of_ble_eq_true rfl) (Nat.le_of_ble_eq_true rfl) dJ7_checkLength_df160_37
set_option maxHeartbeats 4000000 in
set_option maxRecDepth 100000 in
theorem k_cprb (l : Launch) (G : Gx) (v mm n : Nat) (b : Nat → Int32) (hn : n ≤ mm) (hm : mm ≤ 500) (hb : ∀ j, j < mm → fits .byte (.int (b j)) = true) (sz : Nat) : k_M l yJ7_copyOfRangeByte_39247 cJ7_copyOfRangeByte_39247 5 (Option.some (FieldType.array FieldType.byte)) 1 26 1 500 G (fun H => va_at G.1 z_cl (v, e_by G mm b) H) sz [.ref v, .int 0, .int (nI n)] (some (.ref sz)) (fun H => H.size = sz + 1 ∧ va_at G.1 z_cl (sz, e_by G n (va_cpy b (fun _ => 0) 0 0 n)) H) (fun x => sz ≤ x) := by
  refine k_begin (by decide +kernel) (Nat.le_of_ble_eq_true rfl) [(0, .ref v), (1, .int 0), (2, .int (nI n))] rfl (fun p e s m args below meth c ls C hnm hsz hP hO hl => ?_)
  have S : va_S (fun x => sz ≤ x) s.heap s.heap [] := va_S.rf
  subst hsz
  refine lv_iload_n C.1 C.2.1 dJ7_copyOfRangeByte_39247_0 rfl (lv_at hl 1 rfl) ?_
  refine lv_iload_n C.1 C.2.1 dJ7_copyOfRangeByte_39247_1 rfl (lv_at hl 2 rfl) ?_
  refine k_callS C S hO [.int 0, .int (nI n)] (k_cklen l G 0 (nI n) (nI_pos' (by omega)) s.heap.size) rfl trivial kv_J7_checkLength_df160 tw_5_84 ⟨(Nat.le_of_ble_eq_true rfl), (Nat.le_of_ble_eq_true rfl)⟩ rfl rfl (Nat.le_of_ble_eq_true rfl) hl.1 ⟨(Nat.le_of_ble_eq_true rfl), (Nat.le_of_ble_eq_true rfl)⟩ dJ7_copyOfRangeByte_39247_2 (fun _ h => h.elim) (fun H1 locs1 hz1 hle1 o1 S => ?_)
  replace hP := va_at.kept hP (o1 _ hP.lt id)
  refine lv_iload_n C.1 C.2.1 dJ7_copyOfRangeByte_39247_5 rfl (lv_at hl 2 rfl) ?_
  refine lv_iload_n C.1 C.2.1 dJ7_copyOfRangeByte_39247_6 rfl (lv_at hl 1 rfl) ?_
  refine lv_isub C.1 C.2.1 dJ7_copyOfRangeByte_39247_7 ?_
  rw [show nI n - 0 = nI n by simp]
  refine lv_istore_n (lv' := [(3, .int (nI n)), (0, .ref v), (1, .int 0), (2, .int (nI n))]) C.1 C.2.1 dJ7_copyOfRangeByte_39247_8 rfl hl (by decide) rfl (fun ls hl => ?_)
  refine lv_iload_n C.1 C.2.1 dJ7_copyOfRangeByte_39247_9 rfl (lv_at hl 0 rfl) ?_
  refine u_newB C S n (nI_pos (by omega)) (nI_clamp (by omega)) (by omega) (Nat.le_of_ble_eq_true rfl) (by show 0 + 0 + n ≤ 500; omega) dJ7_copyOfRangeByte_39247_10 (fun H2 z2 o2 g1 S => ?_)
  have h0 := va_at.kept hP (o2 _ hP.lt)
  rw [hz1] at g1 z2
  rw [hz1]
  refine lv_astore (lv' := [(4, .ref s.heap.size), (3, .int (nI n)), (0, .ref v), (1, .int 0), (2, .int (nI n))]) C.1 C.2.1 dJ7_copyOfRangeByte_39247_12 hl (by decide) rfl (fun ls hl => ?_)
  refine lv_aload_n C.1 C.2.1 dJ7_copyOfRangeByte_39247_14 rfl (lv_at hl 2 rfl) ?_
  refine lv_iload_n C.1 C.2.1 dJ7_copyOfRangeByte_39247_15 rfl (lv_at hl 3 rfl) ?_
  refine lv_aload C.1 C.2.1 dJ7_copyOfRangeByte_39247_16 (lv_at hl 0 rfl) ?_
  refine lv_iconst (v := 0) C.1 C.2.1 dJ7_copyOfRangeByte_39247_18 (by decide) ?_
  refine lv_aload_n C.1 C.2.1 dJ7_copyOfRangeByte_39247_19 rfl (lv_at hl 2 rfl) ?_
  refine u_alen C 6 rfl h0 (v := nI mm) rfl dJ7_copyOfRangeByte_39247_20 ?_
  refine lv_iload_n C.1 C.2.1 dJ7_copyOfRangeByte_39247_21 rfl (lv_at hl 3 rfl) ?_
  refine lv_isub C.1 C.2.1 dJ7_copyOfRangeByte_39247_22 ?_
  rw [show nI mm - 0 = nI mm by simp]
  refine lv_iload_n C.1 C.2.1 dJ7_copyOfRangeByte_39247_23 rfl (lv_at hl 1 rfl) ?_
  refine z_min C hl.1 tw_4_15 (Nat.le_of_ble_eq_true rfl) (Nat.le_of_ble_eq_true rfl) ⟨(Nat.le_of_ble_eq_true rfl), by show 0 + 0 + n ≤ 500; omega⟩ dJ7_copyOfRangeByte_39247_24 ?_
  have e1 : jmin (nI mm) (nI n) = nI n := by
    unfold jmin
    rcases Nat.lt_or_ge n mm with h | h
    · first
        | exact if_neg (nI_nlt (Nat.le_of_lt h) (by omega))
        | exact if_pos (nI_lt h (by omega))
    · have e : n = mm := by omega
      subst e
      split <;> rfl
  rw [e1]
  refine u_copyB C S hl.1 (u_BT C h0) g1 (Nat.le_refl _) tw_4_16 (sp := 0) (dp := 0) (n := nI n) (by decide) (by decide) (nI_pos (by omega)) (by rw [nI_clamp (by omega)]; show 0 + n ≤ mm; omega) (by rw [nI_clamp (by omega)]; exact Nat.le_of_eq (Nat.zero_add n)) hb (Nat.le_of_ble_eq_true rfl) (Nat.le_of_ble_eq_true rfl) dJ7_copyOfRangeByte_39247_27 (fun H3 locs3 z3 o3 g3 S => ?_)
  rw [nI_clamp (by omega)] at g3
  refine lv_aload C.1 C.2.1 dJ7_copyOfRangeByte_39247_30 (lv_at hl 0 rfl) ?_
  exact k_aret C S (Or.inr ⟨_, rfl⟩) (Or.inr ⟨_, rfl⟩) ⟨by rw [z3, z2], g3⟩ (Nat.le_of_ble_eq_true rfl) (by show 0 + 0 + n ≤ 500; omega) dJ7_copyOfRangeByte_39247_32
section UCL
variable {p : Program} {l : Launch} {e : Env} {R : Room} {s : State} {m : MethodId} {args : Array Value} {below : List Frame} {meth : Method} {c : Code} {H : Heap} {locs : List Loc} {cells slots : Nat} {Q : State → Prop}
variable {cc : ByteArray} {pc : Nat} {ls : Array Slot} {rest : List Value} {own : String} {nL : Nat} {ret : Option FieldType} {G : Gx} {A : Nat → Prop} {H0 : Heap}
theorem u_clsB (C : Cx p s m args meth c own cc nL ret G) {a n : Nat} {f : Nat → Int32} (hat : va_at G.1 z_cl (a, e_by G n f) H) : u_cls "[B" a s H := ⟨_, hat, rfl, (C.2.2.2.2.2.1.1.2 6 _ rfl).2⟩
theorem u_clone (C : Cx p s m args meth c own cc nL ret G) (S : va_S A H0 H locs) (hls : ls.size = nL) {a n : Nat} {f : Nat → Int32} (hat : va_at G.1 z_cl (a, e_by G n f) H) (hf : ∀ j, j < n → fits .byte (.int (f j)) = true)
    {index : Nat} (hl : Cond.methodLink own index (⟨"[B", "clone", "()Ljava/lang/Object;"⟩ : MethodName) ∈ TT) (hframes : 1 ≤ R.frames) (hlocals : (rest.map fun v => v.category).sum + 14 ≤ R.locals) (hcells : cells + 1 ≤ R.cells) (hslots : slots + n ≤ R.slots) (hdg : decode cc pc = .ok (.invokevirtual index, 3))
    (kk : ∀ H1 : Heap, H1.size = H.size + 1 → (∀ q : Nat, q < H.size → H1[q]? = H[q]?) → va_at G.1 z_cl (H.size, e_by G n f) H1 → va_S A H0 H1 locs → W p l e R s m args below meth c H1 locs (cells + 1) (slots + n) Q (F0 m (pc + 3) ls (.ref H.size :: rest))) : W p l e R s m args below meth c H locs cells slots Q (F0 m pc ls (.ref a :: rest)) := by
  obtain ⟨x1, x2, x3, x4, x5, x6, x7, x8⟩ := C
  have hat' : H[a]? = some (vp_cell (G.2.1 6) (n, .inl f)) := hat
  have hnm := (x6.1.2 6 _ rfl).2
  obtain ⟨c0, t0', f1, f2, f3⟩ := Cond.castable_spec (va_Nw.use (A := args) rfl (x6.2.2.2.2.1 _ (show Cond.castable "[B" "java/lang/Cloneable" ∈ z_nest from List.mem_of_getElem? (i := 39) rfl)))
  cases hnm.symm.trans f1
  intro T hT X
  obtain ⟨-, kA, hkA, comp, hkind⟩ := State.isArrayOf_alike X.warmed.alike ((x6.1.2 6 _ rfl).1 0 (fun _ => .null))
  obtain ⟨-, kS, hkS, compS, hkindS⟩ := (x6.1.2 6 _ rfl).1 0 (fun _ => .null)
  obtain ⟨vm', X', st⟩ := X.cloneArray x1 x4 (x5 _ hl) (x5 _ tw_4_199) (x5 _ tw_4_200) (x5 _ tw_4_201) (x5 _ tw_4_202) (a := a) (cell := vp_cell (G.2.1 6) (n, .inl f)) (by rw [hT]; exact hat') (fun k h => by cases h) (fun h => by cases h) hnm f2 f3
    (fun i v hv => by
      have hk' : T.vm.classes[G.2.1 6]? = some kA := hkA
      have hfit : fits .byte v = true := by
        have hi : i < n := by
          have := (Array.getElem?_eq_some_iff.mp hv).1
          rw [vp_cell_i, arrV_size] at this
          exact this
        rw [vp_cell_i, arrV_read _ _ hi] at hv
        cases hv
        exact hf i hi
      rw [show (vp_cell (G.2.1 6) (n, .inl f)).cls = G.2.1 6 from rfl]
      simpa [State.fitsSlot, State.slotType?, hk', hkind] using hfit)
    (g := F0 m pc ls (.ref a :: rest)) rfl (hls.trans x3.symm) rfl (by rw [x2]; exact hdg) hframes (by show 2 * 0 + _ + 14 ≤ _; omega) hcells (by rw [vp_cell_i, arrV_size]; exact hslots) (hloader := Vm.clonesLoader_of_array hkS hkindS)
  have hcellE : ({ cls := (vp_cell (G.2.1 6) (n, .inl f)).cls, slots := (vp_cell (G.2.1 6) (n, .inl f)).slots } : Cell) = vp_cell (G.2.1 6) (n, .inl f) := rfl
  have hsz : (vp_cell (G.2.1 6) (n, .inl f)).slots.size = n := by rw [vp_cell_i]; exact arrV_size _ _ _
  rw [hcellE, hsz] at X'
  generalize hH1 : H.push (vp_cell (G.2.1 6) (n, .inl f)) = H1
  have z1 : H1.size = H.size + 1 := by rw [← hH1, Array.size_push]
  have e1 : H1[H.size]? = some (vp_cell (G.2.1 6) (n, .inl f)) := by rw [← hH1, Array.getElem?_push_size]
  have o1 : ∀ q : Nat, q < H.size → H1[q]? = H[q]? := fun q hq => by rw [← hH1, Array.getElem?_push, if_neg (Nat.ne_of_lt hq)]
  obtain ⟨t, b1, b2⟩ := kk H1 z1 o1 e1 (u_grow S z1 o1) ((T.setVm vm').pushCell (vp_cell (G.2.1 6) (n, .inl f))) (by rw [← hH1, ← hT]; rfl) X'
  refine ⟨t, st t ?_, b2⟩
  rw [hcellE, hT]
  exact b1
end UCL
set_option maxHeartbeats 4000000 in
set_option maxRecDepth 100000 in
theorem k_cpr (l : Launch) (G : Gx) (v mm n : Nat) (b : Nat → Int32) (hn : n ≤ mm) (hm : mm ≤ 500) (hb : ∀ j, j < mm → fits .byte (.int (b j)) = true) (sz : Nat) : k_M l yJ7_copyOfRange_39247 cJ7_copyOfRange_39247 3 (Option.some (FieldType.array FieldType.byte)) 2 50 1 500 G (fun H => va_at G.1 z_cl (v, e_by G mm b) H) sz [.ref v, .int 0, .int (nI n)] (some (.ref sz)) (fun H => H.size = sz + 1 ∧ ∃ b2 : Nat → Int32, va_at G.1 z_cl (sz, e_by G n b2) H ∧ ∀ j, j < n → b2 j = b j) (fun x => sz ≤ x) := by
  refine k_begin (by decide +kernel) (Nat.le_of_ble_eq_true rfl) [(0, .ref v), (1, .int 0), (2, .int (nI n))] rfl (fun p e s m args below meth c ls C hnm hsz hP hO hl => ?_)
  have S : va_S (fun x => sz ≤ x) s.heap s.heap [] := va_S.rf
  refine lv_iload_n C.1 C.2.1 dJ7_copyOfRange_39247_0 rfl (lv_at hl 1 rfl) ?_
  refine lv_if_ne (tgt := 10) C.1 C.2.1 dJ7_copyOfRange_39247_1 (by decide) (fun c_ => absurd rfl c_) (fun c_ => ?_)
  refine lv_iload_n C.1 C.2.1 dJ7_copyOfRange_39247_4 rfl (lv_at hl 2 rfl) ?_
  refine lv_aload_n C.1 C.2.1 dJ7_copyOfRange_39247_5 rfl (lv_at hl 0 rfl) ?_
  refine u_alen C 6 rfl hP (v := nI mm) rfl dJ7_copyOfRange_39247_6 ?_
  refine lv_icmp_eq (tgt := 17) C.1 C.2.1 dJ7_copyOfRange_39247_7 (by decide) (fun c_ => ?_) (fun c_ => ?_)
  · have hnm : n = mm := (nI_eq (by omega) (by omega)).mp c_
    subst hsz
    refine lv_aload_n C.1 C.2.1 dJ7_copyOfRange_39247_17 rfl (lv_at hl 0 rfl) ?_
    refine u_clone C S hl.1 hP hb tw_4_198 (Nat.le_of_ble_eq_true rfl) (Nat.le_of_ble_eq_true rfl) (Nat.le_of_ble_eq_true rfl) (by show 0 + 0 + mm ≤ 500; omega) dJ7_copyOfRange_39247_18 (fun H1 z1 o1 g1 S => ?_)
    refine u_cast C tw_4_204 (u_clsB C g1) dJ7_copyOfRange_39247_21 ?_
    refine k_aret C S (Or.inr ⟨_, rfl⟩) (Or.inr ⟨_, rfl⟩) ⟨z1, b, ?_, fun _ _ => rfl⟩ (Nat.le_of_ble_eq_true rfl) (by show 0 + 0 + mm ≤ 500; omega) dJ7_copyOfRange_39247_24
    rw [hnm]
    exact g1
  · refine lv_aload_n C.1 C.2.1 dJ7_copyOfRange_39247_10 rfl (lv_at hl 0 rfl) ?_
    refine lv_iload_n C.1 C.2.1 dJ7_copyOfRange_39247_11 rfl (lv_at hl 1 rfl) ?_
    refine lv_iload_n C.1 C.2.1 dJ7_copyOfRange_39247_12 rfl (lv_at hl 2 rfl) ?_
    refine k_callS C S hO [.ref v, .int 0, .int (nI n)] (k_cprb l G v mm n b hn hm hb sz) hsz hP kv_J7_copyOfRangeByte_39247 tw_5_81 ⟨(Nat.le_of_ble_eq_true rfl), (Nat.le_of_ble_eq_true rfl)⟩ rfl rfl (Nat.le_of_ble_eq_true rfl) hl.1 ⟨(Nat.le_of_ble_eq_true rfl), (Nat.le_of_ble_eq_true rfl)⟩ dJ7_copyOfRange_39247_13 (fun x h => h) (fun H1 locs1 hp1 hle1 o1 S => ?_)
    obtain ⟨z1, g1⟩ := hp1
    refine k_aret C S (Or.inr ⟨_, rfl⟩) (Or.inr ⟨_, rfl⟩) ⟨z1, _, g1, fun j hj => ?_⟩ (Nat.le_of_ble_eq_true rfl) (Nat.le_of_ble_eq_true rfl) dJ7_copyOfRange_39247_16
    unfold va_cpy
    rw [if_pos ⟨Nat.zero_le j, by omega⟩, Nat.zero_add, Nat.sub_zero]
set_option maxHeartbeats 4000000 in
set_option maxRecDepth 100000 in
theorem k_strinit0 (l : Launch) (G : Gx) (q a v n : Nat) (t : Nat → Int32) (hqa : q ≠ a ∧ q ≠ v) (hGq : G.2.2.1.size ≤ q) (sz : Nat) : k_M l yJ0_init_db425 cJ0_init_db425 5 none 3 72 1 500 G (fun H => va_at G.1 z_cl (q, .inr (15, [.null, .int 0, .int 0, .int 0])) H ∧ k_sb G a v n t H) sz [.ref q, .ref a, .null] none (fun H => H.size = sz + 1 ∧ ∃ t2 : Nat → Int32, va_at G.1 z_cl (q, .inr (15, [.ref sz, .int 0, .int 0, .int 0])) H ∧ va_at G.1 z_cl (sz, e_by G n t2) H ∧ ∀ j, j < n → t2 j = t j) (fun x => x = q ∨ sz ≤ x) := by
  refine k_begin (by decide +kernel) (Nat.le_of_ble_eq_true rfl) [(0, .ref q), (1, .ref a), (2, .null)] rfl (fun p e s m args below meth c ls C hnm9 hsz hP hO hl => ?_)
  obtain ⟨h0, hB⟩ := hP
  have S : va_S (fun x => x = q ∨ sz ≤ x) s.heap s.heap [] := va_S.rf
  obtain ⟨g0, mm, b, g1, hnm, hm, hbt, hbf⟩ := hB
  refine lv_aload_n C.1 C.2.1 dJ0_init_db425_0 rfl (lv_at hl 0 rfl) ?_
  refine u_obj C tw_5_63 hl.1 (Nat.le_of_ble_eq_true rfl) (Nat.le_of_ble_eq_true rfl) dJ0_init_db425_1 ?_
  refine lv_aload_n C.1 C.2.1 dJ0_init_db425_4 rfl (lv_at hl 1 rfl) ?_
  refine k_callVC C S hO (u_clsO C.2.2.2.2.2.1 g0 cf_14.1) [] (k_getval l G a v (nI n) sz) hsz g0 kp_J5_getValue_6d5f1 (C.2.2.2.2.1 _ tw_5_67) tw_5_64 ⟨(Nat.le_of_ble_eq_true rfl), (Nat.le_of_ble_eq_true rfl)⟩ rfl rfl (Nat.le_of_ble_eq_true rfl) hl.1 ⟨(Nat.le_of_ble_eq_true rfl), (Nat.le_of_ble_eq_true rfl)⟩ dJ0_init_db425_5 (fun _ h => h.elim) (fun H1 locs1 hz1 hle1 o1 S => ?_)
  have hO1 : z_O G H1 := hO.call hle1 o1 (fun _ _ h => h)
  replace h0 := va_at.kept h0 (o1 _ h0.lt id)
  replace g0 := va_at.kept g0 (o1 _ g0.lt id)
  replace g1 := va_at.kept g1 (o1 _ g1.lt id)
  clear o1 hle1
  refine lv_astore_n (lv' := [(3, .ref v), (0, .ref q), (1, .ref a), (2, .null)]) C.1 C.2.1 dJ0_init_db425_8 rfl hl (by decide) rfl (fun ls hl => ?_)
  refine lv_aload_n C.1 C.2.1 dJ0_init_db425_9 rfl (lv_at hl 2 rfl) ?_
  refine k_callO C S hO1 (u_clsO C.2.2.2.2.2.1 g0 cf_14.1) [] (k_len4 l G a v (nI n) sz) hz1 g0 kp_J4_length_8abf5 tw_5_76 tw_5_71 tw_5_70 tw_5_72 (by decide +kernel) tw_5_69 ⟨(Nat.le_of_ble_eq_true rfl), (Nat.le_of_ble_eq_true rfl)⟩ rfl rfl (Nat.le_of_ble_eq_true rfl) hl.1 ⟨(Nat.le_of_ble_eq_true rfl), (Nat.le_of_ble_eq_true rfl)⟩ dJ0_init_db425_10 (fun _ h => h.elim) (fun H2 locs2 hz2 hle2 o2 S => ?_)
  have hO2 : z_O G H2 := hO1.call hle2 o2 (fun _ _ h => h)
  replace h0 := va_at.kept h0 (o2 _ h0.lt id)
  replace g0 := va_at.kept g0 (o2 _ g0.lt id)
  replace g1 := va_at.kept g1 (o2 _ g1.lt id)
  clear o2 hle2
  refine lv_istore (lv' := [(4, .int (nI n)), (3, .ref v), (0, .ref q), (1, .ref a), (2, .null)]) C.1 C.2.1 dJ0_init_db425_13 hl (by decide) rfl (fun ls hl => ?_)
  refine lv_aload_n C.1 C.2.1 dJ0_init_db425_15 rfl (lv_at hl 3 rfl) ?_
  refine k_callVC C S hO2 (u_clsO C.2.2.2.2.2.1 g0 cf_14.1) [] (k_isl1 l G a v (nI n) sz) hz2 g0 kp_J5_isLatin1_aae02 (C.2.2.2.2.1 _ tw_4_208) tw_5_77 ⟨(Nat.le_of_ble_eq_true rfl), (Nat.le_of_ble_eq_true rfl)⟩ rfl rfl (Nat.le_of_ble_eq_true rfl) hl.1 ⟨(Nat.le_of_ble_eq_true rfl), (Nat.le_of_ble_eq_true rfl)⟩ dJ0_init_db425_16 (fun _ h => h.elim) (fun H3 locs3 hz3 hle3 o3 S => ?_)
  have hO3 : z_O G H3 := hO2.call hle3 o3 (fun _ _ h => h)
  replace h0 := va_at.kept h0 (o3 _ h0.lt id)
  replace g1 := va_at.kept g1 (o3 _ g1.lt id)
  clear o3 hle3 g0
  have hqL := h0.lt
  refine lv_if_eq (tgt := 41) C.1 C.2.1 dJ0_init_db425_19 (by decide) (fun c_ => absurd c_ (by decide)) (fun c_ => ?_)
  refine lv_aload_n C.1 C.2.1 dJ0_init_db425_22 rfl (lv_at hl 2 rfl) ?_
  refine lv_iconst (v := 0) C.1 C.2.1 dJ0_init_db425_23 (by decide) ?_
  refine u_putF C (hnm9.trans rfl) S h0 (Or.inl rfl) cf_15 1 (by decide) (Nat.le_of_ble_eq_true rfl) rfl rfl rfl rfl tw_5_98 dJ0_init_db425_24 (fun H4 locs4 z4 o4 h0 S => ?_)
  have hO4 := hO3.put z4 o4 hGq
  replace g1 := va_at.kept g1 (o4 _ (Ne.symm hqa.2))
  refine lv_aload_n C.1 C.2.1 dJ0_init_db425_27 rfl (lv_at hl 2 rfl) ?_
  refine lv_aload_n C.1 C.2.1 dJ0_init_db425_28 rfl (lv_at hl 1 rfl) ?_
  refine lv_iconst (v := 0) C.1 C.2.1 dJ0_init_db425_29 (by decide) ?_
  refine lv_iload C.1 C.2.1 dJ0_init_db425_30 (lv_at hl 0 rfl) ?_
  refine k_callS C S hO4 [.ref v, .int 0, .int (nI n)] (k_cpr l G v mm n b hnm hm hbf sz) (z4.trans hz3) g1 kv_J7_copyOfRange_39247 tw_5_78 ⟨(Nat.le_of_ble_eq_true rfl), (Nat.le_of_ble_eq_true rfl)⟩ rfl rfl (Nat.le_of_ble_eq_true rfl) hl.1 ⟨(Nat.le_of_ble_eq_true rfl), (Nat.le_of_ble_eq_true rfl)⟩ dJ0_init_db425_32 (fun x h => Or.inr h) (fun H5 locs5 hp5 hle5 o5 S => ?_)
  obtain ⟨z5, b2, g2, e2⟩ := hp5
  replace h0 := va_at.kept h0 (o5 _ h0.lt (by omega))
  refine u_putF C (hnm9.trans rfl) S h0 (Or.inl rfl) cf_15 0 (by decide) (Nat.le_of_ble_eq_true rfl) rfl rfl rfl rfl tw_5_97 dJ0_init_db425_35 (fun H6 locs6 z6 o6 h0 S => ?_)
  replace g2 := va_at.kept g2 (o6 _ (by omega))
  refine lv_goto (tgt := 97) C.1 C.2.1 dJ0_init_db425_38 (by decide) ?_
  exact k_vret C S ⟨z6.trans z5, b2, h0, g2, fun j hj => (e2 j hj).trans (hbt j hj)⟩ (Nat.le_of_ble_eq_true rfl) (Nat.le_of_ble_eq_true rfl) dJ0_init_db425_97
set_option maxHeartbeats 4000000 in
set_option maxRecDepth 100000 in
theorem k_strinit1 (l : Launch) (G : Gx) (q a v n : Nat) (t : Nat → Int32) (hqa : q ≠ a ∧ q ≠ v) (hGq : G.2.2.1.size ≤ q) (sz : Nat) : k_M l yJ0_init_81219 cJ0_init_81219 2 none 4 96 1 500 G (fun H => va_at G.1 z_cl (q, .inr (15, [.null, .int 0, .int 0, .int 0])) H ∧ k_sb G a v n t H) sz [.ref q, .ref a] none (fun H => H.size = sz + 1 ∧ ∃ t2 : Nat → Int32, va_at G.1 z_cl (q, .inr (15, [.ref sz, .int 0, .int 0, .int 0])) H ∧ va_at G.1 z_cl (sz, e_by G n t2) H ∧ ∀ j, j < n → t2 j = t j) (fun x => x = q ∨ sz ≤ x) := by
  refine k_begin (by decide +kernel) (Nat.le_of_ble_eq_true rfl) [(0, .ref q), (1, .ref a)] rfl (fun p e s m args below meth c ls C hnm hsz hP hO hl => ?_)
  have S : va_S (fun x => x = q ∨ sz ≤ x) s.heap s.heap [] := va_S.rf
  refine lv_aload_n C.1 C.2.1 dJ0_init_81219_0 rfl (lv_at hl 0 rfl) ?_
  refine lv_aload_n C.1 C.2.1 dJ0_init_81219_1 rfl (lv_at hl 1 rfl) ?_
  refine lv_null C.1 C.2.1 dJ0_init_81219_2 ?_
  refine k_callI C S hO [.ref a, .null] (k_strinit0 l G q a v n t hqa hGq sz) hsz hP kv_J0_init_db425 tw_5_60 ⟨(Nat.le_of_ble_eq_true rfl), (Nat.le_of_ble_eq_true rfl)⟩ rfl rfl (Nat.le_of_ble_eq_true rfl) hl.1 ⟨(Nat.le_of_ble_eq_true rfl), (Nat.le_of_ble_eq_true rfl)⟩ dJ0_init_81219_3 (fun x h => h) (fun H1 locs1 hp1 hle1 o1 S => ?_)
  exact k_vret C S hp1 (Nat.le_of_ble_eq_true rfl) (Nat.le_of_ble_eq_true rfl) dJ0_init_81219_6
set_option maxHeartbeats 4000000 in
set_option maxRecDepth 100000 in
theorem k_toStr (l : Launch) (G : Gx) (a v n : Nat) (t : Nat → Int32) (sz : Nat) : k_M l yJ4_toString_0e30d cJ4_toString_0e30d 1 (Option.some (FieldType.object "java/lang/String")) 5 117 2 504 G (fun H => k_sb G a v n t H) sz [.ref a] (some (.ref sz)) (fun H => H.size = sz + 2 ∧ ∃ t2 : Nat → Int32, k_str G sz (sz + 1) n t2 H ∧ ∀ j, j < n → t2 j = t j) (fun x => sz ≤ x) := by
  refine k_begin (by decide +kernel) (Nat.le_of_ble_eq_true rfl) [(0, .ref a)] rfl (fun p e s m args below meth c ls C hnm hsz hP hO hl => ?_)
  have S : va_S (fun x => sz ≤ x) s.heap s.heap [] := va_S.rf
  subst hsz
  obtain ⟨mm0, b0, hvL, -⟩ := hP.2
  have haL := hP.1.lt
  have hvL := hvL.lt
  refine u_newO C S cf_15 tw_5_55 tw_5_56 tw_1_21 (fs := [.null, .int 0, .int 0, .int 0]) (fun j hj => by rcases (show j = 0 ∨ j = 1 ∨ j = 2 ∨ j = 3 by omega) with rfl | rfl | rfl | rfl <;> rfl) (Nat.le_of_ble_eq_true rfl) (Nat.le_of_ble_eq_true rfl) dJ4_toString_0e30d_0 (fun H1 z1 o1 g1 S => ?_)
  have hO1 := hO.grow z1 o1
  replace hP := hP.kept (o1 _ haL) (o1 _ hvL)
  refine lv_dup C.1 C.2.1 dJ4_toString_0e30d_3 rfl ?_
  refine lv_aload_n C.1 C.2.1 dJ4_toString_0e30d_4 rfl (lv_at hl 0 rfl) ?_
  refine k_callI C S hO1 [.ref a] (k_strinit1 l G s.heap.size a v n t ⟨by omega, by omega⟩ hO.1 (s.heap.size + 1)) z1 ⟨g1, hP⟩ kv_J0_init_81219 tw_5_57 ⟨(Nat.le_of_ble_eq_true rfl), (Nat.le_of_ble_eq_true rfl)⟩ rfl rfl (Nat.le_of_ble_eq_true rfl) hl.1 ⟨(Nat.le_of_ble_eq_true rfl), (Nat.le_of_ble_eq_true rfl)⟩ dJ4_toString_0e30d_5 (fun x h => by rcases h with h | h <;> omega) (fun H2 locs2 hp2 hle2 o2 S => ?_)
  obtain ⟨z2, t2, f1, f2, f3⟩ := hp2
  exact k_aret C S (Or.inl ⟨_, rfl⟩) (Or.inr ⟨_, rfl⟩) ⟨z2, t2, Or.inr ⟨⟨_, _, f1⟩, f2⟩, f3⟩ (Nat.le_of_ble_eq_true rfl) (Nat.le_of_ble_eq_true rfl) dJ4_toString_0e30d_8
