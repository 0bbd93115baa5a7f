/-! text builders: their methods -/
theorem dJ5_newCapacity_0f7a4_0 : decode cJ5_newCapacity_0f7a4 0 = .ok (.aload_n 0, 1) := by decide +kernel
theorem dJ5_newCapacity_0f7a4_1 : decode cJ5_newCapacity_0f7a4 1 = .ok (.getfield 15, 3) := by decide +kernel
theorem dJ5_newCapacity_0f7a4_4 : decode cJ5_newCapacity_0f7a4 4 = .ok (.arraylength, 1) := by decide +kernel
theorem dJ5_newCapacity_0f7a4_5 : decode cJ5_newCapacity_0f7a4 5 = .ok (.istore_n 2, 1) := by decide +kernel
theorem dJ5_newCapacity_0f7a4_6 : decode cJ5_newCapacity_0f7a4 6 = .ok (.iload_n 1, 1) := by decide +kernel
theorem dJ5_newCapacity_0f7a4_7 : decode cJ5_newCapacity_0f7a4 7 = .ok (.aload_n 0, 1) := by decide +kernel
theorem dJ5_newCapacity_0f7a4_8 : decode cJ5_newCapacity_0f7a4 8 = .ok (.getfield 22, 3) := by decide +kernel
theorem dJ5_newCapacity_0f7a4_11 : decode cJ5_newCapacity_0f7a4 11 = .ok (.ishl, 1) := by decide +kernel
theorem dJ5_newCapacity_0f7a4_12 : decode cJ5_newCapacity_0f7a4 12 = .ok (.istore_n 3, 1) := by decide +kernel
theorem dJ5_newCapacity_0f7a4_13 : decode cJ5_newCapacity_0f7a4 13 = .ok (.iload_n 3, 1) := by decide +kernel
theorem dJ5_newCapacity_0f7a4_14 : decode cJ5_newCapacity_0f7a4 14 = .ok (.iload_n 2, 1) := by decide +kernel
theorem dJ5_newCapacity_0f7a4_15 : decode cJ5_newCapacity_0f7a4 15 = .ok (.isub, 1) := by decide +kernel
theorem dJ5_newCapacity_0f7a4_16 : decode cJ5_newCapacity_0f7a4 16 = .ok (.istore 4, 2) := by decide +kernel
theorem dJ5_newCapacity_0f7a4_18 : decode cJ5_newCapacity_0f7a4 18 = .ok (.iload_n 2, 1) := by decide +kernel
theorem dJ5_newCapacity_0f7a4_19 : decode cJ5_newCapacity_0f7a4 19 = .ok (.iload 4, 2) := by decide +kernel
theorem dJ5_newCapacity_0f7a4_21 : decode cJ5_newCapacity_0f7a4 21 = .ok (.iload_n 2, 1) := by decide +kernel
theorem dJ5_newCapacity_0f7a4_22 : decode cJ5_newCapacity_0f7a4 22 = .ok (.iconst 2, 1) := by decide +kernel
theorem dJ5_newCapacity_0f7a4_23 : decode cJ5_newCapacity_0f7a4 23 = .ok (.aload_n 0, 1) := by decide +kernel
theorem dJ5_newCapacity_0f7a4_24 : decode cJ5_newCapacity_0f7a4 24 = .ok (.getfield 22, 3) := by decide +kernel
theorem dJ5_newCapacity_0f7a4_27 : decode cJ5_newCapacity_0f7a4 27 = .ok (.ishl, 1) := by decide +kernel
theorem dJ5_newCapacity_0f7a4_28 : decode cJ5_newCapacity_0f7a4 28 = .ok (.iadd, 1) := by decide +kernel
theorem dJ5_newCapacity_0f7a4_29 : decode cJ5_newCapacity_0f7a4 29 = .ok (.invokestatic 114, 3) := by decide +kernel
theorem dJ5_newCapacity_0f7a4_32 : decode cJ5_newCapacity_0f7a4 32 = .ok (.istore 5, 2) := by decide +kernel
theorem dJ5_newCapacity_0f7a4_34 : decode cJ5_newCapacity_0f7a4 34 = .ok (.iload 5, 2) := by decide +kernel
theorem dJ5_newCapacity_0f7a4_36 : decode cJ5_newCapacity_0f7a4 36 = .ok (.ldc 39, 2) := by decide +kernel
theorem dJ5_newCapacity_0f7a4_38 : decode cJ5_newCapacity_0f7a4 38 = .ok (.if_icmp .ne 13, 3) := by decide +kernel
theorem dJ5_newCapacity_0f7a4_41 : decode cJ5_newCapacity_0f7a4 41 = .ok (.new 120, 3) := by decide +kernel
theorem dJ5_newCapacity_0f7a4_44 : decode cJ5_newCapacity_0f7a4 44 = .ok (.dup, 1) := by decide +kernel
theorem dJ5_newCapacity_0f7a4_45 : decode cJ5_newCapacity_0f7a4 45 = .ok (.ldc 122, 2) := by decide +kernel
theorem dJ5_newCapacity_0f7a4_47 : decode cJ5_newCapacity_0f7a4 47 = .ok (.invokespecial 124, 3) := by decide +kernel
theorem dJ5_newCapacity_0f7a4_50 : decode cJ5_newCapacity_0f7a4 50 = .ok (.athrow, 1) := by decide +kernel
theorem dJ5_newCapacity_0f7a4_51 : decode cJ5_newCapacity_0f7a4 51 = .ok (.iload 5, 2) := by decide +kernel
theorem dJ5_newCapacity_0f7a4_53 : decode cJ5_newCapacity_0f7a4 53 = .ok (.aload_n 0, 1) := by decide +kernel
theorem dJ5_newCapacity_0f7a4_54 : decode cJ5_newCapacity_0f7a4 54 = .ok (.getfield 22, 3) := by decide +kernel
theorem dJ5_newCapacity_0f7a4_57 : decode cJ5_newCapacity_0f7a4 57 = .ok (.ishr, 1) := by decide +kernel
theorem dJ5_newCapacity_0f7a4_58 : decode cJ5_newCapacity_0f7a4 58 = .ok (.ireturn, 1) := by decide +kernel
theorem dJ7_copyOf_9075b_0 : decode cJ7_copyOf_9075b 0 = .ok (.iload_n 1, 1) := by decide +kernel
theorem dJ7_copyOf_9075b_1 : decode cJ7_copyOf_9075b 1 = .ok (.aload_n 0, 1) := by decide +kernel
theorem dJ7_copyOf_9075b_2 : decode cJ7_copyOf_9075b 2 = .ok (.arraylength, 1) := by decide +kernel
theorem dJ7_copyOf_9075b_3 : decode cJ7_copyOf_9075b 3 = .ok (.if_icmp .ne 11, 3) := by decide +kernel
theorem dJ7_copyOf_9075b_6 : decode cJ7_copyOf_9075b 6 = .ok (.aload_n 0, 1) := by decide +kernel
theorem dJ7_copyOf_9075b_7 : decode cJ7_copyOf_9075b 7 = .ok (.invokevirtual 310, 3) := by decide +kernel
theorem dJ7_copyOf_9075b_10 : decode cJ7_copyOf_9075b 10 = .ok (.checkcast 311, 3) := by decide +kernel
theorem dJ7_copyOf_9075b_13 : decode cJ7_copyOf_9075b 13 = .ok (.areturn, 1) := by decide +kernel
theorem dJ7_copyOf_9075b_14 : decode cJ7_copyOf_9075b 14 = .ok (.iload_n 1, 1) := by decide +kernel
theorem dJ7_copyOf_9075b_15 : decode cJ7_copyOf_9075b 15 = .ok (.newarray .byte, 2) := by decide +kernel
theorem dJ7_copyOf_9075b_17 : decode cJ7_copyOf_9075b 17 = .ok (.astore_n 2, 1) := by decide +kernel
theorem dJ7_copyOf_9075b_18 : decode cJ7_copyOf_9075b 18 = .ok (.aload_n 0, 1) := by decide +kernel
theorem dJ7_copyOf_9075b_19 : decode cJ7_copyOf_9075b 19 = .ok (.iconst 0, 1) := by decide +kernel
theorem dJ7_copyOf_9075b_20 : decode cJ7_copyOf_9075b 20 = .ok (.aload_n 2, 1) := by decide +kernel
theorem dJ7_copyOf_9075b_21 : decode cJ7_copyOf_9075b 21 = .ok (.iconst 0, 1) := by decide +kernel
theorem dJ7_copyOf_9075b_22 : decode cJ7_copyOf_9075b 22 = .ok (.aload_n 0, 1) := by decide +kernel
theorem dJ7_copyOf_9075b_23 : decode cJ7_copyOf_9075b 23 = .ok (.arraylength, 1) := by decide +kernel
theorem dJ7_copyOf_9075b_24 : decode cJ7_copyOf_9075b 24 = .ok (.iload_n 1, 1) := by decide +kernel
theorem dJ7_copyOf_9075b_25 : decode cJ7_copyOf_9075b 25 = .ok (.invokestatic 304, 3) := by decide +kernel
theorem dJ7_copyOf_9075b_28 : decode cJ7_copyOf_9075b 28 = .ok (.invokestatic 150, 3) := by decide +kernel
theorem dJ7_copyOf_9075b_31 : decode cJ7_copyOf_9075b 31 = .ok (.aload_n 2, 1) := by decide +kernel
theorem dJ7_copyOf_9075b_32 : decode cJ7_copyOf_9075b 32 = .ok (.areturn, 1) := by decide +kernel
theorem dJ5_ensureCapacityInternal_d00df_0 : decode cJ5_ensureCapacityInternal_d00df 0 = .ok (.aload_n 0, 1) := by decide +kernel
theorem dJ5_ensureCapacityInternal_d00df_1 : decode cJ5_ensureCapacityInternal_d00df 1 = .ok (.getfield 15, 3) := by decide +kernel
theorem dJ5_ensureCapacityInternal_d00df_4 : decode cJ5_ensureCapacityInternal_d00df 4 = .ok (.arraylength, 1) := by decide +kernel
theorem dJ5_ensureCapacityInternal_d00df_5 : decode cJ5_ensureCapacityInternal_d00df 5 = .ok (.aload_n 0, 1) := by decide +kernel
theorem dJ5_ensureCapacityInternal_d00df_6 : decode cJ5_ensureCapacityInternal_d00df 6 = .ok (.getfield 22, 3) := by decide +kernel
theorem dJ5_ensureCapacityInternal_d00df_9 : decode cJ5_ensureCapacityInternal_d00df 9 = .ok (.ishr, 1) := by decide +kernel
theorem dJ5_ensureCapacityInternal_d00df_10 : decode cJ5_ensureCapacityInternal_d00df 10 = .ok (.istore_n 2, 1) := by decide +kernel
theorem dJ5_ensureCapacityInternal_d00df_11 : decode cJ5_ensureCapacityInternal_d00df 11 = .ok (.iload_n 1, 1) := by decide +kernel
theorem dJ5_ensureCapacityInternal_d00df_12 : decode cJ5_ensureCapacityInternal_d00df 12 = .ok (.iload_n 2, 1) := by decide +kernel
theorem dJ5_ensureCapacityInternal_d00df_13 : decode cJ5_ensureCapacityInternal_d00df 13 = .ok (.isub, 1) := by decide +kernel
theorem dJ5_ensureCapacityInternal_d00df_14 : decode cJ5_ensureCapacityInternal_d00df 14 = .ok (.ifCond .le 24, 3) := by decide +kernel
theorem dJ5_ensureCapacityInternal_d00df_17 : decode cJ5_ensureCapacityInternal_d00df 17 = .ok (.aload_n 0, 1) := by decide +kernel
theorem dJ5_ensureCapacityInternal_d00df_18 : decode cJ5_ensureCapacityInternal_d00df 18 = .ok (.aload_n 0, 1) := by decide +kernel
theorem dJ5_ensureCapacityInternal_d00df_19 : decode cJ5_ensureCapacityInternal_d00df 19 = .ok (.getfield 15, 3) := by decide +kernel
theorem dJ5_ensureCapacityInternal_d00df_22 : decode cJ5_ensureCapacityInternal_d00df 22 = .ok (.aload_n 0, 1) := by decide +kernel
theorem dJ5_ensureCapacityInternal_d00df_23 : decode cJ5_ensureCapacityInternal_d00df 23 = .ok (.iload_n 1, 1) := by decide +kernel
theorem dJ5_ensureCapacityInternal_d00df_24 : decode cJ5_ensureCapacityInternal_d00df 24 = .ok (.invokevirtual 104, 3) := by decide +kernel
theorem dJ5_ensureCapacityInternal_d00df_27 : decode cJ5_ensureCapacityInternal_d00df 27 = .ok (.aload_n 0, 1) := by decide +kernel
theorem dJ5_ensureCapacityInternal_d00df_28 : decode cJ5_ensureCapacityInternal_d00df 28 = .ok (.getfield 22, 3) := by decide +kernel
theorem dJ5_ensureCapacityInternal_d00df_31 : decode cJ5_ensureCapacityInternal_d00df 31 = .ok (.ishl, 1) := by decide +kernel
theorem dJ5_ensureCapacityInternal_d00df_32 : decode cJ5_ensureCapacityInternal_d00df 32 = .ok (.invokestatic 108, 3) := by decide +kernel
theorem dJ5_ensureCapacityInternal_d00df_35 : decode cJ5_ensureCapacityInternal_d00df 35 = .ok (.putfield 15, 3) := by decide +kernel
theorem dJ5_ensureCapacityInternal_d00df_38 : decode cJ5_ensureCapacityInternal_d00df 38 = .ok (.return_, 1) := by decide +kernel
theorem dJ5_inflateIfNeededFor_a7421_0 : decode cJ5_inflateIfNeededFor_a7421 0 = .ok (.getstatic 18, 3) := by decide +kernel
theorem dJ5_inflateIfNeededFor_a7421_3 : decode cJ5_inflateIfNeededFor_a7421 3 = .ok (.ifCond .eq 18, 3) := by decide +kernel
theorem dJ5_inflateIfNeededFor_a7421_6 : decode cJ5_inflateIfNeededFor_a7421 6 = .ok (.aload_n 0, 1) := by decide +kernel
theorem dJ5_inflateIfNeededFor_a7421_7 : decode cJ5_inflateIfNeededFor_a7421 7 = .ok (.getfield 22, 3) := by decide +kernel
theorem dJ5_inflateIfNeededFor_a7421_10 : decode cJ5_inflateIfNeededFor_a7421 10 = .ok (.aload_n 1, 1) := by decide +kernel
theorem dJ5_inflateIfNeededFor_a7421_11 : decode cJ5_inflateIfNeededFor_a7421 11 = .ok (.invokevirtual 40, 3) := by decide +kernel
theorem dJ5_inflateIfNeededFor_a7421_14 : decode cJ5_inflateIfNeededFor_a7421 14 = .ok (.if_icmp .eq 7, 3) := by decide +kernel
theorem dJ5_inflateIfNeededFor_a7421_17 : decode cJ5_inflateIfNeededFor_a7421 17 = .ok (.aload_n 0, 1) := by decide +kernel
theorem dJ5_inflateIfNeededFor_a7421_18 : decode cJ5_inflateIfNeededFor_a7421 18 = .ok (.invokevirtual 195, 3) := by decide +kernel
theorem dJ5_inflateIfNeededFor_a7421_21 : decode cJ5_inflateIfNeededFor_a7421 21 = .ok (.return_, 1) := by decide +kernel
theorem dJ0_getBytes_840e7_0 : decode cJ0_getBytes_840e7 0 = .ok (.aload_n 0, 1) := by decide +kernel
theorem dJ0_getBytes_840e7_1 : decode cJ0_getBytes_840e7 1 = .ok (.invokevirtual 335, 3) := by decide +kernel
theorem dJ0_getBytes_840e7_4 : decode cJ0_getBytes_840e7 4 = .ok (.iload_n 3, 1) := by decide +kernel
theorem dJ0_getBytes_840e7_5 : decode cJ0_getBytes_840e7 5 = .ok (.if_icmp .ne 23, 3) := by decide +kernel
theorem dJ0_getBytes_840e7_8 : decode cJ0_getBytes_840e7 8 = .ok (.aload_n 0, 1) := by decide +kernel
theorem dJ0_getBytes_840e7_9 : decode cJ0_getBytes_840e7 9 = .ok (.getfield 9, 3) := by decide +kernel
theorem dJ0_getBytes_840e7_12 : decode cJ0_getBytes_840e7 12 = .ok (.iconst 0, 1) := by decide +kernel
theorem dJ0_getBytes_840e7_13 : decode cJ0_getBytes_840e7 13 = .ok (.aload_n 1, 1) := by decide +kernel
theorem dJ0_getBytes_840e7_14 : decode cJ0_getBytes_840e7 14 = .ok (.iload_n 2, 1) := by decide +kernel
theorem dJ0_getBytes_840e7_15 : decode cJ0_getBytes_840e7 15 = .ok (.iload_n 3, 1) := by decide +kernel
theorem dJ0_getBytes_840e7_16 : decode cJ0_getBytes_840e7 16 = .ok (.ishl, 1) := by decide +kernel
theorem dJ0_getBytes_840e7_17 : decode cJ0_getBytes_840e7 17 = .ok (.aload_n 0, 1) := by decide +kernel
theorem dJ0_getBytes_840e7_18 : decode cJ0_getBytes_840e7 18 = .ok (.getfield 9, 3) := by decide +kernel
theorem dJ0_getBytes_840e7_21 : decode cJ0_getBytes_840e7 21 = .ok (.arraylength, 1) := by decide +kernel
theorem dJ0_getBytes_840e7_22 : decode cJ0_getBytes_840e7 22 = .ok (.invokestatic 212, 3) := by decide +kernel
theorem dJ0_getBytes_840e7_25 : decode cJ0_getBytes_840e7 25 = .ok (.goto 18, 3) := by decide +kernel
theorem dJ0_getBytes_840e7_28 : decode cJ0_getBytes_840e7 28 = .ok (.aload_n 0, 1) := by decide +kernel
theorem dJ0_getBytes_840e7_29 : decode cJ0_getBytes_840e7 29 = .ok (.getfield 9, 3) := by decide +kernel
theorem dJ0_getBytes_840e7_32 : decode cJ0_getBytes_840e7 32 = .ok (.iconst 0, 1) := by decide +kernel
theorem dJ0_getBytes_840e7_33 : decode cJ0_getBytes_840e7 33 = .ok (.aload_n 1, 1) := by decide +kernel
theorem dJ0_getBytes_840e7_34 : decode cJ0_getBytes_840e7 34 = .ok (.iload_n 2, 1) := by decide +kernel
theorem dJ0_getBytes_840e7_35 : decode cJ0_getBytes_840e7 35 = .ok (.aload_n 0, 1) := by decide +kernel
theorem dJ0_getBytes_840e7_36 : decode cJ0_getBytes_840e7 36 = .ok (.getfield 9, 3) := by decide +kernel
theorem dJ0_getBytes_840e7_39 : decode cJ0_getBytes_840e7 39 = .ok (.arraylength, 1) := by decide +kernel
theorem dJ0_getBytes_840e7_40 : decode cJ0_getBytes_840e7 40 = .ok (.invokestatic 106, 3) := by decide +kernel
theorem dJ0_getBytes_840e7_43 : decode cJ0_getBytes_840e7 43 = .ok (.return_, 1) := by decide +kernel
theorem dJ5_putStringAt_47b60_0 : decode cJ5_putStringAt_47b60 0 = .ok (.aload_n 0, 1) := by decide +kernel
theorem dJ5_putStringAt_47b60_1 : decode cJ5_putStringAt_47b60 1 = .ok (.aload_n 2, 1) := by decide +kernel
theorem dJ5_putStringAt_47b60_2 : decode cJ5_putStringAt_47b60 2 = .ok (.invokevirtual 397, 3) := by decide +kernel
theorem dJ5_putStringAt_47b60_5 : decode cJ5_putStringAt_47b60 5 = .ok (.aload_n 2, 1) := by decide +kernel
theorem dJ5_putStringAt_47b60_6 : decode cJ5_putStringAt_47b60 6 = .ok (.aload_n 0, 1) := by decide +kernel
theorem dJ5_putStringAt_47b60_7 : decode cJ5_putStringAt_47b60 7 = .ok (.getfield 15, 3) := by decide +kernel
theorem dJ5_putStringAt_47b60_10 : decode cJ5_putStringAt_47b60 10 = .ok (.iload_n 1, 1) := by decide +kernel
theorem dJ5_putStringAt_47b60_11 : decode cJ5_putStringAt_47b60 11 = .ok (.aload_n 0, 1) := by decide +kernel
theorem dJ5_putStringAt_47b60_12 : decode cJ5_putStringAt_47b60 12 = .ok (.getfield 22, 3) := by decide +kernel
theorem dJ5_putStringAt_47b60_15 : decode cJ5_putStringAt_47b60 15 = .ok (.invokevirtual 399, 3) := by decide +kernel
theorem dJ5_putStringAt_47b60_18 : decode cJ5_putStringAt_47b60 18 = .ok (.return_, 1) := by decide +kernel
theorem dJ5_append_cf1ce_0 : decode cJ5_append_cf1ce 0 = .ok (.aload_n 1, 1) := by decide +kernel
theorem dJ5_append_cf1ce_1 : decode cJ5_append_cf1ce 1 = .ok (.ifnonnull 8, 3) := by decide +kernel
theorem dJ5_append_cf1ce_4 : decode cJ5_append_cf1ce 4 = .ok (.aload_n 0, 1) := by decide +kernel
theorem dJ5_append_cf1ce_5 : decode cJ5_append_cf1ce 5 = .ok (.invokevirtual 204, 3) := by decide +kernel
theorem dJ5_append_cf1ce_8 : decode cJ5_append_cf1ce 8 = .ok (.areturn, 1) := by decide +kernel
theorem dJ5_append_cf1ce_9 : decode cJ5_append_cf1ce 9 = .ok (.aload_n 1, 1) := by decide +kernel
theorem dJ5_append_cf1ce_10 : decode cJ5_append_cf1ce 10 = .ok (.invokevirtual 32, 3) := by decide +kernel
theorem dJ5_append_cf1ce_13 : decode cJ5_append_cf1ce 13 = .ok (.istore_n 2, 1) := by decide +kernel
theorem dJ5_append_cf1ce_14 : decode cJ5_append_cf1ce 14 = .ok (.aload_n 0, 1) := by decide +kernel
theorem dJ5_append_cf1ce_15 : decode cJ5_append_cf1ce 15 = .ok (.aload_n 0, 1) := by decide +kernel
theorem dJ5_append_cf1ce_16 : decode cJ5_append_cf1ce 16 = .ok (.getfield 79, 3) := by decide +kernel
theorem dJ5_append_cf1ce_19 : decode cJ5_append_cf1ce 19 = .ok (.iload_n 2, 1) := by decide +kernel
theorem dJ5_append_cf1ce_20 : decode cJ5_append_cf1ce 20 = .ok (.iadd, 1) := by decide +kernel
theorem dJ5_append_cf1ce_21 : decode cJ5_append_cf1ce 21 = .ok (.invokevirtual 100, 3) := by decide +kernel
theorem dJ5_append_cf1ce_24 : decode cJ5_append_cf1ce 24 = .ok (.aload_n 0, 1) := by decide +kernel
theorem dJ5_append_cf1ce_25 : decode cJ5_append_cf1ce 25 = .ok (.aload_n 0, 1) := by decide +kernel
theorem dJ5_append_cf1ce_26 : decode cJ5_append_cf1ce 26 = .ok (.getfield 79, 3) := by decide +kernel
theorem dJ5_append_cf1ce_29 : decode cJ5_append_cf1ce 29 = .ok (.aload_n 1, 1) := by decide +kernel
theorem dJ5_append_cf1ce_30 : decode cJ5_append_cf1ce 30 = .ok (.invokevirtual 208, 3) := by decide +kernel
theorem dJ5_append_cf1ce_33 : decode cJ5_append_cf1ce 33 = .ok (.aload_n 0, 1) := by decide +kernel
theorem dJ5_append_cf1ce_34 : decode cJ5_append_cf1ce 34 = .ok (.dup, 1) := by decide +kernel
theorem dJ5_append_cf1ce_35 : decode cJ5_append_cf1ce 35 = .ok (.getfield 79, 3) := by decide +kernel
theorem dJ5_append_cf1ce_38 : decode cJ5_append_cf1ce 38 = .ok (.iload_n 2, 1) := by decide +kernel
theorem dJ5_append_cf1ce_39 : decode cJ5_append_cf1ce 39 = .ok (.iadd, 1) := by decide +kernel
theorem dJ5_append_cf1ce_40 : decode cJ5_append_cf1ce 40 = .ok (.putfield 79, 3) := by decide +kernel
theorem dJ5_append_cf1ce_43 : decode cJ5_append_cf1ce 43 = .ok (.aload_n 0, 1) := by decide +kernel
theorem dJ5_append_cf1ce_44 : decode cJ5_append_cf1ce 44 = .ok (.areturn, 1) := by decide +kernel
theorem dJ4_append_15ec4_0 : decode cJ4_append_15ec4 0 = .ok (.aload_n 0, 1) := by decide +kernel
theorem dJ4_append_15ec4_1 : decode cJ4_append_15ec4 1 = .ok (.aload_n 1, 1) := by decide +kernel
theorem dJ4_append_15ec4_2 : decode cJ4_append_15ec4 2 = .ok (.invokespecial 29, 3) := by decide +kernel
theorem dJ4_append_15ec4_5 : decode cJ4_append_15ec4 5 = .ok (.pop, 1) := by decide +kernel
theorem dJ4_append_15ec4_6 : decode cJ4_append_15ec4 6 = .ok (.aload_n 0, 1) := by decide +kernel
theorem dJ4_append_15ec4_7 : decode cJ4_append_15ec4 7 = .ok (.areturn, 1) := by decide +kernel
theorem kp_J5_newCapacity_0f7a4 : KP yJ5_newCapacity_0f7a4 cJ5_newCapacity_0f7a4 6 (Option.some FieldType.int) 1 := ⟨tw_4_192, tw_4_191, tw_1_19, by decide, by decide, by decide +kernel⟩
theorem kp_J5_ensureCapacityInternal_d00df : KP yJ5_ensureCapacityInternal_d00df cJ5_ensureCapacityInternal_d00df 3 none 1 := ⟨tw_4_188, tw_4_187, tw_1_19, by decide, by decide, by decide +kernel⟩
theorem kp_J5_inflateIfNeededFor_a7421 : KP yJ5_inflateIfNeededFor_a7421 cJ5_inflateIfNeededFor_a7421 2 none 1 := ⟨tw_4_233, tw_4_232, tw_1_19, by decide, by decide, by decide +kernel⟩
theorem kp_J5_putStringAt_47b60 : KP yJ5_putStringAt_47b60 cJ5_putStringAt_47b60 3 none 2 := ⟨tw_4_229, tw_4_228, tw_1_19, by decide, by decide, by decide +kernel⟩
theorem kp_J5_append_cf1ce : KP yJ5_append_cf1ce cJ5_append_cf1ce 3 (Option.some (FieldType.object "java/lang/AbstractStringBuilder")) 1 := ⟨tw_4_180, tw_4_179, tw_1_19, by decide, by decide, by decide +kernel⟩
theorem kv_J7_copyOf_9075b : KS yJ7_copyOf_9075b cJ7_copyOf_9075b 3 (Option.some (FieldType.array FieldType.byte)) 2 := ⟨tw_4_197, tw_4_196, tw_1_7, by decide, by decide, by decide +kernel⟩
theorem kv_J0_getBytes_840e7 : KV yJ0_getBytes_840e7 cJ0_getBytes_840e7 4 none 3 := ⟨tw_5_17, tw_5_15, tw_5_16, tw_1_21, by decide, by decide, by decide +kernel⟩
theorem kv_J4_append_15ec4 : KV yJ4_append_15ec4 cJ4_append_15ec4 2 (Option.some (FieldType.object "java/lang/StringBuilder")) 1 := ⟨tw_4_177, tw_4_175, tw_4_176, tw_1_20, by decide, by decide, by decide +kernel⟩
theorem nIsub {a b : Nat} (h : b ≤ a) : nI a - nI b = nI (a - b) := pk_sub h
def k_sb (G : Gx) (a v n : Nat) (t : Nat → Int32) (H : Heap) : Prop := va_at G.1 z_cl (a, e_sb v (nI n)) H ∧ ∃ (m : Nat) (b : Nat → Int32), va_at G.1 z_cl (v, e_by G m b) H ∧ n ≤ m ∧ m ≤ 500 ∧ (∀ j, j < n → b j = t j) ∧ ∀ j, j < m → fits .byte (.int (b j)) = true
theorem k_sb.kept {G : Gx} {a v n : Nat} {t : Nat → Int32} {H H1 : Heap} (h : k_sb G a v n t H) (ha : H1[a]? = H[a]?) (hv : H1[v]? = H[v]?) : k_sb G a v n t H1 := by
  obtain ⟨h1, m, b, h2, h3⟩ := h
  exact ⟨h1.kept ha, m, b, h2.kept hv, h3⟩
def t_cat (t : Nat → Int32) (n : Nat) (t' : Nat → Int32) : Nat → Int32 := fun j => if j < n then t j else t' (j - n)
def t_cp (m q : Nat) : Nat := m + (if q - m < m + 2 then m + 2 else q - m)
theorem va_cpy_fit {b g : Nat → Int32} {sp dp n k : Nat} (hb : ∀ j, j < n → fits .byte (.int (b (sp + j))) = true) (hg : ∀ j, j < k → fits .byte (.int (g j)) = true) : ∀ j, j < k → fits .byte (.int (va_cpy b g sp dp n j)) = true := by
  intro j hj
  unfold va_cpy
  split
  · exact hb _ (by omega)
  · exact hg j hj
set_option maxHeartbeats 4000000 in
set_option maxRecDepth 100000 in
theorem k_coderS (l : Launch) (G : Gx) (q v n : Nat) (t : Nat → Int32) (sz : Nat) : k_M l yJ0_coder_7d493 cJ0_coder_7d493 1 (Option.some FieldType.byte) 0 0 0 0 G (fun H => k_str G q v n t H) sz [.ref q] (some (.int 0)) (fun H => H.size = sz) (fun q => False) := by
  refine k_begin (by decide +kernel) (Nat.le_of_ble_eq_true rfl) [(0, .ref q)] rfl (fun p e s m args below meth c ls C hnm hsz hP hO hl => ?_)
  have S : va_S (fun q => False) s.heap s.heap [] := va_S.rf
  refine u_gets C hO C.2.2.2.2.2.1.2.2.2.2.2.2.2.1 tw_2_227 dJ0_coder_7d493_0 ?_
  refine lv_if_eq (tgt := 13) C.1 C.2.1 dJ0_coder_7d493_3 (by decide) (fun c_3 => absurd c_3 (by decide)) (fun c_3 => ?_)
  refine lv_aload_n C.1 C.2.1 dJ0_coder_7d493_6 rfl (lv_at hl 0 rfl) ?_
  refine u_strc C hO hP tw_5_98 dJ0_coder_7d493_7 ?_
  refine lv_goto (tgt := 14) C.1 C.2.1 dJ0_coder_7d493_10 (by decide) ?_
  exact k_zret C S rfl hsz (Nat.le_of_ble_eq_true rfl) (Nat.le_of_ble_eq_true rfl) dJ0_coder_7d493_14
set_option maxHeartbeats 4000000 in
set_option maxRecDepth 100000 in
theorem k_lenS (l : Launch) (G : Gx) (q v n : Nat) (t : Nat → Int32) (sz : Nat) : k_M l yJ0_length_8abf5 cJ0_length_8abf5 1 (Option.some FieldType.int) 1 20 0 0 G (fun H => k_str G q v n t H) sz [.ref q] (some (.int (nI n))) (fun H => H.size = sz) (fun q => False) := by
  refine k_begin (by decide +kernel) (Nat.le_of_ble_eq_true rfl) [(0, .ref q)] rfl (fun p e s m args below meth c ls C hnm hsz hP hO hl => ?_)
  have S : va_S (fun q => False) s.heap s.heap [] := va_S.rf
  refine lv_aload_n C.1 C.2.1 dJ0_length_8abf5_0 rfl (lv_at hl 0 rfl) ?_
  refine u_strv C hO hP tw_5_97 dJ0_length_8abf5_1 ?_
  refine u_Tlen C (u_strT C hO hP) dJ0_length_8abf5_4 ?_
  refine lv_aload_n C.1 C.2.1 dJ0_length_8abf5_5 rfl (lv_at hl 0 rfl) ?_
  refine k_callV C S hO (u_strC C hO hP) [] (k_coderS l G q v n t sz) hsz hP kv_J0_coder_7d493 tw_2_223 ⟨(Nat.le_of_ble_eq_true rfl), (Nat.le_of_ble_eq_true rfl)⟩ rfl rfl (Nat.le_of_ble_eq_true rfl) hl.1 ⟨(Nat.le_of_ble_eq_true rfl), (Nat.le_of_ble_eq_true rfl)⟩ dJ0_length_8abf5_6 (fun _ h => h.elim) (fun H1 locs1 hz1 hle1 o1 S => ?_)
  refine lv_ishr C.1 C.2.1 dJ0_length_8abf5_9 ?_
  rw [sb_shr0]
  exact k_iret C S hz1 (Nat.le_of_ble_eq_true rfl) (Nat.le_of_ble_eq_true rfl) dJ0_length_8abf5_10
set_option maxHeartbeats 4000000 in
set_option maxRecDepth 100000 in
theorem k_newlenB (l : Launch) (G : Gx) (mm g : Nat) (hm : mm ≤ 500) (hg : g ≤ 500) (sz : Nat) : k_M l yJ8_newLength_cabcc cJ8_newLength_cabcc 4 (Option.some FieldType.int) 1 21 0 0 G (fun H => True) sz [.int (nI mm), .int (nI g), .int (nI (mm + 2))] (some (.int (nI (mm + (if g < mm + 2 then mm + 2 else g))))) (fun H => H.size = sz) (fun q => False) := by
  refine k_begin (by decide +kernel) (Nat.le_of_ble_eq_true rfl) [(0, .int (nI mm)), (1, .int (nI g)), (2, .int (nI (mm + 2)))] rfl (fun p e s m args below meth c ls C hnm hsz hP hO hl => ?_)
  have S : va_S (fun q => False) s.heap s.heap [] := va_S.rf
  refine lv_iload_n C.1 C.2.1 dJ8_newLength_cabcc_0 rfl (lv_at hl 0 rfl) ?_
  refine lv_iload_n C.1 C.2.1 dJ8_newLength_cabcc_1 rfl (lv_at hl 1 rfl) ?_
  refine lv_iload_n C.1 C.2.1 dJ8_newLength_cabcc_2 rfl (lv_at hl 2 rfl) ?_
  refine z_max C hl.1 tw_3_218 (Nat.le_of_ble_eq_true rfl) (Nat.le_of_ble_eq_true rfl) ⟨(Nat.le_of_ble_eq_true rfl), (Nat.le_of_ble_eq_true rfl)⟩ dJ8_newLength_cabcc_3 ?_
  have e1 : jmax (nI g) (nI (mm + 2)) = nI (if g < mm + 2 then mm + 2 else g) := by
    unfold jmax
    by_cases c1 : g < mm + 2
    · rw [if_pos c1, if_pos (nI_lt c1 (by omega))]
    · rw [if_neg c1, if_neg (nI_nlt (by omega) (by omega))]
  rw [e1]
  have hb : (if g < mm + 2 then mm + 2 else g) ≤ 502 := by split <;> omega
  have hr0 : 0 < mm + (if g < mm + 2 then mm + 2 else g) := by split <;> omega
  generalize (if g < mm + 2 then mm + 2 else g) = r at hb hr0 ⊢
  refine lv_iadd C.1 C.2.1 dJ8_newLength_cabcc_6 ?_
  have e2 : nI mm + nI r = nI (mm + r) := (Int32.ofNat_add mm r).symm
  rw [e2]
  refine lv_istore_n (lv' := [(3, .int (nI (mm + r))), (0, .int (nI mm)), (1, .int (nI g)), (2, .int (nI (mm + 2)))]) C.1 C.2.1 dJ8_newLength_cabcc_7 rfl hl (by decide) rfl (fun ls hl => ?_)
  refine lv_iconst (v := 0) C.1 C.2.1 dJ8_newLength_cabcc_8 (by decide) ?_
  refine lv_iload_n C.1 C.2.1 dJ8_newLength_cabcc_9 rfl (lv_at hl 0 rfl) ?_
  refine lv_icmp_ge (tgt := 21) C.1 C.2.1 dJ8_newLength_cabcc_10 (by decide) (fun c_ => absurd c_ (Int32.not_le.mpr (show nI 0 < nI (mm + r) from nI_lt hr0 (by omega)))) (fun c_ => ?_)
  refine lv_iload_n C.1 C.2.1 dJ8_newLength_cabcc_13 rfl (lv_at hl 0 rfl) ?_
  refine z_ldc (v := 2147483639) C tw_3_219 dJ8_newLength_cabcc_14 ?_
  refine lv_icmp_gt (tgt := 21) C.1 C.2.1 dJ8_newLength_cabcc_16 (by decide) (fun c_ => absurd c_ (nI_nlt (show mm + r ≤ 2147483639 by omega) (by decide))) (fun c_ => ?_)
  refine lv_iload_n C.1 C.2.1 dJ8_newLength_cabcc_19 rfl (lv_at hl 0 rfl) ?_
  exact k_iret C S hsz (Nat.le_of_ble_eq_true rfl) (Nat.le_of_ble_eq_true rfl) dJ8_newLength_cabcc_20
set_option maxHeartbeats 4000000 in
set_option maxRecDepth 100000 in
theorem k_newcap (l : Launch) (G : Gx) (a v mm q : Nat) (n0 : Int32) (b : Nat → Int32) (hm : mm ≤ 500) (hmq : mm < q) (hq : q ≤ 240) (sz : Nat) : k_M l yJ5_newCapacity_0f7a4 cJ5_newCapacity_0f7a4 6 (Option.some FieldType.int) 2 44 0 0 G (fun H => va_at G.1 z_cl (a, e_sb v n0) H ∧ va_at G.1 z_cl (v, e_by G mm b) H) sz [.ref a, .int (nI q)] (some (.int (nI (t_cp mm q)))) (fun H => H.size = sz) (fun q => False) := by
  refine k_begin (by decide +kernel) (Nat.le_of_ble_eq_true rfl) [(0, .ref a), (1, .int (nI q))] rfl (fun p e s m args below meth c ls C hnm hsz hP hO hl => ?_)
  obtain ⟨h0, h1⟩ := hP
  have S : va_S (fun q => False) s.heap s.heap [] := va_S.rf
  refine lv_aload_n C.1 C.2.1 dJ5_newCapacity_0f7a4_0 rfl (lv_at hl 0 rfl) ?_
  refine u_get C h0 cf_14 0 (by decide) rfl tw_4_160 dJ5_newCapacity_0f7a4_1 ?_
  refine u_alen C 6 rfl h1 (v := nI mm) rfl dJ5_newCapacity_0f7a4_4 ?_
  refine lv_istore_n (lv' := [(2, .int (nI mm)), (0, .ref a), (1, .int (nI q))]) C.1 C.2.1 dJ5_newCapacity_0f7a4_5 rfl hl (by decide) rfl (fun ls hl => ?_)
  refine lv_iload_n C.1 C.2.1 dJ5_newCapacity_0f7a4_6 rfl (lv_at hl 2 rfl) ?_
  refine lv_aload_n C.1 C.2.1 dJ5_newCapacity_0f7a4_7 rfl (lv_at hl 1 rfl) ?_
  refine u_get C h0 cf_14 1 (by decide) rfl tw_4_161 dJ5_newCapacity_0f7a4_8 ?_
  refine lv_ishl C.1 C.2.1 dJ5_newCapacity_0f7a4_11 ?_
  rw [sb_shl0]
  refine lv_istore_n (lv' := [(3, .int (nI q)), (2, .int (nI mm)), (0, .ref a), (1, .int (nI q))]) C.1 C.2.1 dJ5_newCapacity_0f7a4_12 rfl hl (by decide) rfl (fun ls hl => ?_)
  refine lv_iload_n C.1 C.2.1 dJ5_newCapacity_0f7a4_13 rfl (lv_at hl 0 rfl) ?_
  refine lv_iload_n C.1 C.2.1 dJ5_newCapacity_0f7a4_14 rfl (lv_at hl 1 rfl) ?_
  refine lv_isub C.1 C.2.1 dJ5_newCapacity_0f7a4_15 ?_
  rw [nIsub (Nat.le_of_lt hmq)]
  refine lv_istore (lv' := [(4, .int (nI (q - mm))), (3, .int (nI q)), (2, .int (nI mm)), (0, .ref a), (1, .int (nI q))]) C.1 C.2.1 dJ5_newCapacity_0f7a4_16 hl (by decide) rfl (fun ls hl => ?_)
  refine lv_iload_n C.1 C.2.1 dJ5_newCapacity_0f7a4_18 rfl (lv_at hl 2 rfl) ?_
  refine lv_iload C.1 C.2.1 dJ5_newCapacity_0f7a4_19 (lv_at hl 0 rfl) ?_
  refine lv_iload_n C.1 C.2.1 dJ5_newCapacity_0f7a4_21 rfl (lv_at hl 2 rfl) ?_
  refine lv_iconst (v := 2) C.1 C.2.1 dJ5_newCapacity_0f7a4_22 (by decide) ?_
  refine lv_aload_n C.1 C.2.1 dJ5_newCapacity_0f7a4_23 rfl (lv_at hl 3 rfl) ?_
  refine u_get C h0 cf_14 1 (by decide) rfl tw_4_161 dJ5_newCapacity_0f7a4_24 ?_
  refine lv_ishl C.1 C.2.1 dJ5_newCapacity_0f7a4_27 ?_
  rw [sb_shl0]
  refine lv_iadd C.1 C.2.1 dJ5_newCapacity_0f7a4_28 ?_
  rw [show nI mm + 2 = nI (mm + 2) from (Int32.ofNat_add mm 2).symm]
  refine k_callS C S hO [.int (nI mm), .int (nI (q - mm)), .int (nI (mm + 2))] (k_newlenB l G mm (q - mm) hm (by omega) sz) hsz trivial kv_J8_newLength_cabcc tw_4_193 ⟨(Nat.le_of_ble_eq_true rfl), (Nat.le_of_ble_eq_true rfl)⟩ rfl rfl (Nat.le_of_ble_eq_true rfl) hl.1 ⟨(Nat.le_of_ble_eq_true rfl), (Nat.le_of_ble_eq_true rfl)⟩ dJ5_newCapacity_0f7a4_29 (fun _ h => h.elim) (fun H1 locs1 hz1 hle1 o1 S => ?_)
  replace h0 := va_at.kept h0 (o1 _ h0.lt id)
  have hc : t_cp mm q ≤ 1100 := by unfold t_cp; split <;> omega
  refine lv_istore (lv' := [(5, .int (nI (t_cp mm q))), (4, .int (nI (q - mm))), (3, .int (nI q)), (2, .int (nI mm)), (0, .ref a), (1, .int (nI q))]) C.1 C.2.1 dJ5_newCapacity_0f7a4_32 hl (by decide) rfl (fun ls hl => ?_)
  refine lv_iload C.1 C.2.1 dJ5_newCapacity_0f7a4_34 (lv_at hl 0 rfl) ?_
  refine z_ldc (v := 2147483647) C tw_4_194 dJ5_newCapacity_0f7a4_36 ?_
  refine lv_icmp_ne (tgt := 51) C.1 C.2.1 dJ5_newCapacity_0f7a4_38 (by decide) (fun c_ => ?_) (fun c_ => absurd c_ (fun z => by have h9 := (nI_eq (by omega) (by decide)).mp (show nI (t_cp mm q) = nI 2147483647 from z); omega))
  refine lv_iload C.1 C.2.1 dJ5_newCapacity_0f7a4_51 (lv_at hl 0 rfl) ?_
  refine lv_aload_n C.1 C.2.1 dJ5_newCapacity_0f7a4_53 rfl (lv_at hl 4 rfl) ?_
  refine u_get C h0 cf_14 1 (by decide) rfl tw_4_161 dJ5_newCapacity_0f7a4_54 ?_
  refine lv_ishr C.1 C.2.1 dJ5_newCapacity_0f7a4_57 ?_
  rw [sb_shr0]
  exact k_iret C S hz1 (Nat.le_of_ble_eq_true rfl) (Nat.le_of_ble_eq_true rfl) dJ5_newCapacity_0f7a4_58
set_option maxHeartbeats 4000000 in
set_option maxRecDepth 100000 in
theorem k_copyofB (l : Launch) (G : Gx) (v mm q : Nat) (b : Nat → Int32) (hmq : mm < q) (hq : q ≤ 2000) (hb : ∀ j, j < mm → fits .byte (.int (b j)) = true) (sz : Nat) : k_M l yJ7_copyOf_9075b cJ7_copyOf_9075b 3 (Option.some (FieldType.array FieldType.byte)) 1 26 1 q G (fun H => va_at G.1 z_cl (v, e_by G mm b) H) sz [.ref v, .int (nI q)] (some (.ref sz)) (fun H => H.size = sz + 1 ∧ va_at G.1 z_cl (sz, e_by G q (va_cpy b (fun _ => 0) 0 0 mm)) H) (fun x => sz ≤ x) := by
  refine k_begin (by decide +kernel) (Nat.le_of_ble_eq_true rfl) [(0, .ref v), (1, .int (nI q))] rfl (fun p e s m args below meth c ls C hnm hsz hP hO hl => ?_)
  have S : va_S (fun x => sz ≤ x) s.heap s.heap [] := va_S.rf
  subst hsz
  refine lv_iload_n C.1 C.2.1 dJ7_copyOf_9075b_0 rfl (lv_at hl 1 rfl) ?_
  refine lv_aload_n C.1 C.2.1 dJ7_copyOf_9075b_1 rfl (lv_at hl 0 rfl) ?_
  refine u_alen C 6 rfl hP (v := nI mm) rfl dJ7_copyOf_9075b_2 ?_
  refine lv_icmp_ne (tgt := 14) C.1 C.2.1 dJ7_copyOf_9075b_3 (by decide) (fun c_ => ?_) (fun c_ => absurd c_ (fun z => by have h9 := (nI_eq (by omega) (by omega)).mp (show nI q = nI mm from z); omega))
  refine lv_iload_n C.1 C.2.1 dJ7_copyOf_9075b_14 rfl (lv_at hl 1 rfl) ?_
  refine u_newB C S q (nI_pos (by omega)) (nI_clamp (by omega)) (by omega) (Nat.le_of_ble_eq_true rfl) (Nat.le_of_eq (Nat.zero_add _)) dJ7_copyOf_9075b_15 (fun H1 z1 o1 g1 S => ?_)
  have h0 := va_at.kept hP (o1 _ hP.lt)
  refine lv_astore_n (lv' := [(2, .ref s.heap.size), (0, .ref v), (1, .int (nI q))]) C.1 C.2.1 dJ7_copyOf_9075b_17 rfl hl (by decide) rfl (fun ls hl => ?_)
  refine lv_aload_n C.1 C.2.1 dJ7_copyOf_9075b_18 rfl (lv_at hl 1 rfl) ?_
  refine lv_iconst (v := 0) C.1 C.2.1 dJ7_copyOf_9075b_19 (by decide) ?_
  refine lv_aload_n C.1 C.2.1 dJ7_copyOf_9075b_20 rfl (lv_at hl 0 rfl) ?_
  refine lv_iconst (v := 0) C.1 C.2.1 dJ7_copyOf_9075b_21 (by decide) ?_
  refine lv_aload_n C.1 C.2.1 dJ7_copyOf_9075b_22 rfl (lv_at hl 1 rfl) ?_
  refine u_alen C 6 rfl h0 (v := nI mm) rfl dJ7_copyOf_9075b_23 ?_
  refine lv_iload_n C.1 C.2.1 dJ7_copyOf_9075b_24 rfl (lv_at hl 2 rfl) ?_
  refine z_min C hl.1 tw_4_15 (Nat.le_of_ble_eq_true rfl) (Nat.le_of_ble_eq_true rfl) ⟨(Nat.le_of_ble_eq_true rfl), Nat.le_of_eq (Nat.zero_add _)⟩ dJ7_copyOf_9075b_25 ?_
  have e1 : jmin (nI mm) (nI q) = nI mm := by
    unfold jmin
    first
      | exact if_pos (nI_lt hmq (by omega))
      | exact if_neg (nI_nlt (Nat.le_of_lt hmq) (by omega))
  rw [e1]
  refine u_copyB C S hl.1 (u_BT C h0) g1 (Nat.le_refl _) tw_4_16 (sp := 0) (dp := 0) (n := nI mm) (by decide) (by decide) (nI_pos (by omega)) (by rw [nI_clamp (by omega)]; exact Nat.le_of_eq (Nat.zero_add mm)) (by rw [nI_clamp (by omega)]; show 0 + mm ≤ q; omega) hb (Nat.le_of_ble_eq_true rfl) (Nat.le_of_ble_eq_true rfl) dJ7_copyOf_9075b_28 (fun H2 locs2 z2 o2 g2 S => ?_)
  rw [nI_clamp (by omega)] at g2
  refine lv_aload_n C.1 C.2.1 dJ7_copyOf_9075b_31 rfl (lv_at hl 0 rfl) ?_
  exact k_aret C S (Or.inr ⟨_, rfl⟩) (Or.inr ⟨_, rfl⟩) ⟨by rw [z2, z1], g2⟩ (Nat.le_of_ble_eq_true rfl) (Nat.le_of_eq (Nat.zero_add _)) dJ7_copyOf_9075b_32
set_option maxHeartbeats 4000000 in
set_option maxRecDepth 100000 in
theorem k_ensure (l : Launch) (G : Gx) (a v mm q : Nat) (n0 : Int32) (b : Nat → Int32) (hm : mm ≤ 500) (hq : q ≤ 240) (hGa : G.2.2.1.size ≤ a) (hav : a ≠ v) (hb : ∀ j, j < mm → fits .byte (.int (b j)) = true) (sz : Nat) : k_M l yJ5_ensureCapacityInternal_d00df cJ5_ensureCapacityInternal_d00df 3 none 3 69 1 500 G (fun H => va_at G.1 z_cl (a, e_sb v n0) H ∧ va_at G.1 z_cl (v, e_by G mm b) H) sz [.ref a, .int (nI q)] none (fun H => ∃ (v2 m2 : Nat) (b2 : Nat → Int32), va_at G.1 z_cl (a, e_sb v2 n0) H ∧ va_at G.1 z_cl (v2, e_by G m2 b2) H ∧ mm ≤ m2 ∧ q ≤ m2 ∧ m2 ≤ 500 ∧ (∀ j, j < mm → b2 j = b j) ∧ (∀ j, j < m2 → fits .byte (.int (b2 j)) = true) ∧ (v2 = v ∨ (sz ≤ v2 ∧ v2 < H.size))) (fun x => x = a ∨ sz ≤ x) := by
  refine k_begin (by decide +kernel) (Nat.le_of_ble_eq_true rfl) [(0, .ref a), (1, .int (nI q))] rfl (fun p e s m args below meth c ls C hnm hsz hP hO hl => ?_)
  obtain ⟨h0, h1⟩ := hP
  have S : va_S (fun x => x = a ∨ sz ≤ x) s.heap s.heap [] := va_S.rf
  subst hsz
  have haL := h0.lt
  refine lv_aload_n C.1 C.2.1 dJ5_ensureCapacityInternal_d00df_0 rfl (lv_at hl 0 rfl) ?_
  refine u_get C h0 cf_14 0 (by decide) rfl tw_4_160 dJ5_ensureCapacityInternal_d00df_1 ?_
  refine u_alen C 6 rfl h1 (v := nI mm) rfl dJ5_ensureCapacityInternal_d00df_4 ?_
  refine lv_aload_n C.1 C.2.1 dJ5_ensureCapacityInternal_d00df_5 rfl (lv_at hl 0 rfl) ?_
  refine u_get C h0 cf_14 1 (by decide) rfl tw_4_161 dJ5_ensureCapacityInternal_d00df_6 ?_
  refine lv_ishr C.1 C.2.1 dJ5_ensureCapacityInternal_d00df_9 ?_
  rw [sb_shr0]
  refine lv_istore_n (lv' := [(2, .int (nI mm)), (0, .ref a), (1, .int (nI q))]) C.1 C.2.1 dJ5_ensureCapacityInternal_d00df_10 rfl hl (by decide) rfl (fun ls hl => ?_)
  refine lv_iload_n C.1 C.2.1 dJ5_ensureCapacityInternal_d00df_11 rfl (lv_at hl 2 rfl) ?_
  refine lv_iload_n C.1 C.2.1 dJ5_ensureCapacityInternal_d00df_12 rfl (lv_at hl 0 rfl) ?_
  refine lv_isub C.1 C.2.1 dJ5_ensureCapacityInternal_d00df_13 ?_
  have e1 : (nI q - nI mm).toInt = (q : Int) - mm := pk_sub_toInt (by omega) (by omega)
  refine lv_if_le (tgt := 38) C.1 C.2.1 dJ5_ensureCapacityInternal_d00df_14 (by decide) (fun c_ => ?_) (fun c_ => ?_)
  · have hle : q ≤ mm := by
      rw [Int32.le_iff_toInt_le, e1, Int32.toInt_zero] at c_
      omega
    exact k_vret C S ⟨v, mm, b, h0, h1, Nat.le_refl mm, hle, hm, fun _ _ => rfl, hb, Or.inl rfl⟩ (Nat.le_of_ble_eq_true rfl) (Nat.le_of_ble_eq_true rfl) dJ5_ensureCapacityInternal_d00df_38
  · have hlt : mm < q := by
      rw [Int32.le_iff_toInt_le, e1, Int32.toInt_zero] at c_
      omega
    have hcp : mm < t_cp mm q ∧ q ≤ t_cp mm q ∧ t_cp mm q ≤ 500 := by unfold t_cp; split <;> omega
    refine lv_aload_n C.1 C.2.1 dJ5_ensureCapacityInternal_d00df_17 rfl (lv_at hl 1 rfl) ?_
    refine lv_aload_n C.1 C.2.1 dJ5_ensureCapacityInternal_d00df_18 rfl (lv_at hl 1 rfl) ?_
    refine u_get C h0 cf_14 0 (by decide) rfl tw_4_160 dJ5_ensureCapacityInternal_d00df_19 ?_
    refine lv_aload_n C.1 C.2.1 dJ5_ensureCapacityInternal_d00df_22 rfl (lv_at hl 1 rfl) ?_
    refine lv_iload_n C.1 C.2.1 dJ5_ensureCapacityInternal_d00df_23 rfl (lv_at hl 2 rfl) ?_
    refine k_callVC C S hO (u_clsO C.2.2.2.2.2.1 h0 cf_14.1) [.int (nI q)] (k_newcap l G a v mm q n0 b hm hlt hq s.heap.size) rfl ⟨h0, h1⟩ kp_J5_newCapacity_0f7a4 (sel_J5_newCapacity_0f7a4 C) tw_4_189 ⟨(Nat.le_of_ble_eq_true rfl), (Nat.le_of_ble_eq_true rfl)⟩ rfl rfl (Nat.le_of_ble_eq_true rfl) hl.1 ⟨(Nat.le_of_ble_eq_true rfl), (Nat.le_of_ble_eq_true rfl)⟩ dJ5_ensureCapacityInternal_d00df_24 (fun _ h => h.elim) (fun H1 locs1 hz1 hle1 o1 S => ?_)
    have hO1 : z_O G H1 := hO.call hle1 o1 (fun _ _ h => h)
    replace h0 := va_at.kept h0 (o1 _ h0.lt id)
    replace h1 := va_at.kept h1 (o1 _ h1.lt id)
    refine lv_aload_n C.1 C.2.1 dJ5_ensureCapacityInternal_d00df_27 rfl (lv_at hl 1 rfl) ?_
    refine u_get C h0 cf_14 1 (by decide) rfl tw_4_161 dJ5_ensureCapacityInternal_d00df_28 ?_
    refine lv_ishl C.1 C.2.1 dJ5_ensureCapacityInternal_d00df_31 ?_
    rw [sb_shl0]
    refine k_callS C S hO1 [.ref v, .int (nI (t_cp mm q))] (k_copyofB l G v mm (t_cp mm q) b hcp.1 (by omega) hb s.heap.size) hz1 h1 kv_J7_copyOf_9075b tw_4_195 ⟨(Nat.le_of_ble_eq_true rfl), (Nat.le_of_ble_eq_true rfl)⟩ rfl rfl (Nat.le_of_ble_eq_true rfl) hl.1 ⟨(Nat.le_of_ble_eq_true rfl), by show 0 + 0 + t_cp mm q ≤ 500; omega⟩ dJ5_ensureCapacityInternal_d00df_32 (fun x h => Or.inr h) (fun H2 locs2 hp2 hle2 o2 S => ?_)
    obtain ⟨z2, g2⟩ := hp2
    replace h0 := va_at.kept h0 (o2 _ h0.lt (by omega))
    refine u_put C S h0 (Or.inl rfl) cf_14 0 (by decide) (Nat.le_of_ble_eq_true rfl) rfl rfl rfl tw_4_160 dJ5_ensureCapacityInternal_d00df_35 (fun H3 locs3 z3 o3 g0 S => ?_)
    refine k_vret C S ⟨s.heap.size, t_cp mm q, va_cpy b (fun _ => 0) 0 0 mm, g0, g2.kept (o3 _ (by omega)), Nat.le_of_lt hcp.1, hcp.2.1, hcp.2.2, fun j hj => ?_, va_cpy_fit (fun j hj => by rw [Nat.zero_add]; exact hb j hj) (fun _ _ => rfl), Or.inr ⟨Nat.le_refl _, by omega⟩⟩ (Nat.le_of_ble_eq_true rfl) (by show 0 + 0 + t_cp mm q ≤ 500; omega) dJ5_ensureCapacityInternal_d00df_38
    unfold va_cpy
    rw [if_pos ⟨Nat.zero_le j, by omega⟩, Nat.zero_add, Nat.sub_zero]
set_option maxHeartbeats 4000000 in
set_option maxRecDepth 100000 in
theorem k_infln (l : Launch) (G : Gx) (a v q w n : Nat) (n0 : Int32) (t : Nat → Int32) (sz : Nat) : k_M l yJ5_inflateIfNeededFor_a7421 cJ5_inflateIfNeededFor_a7421 2 none 1 20 0 0 G (fun H => va_at G.1 z_cl (a, e_sb v n0) H ∧ k_str G q w n t H) sz [.ref a, .ref q] none (fun H => H.size = sz) (fun q => False) := by
  refine k_begin (by decide +kernel) (Nat.le_of_ble_eq_true rfl) [(0, .ref a), (1, .ref q)] rfl (fun p e s m args below meth c ls C hnm hsz hP hO hl => ?_)
  obtain ⟨h0, h1⟩ := hP
  have S : va_S (fun q => False) s.heap s.heap [] := va_S.rf
  refine u_gets C hO C.2.2.2.2.2.1.2.2.2.2.2.2.2.1 tw_4_152 dJ5_inflateIfNeededFor_a7421_0 ?_
  refine lv_if_eq (tgt := 21) C.1 C.2.1 dJ5_inflateIfNeededFor_a7421_3 (by decide) (fun c_3 => absurd c_3 (by decide)) (fun c_3 => ?_)
  refine lv_aload_n C.1 C.2.1 dJ5_inflateIfNeededFor_a7421_6 rfl (lv_at hl 0 rfl) ?_
  refine u_get C h0 cf_14 1 (by decide) rfl tw_4_161 dJ5_inflateIfNeededFor_a7421_7 ?_
  refine lv_aload_n C.1 C.2.1 dJ5_inflateIfNeededFor_a7421_10 rfl (lv_at hl 1 rfl) ?_
  refine k_callV C S hO (u_strC C hO h1) [] (k_coderS l G q w n t sz) hsz h1 kv_J0_coder_7d493 tw_4_234 ⟨(Nat.le_of_ble_eq_true rfl), (Nat.le_of_ble_eq_true rfl)⟩ rfl rfl (Nat.le_of_ble_eq_true rfl) hl.1 ⟨(Nat.le_of_ble_eq_true rfl), (Nat.le_of_ble_eq_true rfl)⟩ dJ5_inflateIfNeededFor_a7421_11 (fun _ h => h.elim) (fun H1 locs1 hz1 hle1 o1 S => ?_)
  refine lv_icmp_eq (tgt := 21) C.1 C.2.1 dJ5_inflateIfNeededFor_a7421_14 (by decide) (fun c_ => ?_) (fun c_ => absurd rfl c_)
  exact k_vret C S hz1 (Nat.le_of_ble_eq_true rfl) (Nat.le_of_ble_eq_true rfl) dJ5_inflateIfNeededFor_a7421_21
set_option maxHeartbeats 4000000 in
set_option maxRecDepth 100000 in
theorem k_getby (l : Launch) (G : Gx) (q w n d mm k : Nat) (t b : Nat → Int32) (hk : k + n ≤ mm) (hm : mm ≤ 500) (ht : ∀ j, j < n → fits .byte (.int (t j)) = true) (sz : Nat) : k_M l yJ0_getBytes_840e7 cJ0_getBytes_840e7 4 none 1 26 0 0 G (fun H => k_str G q w n t H ∧ va_at G.1 z_cl (d, e_by G mm b) H) sz [.ref q, .ref d, .int (nI k), .int 0] none (fun H => H.size = sz ∧ va_at G.1 z_cl (d, e_by G mm (va_cpy t b 0 k n)) H) (fun x => x = d) := by
  refine k_begin (by decide +kernel) (Nat.le_of_ble_eq_true rfl) [(0, .ref q), (1, .ref d), (2, .int (nI k)), (3, .int 0)] rfl (fun p e s m args below meth c ls C hnm hsz hP hO hl => ?_)
  obtain ⟨h0, h1⟩ := hP
  have S : va_S (fun x => x = d) s.heap s.heap [] := va_S.rf
  refine lv_aload_n C.1 C.2.1 dJ0_getBytes_840e7_0 rfl (lv_at hl 0 rfl) ?_
  refine k_callV C S hO (u_strC C hO h0) [] (k_coderS l G q w n t sz) hsz h0 kv_J0_coder_7d493 tw_2_223 ⟨(Nat.le_of_ble_eq_true rfl), (Nat.le_of_ble_eq_true rfl)⟩ rfl rfl (Nat.le_of_ble_eq_true rfl) hl.1 ⟨(Nat.le_of_ble_eq_true rfl), (Nat.le_of_ble_eq_true rfl)⟩ dJ0_getBytes_840e7_1 (fun _ h => h.elim) (fun H1 locs1 hz1 hle1 o1 S => ?_)
  have hO1 : z_O G H1 := hO.call hle1 o1 (fun _ _ h => h)
  replace h0 := h0.kept (fun x hx => o1 x hx id)
  replace h1 := va_at.kept h1 (o1 _ h1.lt id)
  refine lv_iload_n C.1 C.2.1 dJ0_getBytes_840e7_4 rfl (lv_at hl 3 rfl) ?_
  refine lv_icmp_ne (tgt := 28) C.1 C.2.1 dJ0_getBytes_840e7_5 (by decide) (fun c_ => absurd rfl c_) (fun c_ => ?_)
  refine lv_aload_n C.1 C.2.1 dJ0_getBytes_840e7_8 rfl (lv_at hl 0 rfl) ?_
  refine u_strv C hO1 h0 tw_5_97 dJ0_getBytes_840e7_9 ?_
  refine lv_iconst (v := 0) C.1 C.2.1 dJ0_getBytes_840e7_12 (by decide) ?_
  refine lv_aload_n C.1 C.2.1 dJ0_getBytes_840e7_13 rfl (lv_at hl 1 rfl) ?_
  refine lv_iload_n C.1 C.2.1 dJ0_getBytes_840e7_14 rfl (lv_at hl 2 rfl) ?_
  refine lv_iload_n C.1 C.2.1 dJ0_getBytes_840e7_15 rfl (lv_at hl 3 rfl) ?_
  refine lv_ishl C.1 C.2.1 dJ0_getBytes_840e7_16 ?_
  rw [sb_shl0]
  refine lv_aload_n C.1 C.2.1 dJ0_getBytes_840e7_17 rfl (lv_at hl 0 rfl) ?_
  refine u_strv C hO1 h0 tw_5_97 dJ0_getBytes_840e7_18 ?_
  refine u_Tlen C (u_strT C hO1 h0) dJ0_getBytes_840e7_21 ?_
  refine u_copyB C S hl.1 (u_strT C hO1 h0) h1 rfl tw_5_18 (sp := 0) (dp := nI k) (n := nI n) (by decide) (nI_pos (by omega)) (nI_pos (by omega)) (by rw [nI_clamp (by omega)]; exact Nat.le_of_eq (Nat.zero_add n)) (by rw [nI_clamp (by omega), nI_clamp (by omega)]; exact hk) ht (Nat.le_of_ble_eq_true rfl) (Nat.le_of_ble_eq_true rfl) dJ0_getBytes_840e7_22 (fun H2 locs2 z2 o2 g2 S => ?_)
  rw [nI_clamp (show n < 2 ^ 31 by omega), nI_clamp (show k < 2 ^ 31 by omega)] at g2
  refine lv_goto (tgt := 43) C.1 C.2.1 dJ0_getBytes_840e7_25 (by decide) ?_
  exact k_vret C S ⟨by rw [z2, hz1], g2⟩ (Nat.le_of_ble_eq_true rfl) (Nat.le_of_ble_eq_true rfl) dJ0_getBytes_840e7_43
set_option maxHeartbeats 4000000 in
set_option maxRecDepth 100000 in
theorem k_putstr (l : Launch) (G : Gx) (a v mm k q w n : Nat) (n0 : Int32) (t b : Nat → Int32) (hk : k + n ≤ mm) (hm : mm ≤ 500) (ht : ∀ j, j < n → fits .byte (.int (t j)) = true) (sz : Nat) : k_M l yJ5_putStringAt_47b60 cJ5_putStringAt_47b60 3 none 2 49 0 0 G (fun H => va_at G.1 z_cl (a, e_sb v n0) H ∧ va_at G.1 z_cl (v, e_by G mm b) H ∧ k_str G q w n t H) sz [.ref a, .int (nI k), .ref q] none (fun H => H.size = sz ∧ va_at G.1 z_cl (v, e_by G mm (va_cpy t b 0 k n)) H) (fun x => x = v) := by
  refine k_begin (by decide +kernel) (Nat.le_of_ble_eq_true rfl) [(0, .ref a), (1, .int (nI k)), (2, .ref q)] rfl (fun p e s m args below meth c ls C hnm hsz hP hO hl => ?_)
  obtain ⟨h0, h1, h2⟩ := hP
  have S : va_S (fun x => x = v) s.heap s.heap [] := va_S.rf
  refine lv_aload_n C.1 C.2.1 dJ5_putStringAt_47b60_0 rfl (lv_at hl 0 rfl) ?_
  refine lv_aload_n C.1 C.2.1 dJ5_putStringAt_47b60_1 rfl (lv_at hl 2 rfl) ?_
  refine k_callVC C S hO (u_clsO C.2.2.2.2.2.1 h0 cf_14.1) [.ref q] (k_infln l G a v q w n n0 t sz) hsz ⟨h0, h2⟩ kp_J5_inflateIfNeededFor_a7421 (sel_J5_inflateIfNeededFor_a7421 C) tw_4_230 ⟨(Nat.le_of_ble_eq_true rfl), (Nat.le_of_ble_eq_true rfl)⟩ rfl rfl (Nat.le_of_ble_eq_true rfl) hl.1 ⟨(Nat.le_of_ble_eq_true rfl), (Nat.le_of_ble_eq_true rfl)⟩ dJ5_putStringAt_47b60_2 (fun _ h => h.elim) (fun H1 locs1 hz1 hle1 o1 S => ?_)
  have hO1 : z_O G H1 := hO.call hle1 o1 (fun _ _ h => h)
  replace h0 := va_at.kept h0 (o1 _ h0.lt id)
  replace h1 := va_at.kept h1 (o1 _ h1.lt id)
  replace h2 := h2.kept (fun x hx => o1 x hx id)
  refine lv_aload_n C.1 C.2.1 dJ5_putStringAt_47b60_5 rfl (lv_at hl 2 rfl) ?_
  refine lv_aload_n C.1 C.2.1 dJ5_putStringAt_47b60_6 rfl (lv_at hl 0 rfl) ?_
  refine u_get C h0 cf_14 0 (by decide) rfl tw_4_160 dJ5_putStringAt_47b60_7 ?_
  refine lv_iload_n C.1 C.2.1 dJ5_putStringAt_47b60_10 rfl (lv_at hl 1 rfl) ?_
  refine lv_aload_n C.1 C.2.1 dJ5_putStringAt_47b60_11 rfl (lv_at hl 0 rfl) ?_
  refine u_get C h0 cf_14 1 (by decide) rfl tw_4_161 dJ5_putStringAt_47b60_12 ?_
  refine k_callV C S hO1 (u_strC C hO1 h2) [.ref v, .int (nI k), .int 0] (k_getby l G q w n v mm k t b hk hm ht sz) hz1 ⟨h2, h1⟩ kv_J0_getBytes_840e7 tw_5_14 ⟨(Nat.le_of_ble_eq_true rfl), (Nat.le_of_ble_eq_true rfl)⟩ rfl rfl (Nat.le_of_ble_eq_true rfl) hl.1 ⟨(Nat.le_of_ble_eq_true rfl), (Nat.le_of_ble_eq_true rfl)⟩ dJ5_putStringAt_47b60_15 (fun _ h => h) (fun H2 locs2 hp2 hle2 o2 S => ?_)
  exact k_vret C S hp2 (Nat.le_of_ble_eq_true rfl) (Nat.le_of_ble_eq_true rfl) dJ5_putStringAt_47b60_18
set_option maxHeartbeats 4000000 in
set_option maxRecDepth 100000 in
theorem k_appS5 (l : Launch) (G : Gx) (a v n q w n1 : Nat) (t t1 : Nat → Int32) (hn : n + n1 ≤ 240) (hGa : G.2.2.1.size ≤ a) (hav : a ≠ v) (hqa : q ≠ a ∧ w ≠ a ∧ q ≠ v ∧ w ≠ v) (ht : ∀ j, j < n1 → fits .byte (.int (t1 j)) = true) (sz : Nat) : k_M l yJ5_append_cf1ce cJ5_append_cf1ce 3 (Option.some (FieldType.object "java/lang/AbstractStringBuilder")) 4 91 1 500 G (fun H => k_sb G a v n t H ∧ k_str G q w n1 t1 H) sz [.ref a, .ref q] (some (.ref a)) (fun H => ∃ v2 : Nat, k_sb G a v2 (n + n1) (t_cat t n t1) H ∧ (v2 = v ∨ (sz ≤ v2 ∧ v2 < H.size))) (fun x => x = a ∨ x = v ∨ sz ≤ x) := by
  refine k_begin (by decide +kernel) (Nat.le_of_ble_eq_true rfl) [(0, .ref a), (1, .ref q)] rfl (fun p e s m args below meth c ls C hnm hsz hP hO hl => ?_)
  obtain ⟨hP0, h2⟩ := hP
  have S : va_S (fun x => x = a ∨ x = v ∨ sz ≤ x) s.heap s.heap [] := va_S.rf
  subst hsz
  obtain ⟨h0, mm, b, h1, hnm, hm, hbt, hbf⟩ := hP0
  have haL := h0.lt
  have hvL := h1.lt
  have hqL := h2.lt hO C
  refine lv_aload_n C.1 C.2.1 dJ5_append_cf1ce_0 rfl (lv_at hl 1 rfl) ?_
  refine lv_ifnonnull (tgt := 9) C.1 C.2.1 dJ5_append_cf1ce_1 (by decide) ?_
  refine lv_aload_n C.1 C.2.1 dJ5_append_cf1ce_9 rfl (lv_at hl 1 rfl) ?_
  refine k_callV C S hO (u_strC C hO h2) [] (k_lenS l G q w n1 t1 s.heap.size) rfl h2 kv_J0_length_8abf5 tw_4_225 ⟨(Nat.le_of_ble_eq_true rfl), (Nat.le_of_ble_eq_true rfl)⟩ rfl rfl (Nat.le_of_ble_eq_true rfl) hl.1 ⟨(Nat.le_of_ble_eq_true rfl), (Nat.le_of_ble_eq_true rfl)⟩ dJ5_append_cf1ce_10 (fun _ h => h.elim) (fun H1 locs1 hz1 hle1 o1 S => ?_)
  have hO1 : z_O G H1 := hO.call hle1 o1 (fun _ _ h => h)
  replace h0 := va_at.kept h0 (o1 _ h0.lt id)
  replace h1 := va_at.kept h1 (o1 _ h1.lt id)
  replace h2 := h2.kept (fun x hx => o1 x hx id)
  refine lv_istore_n (lv' := [(2, .int (nI n1)), (0, .ref a), (1, .ref q)]) C.1 C.2.1 dJ5_append_cf1ce_13 rfl hl (by decide) rfl (fun ls hl => ?_)
  refine lv_aload_n C.1 C.2.1 dJ5_append_cf1ce_14 rfl (lv_at hl 1 rfl) ?_
  refine lv_aload_n C.1 C.2.1 dJ5_append_cf1ce_15 rfl (lv_at hl 1 rfl) ?_
  refine u_get C h0 cf_14 3 (by decide) rfl tw_4_163 dJ5_append_cf1ce_16 ?_
  refine lv_iload_n C.1 C.2.1 dJ5_append_cf1ce_19 rfl (lv_at hl 0 rfl) ?_
  refine lv_iadd C.1 C.2.1 dJ5_append_cf1ce_20 ?_
  rw [show nI n + nI n1 = nI (n + n1) from (Int32.ofNat_add n n1).symm]
  refine k_callVC C S hO1 (u_clsO C.2.2.2.2.2.1 h0 cf_14.1) [.int (nI (n + n1))] (k_ensure l G a v mm (n + n1) (nI n) b hm hn hGa hav hbf s.heap.size) hz1 ⟨h0, h1⟩ kp_J5_ensureCapacityInternal_d00df (sel_J5_ensureCapacityInternal_d00df C) tw_4_185 ⟨(Nat.le_of_ble_eq_true rfl), (Nat.le_of_ble_eq_true rfl)⟩ rfl rfl (Nat.le_of_ble_eq_true rfl) hl.1 ⟨(Nat.le_of_ble_eq_true rfl), (Nat.le_of_ble_eq_true rfl)⟩ dJ5_append_cf1ce_21 (fun x h => h.elim Or.inl (fun h => Or.inr (Or.inr h))) (fun H2 locs2 hp2 hle2 o2 S => ?_)
  obtain ⟨v2, m2, b2, g0, g1, e1, e2, e3, e4, e5, e6⟩ := hp2
  have hO2 : z_O G H2 := hO1.call hle2 o2 (fun x hx h => by have := hO.1; rcases h with h | h <;> omega)
  replace h2 := h2.kept' (o2 _ (by omega) (by rintro (h | h); exact hqa.1 h; omega)) (o2 _ (by omega) (by rintro (h | h); exact hqa.2.1 h; omega))
  have hv2 : v2 ≠ a := by rcases e6 with h | h <;> omega
  have hv2A : v2 = v ∨ s.heap.size ≤ v2 := e6.imp id And.left
  refine lv_aload_n C.1 C.2.1 dJ5_append_cf1ce_24 rfl (lv_at hl 1 rfl) ?_
  refine lv_aload_n C.1 C.2.1 dJ5_append_cf1ce_25 rfl (lv_at hl 1 rfl) ?_
  refine u_get C g0 cf_14 3 (by decide) rfl tw_4_163 dJ5_append_cf1ce_26 ?_
  refine lv_aload_n C.1 C.2.1 dJ5_append_cf1ce_29 rfl (lv_at hl 2 rfl) ?_
  refine k_callVC C S hO2 (u_clsO C.2.2.2.2.2.1 g0 cf_14.1) [.int (nI n), .ref q] (k_putstr l G a v2 m2 n q w n1 (nI n) t1 b2 e2 e3 ht H2.size) rfl ⟨g0, g1, h2⟩ kp_J5_putStringAt_47b60 (sel_J5_putStringAt_47b60 C) tw_4_226 ⟨(Nat.le_of_ble_eq_true rfl), (Nat.le_of_ble_eq_true rfl)⟩ rfl rfl (Nat.le_of_ble_eq_true rfl) hl.1 ⟨(Nat.le_of_ble_eq_true rfl), (Nat.le_of_ble_eq_true rfl)⟩ dJ5_append_cf1ce_30 (fun x h => Or.inr (by rw [h]; exact hv2A)) (fun H3 locs3 hp3 hle3 o3 S => ?_)
  obtain ⟨z3, g1⟩ := hp3
  replace g0 := va_at.kept g0 (o3 _ g0.lt (Ne.symm hv2))
  refine lv_aload_n C.1 C.2.1 dJ5_append_cf1ce_33 rfl (lv_at hl 1 rfl) ?_
  refine lv_dup C.1 C.2.1 dJ5_append_cf1ce_34 rfl ?_
  refine u_get C g0 cf_14 3 (by decide) rfl tw_4_163 dJ5_append_cf1ce_35 ?_
  refine lv_iload_n C.1 C.2.1 dJ5_append_cf1ce_38 rfl (lv_at hl 0 rfl) ?_
  refine lv_iadd C.1 C.2.1 dJ5_append_cf1ce_39 ?_
  rw [show nI n + nI n1 = nI (n + n1) from (Int32.ofNat_add n n1).symm]
  refine u_put C S g0 (Or.inl rfl) cf_14 3 (by decide) (Nat.le_of_ble_eq_true rfl) rfl rfl rfl tw_4_163 dJ5_append_cf1ce_40 (fun H4 locs4 z4 o4 g0 S => ?_)
  replace g1 := va_at.kept g1 (o4 _ hv2)
  refine lv_aload_n C.1 C.2.1 dJ5_append_cf1ce_43 rfl (lv_at hl 1 rfl) ?_
  refine k_aret C S (Or.inl ⟨_, rfl⟩) (Or.inr ⟨_, rfl⟩) ⟨v2, ⟨g0, m2, _, g1, e2, e3, fun j hj => ?_, va_cpy_fit (fun j hj => by rw [Nat.zero_add]; exact ht j hj) e5⟩, e6.imp id (fun h => ⟨h.1, by omega⟩)⟩ (Nat.le_of_ble_eq_true rfl) (Nat.le_of_ble_eq_true rfl) dJ5_append_cf1ce_44
  unfold va_cpy t_cat
  by_cases c1 : j < n
  · rw [if_neg (by omega), if_pos c1, e4 j (by omega), hbt j c1]
  · rw [if_pos ⟨by omega, hj⟩, if_neg c1, Nat.zero_add]
set_option maxHeartbeats 4000000 in
set_option maxRecDepth 100000 in
theorem k_appS (l : Launch) (G : Gx) (a v n q w n1 : Nat) (t t1 : Nat → Int32) (hn : n + n1 ≤ 240) (hGa : G.2.2.1.size ≤ a) (hav : a ≠ v) (hqa : q ≠ a ∧ w ≠ a ∧ q ≠ v ∧ w ≠ v) (ht : ∀ j, j < n1 → fits .byte (.int (t1 j)) = true) (sz : Nat) : k_M l yJ4_append_15ec4 cJ4_append_15ec4 2 (Option.some (FieldType.object "java/lang/StringBuilder")) 5 113 1 500 G (fun H => k_sb G a v n t H ∧ k_str G q w n1 t1 H) sz [.ref a, .ref q] (some (.ref a)) (fun H => ∃ v2 : Nat, k_sb G a v2 (n + n1) (t_cat t n t1) H ∧ (v2 = v ∨ (sz ≤ v2 ∧ v2 < H.size))) (fun x => x = a ∨ x = v ∨ sz ≤ x) := by
  refine k_begin (by decide +kernel) (Nat.le_of_ble_eq_true rfl) [(0, .ref a), (1, .ref q)] rfl (fun p e s m args below meth c ls C hnm hsz hP hO hl => ?_)
  have S : va_S (fun x => x = a ∨ x = v ∨ sz ≤ x) s.heap s.heap [] := va_S.rf
  refine lv_aload_n C.1 C.2.1 dJ4_append_15ec4_0 rfl (lv_at hl 0 rfl) ?_
  refine lv_aload_n C.1 C.2.1 dJ4_append_15ec4_1 rfl (lv_at hl 1 rfl) ?_
  refine k_callSU C S hO (u_clsO C.2.2.2.2.2.1 hP.1.1 cf_14.1) (ci := 14) rfl [.ref q] (k_appS5 l G a v n q w n1 t t1 hn hGa hav hqa ht sz) hsz hP kp_J5_append_cf1ce (by decide) tw_7_187 tw_4_172 tw_4_178 ⟨(Nat.le_of_ble_eq_true rfl), (Nat.le_of_ble_eq_true rfl)⟩ rfl rfl (Nat.le_of_ble_eq_true rfl) hl.1 ⟨(Nat.le_of_ble_eq_true rfl), (Nat.le_of_ble_eq_true rfl)⟩ dJ4_append_15ec4_2 (fun x h => h) (fun H1 locs1 hp1 hle1 o1 S => ?_)
  refine lv_pop C.1 C.2.1 dJ4_append_15ec4_5 rfl ?_
  refine lv_aload_n C.1 C.2.1 dJ4_append_15ec4_6 rfl (lv_at hl 0 rfl) ?_
  exact k_aret C S (Or.inl ⟨_, rfl⟩) (Or.inr ⟨_, rfl⟩) hp1 (Nat.le_of_ble_eq_true rfl) (Nat.le_of_ble_eq_true rfl) dJ4_append_15ec4_7
