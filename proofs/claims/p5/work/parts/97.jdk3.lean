theorem dJ0_coder_7d493_0 : decode cJ0_coder_7d493 0 = .ok (.getstatic 38, 3) := by decide +kernel
theorem dJ0_coder_7d493_3 : decode cJ0_coder_7d493 3 = .ok (.ifCond .eq 10, 3) := by decide +kernel
theorem dJ0_coder_7d493_6 : decode cJ0_coder_7d493 6 = .ok (.aload_n 0, 1) := by decide +kernel
theorem dJ0_coder_7d493_7 : decode cJ0_coder_7d493 7 = .ok (.getfield 15, 3) := by decide +kernel
theorem dJ0_coder_7d493_10 : decode cJ0_coder_7d493 10 = .ok (.goto 4, 3) := by decide +kernel
theorem dJ0_coder_7d493_13 : decode cJ0_coder_7d493 13 = .ok (.iconst 1, 1) := by decide +kernel
theorem dJ0_coder_7d493_14 : decode cJ0_coder_7d493 14 = .ok (.ireturn, 1) := by decide +kernel
theorem dJ0_length_8abf5_0 : decode cJ0_length_8abf5 0 = .ok (.aload_n 0, 1) := by decide +kernel
theorem dJ0_length_8abf5_1 : decode cJ0_length_8abf5 1 = .ok (.getfield 9, 3) := by decide +kernel
theorem dJ0_length_8abf5_4 : decode cJ0_length_8abf5 4 = .ok (.arraylength, 1) := by decide +kernel
theorem dJ0_length_8abf5_5 : decode cJ0_length_8abf5 5 = .ok (.aload_n 0, 1) := by decide +kernel
theorem dJ0_length_8abf5_6 : decode cJ0_length_8abf5 6 = .ok (.invokevirtual 335, 3) := by decide +kernel
theorem dJ0_length_8abf5_9 : decode cJ0_length_8abf5 9 = .ok (.ishr, 1) := by decide +kernel
theorem dJ0_length_8abf5_10 : decode cJ0_length_8abf5 10 = .ok (.ireturn, 1) := by decide +kernel
theorem dJ5_inflateIfNeededFor_a7421_0 : decode cJ5_inflateIfNeededFor_a7421 0 = .ok (.getstatic 18, 3) := by decide +kernel
theorem dJ5_inflateIfNeededFor_a7421_3 : decode cJ5_inflateIfNeededFor_a7421 3 = .ok (.ifCond .eq 18, 3) := by decide +kernel
theorem dJ5_inflateIfNeededFor_a7421_6 : decode cJ5_inflateIfNeededFor_a7421 6 = .ok (.aload_n 0, 1) := by decide +kernel
theorem dJ5_inflateIfNeededFor_a7421_7 : decode cJ5_inflateIfNeededFor_a7421 7 = .ok (.getfield 22, 3) := by decide +kernel
theorem dJ5_inflateIfNeededFor_a7421_10 : decode cJ5_inflateIfNeededFor_a7421 10 = .ok (.aload_n 1, 1) := by decide +kernel
theorem dJ5_inflateIfNeededFor_a7421_11 : decode cJ5_inflateIfNeededFor_a7421 11 = .ok (.invokevirtual 40, 3) := by decide +kernel
theorem dJ5_inflateIfNeededFor_a7421_14 : decode cJ5_inflateIfNeededFor_a7421 14 = .ok (.if_icmp .eq 7, 3) := by decide +kernel
theorem dJ5_inflateIfNeededFor_a7421_17 : decode cJ5_inflateIfNeededFor_a7421 17 = .ok (.aload_n 0, 1) := by decide +kernel
theorem dJ5_inflateIfNeededFor_a7421_18 : decode cJ5_inflateIfNeededFor_a7421 18 = .ok (.invokevirtual 195, 3) := by decide +kernel
theorem dJ5_inflateIfNeededFor_a7421_21 : decode cJ5_inflateIfNeededFor_a7421 21 = .ok (.return_, 1) := by decide +kernel
theorem dJ0_getBytes_840e7_0 : decode cJ0_getBytes_840e7 0 = .ok (.aload_n 0, 1) := by decide +kernel
theorem dJ0_getBytes_840e7_1 : decode cJ0_getBytes_840e7 1 = .ok (.invokevirtual 335, 3) := by decide +kernel
theorem dJ0_getBytes_840e7_4 : decode cJ0_getBytes_840e7 4 = .ok (.iload_n 3, 1) := by decide +kernel
theorem dJ0_getBytes_840e7_5 : decode cJ0_getBytes_840e7 5 = .ok (.if_icmp .ne 23, 3) := by decide +kernel
theorem dJ0_getBytes_840e7_8 : decode cJ0_getBytes_840e7 8 = .ok (.aload_n 0, 1) := by decide +kernel
theorem dJ0_getBytes_840e7_9 : decode cJ0_getBytes_840e7 9 = .ok (.getfield 9, 3) := by decide +kernel
theorem dJ0_getBytes_840e7_12 : decode cJ0_getBytes_840e7 12 = .ok (.iconst 0, 1) := by decide +kernel
theorem dJ0_getBytes_840e7_13 : decode cJ0_getBytes_840e7 13 = .ok (.aload_n 1, 1) := by decide +kernel
theorem dJ0_getBytes_840e7_14 : decode cJ0_getBytes_840e7 14 = .ok (.iload_n 2, 1) := by decide +kernel
theorem dJ0_getBytes_840e7_15 : decode cJ0_getBytes_840e7 15 = .ok (.iload_n 3, 1) := by decide +kernel
theorem dJ0_getBytes_840e7_16 : decode cJ0_getBytes_840e7 16 = .ok (.ishl, 1) := by decide +kernel
theorem dJ0_getBytes_840e7_17 : decode cJ0_getBytes_840e7 17 = .ok (.aload_n 0, 1) := by decide +kernel
theorem dJ0_getBytes_840e7_18 : decode cJ0_getBytes_840e7 18 = .ok (.getfield 9, 3) := by decide +kernel
theorem dJ0_getBytes_840e7_21 : decode cJ0_getBytes_840e7 21 = .ok (.arraylength, 1) := by decide +kernel
theorem dJ0_getBytes_840e7_22 : decode cJ0_getBytes_840e7 22 = .ok (.invokestatic 212, 3) := by decide +kernel
theorem dJ0_getBytes_840e7_25 : decode cJ0_getBytes_840e7 25 = .ok (.goto 18, 3) := by decide +kernel
theorem dJ0_getBytes_840e7_28 : decode cJ0_getBytes_840e7 28 = .ok (.aload_n 0, 1) := by decide +kernel
theorem dJ0_getBytes_840e7_29 : decode cJ0_getBytes_840e7 29 = .ok (.getfield 9, 3) := by decide +kernel
theorem dJ0_getBytes_840e7_32 : decode cJ0_getBytes_840e7 32 = .ok (.iconst 0, 1) := by decide +kernel
theorem dJ0_getBytes_840e7_33 : decode cJ0_getBytes_840e7 33 = .ok (.aload_n 1, 1) := by decide +kernel
theorem dJ0_getBytes_840e7_34 : decode cJ0_getBytes_840e7 34 = .ok (.iload_n 2, 1) := by decide +kernel
theorem dJ0_getBytes_840e7_35 : decode cJ0_getBytes_840e7 35 = .ok (.aload_n 0, 1) := by decide +kernel
theorem dJ0_getBytes_840e7_36 : decode cJ0_getBytes_840e7 36 = .ok (.getfield 9, 3) := by decide +kernel
theorem dJ0_getBytes_840e7_39 : decode cJ0_getBytes_840e7 39 = .ok (.arraylength, 1) := by decide +kernel
theorem dJ0_getBytes_840e7_40 : decode cJ0_getBytes_840e7 40 = .ok (.invokestatic 106, 3) := by decide +kernel
theorem dJ0_getBytes_840e7_43 : decode cJ0_getBytes_840e7 43 = .ok (.return_, 1) := by decide +kernel
theorem dJ5_putStringAt_47b60_0 : decode cJ5_putStringAt_47b60 0 = .ok (.aload_n 0, 1) := by decide +kernel
theorem dJ5_putStringAt_47b60_1 : decode cJ5_putStringAt_47b60 1 = .ok (.aload_n 2, 1) := by decide +kernel
theorem dJ5_putStringAt_47b60_2 : decode cJ5_putStringAt_47b60 2 = .ok (.invokevirtual 397, 3) := by decide +kernel
theorem dJ5_putStringAt_47b60_5 : decode cJ5_putStringAt_47b60 5 = .ok (.aload_n 2, 1) := by decide +kernel
theorem dJ5_putStringAt_47b60_6 : decode cJ5_putStringAt_47b60 6 = .ok (.aload_n 0, 1) := by decide +kernel
theorem dJ5_putStringAt_47b60_7 : decode cJ5_putStringAt_47b60 7 = .ok (.getfield 15, 3) := by decide +kernel
theorem dJ5_putStringAt_47b60_10 : decode cJ5_putStringAt_47b60 10 = .ok (.iload_n 1, 1) := by decide +kernel
theorem dJ5_putStringAt_47b60_11 : decode cJ5_putStringAt_47b60 11 = .ok (.aload_n 0, 1) := by decide +kernel
theorem dJ5_putStringAt_47b60_12 : decode cJ5_putStringAt_47b60 12 = .ok (.getfield 22, 3) := by decide +kernel
theorem dJ5_putStringAt_47b60_15 : decode cJ5_putStringAt_47b60 15 = .ok (.invokevirtual 399, 3) := by decide +kernel
theorem dJ5_putStringAt_47b60_18 : decode cJ5_putStringAt_47b60 18 = .ok (.return_, 1) := by decide +kernel
theorem dJ5_append_cf1ce_0 : decode cJ5_append_cf1ce 0 = .ok (.aload_n 1, 1) := by decide +kernel
theorem dJ5_append_cf1ce_1 : decode cJ5_append_cf1ce 1 = .ok (.ifnonnull 8, 3) := by decide +kernel
theorem dJ5_append_cf1ce_4 : decode cJ5_append_cf1ce 4 = .ok (.aload_n 0, 1) := by decide +kernel
theorem dJ5_append_cf1ce_5 : decode cJ5_append_cf1ce 5 = .ok (.invokevirtual 204, 3) := by decide +kernel
theorem dJ5_append_cf1ce_8 : decode cJ5_append_cf1ce 8 = .ok (.areturn, 1) := by decide +kernel
theorem dJ5_append_cf1ce_9 : decode cJ5_append_cf1ce 9 = .ok (.aload_n 1, 1) := by decide +kernel
theorem dJ5_append_cf1ce_10 : decode cJ5_append_cf1ce 10 = .ok (.invokevirtual 32, 3) := by decide +kernel
theorem dJ5_append_cf1ce_13 : decode cJ5_append_cf1ce 13 = .ok (.istore_n 2, 1) := by decide +kernel
theorem dJ5_append_cf1ce_14 : decode cJ5_append_cf1ce 14 = .ok (.aload_n 0, 1) := by decide +kernel
theorem dJ5_append_cf1ce_15 : decode cJ5_append_cf1ce 15 = .ok (.aload_n 0, 1) := by decide +kernel
theorem dJ5_append_cf1ce_16 : decode cJ5_append_cf1ce 16 = .ok (.getfield 79, 3) := by decide +kernel
theorem dJ5_append_cf1ce_19 : decode cJ5_append_cf1ce 19 = .ok (.iload_n 2, 1) := by decide +kernel
theorem dJ5_append_cf1ce_20 : decode cJ5_append_cf1ce 20 = .ok (.iadd, 1) := by decide +kernel
theorem dJ5_append_cf1ce_21 : decode cJ5_append_cf1ce 21 = .ok (.invokevirtual 100, 3) := by decide +kernel
theorem dJ5_append_cf1ce_24 : decode cJ5_append_cf1ce 24 = .ok (.aload_n 0, 1) := by decide +kernel
theorem dJ5_append_cf1ce_25 : decode cJ5_append_cf1ce 25 = .ok (.aload_n 0, 1) := by decide +kernel
theorem dJ5_append_cf1ce_26 : decode cJ5_append_cf1ce 26 = .ok (.getfield 79, 3) := by decide +kernel
theorem dJ5_append_cf1ce_29 : decode cJ5_append_cf1ce 29 = .ok (.aload_n 1, 1) := by decide +kernel
theorem dJ5_append_cf1ce_30 : decode cJ5_append_cf1ce 30 = .ok (.invokevirtual 208, 3) := by decide +kernel
theorem dJ5_append_cf1ce_33 : decode cJ5_append_cf1ce 33 = .ok (.aload_n 0, 1) := by decide +kernel
theorem dJ5_append_cf1ce_34 : decode cJ5_append_cf1ce 34 = .ok (.dup, 1) := by decide +kernel
theorem dJ5_append_cf1ce_35 : decode cJ5_append_cf1ce 35 = .ok (.getfield 79, 3) := by decide +kernel
theorem dJ5_append_cf1ce_38 : decode cJ5_append_cf1ce 38 = .ok (.iload_n 2, 1) := by decide +kernel
theorem dJ5_append_cf1ce_39 : decode cJ5_append_cf1ce 39 = .ok (.iadd, 1) := by decide +kernel
theorem dJ5_append_cf1ce_40 : decode cJ5_append_cf1ce 40 = .ok (.putfield 79, 3) := by decide +kernel
theorem dJ5_append_cf1ce_43 : decode cJ5_append_cf1ce 43 = .ok (.aload_n 0, 1) := by decide +kernel
theorem dJ5_append_cf1ce_44 : decode cJ5_append_cf1ce 44 = .ok (.areturn, 1) := by decide +kernel
theorem dJ4_append_15ec4_0 : decode cJ4_append_15ec4 0 = .ok (.aload_n 0, 1) := by decide +kernel
theorem dJ4_append_15ec4_1 : decode cJ4_append_15ec4 1 = .ok (.aload_n 1, 1) := by decide +kernel
theorem dJ4_append_15ec4_2 : decode cJ4_append_15ec4 2 = .ok (.invokespecial 29, 3) := by decide +kernel
theorem dJ4_append_15ec4_5 : decode cJ4_append_15ec4 5 = .ok (.pop, 1) := by decide +kernel
theorem dJ4_append_15ec4_6 : decode cJ4_append_15ec4 6 = .ok (.aload_n 0, 1) := by decide +kernel
theorem dJ4_append_15ec4_7 : decode cJ4_append_15ec4 7 = .ok (.areturn, 1) := by decide +kernel
theorem dJ5_reverse_278bc_0 : decode cJ5_reverse_278bc 0 = .ok (.aload_n 0, 1) := by decide +kernel
theorem dJ5_reverse_278bc_1 : decode cJ5_reverse_278bc 1 = .ok (.getfield 15, 3) := by decide +kernel
theorem dJ5_reverse_278bc_4 : decode cJ5_reverse_278bc 4 = .ok (.astore_n 1, 1) := by decide +kernel
theorem dJ5_reverse_278bc_5 : decode cJ5_reverse_278bc 5 = .ok (.aload_n 0, 1) := by decide +kernel
theorem dJ5_reverse_278bc_6 : decode cJ5_reverse_278bc 6 = .ok (.getfield 79, 3) := by decide +kernel
theorem dJ5_reverse_278bc_9 : decode cJ5_reverse_278bc 9 = .ok (.istore_n 2, 1) := by decide +kernel
theorem dJ5_reverse_278bc_10 : decode cJ5_reverse_278bc 10 = .ok (.iload_n 2, 1) := by decide +kernel
theorem dJ5_reverse_278bc_11 : decode cJ5_reverse_278bc 11 = .ok (.iconst 1, 1) := by decide +kernel
theorem dJ5_reverse_278bc_12 : decode cJ5_reverse_278bc 12 = .ok (.isub, 1) := by decide +kernel
theorem dJ5_reverse_278bc_13 : decode cJ5_reverse_278bc 13 = .ok (.istore_n 3, 1) := by decide +kernel
theorem dJ5_reverse_278bc_14 : decode cJ5_reverse_278bc 14 = .ok (.aload_n 0, 1) := by decide +kernel
theorem dJ5_reverse_278bc_15 : decode cJ5_reverse_278bc 15 = .ok (.invokevirtual 83, 3) := by decide +kernel
theorem dJ5_reverse_278bc_18 : decode cJ5_reverse_278bc 18 = .ok (.ifCond .eq 50, 3) := by decide +kernel
theorem dJ5_reverse_278bc_21 : decode cJ5_reverse_278bc 21 = .ok (.iload_n 3, 1) := by decide +kernel
theorem dJ5_reverse_278bc_22 : decode cJ5_reverse_278bc 22 = .ok (.iconst 1, 1) := by decide +kernel
theorem dJ5_reverse_278bc_23 : decode cJ5_reverse_278bc 23 = .ok (.isub, 1) := by decide +kernel
theorem dJ5_reverse_278bc_24 : decode cJ5_reverse_278bc 24 = .ok (.iconst 1, 1) := by decide +kernel
theorem dJ5_reverse_278bc_25 : decode cJ5_reverse_278bc 25 = .ok (.ishr, 1) := by decide +kernel
theorem dJ5_reverse_278bc_26 : decode cJ5_reverse_278bc 26 = .ok (.istore 4, 2) := by decide +kernel
theorem dJ5_reverse_278bc_28 : decode cJ5_reverse_278bc 28 = .ok (.iload 4, 2) := by decide +kernel
theorem dJ5_reverse_278bc_30 : decode cJ5_reverse_278bc 30 = .ok (.ifCond .lt 35, 3) := by decide +kernel
theorem dJ5_reverse_278bc_33 : decode cJ5_reverse_278bc 33 = .ok (.iload_n 3, 1) := by decide +kernel
theorem dJ5_reverse_278bc_34 : decode cJ5_reverse_278bc 34 = .ok (.iload 4, 2) := by decide +kernel
theorem dJ5_reverse_278bc_36 : decode cJ5_reverse_278bc 36 = .ok (.isub, 1) := by decide +kernel
theorem dJ5_reverse_278bc_37 : decode cJ5_reverse_278bc 37 = .ok (.istore 5, 2) := by decide +kernel
theorem dJ5_reverse_278bc_39 : decode cJ5_reverse_278bc 39 = .ok (.aload_n 1, 1) := by decide +kernel
theorem dJ5_reverse_278bc_40 : decode cJ5_reverse_278bc 40 = .ok (.iload 4, 2) := by decide +kernel
theorem dJ5_reverse_278bc_42 : decode cJ5_reverse_278bc 42 = .ok (.baload, 1) := by decide +kernel
theorem dJ5_reverse_278bc_43 : decode cJ5_reverse_278bc 43 = .ok (.istore 6, 2) := by decide +kernel
theorem dJ5_reverse_278bc_45 : decode cJ5_reverse_278bc 45 = .ok (.aload_n 1, 1) := by decide +kernel
theorem dJ5_reverse_278bc_46 : decode cJ5_reverse_278bc 46 = .ok (.iload 4, 2) := by decide +kernel
theorem dJ5_reverse_278bc_48 : decode cJ5_reverse_278bc 48 = .ok (.aload_n 1, 1) := by decide +kernel
theorem dJ5_reverse_278bc_49 : decode cJ5_reverse_278bc 49 = .ok (.iload 5, 2) := by decide +kernel
theorem dJ5_reverse_278bc_51 : decode cJ5_reverse_278bc 51 = .ok (.baload, 1) := by decide +kernel
theorem dJ5_reverse_278bc_52 : decode cJ5_reverse_278bc 52 = .ok (.bastore, 1) := by decide +kernel
theorem dJ5_reverse_278bc_53 : decode cJ5_reverse_278bc 53 = .ok (.aload_n 1, 1) := by decide +kernel
theorem dJ5_reverse_278bc_54 : decode cJ5_reverse_278bc 54 = .ok (.iload 5, 2) := by decide +kernel
theorem dJ5_reverse_278bc_56 : decode cJ5_reverse_278bc 56 = .ok (.iload 6, 2) := by decide +kernel
theorem dJ5_reverse_278bc_58 : decode cJ5_reverse_278bc 58 = .ok (.bastore, 1) := by decide +kernel
theorem dJ5_reverse_278bc_59 : decode cJ5_reverse_278bc 59 = .ok (.iinc 4 (-1), 3) := by decide +kernel
theorem dJ5_reverse_278bc_62 : decode cJ5_reverse_278bc 62 = .ok (.goto (-34), 3) := by decide +kernel
theorem dJ5_reverse_278bc_65 : decode cJ5_reverse_278bc 65 = .ok (.goto 8, 3) := by decide +kernel
theorem dJ5_reverse_278bc_68 : decode cJ5_reverse_278bc 68 = .ok (.aload_n 1, 1) := by decide +kernel
theorem dJ5_reverse_278bc_69 : decode cJ5_reverse_278bc 69 = .ok (.iload_n 2, 1) := by decide +kernel
theorem dJ5_reverse_278bc_70 : decode cJ5_reverse_278bc 70 = .ok (.invokestatic 358, 3) := by decide +kernel
theorem dJ5_reverse_278bc_73 : decode cJ5_reverse_278bc 73 = .ok (.aload_n 0, 1) := by decide +kernel
theorem dJ5_reverse_278bc_74 : decode cJ5_reverse_278bc 74 = .ok (.areturn, 1) := by decide +kernel
theorem dJ4_reverse_43fcb_0 : decode cJ4_reverse_43fcb 0 = .ok (.aload_n 0, 1) := by decide +kernel
theorem dJ4_reverse_43fcb_1 : decode cJ4_reverse_43fcb 1 = .ok (.invokespecial 127, 3) := by decide +kernel
theorem dJ4_reverse_43fcb_4 : decode cJ4_reverse_43fcb 4 = .ok (.pop, 1) := by decide +kernel
theorem dJ4_reverse_43fcb_5 : decode cJ4_reverse_43fcb 5 = .ok (.aload_n 0, 1) := by decide +kernel
theorem dJ4_reverse_43fcb_6 : decode cJ4_reverse_43fcb 6 = .ok (.areturn, 1) := by decide +kernel
theorem dJ5_getValue_6d5f1_0 : decode cJ5_getValue_6d5f1 0 = .ok (.aload_n 0, 1) := by decide +kernel
theorem dJ5_getValue_6d5f1_1 : decode cJ5_getValue_6d5f1 1 = .ok (.getfield 15, 3) := by decide +kernel
theorem dJ5_getValue_6d5f1_4 : decode cJ5_getValue_6d5f1 4 = .ok (.areturn, 1) := by decide +kernel
theorem dJ5_length_8abf5_0 : decode cJ5_length_8abf5 0 = .ok (.aload_n 0, 1) := by decide +kernel
theorem dJ5_length_8abf5_1 : decode cJ5_length_8abf5 1 = .ok (.getfield 79, 3) := by decide +kernel
theorem dJ5_length_8abf5_4 : decode cJ5_length_8abf5 4 = .ok (.ireturn, 1) := by decide +kernel
theorem dJ7_checkLength_df160_0 : decode cJ7_checkLength_df160 0 = .ok (.iload_n 1, 1) := by decide +kernel
theorem dJ7_checkLength_df160_1 : decode cJ7_checkLength_df160 1 = .ok (.iload_n 0, 1) := by decide +kernel
theorem dJ7_checkLength_df160_2 : decode cJ7_checkLength_df160 2 = .ok (.if_icmp .ge 35, 3) := by decide +kernel
theorem dJ7_checkLength_df160_5 : decode cJ7_checkLength_df160 5 = .ok (.new 43, 3) := by decide +kernel
theorem dJ7_checkLength_df160_8 : decode cJ7_checkLength_df160 8 = .ok (.dup, 1) := by decide +kernel
theorem dJ7_checkLength_df160_9 : decode cJ7_checkLength_df160 9 = .ok (.new 45, 3) := by decide +kernel
theorem dJ7_checkLength_df160_12 : decode cJ7_checkLength_df160 12 = .ok (.dup, 1) := by decide +kernel
theorem dJ7_checkLength_df160_13 : decode cJ7_checkLength_df160 13 = .ok (.invokespecial 47, 3) := by decide +kernel
theorem dJ7_checkLength_df160_16 : decode cJ7_checkLength_df160 16 = .ok (.iload_n 0, 1) := by decide +kernel
theorem dJ7_checkLength_df160_17 : decode cJ7_checkLength_df160 17 = .ok (.invokevirtual 54, 3) := by decide +kernel
theorem dJ7_checkLength_df160_20 : decode cJ7_checkLength_df160 20 = .ok (.ldc_w 337, 3) := by decide +kernel
theorem dJ7_checkLength_df160_23 : decode cJ7_checkLength_df160 23 = .ok (.invokevirtual 50, 3) := by decide +kernel
theorem dJ7_checkLength_df160_26 : decode cJ7_checkLength_df160 26 = .ok (.iload_n 1, 1) := by decide +kernel
theorem dJ7_checkLength_df160_27 : decode cJ7_checkLength_df160 27 = .ok (.invokevirtual 54, 3) := by decide +kernel
theorem dJ7_checkLength_df160_30 : decode cJ7_checkLength_df160 30 = .ok (.invokevirtual 61, 3) := by decide +kernel
theorem dJ7_checkLength_df160_33 : decode cJ7_checkLength_df160 33 = .ok (.invokespecial 65, 3) := by decide +kernel
theorem dJ7_checkLength_df160_36 : decode cJ7_checkLength_df160 36 = .ok (.athrow, 1) := by decide +kernel
theorem dJ7_checkLength_df160_37 : decode cJ7_checkLength_df160 37 = .ok (.return_, 1) := by decide +kernel
theorem dJ7_copyOfRangeByte_39247_0 : decode cJ7_copyOfRangeByte_39247 0 = .ok (.iload_n 1, 1) := by decide +kernel
theorem dJ7_copyOfRangeByte_39247_1 : decode cJ7_copyOfRangeByte_39247 1 = .ok (.iload_n 2, 1) := by decide +kernel
theorem dJ7_copyOfRangeByte_39247_2 : decode cJ7_copyOfRangeByte_39247 2 = .ok (.invokestatic 343, 3) := by decide +kernel
theorem dJ7_copyOfRangeByte_39247_5 : decode cJ7_copyOfRangeByte_39247 5 = .ok (.iload_n 2, 1) := by decide +kernel
theorem dJ7_copyOfRangeByte_39247_6 : decode cJ7_copyOfRangeByte_39247 6 = .ok (.iload_n 1, 1) := by decide +kernel
theorem dJ7_copyOfRangeByte_39247_7 : decode cJ7_copyOfRangeByte_39247 7 = .ok (.isub, 1) := by decide +kernel
theorem dJ7_copyOfRangeByte_39247_8 : decode cJ7_copyOfRangeByte_39247 8 = .ok (.istore_n 3, 1) := by decide +kernel
theorem dJ7_copyOfRangeByte_39247_9 : decode cJ7_copyOfRangeByte_39247 9 = .ok (.iload_n 3, 1) := by decide +kernel
theorem dJ7_copyOfRangeByte_39247_10 : decode cJ7_copyOfRangeByte_39247 10 = .ok (.newarray .byte, 2) := by decide +kernel
theorem dJ7_copyOfRangeByte_39247_12 : decode cJ7_copyOfRangeByte_39247 12 = .ok (.astore 4, 2) := by decide +kernel
theorem dJ7_copyOfRangeByte_39247_14 : decode cJ7_copyOfRangeByte_39247 14 = .ok (.aload_n 0, 1) := by decide +kernel
theorem dJ7_copyOfRangeByte_39247_15 : decode cJ7_copyOfRangeByte_39247 15 = .ok (.iload_n 1, 1) := by decide +kernel
theorem dJ7_copyOfRangeByte_39247_16 : decode cJ7_copyOfRangeByte_39247 16 = .ok (.aload 4, 2) := by decide +kernel
theorem dJ7_copyOfRangeByte_39247_18 : decode cJ7_copyOfRangeByte_39247 18 = .ok (.iconst 0, 1) := by decide +kernel
theorem dJ7_copyOfRangeByte_39247_19 : decode cJ7_copyOfRangeByte_39247 19 = .ok (.aload_n 0, 1) := by decide +kernel
theorem dJ7_copyOfRangeByte_39247_20 : decode cJ7_copyOfRangeByte_39247 20 = .ok (.arraylength, 1) := by decide +kernel
theorem dJ7_copyOfRangeByte_39247_21 : decode cJ7_copyOfRangeByte_39247 21 = .ok (.iload_n 1, 1) := by decide +kernel
theorem dJ7_copyOfRangeByte_39247_22 : decode cJ7_copyOfRangeByte_39247 22 = .ok (.isub, 1) := by decide +kernel
theorem dJ7_copyOfRangeByte_39247_23 : decode cJ7_copyOfRangeByte_39247 23 = .ok (.iload_n 3, 1) := by decide +kernel
theorem dJ7_copyOfRangeByte_39247_24 : decode cJ7_copyOfRangeByte_39247 24 = .ok (.invokestatic 304, 3) := by decide +kernel
theorem dJ7_copyOfRangeByte_39247_27 : decode cJ7_copyOfRangeByte_39247 27 = .ok (.invokestatic 150, 3) := by decide +kernel
theorem dJ7_copyOfRangeByte_39247_30 : decode cJ7_copyOfRangeByte_39247 30 = .ok (.aload 4, 2) := by decide +kernel
theorem dJ7_copyOfRangeByte_39247_32 : decode cJ7_copyOfRangeByte_39247 32 = .ok (.areturn, 1) := by decide +kernel
theorem dJ7_copyOfRange_39247_0 : decode cJ7_copyOfRange_39247 0 = .ok (.iload_n 1, 1) := by decide +kernel
theorem dJ7_copyOfRange_39247_1 : decode cJ7_copyOfRange_39247 1 = .ok (.ifCond .ne 9, 3) := by decide +kernel
theorem dJ7_copyOfRange_39247_4 : decode cJ7_copyOfRange_39247 4 = .ok (.iload_n 2, 1) := by decide +kernel
theorem dJ7_copyOfRange_39247_5 : decode cJ7_copyOfRange_39247 5 = .ok (.aload_n 0, 1) := by decide +kernel
theorem dJ7_copyOfRange_39247_6 : decode cJ7_copyOfRange_39247 6 = .ok (.arraylength, 1) := by decide +kernel
theorem dJ7_copyOfRange_39247_7 : decode cJ7_copyOfRange_39247 7 = .ok (.if_icmp .eq 10, 3) := by decide +kernel
theorem dJ7_copyOfRange_39247_10 : decode cJ7_copyOfRange_39247 10 = .ok (.aload_n 0, 1) := by decide +kernel
theorem dJ7_copyOfRange_39247_11 : decode cJ7_copyOfRange_39247 11 = .ok (.iload_n 1, 1) := by decide +kernel
theorem dJ7_copyOfRange_39247_12 : decode cJ7_copyOfRange_39247 12 = .ok (.iload_n 2, 1) := by decide +kernel
theorem dJ7_copyOfRange_39247_13 : decode cJ7_copyOfRange_39247 13 = .ok (.invokestatic 339, 3) := by decide +kernel
theorem dJ7_copyOfRange_39247_16 : decode cJ7_copyOfRange_39247 16 = .ok (.areturn, 1) := by decide +kernel
theorem dJ7_copyOfRange_39247_17 : decode cJ7_copyOfRange_39247 17 = .ok (.aload_n 0, 1) := by decide +kernel
theorem dJ7_copyOfRange_39247_18 : decode cJ7_copyOfRange_39247 18 = .ok (.invokevirtual 310, 3) := by decide +kernel
theorem dJ7_copyOfRange_39247_21 : decode cJ7_copyOfRange_39247 21 = .ok (.checkcast 311, 3) := by decide +kernel
theorem dJ7_copyOfRange_39247_24 : decode cJ7_copyOfRange_39247 24 = .ok (.areturn, 1) := by decide +kernel
theorem jd_10 : (yJ0_coder_7d493 : MethodName).cls ≠ "java/lang/invoke/MethodHandle" ∧ (yJ0_coder_7d493 : MethodName).cls ≠ "java/lang/invoke/VarHandle" ∧ (parseMethodDescriptor (yJ0_coder_7d493 : MethodName).desc).map (fun d => d.parameters.length) = some 0 := by decide +kernel
theorem jd_11 : (yJ5_inflateIfNeededFor_a7421 : MethodName).cls ≠ "java/lang/invoke/MethodHandle" ∧ (yJ5_inflateIfNeededFor_a7421 : MethodName).cls ≠ "java/lang/invoke/VarHandle" ∧ (parseMethodDescriptor (yJ5_inflateIfNeededFor_a7421 : MethodName).desc).map (fun d => d.parameters.length) = some 1 := by decide +kernel
theorem jd_12 : (yJ0_getBytes_840e7 : MethodName).cls ≠ "java/lang/invoke/MethodHandle" ∧ (yJ0_getBytes_840e7 : MethodName).cls ≠ "java/lang/invoke/VarHandle" ∧ (parseMethodDescriptor (yJ0_getBytes_840e7 : MethodName).desc).map (fun d => d.parameters.length) = some 3 := by decide +kernel
theorem jd_13 : (yJ0_length_8abf5 : MethodName).cls ≠ "java/lang/invoke/MethodHandle" ∧ (yJ0_length_8abf5 : MethodName).cls ≠ "java/lang/invoke/VarHandle" ∧ (parseMethodDescriptor (yJ0_length_8abf5 : MethodName).desc).map (fun d => d.parameters.length) = some 0 := by decide +kernel
theorem jd_14 : (yJ5_putStringAt_47b60 : MethodName).cls ≠ "java/lang/invoke/MethodHandle" ∧ (yJ5_putStringAt_47b60 : MethodName).cls ≠ "java/lang/invoke/VarHandle" ∧ (parseMethodDescriptor (yJ5_putStringAt_47b60 : MethodName).desc).map (fun d => d.parameters.length) = some 2 := by decide +kernel
theorem jd_15 : (yJ5_append_cf1ce : MethodName).cls ≠ "java/lang/invoke/MethodHandle" ∧ (yJ5_append_cf1ce : MethodName).cls ≠ "java/lang/invoke/VarHandle" ∧ (parseMethodDescriptor (yJ5_append_cf1ce : MethodName).desc).map (fun d => d.parameters.length) = some 1 := by decide +kernel
theorem jd_16 : (yJ5_reverse_278bc : MethodName).cls ≠ "java/lang/invoke/MethodHandle" ∧ (yJ5_reverse_278bc : MethodName).cls ≠ "java/lang/invoke/VarHandle" ∧ (parseMethodDescriptor (yJ5_reverse_278bc : MethodName).desc).map (fun d => d.parameters.length) = some 0 := by decide +kernel
theorem jd_17 : (yJ7_checkLength_df160 : MethodName).cls ≠ "java/lang/invoke/MethodHandle" ∧ (yJ7_checkLength_df160 : MethodName).cls ≠ "java/lang/invoke/VarHandle" ∧ (parseMethodDescriptor (yJ7_checkLength_df160 : MethodName).desc).map (fun d => d.parameters.length) = some 2 := by decide +kernel
theorem jd_18 : (yJ7_copyOfRangeByte_39247 : MethodName).cls ≠ "java/lang/invoke/MethodHandle" ∧ (yJ7_copyOfRangeByte_39247 : MethodName).cls ≠ "java/lang/invoke/VarHandle" ∧ (parseMethodDescriptor (yJ7_copyOfRangeByte_39247 : MethodName).desc).map (fun d => d.parameters.length) = some 3 := by decide +kernel
set_option maxHeartbeats 4000000 in
set_option maxRecDepth 100000 in
theorem c_J0_coder_7d493 {l : Launch} {D : va_G} {cB : ClassId} (a b0 w : Nat)(sz : Nat)  : JMi l yJ0_coder_7d493 (.code yJ0_coder_7d493 cJ0_coder_7d493 1 (Option.some Jvm.ClassFile.FieldType.byte)) 0 0 0 [.ref a] D cB [] [(a, b0, w)] sz (fun (r : Int32) (u : Unit) => r = 0) (fun (u : Unit) => []) := by
  refine J_meti (by decide +kernel) (Nat.le_of_ble_eq_true rfl) ?_
  intro p e s mI below meth c Z ls hx hb hml hown hin ht hK hC hZ hSL hw hret hl
  have hl : lv_has ls 1 [(0, .ref a)] := hl
  suffices hh : ∀ (H : Heap) (locs : List Loc), MW D [] [] (va_A [] s.heap.size) s H locs → W p l e (RA 0 0 0) s mI #[.ref a] below meth c H locs 0 0 Z (F0 mI 0 ls []) from hh _ _ hw
  intro H locs hw
  have hO : SO a b0 w (va_A [] s.heap.size) s s.heap := hSL (a, b0, w) (List.mem_singleton.mpr rfl)
  refine va_gets hx hb hZ.1 hw.2.2.1 hown (ht _ q_1116) (fun _ h => h) dJ0_coder_7d493_0 ?_
  refine lv_if_eq (tgt := 13) hx hb dJ0_coder_7d493_3 (by decide) (fun c9 => absurd c9 (by decide)) (fun c9 => ?_)
  refine lv_aload_n hx hb dJ0_coder_7d493_6 rfl (lv_at hl 0 rfl) ?_
  refine vk_getf hx hb hO.2.1 hw.2.2.1 hown (ht _ q_1148) (fun _ h => h) dJ0_coder_7d493_7 ?_
  refine lv_goto (tgt := 14) hx hb dJ0_coder_7d493_10 (by decide) ?_
  exact hret H locs ls 14 _ _ 0 () hw rfl rfl (show 0 ≤ 0 by omega) (show 0 ≤ 0 by omega) dJ0_coder_7d493_14

set_option maxHeartbeats 4000000 in
set_option maxRecDepth 100000 in
theorem c_J0_length_8abf5 {l : Launch} {D : va_G} {cB : ClassId} (a b0 w : Nat)(sz : Nat)  : JMi l yJ0_length_8abf5 (.code yJ0_length_8abf5 cJ0_length_8abf5 1 (Option.some Jvm.ClassFile.FieldType.int)) 1 0 0 [.ref a] D cB [] [(a, b0, w)] sz (fun (r : Int32) (u : Unit) => r = nI w) (fun (u : Unit) => []) := by
  refine J_meti (by decide +kernel) (Nat.le_of_ble_eq_true rfl) ?_
  intro p e s mI below meth c Z ls hx hb hml hown hin ht hK hC hZ hSL hw hret hl
  have hl : lv_has ls 1 [(0, .ref a)] := hl
  suffices hh : ∀ (H : Heap) (locs : List Loc), MW D [] [] (va_A [] s.heap.size) s H locs → W p l e (RA 1 0 0) s mI #[.ref a] below meth c H locs 0 0 Z (F0 mI 0 ls []) from hh _ _ hw
  intro H locs hw
  have hO : SO a b0 w (va_A [] s.heap.size) s s.heap := hSL (a, b0, w) (List.mem_singleton.mpr rfl)
  obtain ⟨f9, hf9, hT9⟩ := hO.2.2.2
  refine lv_aload_n hx hb dJ0_length_8abf5_0 rfl (lv_at hl 0 rfl) ?_
  refine vk_getf hx hb hO.2.2.1 hw.2.2.1 hown (ht _ q_1147) (fun _ h => h) dJ0_length_8abf5_1 ?_
  refine va_tlen (v := nI w) hx hb hT9 hw.2.2.1 rfl dJ0_length_8abf5_4 ?_
  refine lv_aload_n hx hb dJ0_length_8abf5_5 rfl (lv_at hl 0 rfl) ?_
  refine J_calli (N0 := []) (ws := []) hw (va_runV (own := "java/lang/String") (As := []) (rest := [.int (nI w)]) ⟨hx, hb, hml, hown, ht⟩ (c_J0_coder_7d493 a b0 w H.size) (cwV 0 ht (G_V q_1112 q_1113 q_1114 q_68 q_1115) rfl rfl rfl ⟨rfl, jd_10⟩ ⟨Nat.le_of_ble_eq_true rfl, Nat.le_of_ble_eq_true rfl⟩) ⟨JB.blind, SO.recv hO hw.2.2.1, JB.pre (N0 := []) (ws := []) hK hC hZ hw (SL1 (SO.pass (N0 := []) (ws := []) hO hw))⟩ rfl rfl hl.1 rfl (lv_room (Nat.le_of_ble_eq_true rfl)) dJ0_length_8abf5_6 ⟨show 0 + 0 ≤ 0 by omega, show 0 + 0 ≤ 0 by omega⟩) (fun r3 u1 H locs hp2 hw => ?_)
  have hw : MW D [] [] (va_A [] s.heap.size) s H locs := hw
  rw [hp2]
  refine lv_ishr hx hb dJ0_length_8abf5_9 ?_
  refine lv_topi (fun x4 ex4 => ?_)
  rw [show x4 = (nI w) from ex4.trans (sb_shr0 _)]
  exact hret H locs ls 10 _ _ (nI w) () hw rfl rfl (show 0 + 0 ≤ 0 by omega) (show 0 + 0 ≤ 0 by omega) dJ0_length_8abf5_10

set_option maxHeartbeats 4000000 in
set_option maxRecDepth 100000 in
theorem c_J5_inflateIfNeededFor_a7421 {l : Launch} {D : va_G} {cB : ClassId} (a b0 w b v m n : Nat) (f : Nat → Int32)(sz : Nat)  : JMv l yJ5_inflateIfNeededFor_a7421 (.code yJ5_inflateIfNeededFor_a7421 cJ5_inflateIfNeededFor_a7421 2 (Option.none : Option Jvm.ClassFile.FieldType)) 1 0 0 [.ref b, .ref a] D cB [(b, .inr (11, [.ref v, .int 0, .int 0, .int (nI n)])), (v, .inl (cB, m, .inl f))] [(a, b0, w)] sz (fun (u : Unit) => True) (fun (u : Unit) => [bC b v n, bV cB v m f]) := by
  refine J_metv (by decide +kernel) (Nat.le_of_ble_eq_true rfl) ?_
  intro p e s mI below meth c Z ls hx hb hml hown hin ht hK hC hZ hSL hw hret hl
  have hl : lv_has ls 2 [(0, .ref b), (1, .ref a)] := hl
  suffices hh : ∀ (H : Heap) (locs : List Loc), MW D [] [(b, .inr (11, [.ref v, .int 0, .int 0, .int (nI n)])), (v, .inl (cB, m, .inl f))] (va_A [(b, .inr (11, [.ref v, .int 0, .int 0, .int (nI n)])), (v, .inl (cB, m, .inl f))] s.heap.size) s H locs → W p l e (RA 1 0 0) s mI #[.ref b, .ref a] below meth c H locs 0 0 Z (F0 mI 0 ls []) from hh _ _ hw
  intro H locs hw
  have hO : SO a b0 w (va_A [(b, .inr (11, [.ref v, .int 0, .int 0, .int (nI n)])), (v, .inl (cB, m, .inl f))] s.heap.size) s s.heap := hSL (a, b0, w) (List.mem_singleton.mpr rfl)
  refine va_gets hx hb hZ.1 hw.2.2.1 hown (ht _ q_901) (fun _ h => h) dJ5_inflateIfNeededFor_a7421_0 ?_
  refine lv_if_eq (tgt := 21) hx hb dJ5_inflateIfNeededFor_a7421_3 (by decide) (fun c9 => absurd c9 (by decide)) (fun c9 => ?_)
  refine lv_aload_n hx hb dJ5_inflateIfNeededFor_a7421_6 rfl (lv_at hl 0 rfl) ?_
  refine va_get hx hb ht in_11 hown hK hw.1 0 rfl cl_11 1 (by decide) (ht _ q_911) (fun _ h => h) rfl dJ5_inflateIfNeededFor_a7421_7 ?_
  refine lv_aload_n hx hb dJ5_inflateIfNeededFor_a7421_10 rfl (lv_at hl 1 rfl) ?_
  refine J_calli (N0 := [(b, .inr (11, [.ref v, .int 0, .int 0, .int (nI n)])), (v, .inl (cB, m, .inl f))]) (ws := []) hw (va_runV (own := "java/lang/AbstractStringBuilder") (As := []) (rest := [.int 0]) ⟨hx, hb, hml, hown, ht⟩ (c_J0_coder_7d493 a b0 w H.size) (cwV 0 ht (G_V q_1125 q_1113 q_1114 q_68 q_1115) rfl rfl rfl ⟨rfl, jd_10⟩ ⟨Nat.le_of_ble_eq_true rfl, Nat.le_of_ble_eq_true rfl⟩) ⟨JB.blind, SO.recv hO hw.2.2.1, JB.pre (N0 := [(b, .inr (11, [.ref v, .int 0, .int 0, .int (nI n)])), (v, .inl (cB, m, .inl f))]) (ws := []) hK hC hZ hw (SL1 (SO.pass (N0 := [(b, .inr (11, [.ref v, .int 0, .int 0, .int (nI n)])), (v, .inl (cB, m, .inl f))]) (ws := []) hO hw))⟩ rfl rfl hl.1 rfl (lv_room (Nat.le_of_ble_eq_true rfl)) dJ5_inflateIfNeededFor_a7421_11 ⟨show 0 + 0 ≤ 0 by omega, show 0 + 0 ≤ 0 by omega⟩) (fun r3 u1 H locs hp2 hw => ?_)
  have hw : MW D [] [(b, .inr (11, [.ref v, .int 0, .int 0, .int (nI n)])), (v, .inl (cB, m, .inl f))] (va_A [(b, .inr (11, [.ref v, .int 0, .int 0, .int (nI n)])), (v, .inl (cB, m, .inl f))] s.heap.size) s H locs := hw
  rw [hp2]
  refine lv_icmp_eq (tgt := 21) hx hb dJ5_inflateIfNeededFor_a7421_14 (by decide) (fun c9 => ?_) (fun c9 => absurd rfl c9)
  exact hret H locs ls 21 _ _ () hw trivial (show 0 + 0 ≤ 0 by omega) (show 0 + 0 ≤ 0 by omega) dJ5_inflateIfNeededFor_a7421_21

set_option maxHeartbeats 4000000 in
set_option maxRecDepth 100000 in
theorem c_J0_getBytes_840e7 {l : Launch} {D : va_G} {cB : ClassId} (a b0 w i v m : Nat) (f : Nat → Int32)(sz : Nat) (hiw : i + w ≤ m) (hm : m ≤ 100000) (hf : FT f) : JMv l yJ0_getBytes_840e7 (.code yJ0_getBytes_840e7 cJ0_getBytes_840e7 4 (Option.none : Option Jvm.ClassFile.FieldType)) 2 0 0 [.ref a, .ref v, .int (nI i), .int 0] D cB [(v, .inl (cB, m, .inl f))] [(a, b0, w)] sz (fun (u : (Nat → Int32)) => FT u) (fun (u : (Nat → Int32)) => [bV cB v m u]) := by
  refine J_metv (by decide +kernel) (Nat.le_of_ble_eq_true rfl) ?_
  intro p e s mI below meth c Z ls hx hb hml hown hin ht hK hC hZ hSL hw hret hl
  have hl : lv_has ls 4 [(0, .ref a), (1, .ref v), (2, .int (nI i)), (3, .int (0 : Int32))] := hl
  suffices hh : ∀ (H : Heap) (locs : List Loc), MW D [] [(v, .inl (cB, m, .inl f))] (va_A [(v, .inl (cB, m, .inl f))] s.heap.size) s H locs → W p l e (RA 2 0 0) s mI #[.ref a, .ref v, .int (nI i), .int 0] below meth c H locs 0 0 Z (F0 mI 0 ls []) from hh _ _ hw
  intro H locs hw
  have hO : SO a b0 w (va_A [(v, .inl (cB, m, .inl f))] s.heap.size) s s.heap := hSL (a, b0, w) (List.mem_singleton.mpr rfl)
  obtain ⟨f9, hf9, hT9⟩ := hO.2.2.2
  refine lv_aload_n hx hb dJ0_getBytes_840e7_0 rfl (lv_at hl 0 rfl) ?_
  refine J_calli (N0 := [(v, .inl (cB, m, .inl f))]) (ws := []) hw (va_runV (own := "java/lang/String") (As := []) (rest := []) ⟨hx, hb, hml, hown, ht⟩ (c_J0_coder_7d493 a b0 w H.size) (cwV 0 ht (G_V q_1112 q_1113 q_1114 q_68 q_1115) rfl rfl rfl ⟨rfl, jd_10⟩ ⟨Nat.le_of_ble_eq_true rfl, Nat.le_of_ble_eq_true rfl⟩) ⟨JB.blind, SO.recv hO hw.2.2.1, JB.pre (N0 := [(v, .inl (cB, m, .inl f))]) (ws := []) hK hC hZ hw (SL1 (SO.pass (N0 := [(v, .inl (cB, m, .inl f))]) (ws := []) hO hw))⟩ rfl rfl hl.1 rfl (lv_room (Nat.le_of_ble_eq_true rfl)) dJ0_getBytes_840e7_1 ⟨show 0 + 0 ≤ 0 by omega, show 0 + 0 ≤ 0 by omega⟩) (fun r3 u1 H locs hp2 hw => ?_)
  have hw : MW D [] [(v, .inl (cB, m, .inl f))] (va_A [(v, .inl (cB, m, .inl f))] s.heap.size) s H locs := hw
  rw [hp2]
  refine lv_iload_n hx hb dJ0_getBytes_840e7_4 rfl (lv_at hl 3 rfl) ?_
  refine lv_icmp_ne (tgt := 28) hx hb dJ0_getBytes_840e7_5 (by decide) (fun c9 => absurd c9 (by decide)) (fun c9 => ?_)
  refine lv_aload_n hx hb dJ0_getBytes_840e7_8 rfl (lv_at hl 0 rfl) ?_
  refine vk_getf hx hb hO.2.2.1 hw.2.2.1 hown (ht _ q_1147) (fun _ h => h) dJ0_getBytes_840e7_9 ?_
  refine lv_iconst (v := (0 : Int32)) hx hb dJ0_getBytes_840e7_12 (by decide) ?_
  refine lv_aload_n hx hb dJ0_getBytes_840e7_13 rfl (lv_at hl 1 rfl) ?_
  refine lv_iload_n hx hb dJ0_getBytes_840e7_14 rfl (lv_at hl 2 rfl) ?_
  refine lv_iload_n hx hb dJ0_getBytes_840e7_15 rfl (lv_at hl 3 rfl) ?_
  refine lv_ishl hx hb dJ0_getBytes_840e7_16 ?_
  refine lv_topi (fun x4 ex4 => ?_)
  rw [show x4 = (nI i) from ex4.trans (sb_shl0 _)]
  refine lv_aload_n hx hb dJ0_getBytes_840e7_17 rfl (lv_at hl 0 rfl) ?_
  refine vk_getf hx hb hO.2.2.1 hw.2.2.1 hown (ht _ q_1147) (fun _ h => h) dJ0_getBytes_840e7_18 ?_
  refine va_tlen (v := nI w) hx hb hT9 hw.2.2.1 rfl dJ0_getBytes_840e7_21 ?_
  refine vk_copyt hx hb (hml.trans hl.1.symm) hown (ht _ q_1130) (ht _ q_964) (ht _ q_963) (ht _ q_72) hK hw.1 hw.2.1 hw.2.2.1 hT9 0 0 rfl rfl (by decide) (nI_pos (by omega)) (nI_pos (by omega)) (by rw [nI_clamp (by omega)]; show 0 + w ≤ w; omega) (by rw [nI_clamp (by omega), nI_clamp (by omega)]; exact hiw) (fun i _ => hf9 _) (Nat.le_of_ble_eq_true rfl) (Nat.le_of_ble_eq_true rfl) dJ0_getBytes_840e7_22 (fun H locs hP hD hS => ?_)
  have hw : MW D [] [(v, .inl (cB, m, .inl (va_cpy f9 f ((0 : Int32) : Int32).toNatClampNeg ((nI i) : Int32).toNatClampNeg ((nI w) : Int32).toNatClampNeg)))] (va_A [(v, .inl (cB, m, .inl f))] s.heap.size) s H locs := ⟨hP, hD, hS, hw.2.2.2⟩
  refine lv_goto (tgt := 43) hx hb dJ0_getBytes_840e7_25 (by decide) ?_
  exact hret H locs ls 43 _ _ (va_cpy f9 f ((0 : Int32) : Int32).toNatClampNeg ((nI i) : Int32).toNatClampNeg ((nI w) : Int32).toNatClampNeg) hw (FT.cpy hf9 hf) (show 0 + 0 ≤ 0 by omega) (show 0 + 0 ≤ 0 by omega) dJ0_getBytes_840e7_43

set_option maxHeartbeats 4000000 in
set_option maxRecDepth 100000 in
theorem c_J5_putStringAt_47b60 {l : Launch} {D : va_G} {cB : ClassId} (a b0 w i b v m n : Nat) (f : Nat → Int32)(sz : Nat) (hiw : i + w ≤ m) (hm : m ≤ 100000) (hf : FT f) : JMv l yJ5_putStringAt_47b60 (.code yJ5_putStringAt_47b60 cJ5_putStringAt_47b60 3 (Option.none : Option Jvm.ClassFile.FieldType)) 3 0 0 [.ref b, .int (nI i), .ref a] D cB [(b, .inr (11, [.ref v, .int 0, .int 0, .int (nI n)])), (v, .inl (cB, m, .inl f))] [(a, b0, w)] sz (fun (u : (Nat → Int32)) => FT u) (fun (u : (Nat → Int32)) => [bC b v n, bV cB v m u]) := by
  refine J_metv (by decide +kernel) (Nat.le_of_ble_eq_true rfl) ?_
  intro p e s mI below meth c Z ls hx hb hml hown hin ht hK hC hZ hSL hw hret hl
  have hl : lv_has ls 3 [(0, .ref b), (1, .int (nI i)), (2, .ref a)] := hl
  suffices hh : ∀ (H : Heap) (locs : List Loc), MW D [] [(b, .inr (11, [.ref v, .int 0, .int 0, .int (nI n)])), (v, .inl (cB, m, .inl f))] (va_A [(b, .inr (11, [.ref v, .int 0, .int 0, .int (nI n)])), (v, .inl (cB, m, .inl f))] s.heap.size) s H locs → W p l e (RA 3 0 0) s mI #[.ref b, .int (nI i), .ref a] below meth c H locs 0 0 Z (F0 mI 0 ls []) from hh _ _ hw
  intro H locs hw
  have hO : SO a b0 w (va_A [(b, .inr (11, [.ref v, .int 0, .int 0, .int (nI n)])), (v, .inl (cB, m, .inl f))] s.heap.size) s s.heap := hSL (a, b0, w) (List.mem_singleton.mpr rfl)
  refine lv_aload_n hx hb dJ5_putStringAt_47b60_0 rfl (lv_at hl 0 rfl) ?_
  refine lv_aload_n hx hb dJ5_putStringAt_47b60_1 rfl (lv_at hl 2 rfl) ?_
  refine J_callv (N0 := []) (ws := [(b, .inr (11, [.ref v, .int 0, .int 0, .int (nI n)])), (v, .inl (cB, m, .inl f))]) hw (va_runU (own := "java/lang/AbstractStringBuilder") (As := [.ref a]) (rest := []) ⟨hx, hb, hml, hown, ht⟩ (c_J5_inflateIfNeededFor_a7421 a b0 w b v m n f H.size) (cwUP (C0 := "java/lang/StringBuilder") 1 ht q_1121 q_1619 q_1123 q_66 q_1124 (va_any rfl (hC.2 _ (List.mem_of_getElem? (i := 3) rfl))) rfl rfl jd_11 ⟨Nat.le_of_ble_eq_true rfl, Nat.le_of_ble_eq_true rfl⟩) ⟨JB.blind, J_recv hK hw (j := 0) rfl cl_11, JB.pre (N0 := []) (ws := [(b, .inr (11, [.ref v, .int 0, .int 0, .int (nI n)])), (v, .inl (cB, m, .inl f))]) hK hC hZ hw (SL1 (SO.pass (N0 := []) (ws := [(b, .inr (11, [.ref v, .int 0, .int 0, .int (nI n)])), (v, .inl (cB, m, .inl f))]) hO hw))⟩ rfl rfl hl.1 rfl (lv_room (Nat.le_of_ble_eq_true rfl)) dJ5_putStringAt_47b60_2 ⟨show 0 + 0 ≤ 0 by omega, show 0 + 0 ≤ 0 by omega⟩) (fun u1 H locs hp2 hw => ?_)
  have hw : MW D [] [(b, .inr (11, [.ref v, .int 0, .int 0, .int (nI n)])), (v, .inl (cB, m, .inl f))] (va_A [(b, .inr (11, [.ref v, .int 0, .int 0, .int (nI n)])), (v, .inl (cB, m, .inl f))] s.heap.size) s H locs := hw
  refine lv_aload_n hx hb dJ5_putStringAt_47b60_5 rfl (lv_at hl 2 rfl) ?_
  refine lv_aload_n hx hb dJ5_putStringAt_47b60_6 rfl (lv_at hl 0 rfl) ?_
  refine va_get hx hb ht in_11 hown hK hw.1 0 rfl cl_11 0 (by decide) (ht _ q_910) (fun _ h => h) rfl dJ5_putStringAt_47b60_7 ?_
  refine lv_iload_n hx hb dJ5_putStringAt_47b60_10 rfl (lv_at hl 1 rfl) ?_
  refine lv_aload_n hx hb dJ5_putStringAt_47b60_11 rfl (lv_at hl 0 rfl) ?_
  refine va_get hx hb ht in_11 hown hK hw.1 0 rfl cl_11 1 (by decide) (ht _ q_911) (fun _ h => h) rfl dJ5_putStringAt_47b60_12 ?_
  refine J_callv (N0 := [(b, .inr (11, [.ref v, .int 0, .int 0, .int (nI n)]))]) (ws := [(v, .inl (cB, m, .inl f))]) hw (va_runV (own := "java/lang/AbstractStringBuilder") (As := [.ref v, .int (nI i), .int 0]) (rest := []) ⟨hx, hb, hml, hown, ht⟩ (c_J0_getBytes_840e7 a b0 w i v m f H.size hiw hm hf) (cwV 3 ht (G_V q_1126 q_1127 q_1128 q_68 q_1129) rfl rfl rfl ⟨rfl, jd_12⟩ ⟨Nat.le_of_ble_eq_true rfl, Nat.le_of_ble_eq_true rfl⟩) ⟨JB.blind, SO.recv hO hw.2.2.1, JB.pre (N0 := [(b, .inr (11, [.ref v, .int 0, .int 0, .int (nI n)]))]) (ws := [(v, .inl (cB, m, .inl f))]) hK hC hZ hw (SL1 (SO.pass (N0 := [(b, .inr (11, [.ref v, .int 0, .int 0, .int (nI n)]))]) (ws := [(v, .inl (cB, m, .inl f))]) hO hw))⟩ rfl rfl hl.1 rfl (lv_room (Nat.le_of_ble_eq_true rfl)) dJ5_putStringAt_47b60_15 ⟨show 0 + 0 + 0 ≤ 0 by omega, show 0 + 0 + 0 ≤ 0 by omega⟩) (fun u4 H locs hp5 hw => ?_)
  have hw : MW D [] [(b, .inr (11, [.ref v, .int 0, .int 0, .int (nI n)])), (v, .inl (cB, m, .inl u4))] (va_A [(b, .inr (11, [.ref v, .int 0, .int 0, .int (nI n)])), (v, .inl (cB, m, .inl f))] s.heap.size) s H locs := hw
  exact hret H locs ls 18 _ _ u4 hw hp5 (show 0 + 0 + 0 ≤ 0 by omega) (show 0 + 0 + 0 ≤ 0 by omega) dJ5_putStringAt_47b60_18

set_option maxHeartbeats 4000000 in
set_option maxRecDepth 100000 in
theorem c_J5_append_cf1ce {l : Launch} {D : va_G} {cB : ClassId} (a b0 w b v m n : Nat) (f : Nat → Int32)(sz : Nat) (hnm : n ≤ m) (hm : m ≤ 20000) (hn : n < 9000) (hw9 : w < 9000) (hf : FT f) : JMr l yJ5_append_cf1ce (.code yJ5_append_cf1ce cJ5_append_cf1ce 3 (Option.some (Jvm.ClassFile.FieldType.object "java/lang/AbstractStringBuilder"))) 4 (gr (n + w) m) (gs (n + w) m) [.ref b, .ref a] D cB [(b, .inr (11, [.ref v, .int 0, .int 0, .int (nI n)])), (v, .inl (cB, m, .inl f))] [(a, b0, w)] sz (fun (u : Nat × (Nat → Int32)) => FT u.2) (fun (u : Nat × (Nat → Int32)) => b) (fun (u : Nat × (Nat → Int32)) => [bC b u.1 (n + w), bV cB u.1 (cap (n + w) m) u.2]) := by
  refine J_metr (by decide +kernel) (Nat.le_of_ble_eq_true rfl) (Or.inl ⟨_, rfl⟩) ?_
  intro p e s mI below meth c Z ls hx hb hml hown hin ht hK hC hZ hSL hw hret hl
  have hl : lv_has ls 3 [(0, .ref b), (1, .ref a)] := hl
  suffices hh : ∀ (H : Heap) (locs : List Loc), MW D [] [(b, .inr (11, [.ref v, .int 0, .int 0, .int (nI n)])), (v, .inl (cB, m, .inl f))] (va_A [(b, .inr (11, [.ref v, .int 0, .int 0, .int (nI n)])), (v, .inl (cB, m, .inl f))] s.heap.size) s H locs → W p l e (RA 4 (gr (n + w) m) (gs (n + w) m)) s mI #[.ref b, .ref a] below meth c H locs 0 0 Z (F0 mI 0 ls []) from hh _ _ hw
  intro H locs hw
  have hO : SO a b0 w (va_A [(b, .inr (11, [.ref v, .int 0, .int 0, .int (nI n)])), (v, .inl (cB, m, .inl f))] s.heap.size) s s.heap := hSL (a, b0, w) (List.mem_singleton.mpr rfl)
  refine lv_aload_n hx hb dJ5_append_cf1ce_0 rfl (lv_at hl 1 rfl) ?_
  refine lv_ifnonnull (tgt := 9) hx hb dJ5_append_cf1ce_1 (by decide) ?_
  refine lv_aload_n hx hb dJ5_append_cf1ce_9 rfl (lv_at hl 1 rfl) ?_
  refine J_calli (N0 := [(b, .inr (11, [.ref v, .int 0, .int 0, .int (nI n)])), (v, .inl (cB, m, .inl f))]) (ws := []) hw (va_runV (own := "java/lang/AbstractStringBuilder") (As := []) (rest := []) ⟨hx, hb, hml, hown, ht⟩ (c_J0_length_8abf5 a b0 w H.size) (cwV 0 ht (G_V q_1108 q_1109 q_1110 q_68 q_1111) rfl rfl rfl ⟨rfl, jd_13⟩ ⟨Nat.le_of_ble_eq_true rfl, Nat.le_of_ble_eq_true rfl⟩) ⟨JB.blind, SO.recv hO hw.2.2.1, JB.pre (N0 := [(b, .inr (11, [.ref v, .int 0, .int 0, .int (nI n)])), (v, .inl (cB, m, .inl f))]) (ws := []) hK hC hZ hw (SL1 (SO.pass (N0 := [(b, .inr (11, [.ref v, .int 0, .int 0, .int (nI n)])), (v, .inl (cB, m, .inl f))]) (ws := []) hO hw))⟩ rfl rfl hl.1 rfl (lv_room (Nat.le_of_ble_eq_true rfl)) dJ5_append_cf1ce_10 ⟨show 0 + 0 ≤ gr (n + w) m by omega, show 0 + 0 ≤ gs (n + w) m by omega⟩) (fun r3 u1 H locs hp2 hw => ?_)
  have hw : MW D [] [(b, .inr (11, [.ref v, .int 0, .int 0, .int (nI n)])), (v, .inl (cB, m, .inl f))] (va_A [(b, .inr (11, [.ref v, .int 0, .int 0, .int (nI n)])), (v, .inl (cB, m, .inl f))] s.heap.size) s H locs := hw
  rw [hp2]
  refine lv_istore_n (lv' := [(2, .int (nI w)), (0, .ref b), (1, .ref a)]) hx hb dJ5_append_cf1ce_13 rfl hl (by decide) rfl (fun ls hl => ?_)
  refine lv_aload_n hx hb dJ5_append_cf1ce_14 rfl (lv_at hl 1 rfl) ?_
  refine lv_aload_n hx hb dJ5_append_cf1ce_15 rfl (lv_at hl 1 rfl) ?_
  refine va_get hx hb ht in_11 hown hK hw.1 0 rfl cl_11 3 (by decide) (ht _ q_913) (fun _ h => h) rfl dJ5_append_cf1ce_16 ?_
  refine lv_iload_n hx hb dJ5_append_cf1ce_19 rfl (lv_at hl 0 rfl) ?_
  refine lv_iadd hx hb dJ5_append_cf1ce_20 ?_
  refine lv_topi (fun x4 ex4 => ?_)
  rw [show x4 = (nI (n + w)) from ex4.trans (nI_add n w)]
  refine J_callv (N0 := []) (ws := [(b, .inr (11, [.ref v, .int 0, .int 0, .int (nI n)])), (v, .inl (cB, m, .inl f))]) hw (va_runU (own := "java/lang/AbstractStringBuilder") (As := [.int (nI (n + w))]) (rest := []) ⟨hx, hb, hml, hown, ht⟩ (c_J5_ensureCapacityInternal_d00df b v m n (n + w) f H.size hm (by omega) hf) (cwUP (C0 := "java/lang/StringBuilder") 1 ht q_930 q_1612 q_932 q_66 q_933 (va_any rfl (hC.2 _ (List.mem_of_getElem? (i := 0) rfl))) rfl rfl jd_3 ⟨Nat.le_of_ble_eq_true rfl, Nat.le_of_ble_eq_true rfl⟩) ⟨JB.blind, J_recv hK hw (j := 0) rfl cl_11, JB.pre (N0 := []) (ws := [(b, .inr (11, [.ref v, .int 0, .int 0, .int (nI n)])), (v, .inl (cB, m, .inl f))]) hK hC hZ hw SL0⟩ rfl rfl hl.1 rfl (lv_room (Nat.le_of_ble_eq_true rfl)) dJ5_append_cf1ce_21 ⟨show 0 + 0 + (gr (n + w) m) ≤ gr (n + w) m by omega, show 0 + 0 + (gs (n + w) m) ≤ gs (n + w) m by omega⟩) (fun u5 H locs hp6 hw => ?_)
  obtain ⟨v1, f1⟩ := u5
  have hw : MW D [] [(b, .inr (11, [.ref v1, .int 0, .int 0, .int (nI n)])), (v1, .inl (cB, (cap (n + w) m), .inl f1))] (va_A [(b, .inr (11, [.ref v, .int 0, .int 0, .int (nI n)])), (v, .inl (cB, m, .inl f))] s.heap.size) s H locs := hw
  refine lv_aload_n hx hb dJ5_append_cf1ce_24 rfl (lv_at hl 1 rfl) ?_
  refine lv_aload_n hx hb dJ5_append_cf1ce_25 rfl (lv_at hl 1 rfl) ?_
  refine va_get hx hb ht in_11 hown hK hw.1 0 rfl cl_11 3 (by decide) (ht _ q_913) (fun _ h => h) rfl dJ5_append_cf1ce_26 ?_
  refine lv_aload_n hx hb dJ5_append_cf1ce_29 rfl (lv_at hl 2 rfl) ?_
  refine J_callv (N0 := []) (ws := [(b, .inr (11, [.ref v1, .int 0, .int 0, .int (nI n)])), (v1, .inl (cB, (cap (n + w) m), .inl f1))]) hw (va_runU (own := "java/lang/AbstractStringBuilder") (As := [.int (nI n), .ref a]) (rest := []) ⟨hx, hb, hml, hown, ht⟩ (c_J5_putStringAt_47b60 a b0 w n b v1 (cap (n + w) m) n f1 H.size (cap_ge _ _).1 (by have := cap_b hm (show (n + w) ≤ 20000 by omega); omega) hp6) (cwUP (C0 := "java/lang/StringBuilder") 2 ht q_1117 q_1618 q_1119 q_66 q_1120 (va_any rfl (hC.2 _ (List.mem_of_getElem? (i := 2) rfl))) rfl rfl jd_14 ⟨Nat.le_of_ble_eq_true rfl, Nat.le_of_ble_eq_true rfl⟩) ⟨JB.blind, J_recv hK hw (j := 0) rfl cl_11, JB.pre (N0 := []) (ws := [(b, .inr (11, [.ref v1, .int 0, .int 0, .int (nI n)])), (v1, .inl (cB, (cap (n + w) m), .inl f1))]) hK hC hZ hw (SL1 (SO.pass (N0 := []) (ws := [(b, .inr (11, [.ref v1, .int 0, .int 0, .int (nI n)])), (v1, .inl (cB, (cap (n + w) m), .inl f1))]) hO hw))⟩ rfl rfl hl.1 rfl (lv_room (Nat.le_of_ble_eq_true rfl)) dJ5_append_cf1ce_30 ⟨show 0 + 0 + (gr (n + w) m) + 0 ≤ gr (n + w) m by omega, show 0 + 0 + (gs (n + w) m) + 0 ≤ gs (n + w) m by omega⟩) (fun u8 H locs hp9 hw => ?_)
  have hw : MW D [] [(b, .inr (11, [.ref v1, .int 0, .int 0, .int (nI n)])), (v1, .inl (cB, (cap (n + w) m), .inl u8))] (va_A [(b, .inr (11, [.ref v, .int 0, .int 0, .int (nI n)])), (v, .inl (cB, m, .inl f))] s.heap.size) s H locs := hw
  refine lv_aload_n hx hb dJ5_append_cf1ce_33 rfl (lv_at hl 1 rfl) ?_
  refine lv_dup hx hb dJ5_append_cf1ce_34 rfl ?_
  refine va_get hx hb ht in_11 hown hK hw.1 0 rfl cl_11 3 (by decide) (ht _ q_913) (fun _ h => h) rfl dJ5_append_cf1ce_35 ?_
  refine lv_iload_n hx hb dJ5_append_cf1ce_38 rfl (lv_at hl 0 rfl) ?_
  refine lv_iadd hx hb dJ5_append_cf1ce_39 ?_
  refine lv_topi (fun x11 ex11 => ?_)
  rw [show x11 = (nI (n + w)) from ex11.trans (nI_add n w)]
  refine va_put (ty := .int) hx hb ht in_11 tyJ4 tyJ4_ok nmJ4 hown hK hw.1 hw.2.1 hw.2.2.1 0 rfl cl_11 3 (by decide) (ht _ q_913) (fun _ h => h) rfl (by decide +kernel) rfl rfl (Nat.le_of_ble_eq_true rfl) dJ5_append_cf1ce_40 (fun H locs hP hD hS => ?_)
  have hw : MW D [] [(b, .inr (11, [.ref v1, .int 0, .int 0, .int (nI (n + w))])), (v1, .inl (cB, (cap (n + w) m), .inl u8))] (va_A [(b, .inr (11, [.ref v, .int 0, .int 0, .int (nI n)])), (v, .inl (cB, m, .inl f))] s.heap.size) s H locs := ⟨hP, hD, hS, hw.2.2.2⟩
  refine lv_aload_n hx hb dJ5_append_cf1ce_43 rfl (lv_at hl 1 rfl) ?_
  exact hret H locs ls 44 _ _ (v1, u8) b hw hp9 rfl (show 0 + 0 + (gr (n + w) m) + 0 ≤ gr (n + w) m by omega) (show 0 + 0 + (gs (n + w) m) + 0 ≤ gs (n + w) m by omega) dJ5_append_cf1ce_44

set_option maxHeartbeats 4000000 in
set_option maxRecDepth 100000 in
theorem c_J4_append_15ec4 {l : Launch} {D : va_G} {cB : ClassId} (a b0 w b v m n : Nat) (f : Nat → Int32)(sz : Nat) (hnm : n ≤ m) (hm : m ≤ 20000) (hn : n < 9000) (hw9 : w < 9000) (hf : FT f) : JMr l yJ4_append_15ec4 (.code yJ4_append_15ec4 cJ4_append_15ec4 2 (Option.some (Jvm.ClassFile.FieldType.object "java/lang/StringBuilder"))) 5 (gr (n + w) m) (gs (n + w) m) [.ref b, .ref a] D cB [(b, .inr (11, [.ref v, .int 0, .int 0, .int (nI n)])), (v, .inl (cB, m, .inl f))] [(a, b0, w)] sz (fun (u : Nat × (Nat → Int32)) => FT u.2) (fun (u : Nat × (Nat → Int32)) => b) (fun (u : Nat × (Nat → Int32)) => [bC b u.1 (n + w), bV cB u.1 (cap (n + w) m) u.2]) := by
  refine J_metr (by decide +kernel) (Nat.le_of_ble_eq_true rfl) (Or.inl ⟨_, rfl⟩) ?_
  intro p e s mI below meth c Z ls hx hb hml hown hin ht hK hC hZ hSL hw hret hl
  have hl : lv_has ls 2 [(0, .ref b), (1, .ref a)] := hl
  suffices hh : ∀ (H : Heap) (locs : List Loc), MW D [] [(b, .inr (11, [.ref v, .int 0, .int 0, .int (nI n)])), (v, .inl (cB, m, .inl f))] (va_A [(b, .inr (11, [.ref v, .int 0, .int 0, .int (nI n)])), (v, .inl (cB, m, .inl f))] s.heap.size) s H locs → W p l e (RA 5 (gr (n + w) m) (gs (n + w) m)) s mI #[.ref b, .ref a] below meth c H locs 0 0 Z (F0 mI 0 ls []) from hh _ _ hw
  intro H locs hw
  have hO : SO a b0 w (va_A [(b, .inr (11, [.ref v, .int 0, .int 0, .int (nI n)])), (v, .inl (cB, m, .inl f))] s.heap.size) s s.heap := hSL (a, b0, w) (List.mem_singleton.mpr rfl)
  refine lv_aload_n hx hb dJ4_append_15ec4_0 rfl (lv_at hl 0 rfl) ?_
  refine lv_aload_n hx hb dJ4_append_15ec4_1 rfl (lv_at hl 1 rfl) ?_
  obtain ⟨cS, hat⟩ := classAt_of (ht _ q_893)
  refine J_callr (N0 := []) (ws := [(b, .inr (11, [.ref v, .int 0, .int 0, .int (nI n)])), (v, .inl (cB, m, .inl f))]) hw (va_runSU hat (own := "java/lang/StringBuilder") (As := [.ref a]) (rest := []) ⟨hx, hb, hml, hown, ht⟩ (c_J5_append_cf1ce a b0 w b v m n f H.size hnm hm hn hw9 hf) (va_cwSU 1 ht (G_SU q_1098 q_1616 q_922 q_1099 q_66 q_1100) rfl rfl rfl ⟨by decide, by decide +kernel⟩ ⟨Nat.le_of_ble_eq_true rfl, Nat.le_of_ble_eq_true rfl⟩) ⟨JB.blind, J_recv hK hw (j := 0) rfl cl_11, JB.pre (N0 := []) (ws := [(b, .inr (11, [.ref v, .int 0, .int 0, .int (nI n)])), (v, .inl (cB, m, .inl f))]) hK hC hZ hw (SL1 (SO.pass (N0 := []) (ws := [(b, .inr (11, [.ref v, .int 0, .int 0, .int (nI n)])), (v, .inl (cB, m, .inl f))]) hO hw))⟩ rfl rfl hl.1 rfl (lv_room (Nat.le_of_ble_eq_true rfl)) dJ4_append_15ec4_2 ⟨show 0 + (gr (n + w) m) ≤ gr (n + w) m by omega, show 0 + (gs (n + w) m) ≤ gs (n + w) m by omega⟩) (fun u1 H locs hp2 hw => ?_)
  obtain ⟨v1, f1⟩ := u1
  have hw : MW D [] [(b, .inr (11, [.ref v1, .int 0, .int 0, .int (nI (n + w))])), (v1, .inl (cB, (cap (n + w) m), .inl f1))] (va_A [(b, .inr (11, [.ref v, .int 0, .int 0, .int (nI n)])), (v, .inl (cB, m, .inl f))] s.heap.size) s H locs := hw
  refine lv_pop hx hb dJ4_append_15ec4_5 rfl ?_
  refine lv_aload_n hx hb dJ4_append_15ec4_6 rfl (lv_at hl 0 rfl) ?_
  exact hret H locs ls 7 _ _ (v1, f1) b hw hp2 rfl (show 0 + (gr (n + w) m) ≤ gr (n + w) m by omega) (show 0 + (gs (n + w) m) ≤ gs (n + w) m by omega) dJ4_append_15ec4_7

theorem rv_j {n : Nat} {j : Int32} (h1 : 1 ≤ n) (h2 : n ≤ 100000) (e : j = (nI (n - 1) - (1 : Int32)) >>> ((1 : Int32) &&& 31)) : -1 ≤ j.toInt ∧ 2 * j.toInt + 2 ≤ n := by
  have e1 : (nI (n - 1) - (1 : Int32)).toInt = ((n - 1 : Nat) : Int) - 1 := ii_s (nI_toInt (by omega)) rfl (by omega) (by omega)
  have e2 : j.toInt = (((n - 1 : Nat) : Int) - 1) / 2 := by
    rw [e, show (1 : Int32) &&& 31 = 1 from rfl, pk_shr _ _ 1 (by decide), e1, Int.shiftRight_eq_div_pow]
    rfl
  omega

set_option maxHeartbeats 4000000 in
set_option maxRecDepth 100000 in
theorem c_J5_reverse_278bc {l : Launch} {D : va_G} {cB : ClassId} (b v m n : Nat) (f : Nat → Int32)(sz : Nat) (hn1 : 1 ≤ n) (hnm : n ≤ m) (hm : m ≤ 100000) (hf : FT f) : JMr l yJ5_reverse_278bc (.code yJ5_reverse_278bc cJ5_reverse_278bc 7 (Option.some (Jvm.ClassFile.FieldType.object "java/lang/AbstractStringBuilder"))) 1 0 0 [.ref b] D cB [(b, .inr (11, [.ref v, .int 0, .int 0, .int (nI n)])), (v, .inl (cB, m, .inl f))] [] sz (fun (u : (Nat → Int32)) => FT u) (fun (u : (Nat → Int32)) => b) (fun (u : (Nat → Int32)) => [bC b v n, bV cB v m u]) := by
  refine J_metr (by decide +kernel) (Nat.le_of_ble_eq_true rfl) (Or.inl ⟨_, rfl⟩) ?_
  intro p e s mI below meth c Z ls hx hb hml hown hin ht hK hC hZ hSL hw hret hl
  have hl : lv_has ls 7 [(0, .ref b)] := hl
  suffices hh : ∀ (H : Heap) (locs : List Loc), MW D [] [(b, .inr (11, [.ref v, .int 0, .int 0, .int (nI n)])), (v, .inl (cB, m, .inl f))] (va_A [(b, .inr (11, [.ref v, .int 0, .int 0, .int (nI n)])), (v, .inl (cB, m, .inl f))] s.heap.size) s H locs → W p l e (RA 1 0 0) s mI #[.ref b] below meth c H locs 0 0 Z (F0 mI 0 ls []) from hh _ _ hw
  intro H locs hw
  refine lv_aload_n hx hb dJ5_reverse_278bc_0 rfl (lv_at hl 0 rfl) ?_
  refine va_get hx hb ht in_11 hown hK hw.1 0 rfl cl_11 0 (by decide) (ht _ q_910) (fun _ h => h) rfl dJ5_reverse_278bc_1 ?_
  refine lv_astore_n (lv' := [(1, .ref v), (0, .ref b)]) hx hb dJ5_reverse_278bc_4 rfl hl (by decide) rfl (fun ls hl => ?_)
  refine lv_aload_n hx hb dJ5_reverse_278bc_5 rfl (lv_at hl 1 rfl) ?_
  refine va_get hx hb ht in_11 hown hK hw.1 0 rfl cl_11 3 (by decide) (ht _ q_913) (fun _ h => h) rfl dJ5_reverse_278bc_6 ?_
  refine lv_istore_n (lv' := [(2, .int (nI n)), (1, .ref v), (0, .ref b)]) hx hb dJ5_reverse_278bc_9 rfl hl (by decide) rfl (fun ls hl => ?_)
  refine lv_iload_n hx hb dJ5_reverse_278bc_10 rfl (lv_at hl 0 rfl) ?_
  refine lv_iconst (v := (1 : Int32)) hx hb dJ5_reverse_278bc_11 (by decide) ?_
  refine lv_isub hx hb dJ5_reverse_278bc_12 ?_
  refine lv_topi (fun x1 ex1 => ?_)
  rw [show x1 = (nI (n - 1)) from ex1.trans (pk_sub (b := 1) (by omega))]
  refine lv_istore_n (lv' := [(3, .int (nI (n - 1))), (2, .int (nI n)), (1, .ref v), (0, .ref b)]) hx hb dJ5_reverse_278bc_13 rfl hl (by decide) rfl (fun ls hl => ?_)
  refine lv_aload_n hx hb dJ5_reverse_278bc_14 rfl (lv_at hl 3 rfl) ?_
  refine J_calli (N0 := []) (ws := [(b, .inr (11, [.ref v, .int 0, .int 0, .int (nI n)])), (v, .inl (cB, m, .inl f))]) hw (va_runU (own := "java/lang/AbstractStringBuilder") (As := []) (rest := []) ⟨hx, hb, hml, hown, ht⟩ (c_J5_isLatin1_aae02 b v m n f H.size) (va_cwU (C := "java/lang/StringBuilder") (owner := "java/lang/AbstractStringBuilder") 0 ht (G_U q_965 q_967 q_968 q_966 q_66 q_969) rfl rfl rfl rfl jd_4 ⟨Nat.le_of_ble_eq_true rfl, Nat.le_of_ble_eq_true rfl⟩) ⟨JB.blind, J_recv hK hw (j := 0) rfl cl_11, JB.pre (N0 := []) (ws := [(b, .inr (11, [.ref v, .int 0, .int 0, .int (nI n)])), (v, .inl (cB, m, .inl f))]) hK hC hZ hw SL0⟩ rfl rfl hl.1 rfl (lv_room (Nat.le_of_ble_eq_true rfl)) dJ5_reverse_278bc_15 ⟨show 0 + 0 ≤ 0 by omega, show 0 + 0 ≤ 0 by omega⟩) (fun r4 u2 H locs hp3 hw => ?_)
  have hw : MW D [] [(b, .inr (11, [.ref v, .int 0, .int 0, .int (nI n)])), (v, .inl (cB, m, .inl f))] (va_A [(b, .inr (11, [.ref v, .int 0, .int 0, .int (nI n)])), (v, .inl (cB, m, .inl f))] s.heap.size) s H locs := hw
  rw [hp3]
  refine lv_if_eq (tgt := 68) hx hb dJ5_reverse_278bc_18 (by decide) (fun c9 => absurd c9 (by decide)) (fun c9 => ?_)
  refine lv_iload_n hx hb dJ5_reverse_278bc_21 rfl (lv_at hl 0 rfl) ?_
  refine lv_iconst (v := (1 : Int32)) hx hb dJ5_reverse_278bc_22 (by decide) ?_
  refine lv_isub hx hb dJ5_reverse_278bc_23 ?_
  refine lv_iconst (v := (1 : Int32)) hx hb dJ5_reverse_278bc_24 (by decide) ?_
  refine lv_ishr hx hb dJ5_reverse_278bc_25 ?_
  refine lv_topi (fun jj ej => ?_)
  obtain ⟨hj1, hj2⟩ := rv_j hn1 (by omega) ej
  refine lv_istore (lv' := [(4, .int jj), (3, .int (nI (n - 1))), (2, .int (nI n)), (1, .ref v), (0, .ref b)]) hx hb dJ5_reverse_278bc_26 hl (by decide) rfl (fun ls hl => ?_)
  have L28 : ∀ (k : Nat) (j : Int32) (g : Nat → Int32) (H : Heap) (locs : List Loc) (ls : Array Slot), (j.toInt + 1).toNat < k → -1 ≤ j.toInt → 2 * j.toInt + 2 ≤ n → FT g → MW D [] [(b, .inr (11, [.ref v, .int 0, .int 0, .int (nI n)])), (v, .inl (cB, m, .inl g))] (va_A [(b, .inr (11, [.ref v, .int 0, .int 0, .int (nI n)])), (v, .inl (cB, m, .inl f))] s.heap.size) s H locs → lv_has ls 7 [(4, .int j), (3, .int (nI (n - 1))), (1, .ref v), (0, .ref b)] → W p l e (RA 1 0 0) s mI #[.ref b] below meth c H locs (0 + 0) (0 + 0) Z (F0 mI 28 ls []) := by
    intro k
    induction k with
    | zero => intro j g H locs ls hk; exact absurd hk (Nat.not_lt_zero _)
    | succ k ih =>
      intro j g H locs ls hk h1 h2 hg hw hl
      refine lv_iload hx hb dJ5_reverse_278bc_28 (lv_at hl 0 rfl) ?_
      refine lv_if_lt (tgt := 65) hx hb dJ5_reverse_278bc_30 (by decide) (fun c9 => ?_) (fun c9 => ?_)
      · refine lv_goto (tgt := 73) hx hb dJ5_reverse_278bc_65 (by decide) ?_
        refine lv_aload_n hx hb dJ5_reverse_278bc_73 rfl (lv_at hl 3 rfl) ?_
        exact hret H locs ls 74 _ _ g b hw hg rfl (show 0 + 0 ≤ 0 by omega) (show 0 + 0 ≤ 0 by omega) dJ5_reverse_278bc_74
      · have hj0 : 0 ≤ j.toInt := by rw [Int32.lt_iff_toInt_lt, Int32.toInt_zero] at c9; omega
        refine lv_iload_n hx hb dJ5_reverse_278bc_33 rfl (lv_at hl 1 rfl) ?_
        refine lv_iload hx hb dJ5_reverse_278bc_34 (lv_at hl 0 rfl) ?_
        refine lv_isub hx hb dJ5_reverse_278bc_36 ?_
        refine lv_topi (fun kk ek => ?_)
        have hkk : kk.toInt = ((n - 1 : Nat) : Int) - j.toInt := by rw [ek]; exact ii_s (nI_toInt (by omega)) rfl (by omega) (by omega)
        refine lv_istore (lv' := [(5, .int kk), (4, .int j), (3, .int (nI (n - 1))), (1, .ref v), (0, .ref b)]) hx hb dJ5_reverse_278bc_37 hl (by decide) rfl (fun ls hl => ?_)
        refine lv_aload_n hx hb dJ5_reverse_278bc_39 rfl (lv_at hl 3 rfl) ?_
        refine lv_iload hx hb dJ5_reverse_278bc_40 (lv_at hl 1 rfl) ?_
        refine va_bald hx hb hK hw.1 1 0 rfl rfl (vin (by omega)) dJ5_reverse_278bc_42 ?_
        refine lv_istore (lv' := [(6, .int (g (j : Int32).toNatClampNeg)), (5, .int kk), (4, .int j), (3, .int (nI (n - 1))), (1, .ref v), (0, .ref b)]) hx hb dJ5_reverse_278bc_43 hl (by decide) rfl (fun ls hl => ?_)
        refine lv_aload_n hx hb dJ5_reverse_278bc_45 rfl (lv_at hl 4 rfl) ?_
        refine lv_iload hx hb dJ5_reverse_278bc_46 (lv_at hl 2 rfl) ?_
        refine lv_aload_n hx hb dJ5_reverse_278bc_48 rfl (lv_at hl 4 rfl) ?_
        refine lv_iload hx hb dJ5_reverse_278bc_49 (lv_at hl 1 rfl) ?_
        refine va_bald hx hb hK hw.1 1 0 rfl rfl (vin (by omega)) dJ5_reverse_278bc_51 ?_
        refine va_bast hx hb hK hw.1 hw.2.1 hw.2.2.1 1 0 rfl rfl (vin (by omega)) dJ5_reverse_278bc_52 (fun H locs hP hD hS => ?_)
        have hw : MW D [] [(b, .inr (11, [.ref v, .int 0, .int 0, .int (nI n)])), (v, .inl (cB, m, .inl (upd g (j : Int32).toNatClampNeg (vp_nar .byte (g (kk : Int32).toNatClampNeg)))))] (va_A [(b, .inr (11, [.ref v, .int 0, .int 0, .int (nI n)])), (v, .inl (cB, m, .inl f))] s.heap.size) s H locs := ⟨hP, hD, hS, hw.2.2.2⟩
        refine lv_aload_n hx hb dJ5_reverse_278bc_53 rfl (lv_at hl 4 rfl) ?_
        refine lv_iload hx hb dJ5_reverse_278bc_54 (lv_at hl 1 rfl) ?_
        refine lv_iload hx hb dJ5_reverse_278bc_56 (lv_at hl 0 rfl) ?_
        refine va_bast hx hb hK hw.1 hw.2.1 hw.2.2.1 1 0 rfl rfl (vin (by omega)) dJ5_reverse_278bc_58 (fun H locs hP hD hS => ?_)
        have hw : MW D [] [(b, .inr (11, [.ref v, .int 0, .int 0, .int (nI n)])), (v, .inl (cB, m, .inl (upd (upd g (j : Int32).toNatClampNeg (vp_nar .byte (g (kk : Int32).toNatClampNeg))) (kk : Int32).toNatClampNeg (vp_nar .byte (g (j : Int32).toNatClampNeg)))))] (va_A [(b, .inr (11, [.ref v, .int 0, .int 0, .int (nI n)])), (v, .inl (cB, m, .inl f))] s.heap.size) s H locs := ⟨hP, hD, hS, hw.2.2.2⟩
        obtain ⟨j2, ej2⟩ : ∃ z, j + Int32.ofInt (-1) = z := ⟨_, rfl⟩
        have hdj : j2.toInt = j.toInt - 1 := by
          rw [← ej2, show Int32.ofInt (-1) = -1 from rfl, ← Int32.sub_eq_add_neg]
          exact ii_s rfl rfl (by omega) (by omega)
        refine lv_iinc (v := j2) (lv' := [(4, .int j2), (6, .int (g (j : Int32).toNatClampNeg)), (5, .int kk), (3, .int (nI (n - 1))), (1, .ref v), (0, .ref b)]) hx hb dJ5_reverse_278bc_59 hl (k := 2) rfl ej2 (by decide) rfl (fun ls hl => ?_)
        refine lv_goto (tgt := 28) hx hb dJ5_reverse_278bc_62 (by decide) ?_
        exact ih j2 _ H locs ls (by omega) (by omega) (by omega) (FT.st (FT.st hg vnb) vnb) hw (lv_sub hl [0, 3, 4, 5] rfl)
  exact L28 _ jj f H locs ls (Nat.lt_succ_self _) (by omega) (by omega) hf hw (lv_sub hl [0, 1, 3, 4] rfl)

set_option maxHeartbeats 4000000 in
set_option maxRecDepth 100000 in
theorem c_J4_reverse_43fcb {l : Launch} {D : va_G} {cB : ClassId} (b v m n : Nat) (f : Nat → Int32)(sz : Nat) (hn1 : 1 ≤ n) (hnm : n ≤ m) (hm : m ≤ 100000) (hf : FT f) : JMr l yJ4_reverse_43fcb (.code yJ4_reverse_43fcb cJ4_reverse_43fcb 1 (Option.some (Jvm.ClassFile.FieldType.object "java/lang/StringBuilder"))) 2 0 0 [.ref b] D cB [(b, .inr (11, [.ref v, .int 0, .int 0, .int (nI n)])), (v, .inl (cB, m, .inl f))] [] sz (fun (u : (Nat → Int32)) => FT u) (fun (u : (Nat → Int32)) => b) (fun (u : (Nat → Int32)) => [bC b v n, bV cB v m u]) := by
  refine J_metr (by decide +kernel) (Nat.le_of_ble_eq_true rfl) (Or.inl ⟨_, rfl⟩) ?_
  intro p e s mI below meth c Z ls hx hb hml hown hin ht hK hC hZ hSL hw hret hl
  have hl : lv_has ls 1 [(0, .ref b)] := hl
  suffices hh : ∀ (H : Heap) (locs : List Loc), MW D [] [(b, .inr (11, [.ref v, .int 0, .int 0, .int (nI n)])), (v, .inl (cB, m, .inl f))] (va_A [(b, .inr (11, [.ref v, .int 0, .int 0, .int (nI n)])), (v, .inl (cB, m, .inl f))] s.heap.size) s H locs → W p l e (RA 2 0 0) s mI #[.ref b] below meth c H locs 0 0 Z (F0 mI 0 ls []) from hh _ _ hw
  intro H locs hw
  refine lv_aload_n hx hb dJ4_reverse_43fcb_0 rfl (lv_at hl 0 rfl) ?_
  obtain ⟨cS, hat⟩ := classAt_of (ht _ q_893)
  refine J_callr (N0 := []) (ws := [(b, .inr (11, [.ref v, .int 0, .int 0, .int (nI n)])), (v, .inl (cB, m, .inl f))]) hw (va_runSU hat (own := "java/lang/StringBuilder") (As := []) (rest := []) ⟨hx, hb, hml, hown, ht⟩ (c_J5_reverse_278bc b v m n f H.size hn1 hnm hm hf) (va_cwSU 0 ht (G_SU q_1258 q_1620 q_922 q_1259 q_66 q_1260) rfl rfl rfl ⟨by decide, by decide +kernel⟩ ⟨Nat.le_of_ble_eq_true rfl, Nat.le_of_ble_eq_true rfl⟩) ⟨JB.blind, J_recv hK hw (j := 0) rfl cl_11, JB.pre (N0 := []) (ws := [(b, .inr (11, [.ref v, .int 0, .int 0, .int (nI n)])), (v, .inl (cB, m, .inl f))]) hK hC hZ hw SL0⟩ rfl rfl hl.1 rfl (lv_room (Nat.le_of_ble_eq_true rfl)) dJ4_reverse_43fcb_1 ⟨show 0 + 0 ≤ 0 by omega, show 0 + 0 ≤ 0 by omega⟩) (fun u1 H locs hp2 hw => ?_)
  have hw : MW D [] [(b, .inr (11, [.ref v, .int 0, .int 0, .int (nI n)])), (v, .inl (cB, m, .inl u1))] (va_A [(b, .inr (11, [.ref v, .int 0, .int 0, .int (nI n)])), (v, .inl (cB, m, .inl f))] s.heap.size) s H locs := hw
  refine lv_pop hx hb dJ4_reverse_43fcb_4 rfl ?_
  refine lv_aload_n hx hb dJ4_reverse_43fcb_5 rfl (lv_at hl 0 rfl) ?_
  exact hret H locs ls 6 _ _ u1 b hw hp2 rfl (show 0 + 0 ≤ 0 by omega) (show 0 + 0 ≤ 0 by omega) dJ4_reverse_43fcb_6

set_option maxHeartbeats 4000000 in
set_option maxRecDepth 100000 in
theorem c_J5_getValue_6d5f1 {l : Launch} {D : va_G} {cB : ClassId} (b v m n : Nat) (f : Nat → Int32)(sz : Nat)  : JMr l yJ5_getValue_6d5f1 (.code yJ5_getValue_6d5f1 cJ5_getValue_6d5f1 1 (Option.some (Jvm.ClassFile.FieldType.array Jvm.ClassFile.FieldType.byte))) 0 0 0 [.ref b] D cB [(b, .inr (11, [.ref v, .int 0, .int 0, .int (nI n)])), (v, .inl (cB, m, .inl f))] [] sz (fun (u : Unit) => True) (fun (u : Unit) => v) (fun (u : Unit) => [bC b v n, bV cB v m f]) := by
  refine J_metr (by decide +kernel) (Nat.le_of_ble_eq_true rfl) (Or.inr ⟨_, rfl⟩) ?_
  intro p e s mI below meth c Z ls hx hb hml hown hin ht hK hC hZ hSL hw hret hl
  have hl : lv_has ls 1 [(0, .ref b)] := hl
  suffices hh : ∀ (H : Heap) (locs : List Loc), MW D [] [(b, .inr (11, [.ref v, .int 0, .int 0, .int (nI n)])), (v, .inl (cB, m, .inl f))] (va_A [(b, .inr (11, [.ref v, .int 0, .int 0, .int (nI n)])), (v, .inl (cB, m, .inl f))] s.heap.size) s H locs → W p l e (RA 0 0 0) s mI #[.ref b] below meth c H locs 0 0 Z (F0 mI 0 ls []) from hh _ _ hw
  intro H locs hw
  refine lv_aload_n hx hb dJ5_getValue_6d5f1_0 rfl (lv_at hl 0 rfl) ?_
  refine va_get hx hb ht in_11 hown hK hw.1 0 rfl cl_11 0 (by decide) (ht _ q_910) (fun _ h => h) rfl dJ5_getValue_6d5f1_1 ?_
  exact hret H locs ls 4 _ _ () v hw trivial rfl (show 0 ≤ 0 by omega) (show 0 ≤ 0 by omega) dJ5_getValue_6d5f1_4

set_option maxHeartbeats 4000000 in
set_option maxRecDepth 100000 in
theorem c_J5_length_8abf5 {l : Launch} {D : va_G} {cB : ClassId} (b v m n : Nat) (f : Nat → Int32)(sz : Nat)  : JMi l yJ5_length_8abf5 (.code yJ5_length_8abf5 cJ5_length_8abf5 1 (Option.some Jvm.ClassFile.FieldType.int)) 0 0 0 [.ref b] D cB [(b, .inr (11, [.ref v, .int 0, .int 0, .int (nI n)])), (v, .inl (cB, m, .inl f))] [] sz (fun (r : Int32) (u : Unit) => r = nI n) (fun (u : Unit) => [bC b v n, bV cB v m f]) := by
  refine J_meti (by decide +kernel) (Nat.le_of_ble_eq_true rfl) ?_
  intro p e s mI below meth c Z ls hx hb hml hown hin ht hK hC hZ hSL hw hret hl
  have hl : lv_has ls 1 [(0, .ref b)] := hl
  suffices hh : ∀ (H : Heap) (locs : List Loc), MW D [] [(b, .inr (11, [.ref v, .int 0, .int 0, .int (nI n)])), (v, .inl (cB, m, .inl f))] (va_A [(b, .inr (11, [.ref v, .int 0, .int 0, .int (nI n)])), (v, .inl (cB, m, .inl f))] s.heap.size) s H locs → W p l e (RA 0 0 0) s mI #[.ref b] below meth c H locs 0 0 Z (F0 mI 0 ls []) from hh _ _ hw
  intro H locs hw
  refine lv_aload_n hx hb dJ5_length_8abf5_0 rfl (lv_at hl 0 rfl) ?_
  refine va_get hx hb ht in_11 hown hK hw.1 0 rfl cl_11 3 (by decide) (ht _ q_913) (fun _ h => h) rfl dJ5_length_8abf5_1 ?_
  exact hret H locs ls 4 _ _ (nI n) () hw rfl rfl (show 0 ≤ 0 by omega) (show 0 ≤ 0 by omega) dJ5_length_8abf5_4

set_option maxHeartbeats 4000000 in
set_option maxRecDepth 100000 in
theorem c_J7_checkLength_df160 {l : Launch} {D : va_G} {cB : ClassId} (n : Nat)(sz : Nat) (hn : n ≤ 100000) : JMv l yJ7_checkLength_df160 (.code yJ7_checkLength_df160 cJ7_checkLength_df160 2 (Option.none : Option Jvm.ClassFile.FieldType)) 0 0 0 [.int (0 : Int32), .int (nI n)] D cB [] [] sz (fun (u : Unit) => True) (fun (u : Unit) => []) := by
  refine J_metv (by decide +kernel) (Nat.le_of_ble_eq_true rfl) ?_
  intro p e s mI below meth c Z ls hx hb hml hown hin ht hK hC hZ hSL hw hret hl
  have hl : lv_has ls 2 [(0, .int (0 : Int32)), (1, .int (nI n))] := hl
  suffices hh : ∀ (H : Heap) (locs : List Loc), MW D [] [] (va_A [] s.heap.size) s H locs → W p l e (RA 0 0 0) s mI #[.int (0 : Int32), .int (nI n)] below meth c H locs 0 0 Z (F0 mI 0 ls []) from hh _ _ hw
  intro H locs hw
  refine lv_iload_n hx hb dJ7_checkLength_df160_0 rfl (lv_at hl 1 rfl) ?_
  refine lv_iload_n hx hb dJ7_checkLength_df160_1 rfl (lv_at hl 0 rfl) ?_
  refine lv_icmp_ge (tgt := 37) hx hb dJ7_checkLength_df160_2 (by decide) (fun c9 => ?_) (fun c9 => absurd (nI_pos' (by omega)) c9)
  exact hret H locs ls 37 _ _ () hw trivial (show 0 ≤ 0 by omega) (show 0 ≤ 0 by omega) dJ7_checkLength_df160_37

theorem cr_min {m n : Nat} (h : n ≤ m) (hm : m < 2 ^ 31) : (if nI n < nI m then nI n else nI m) = nI n := by
  rcases Nat.lt_or_ge n m with z | z
  · exact if_pos (nI_lt z hm)
  · rw [show m = n by omega, if_neg (nI_nlt (Nat.le_refl _) (by omega))]

set_option maxHeartbeats 4000000 in
set_option maxRecDepth 100000 in
theorem c_J7_copyOfRangeByte_39247 {l : Launch} {D : va_G} {cB : ClassId} (v m n : Nat) (f : Nat → Int32)(sz : Nat) (hnm : n ≤ m) (hm : m ≤ 100000) (hf : FT f) : JMr l yJ7_copyOfRangeByte_39247 (.code yJ7_copyOfRangeByte_39247 cJ7_copyOfRangeByte_39247 5 (Option.some (Jvm.ClassFile.FieldType.array Jvm.ClassFile.FieldType.byte))) 1 1 n [.ref v, .int (0 : Int32), .int (nI n)] D cB [(v, .inl (cB, m, .inl f))] [] sz (fun (u : Nat × (Nat → Int32)) => FT u.2) (fun (u : Nat × (Nat → Int32)) => u.1) (fun (u : Nat × (Nat → Int32)) => [bV cB v m f, bV cB u.1 n u.2]) := by
  refine J_metr (by decide +kernel) (Nat.le_of_ble_eq_true rfl) (Or.inr ⟨_, rfl⟩) ?_
  intro p e s mI below meth c Z ls hx hb hml hown hin ht hK hC hZ hSL hw hret hl
  have hl : lv_has ls 5 [(0, .ref v), (1, .int (0 : Int32)), (2, .int (nI n))] := hl
  suffices hh : ∀ (H : Heap) (locs : List Loc), MW D [] [(v, .inl (cB, m, .inl f))] (va_A [(v, .inl (cB, m, .inl f))] s.heap.size) s H locs → W p l e (RA 1 1 n) s mI #[.ref v, .int (0 : Int32), .int (nI n)] below meth c H locs 0 0 Z (F0 mI 0 ls []) from hh _ _ hw
  intro H locs hw
  refine lv_iload_n hx hb dJ7_copyOfRangeByte_39247_0 rfl (lv_at hl 1 rfl) ?_
  refine lv_iload_n hx hb dJ7_copyOfRangeByte_39247_1 rfl (lv_at hl 2 rfl) ?_
  refine J_callv (N0 := [(v, .inl (cB, m, .inl f))]) (ws := []) hw (va_runS (own := "java/util/Arrays") (As := [.int (0 : Int32), .int (nI n)]) (rest := []) ⟨hx, hb, hml, hown, ht⟩ (c_J7_checkLength_df160 n H.size (by omega)) (va_cwS 2 ht (G_S q_1086 q_1087 q_71 q_1088) rfl rfl rfl jd_17 ⟨Nat.le_of_ble_eq_true rfl, Nat.le_of_ble_eq_true rfl⟩) ⟨JB.blind, JB.pre (N0 := [(v, .inl (cB, m, .inl f))]) (ws := []) hK hC hZ hw SL0⟩ rfl rfl hl.1 rfl (lv_room (Nat.le_of_ble_eq_true rfl)) dJ7_copyOfRangeByte_39247_2 ⟨show 0 + 0 ≤ 1 by omega, show 0 + 0 ≤ n by omega⟩) (fun u1 H locs hp2 hw => ?_)
  have hw : MW D [] [(v, .inl (cB, m, .inl f))] (va_A [(v, .inl (cB, m, .inl f))] s.heap.size) s H locs := hw
  refine lv_iload_n hx hb dJ7_copyOfRangeByte_39247_5 rfl (lv_at hl 2 rfl) ?_
  refine lv_iload_n hx hb dJ7_copyOfRangeByte_39247_6 rfl (lv_at hl 1 rfl) ?_
  refine lv_isub hx hb dJ7_copyOfRangeByte_39247_7 ?_
  refine lv_topi (fun x4 ex4 => ?_)
  rw [show x4 = (nI n) from ex4.trans (pk_sub (b := 0) (by omega))]
  refine lv_istore_n (lv' := [(3, .int (nI n)), (0, .ref v), (1, .int (0 : Int32)), (2, .int (nI n))]) hx hb dJ7_copyOfRangeByte_39247_8 rfl hl (by decide) rfl (fun ls hl => ?_)
  refine lv_iload_n hx hb dJ7_copyOfRangeByte_39247_9 rfl (lv_at hl 0 rfl) ?_
  refine n_newB (B := n) hx hb ht q_385 hK hw (n := (nI n)) (⟨nI_pos (by omega), nI_clamp (by omega)⟩) (by omega) (show 0 + 0 + 1 ≤ 1 by omega) (show 0 + 0 + n ≤ n by omega) dJ7_copyOfRangeByte_39247_10 (fun q5 H hq5 hw => ?_)
  have hw : MW D [] [(v, .inl (cB, m, .inl f)), (q5, .inl (cB, n, .inl (fun _ => 0)))] (va_A [(v, .inl (cB, m, .inl f))] s.heap.size) s H locs := hw
  refine lv_astore (lv' := [(4, .ref q5), (3, .int (nI n)), (0, .ref v), (1, .int (0 : Int32)), (2, .int (nI n))]) hx hb dJ7_copyOfRangeByte_39247_12 hl (by decide) rfl (fun ls hl => ?_)
  refine lv_aload_n hx hb dJ7_copyOfRangeByte_39247_14 rfl (lv_at hl 2 rfl) ?_
  refine lv_iload_n hx hb dJ7_copyOfRangeByte_39247_15 rfl (lv_at hl 3 rfl) ?_
  refine lv_aload hx hb dJ7_copyOfRangeByte_39247_16 (lv_at hl 0 rfl) ?_
  refine lv_iconst (v := (0 : Int32)) hx hb dJ7_copyOfRangeByte_39247_18 (by decide) ?_
  refine lv_aload_n hx hb dJ7_copyOfRangeByte_39247_19 rfl (lv_at hl 2 rfl) ?_
  refine va_alen hx hb hK hw.1 0 0 (x := (m, .inl f)) rfl rfl rfl dJ7_copyOfRangeByte_39247_20 ?_
  refine lv_iload_n hx hb dJ7_copyOfRangeByte_39247_21 rfl (lv_at hl 3 rfl) ?_
  refine lv_isub hx hb dJ7_copyOfRangeByte_39247_22 ?_
  refine lv_topi (fun x6 ex6 => ?_)
  rw [show x6 = (nI m) from ex6.trans (pk_sub (b := 0) (by omega))]
  refine lv_iload_n hx hb dJ7_copyOfRangeByte_39247_23 rfl (lv_at hl 1 rfl) ?_
  refine va_mmin hx hb (hml.trans hl.1.symm) hown (ht _ q_959) (ht _ q_960) (ht _ q_64) (ht _ q_961) (Nat.le_of_ble_eq_true rfl) (Nat.le_of_ble_eq_true rfl) (show 0 + 0 + 1 ≤ 1 by omega) (show 0 + 0 + n ≤ n by omega) dJ7_copyOfRangeByte_39247_24 ?_
  refine lv_topi (fun x7 ex7 => ?_)
  rw [show x7 = (nI n) from ex7.trans (cr_min hnm (by omega))]
  refine va_copyi hx hb (hml.trans hl.1.symm) hown (ht _ q_962) (ht _ q_964) (ht _ q_963) (ht _ q_72) hK hw.1 hw.2.1 hw.2.2.1 0 1 0 0 rfl rfl rfl rfl rfl (by decide) (by decide) (nI_pos (by omega)) (by rw [nI_clamp (by omega)]; show 0 + n ≤ m; omega) (by rw [nI_clamp (by omega)]; show 0 + n ≤ n; omega) (fun i _ => hf _) (Nat.le_of_ble_eq_true rfl) (Nat.le_of_ble_eq_true rfl) dJ7_copyOfRangeByte_39247_27 (fun H locs hP hD hS => ?_)
  have hw : MW D [] [(v, .inl (cB, m, .inl f)), (q5, .inl (cB, n, .inl (va_cpy f (fun _ => 0) ((0 : Int32) : Int32).toNatClampNeg ((0 : Int32) : Int32).toNatClampNeg ((nI n) : Int32).toNatClampNeg)))] (va_A [(v, .inl (cB, m, .inl f))] s.heap.size) s H locs := ⟨hP, hD, hS, hw.2.2.2⟩
  refine lv_aload hx hb dJ7_copyOfRangeByte_39247_30 (lv_at hl 0 rfl) ?_
  exact hret H locs ls 32 _ _ (q5, (va_cpy f (fun _ => 0) ((0 : Int32) : Int32).toNatClampNeg ((0 : Int32) : Int32).toNatClampNeg ((nI n) : Int32).toNatClampNeg)) q5 hw (FT.cpy hf FT0) rfl (show 0 + 0 + 1 ≤ 1 by omega) (show 0 + 0 + n ≤ n by omega) dJ7_copyOfRangeByte_39247_32

theorem FTc {cA : ClassId} {m : Nat} {f : Nat → Int32} (hf : FT f) : ∀ (i : Nat) (v : Value), (vp_cell cA (m, .inl f)).slots[i]? = some v → fits .byte v = true := fun i v h => by
  rw [vp_cell_i] at h
  have hl := (Array.getElem?_eq_some_iff.mp h).1
  rw [arrV_size] at hl
  rw [arrV_read _ _ hl] at h
  cases h
  exact hf i

set_option maxHeartbeats 4000000 in
set_option maxRecDepth 100000 in
theorem c_J7_copyOfRange_39247 {l : Launch} {D : va_G} {cB : ClassId} (v m n : Nat) (f : Nat → Int32)(sz : Nat) (hnm : n ≤ m) (hm : m ≤ 100000) (hf : FT f) : JMr l yJ7_copyOfRange_39247 (.code yJ7_copyOfRange_39247 cJ7_copyOfRange_39247 3 (Option.some (Jvm.ClassFile.FieldType.array Jvm.ClassFile.FieldType.byte))) 2 1 n [.ref v, .int (0 : Int32), .int (nI n)] D cB [(v, .inl (cB, m, .inl f))] [] sz (fun (u : Nat × (Nat → Int32)) => FT u.2) (fun (u : Nat × (Nat → Int32)) => u.1) (fun (u : Nat × (Nat → Int32)) => [bV cB v m f, bV cB u.1 n u.2]) := by
  refine J_metr (by decide +kernel) (Nat.le_of_ble_eq_true rfl) (Or.inr ⟨_, rfl⟩) ?_
  intro p e s mI below meth c Z ls hx hb hml hown hin ht hK hC hZ hSL hw hret hl
  have hl : lv_has ls 3 [(0, .ref v), (1, .int (0 : Int32)), (2, .int (nI n))] := hl
  suffices hh : ∀ (H : Heap) (locs : List Loc), MW D [] [(v, .inl (cB, m, .inl f))] (va_A [(v, .inl (cB, m, .inl f))] s.heap.size) s H locs → W p l e (RA 2 1 n) s mI #[.ref v, .int (0 : Int32), .int (nI n)] below meth c H locs 0 0 Z (F0 mI 0 ls []) from hh _ _ hw
  intro H locs hw
  refine lv_iload_n hx hb dJ7_copyOfRange_39247_0 rfl (lv_at hl 1 rfl) ?_
  refine lv_if_ne (tgt := 10) hx hb dJ7_copyOfRange_39247_1 (by decide) (fun c9 => absurd c9 (by decide)) (fun c9 => ?_)
  refine lv_iload_n hx hb dJ7_copyOfRange_39247_4 rfl (lv_at hl 2 rfl) ?_
  refine lv_aload_n hx hb dJ7_copyOfRange_39247_5 rfl (lv_at hl 0 rfl) ?_
  refine va_alen hx hb hK hw.1 0 0 (x := (m, .inl f)) rfl rfl rfl dJ7_copyOfRange_39247_6 ?_
  refine lv_icmp_eq (tgt := 17) hx hb dJ7_copyOfRange_39247_7 (by decide) (fun c9 => ?_) (fun c9 => ?_)
  · have e9 : n = m := (nI_eq (by omega) (by omega)).mp c9
    refine lv_aload_n hx hb dJ7_copyOfRange_39247_17 rfl (lv_at hl 0 rfl) ?_
    refine va_clone hx hb (hml.trans hl.1.symm) hown (ht _ q_952) (ht _ q_953) (ht _ q_954) (ht _ q_955) (ht _ q_956) hC.1 hK hw.1 hw.2.1 hw.2.2.1 hw.2.2.2 0 0 rfl rfl (hK.2 0 _ rfl).2 (FTc hf) (Nat.le_of_ble_eq_true rfl) (Nat.le_of_ble_eq_true rfl) (show 0 + 1 ≤ 1 by omega) (show 0 + m ≤ n by omega) dJ7_copyOfRange_39247_18 (fun q1 H _ hP hD hS => ?_)
    have hw : MW D [] [(v, .inl (cB, m, .inl f)), (q1, .inl (cB, m, .inl f))] (va_A [(v, .inl (cB, m, .inl f))] s.heap.size) s H locs := ⟨hP, hD, hS, hw.2.2.2⟩
    refine va_castA hx hb hown (ht _ q_958) hw.1 1 rfl (hK.2 0 _ rfl).2 dJ7_copyOfRange_39247_21 ?_
    subst e9
    exact hret H locs ls 24 _ _ (q1, f) q1 hw hf rfl (show 0 + 1 ≤ 1 by omega) (show 0 + n ≤ n by omega) dJ7_copyOfRange_39247_24
  · refine lv_aload_n hx hb dJ7_copyOfRange_39247_10 rfl (lv_at hl 0 rfl) ?_
    refine lv_iload_n hx hb dJ7_copyOfRange_39247_11 rfl (lv_at hl 1 rfl) ?_
    refine lv_iload_n hx hb dJ7_copyOfRange_39247_12 rfl (lv_at hl 2 rfl) ?_
    refine J_callr (N0 := []) (ws := [(v, .inl (cB, m, .inl f))]) hw (va_runS (own := "java/util/Arrays") (As := [.ref v, .int (0 : Int32), .int (nI n)]) (rest := []) ⟨hx, hb, hml, hown, ht⟩ (c_J7_copyOfRangeByte_39247 v m n f H.size hnm hm hf) (va_cwS 3 ht (G_S q_1083 q_1084 q_71 q_1085) rfl rfl rfl jd_18 ⟨Nat.le_of_ble_eq_true rfl, Nat.le_of_ble_eq_true rfl⟩) ⟨JB.blind, JB.pre (N0 := []) (ws := [(v, .inl (cB, m, .inl f))]) hK hC hZ hw SL0⟩ rfl rfl hl.1 rfl (lv_room (Nat.le_of_ble_eq_true rfl)) dJ7_copyOfRange_39247_13 ⟨show 0 + 1 ≤ 1 by omega, show 0 + n ≤ n by omega⟩) (fun u1 H locs hp2 hw => ?_)
    obtain ⟨v1, f1⟩ := u1
    have hw : MW D [] [(v, .inl (cB, m, .inl f)), (v1, .inl (cB, n, .inl f1))] (va_A [(v, .inl (cB, m, .inl f))] s.heap.size) s H locs := hw
    exact hret H locs ls 16 _ _ (v1, f1) v1 hw hp2 rfl (show 0 + 1 ≤ 1 by omega) (show 0 + n ≤ n by omega) dJ7_copyOfRange_39247_16
