theorem dX9_machineAt_0 : decode cX9_machineAt 0 = .ok (.iload_n 1, 1) := by decide +kernel
theorem dX9_machineAt_1 : decode cX9_machineAt 1 = .ok (.ifCond .lt 12, 3) := by decide +kernel
theorem dX9_machineAt_4 : decode cX9_machineAt 4 = .ok (.iload_n 1, 1) := by decide +kernel
theorem dX9_machineAt_5 : decode cX9_machineAt 5 = .ok (.aload_n 0, 1) := by decide +kernel
theorem dX9_machineAt_6 : decode cX9_machineAt 6 = .ok (.getfield 11, 3) := by decide +kernel
theorem dX9_machineAt_9 : decode cX9_machineAt 9 = .ok (.arraylength, 1) := by decide +kernel
theorem dX9_machineAt_10 : decode cX9_machineAt 10 = .ok (.if_icmp .lt 14, 3) := by decide +kernel
theorem dX9_machineAt_13 : decode cX9_machineAt 13 = .ok (.new 272, 3) := by decide +kernel
theorem dX9_machineAt_16 : decode cX9_machineAt 16 = .ok (.dup, 1) := by decide +kernel
theorem dX9_machineAt_17 : decode cX9_machineAt 17 = .ok (.ldc_w 274, 3) := by decide +kernel
theorem dX9_machineAt_20 : decode cX9_machineAt 20 = .ok (.invokespecial 276, 3) := by decide +kernel
theorem dX9_machineAt_23 : decode cX9_machineAt 23 = .ok (.athrow, 1) := by decide +kernel
theorem dX9_machineAt_24 : decode cX9_machineAt 24 = .ok (.aload_n 0, 1) := by decide +kernel
theorem dX9_machineAt_25 : decode cX9_machineAt 25 = .ok (.getfield 11, 3) := by decide +kernel
theorem dX9_machineAt_28 : decode cX9_machineAt 28 = .ok (.iload_n 1, 1) := by decide +kernel
theorem dX9_machineAt_29 : decode cX9_machineAt 29 = .ok (.aaload, 1) := by decide +kernel
theorem dX9_machineAt_30 : decode cX9_machineAt 30 = .ok (.areturn, 1) := by decide +kernel
theorem dX9_checkRange_0 : decode cX9_checkRange 0 = .ok (.iload_n 0, 1) := by decide +kernel
theorem dX9_checkRange_1 : decode cX9_checkRange 1 = .ok (.iload_n 1, 1) := by decide +kernel
theorem dX9_checkRange_2 : decode cX9_checkRange 2 = .ok (.if_icmp .lt 8, 3) := by decide +kernel
theorem dX9_checkRange_5 : decode cX9_checkRange 5 = .ok (.iload_n 0, 1) := by decide +kernel
theorem dX9_checkRange_6 : decode cX9_checkRange 6 = .ok (.iload_n 2, 1) := by decide +kernel
theorem dX9_checkRange_7 : decode cX9_checkRange 7 = .ok (.if_icmp .le 14, 3) := by decide +kernel
theorem dX9_checkRange_10 : decode cX9_checkRange 10 = .ok (.new 212, 3) := by decide +kernel
theorem dX9_checkRange_13 : decode cX9_checkRange 13 = .ok (.dup, 1) := by decide +kernel
theorem dX9_checkRange_14 : decode cX9_checkRange 14 = .ok (.ldc_w 282, 3) := by decide +kernel
theorem dX9_checkRange_17 : decode cX9_checkRange 17 = .ok (.invokespecial 216, 3) := by decide +kernel
theorem dX9_checkRange_20 : decode cX9_checkRange 20 = .ok (.athrow, 1) := by decide +kernel
theorem dX9_checkRange_21 : decode cX9_checkRange 21 = .ok (.return_, 1) := by decide +kernel
theorem dX9_begin_0 : decode cX9_begin 0 = .ok (.aload_n 0, 1) := by decide +kernel
theorem dX9_begin_1 : decode cX9_begin 1 = .ok (.iload_n 1, 1) := by decide +kernel
theorem dX9_begin_2 : decode cX9_begin 2 = .ok (.invokevirtual 69, 3) := by decide +kernel
theorem dX9_begin_5 : decode cX9_begin 5 = .ok (.astore_n 3, 1) := by decide +kernel
theorem dX9_begin_6 : decode cX9_begin 6 = .ok (.iload_n 2, 1) := by decide +kernel
theorem dX9_begin_7 : decode cX9_begin 7 = .ok (.iconst 1, 1) := by decide +kernel
theorem dX9_begin_8 : decode cX9_begin 8 = .ok (.bipush 7, 2) := by decide +kernel
theorem dX9_begin_10 : decode cX9_begin 10 = .ok (.invokestatic 73, 3) := by decide +kernel
theorem dX9_begin_13 : decode cX9_begin 13 = .ok (.aload_n 3, 1) := by decide +kernel
theorem dX9_begin_14 : decode cX9_begin 14 = .ok (.invokevirtual 77, 3) := by decide +kernel
theorem dX9_begin_17 : decode cX9_begin 17 = .ok (.istore 4, 2) := by decide +kernel
theorem dX9_begin_19 : decode cX9_begin 19 = .ok (.aload_n 3, 1) := by decide +kernel
theorem dX9_begin_20 : decode cX9_begin 20 = .ok (.iload_n 2, 1) := by decide +kernel
theorem dX9_begin_21 : decode cX9_begin 21 = .ok (.invokevirtual 81, 3) := by decide +kernel
theorem dX9_begin_24 : decode cX9_begin 24 = .ok (.aload_n 0, 1) := by decide +kernel
theorem dX9_begin_25 : decode cX9_begin 25 = .ok (.iload 4, 2) := by decide +kernel
theorem dX9_begin_27 : decode cX9_begin 27 = .ok (.invokevirtual 84, 3) := by decide +kernel
theorem dX9_begin_30 : decode cX9_begin 30 = .ok (.ireturn, 1) := by decide +kernel
theorem dX9_checkState_0 : decode cX9_checkState 0 = .ok (.iload_n 1, 1) := by decide +kernel
theorem dX9_checkState_1 : decode cX9_checkState 1 = .ok (.ifCond .lt 11, 3) := by decide +kernel
theorem dX9_checkState_4 : decode cX9_checkState 4 = .ok (.iload_n 1, 1) := by decide +kernel
theorem dX9_checkState_5 : decode cX9_checkState 5 = .ok (.aload_n 0, 1) := by decide +kernel
theorem dX9_checkState_6 : decode cX9_checkState 6 = .ok (.getfield 151, 3) := by decide +kernel
theorem dX9_checkState_9 : decode cX9_checkState 9 = .ok (.if_icmp .lt 14, 3) := by decide +kernel
theorem dX9_checkState_12 : decode cX9_checkState 12 = .ok (.new 272, 3) := by decide +kernel
theorem dX9_checkState_15 : decode cX9_checkState 15 = .ok (.dup, 1) := by decide +kernel
theorem dX9_checkState_16 : decode cX9_checkState 16 = .ok (.ldc_w 277, 3) := by decide +kernel
theorem dX9_checkState_19 : decode cX9_checkState 19 = .ok (.invokespecial 276, 3) := by decide +kernel
theorem dX9_checkState_22 : decode cX9_checkState 22 = .ok (.athrow, 1) := by decide +kernel
theorem dX9_checkState_23 : decode cX9_checkState 23 = .ok (.return_, 1) := by decide +kernel
theorem dX9_checkSign_0 : decode cX9_checkSign 0 = .ok (.iload_n 0, 1) := by decide +kernel
theorem dX9_checkSign_1 : decode cX9_checkSign 1 = .ok (.iconst 0, 1) := by decide +kernel
theorem dX9_checkSign_2 : decode cX9_checkSign 2 = .ok (.iconst 2, 1) := by decide +kernel
theorem dX9_checkSign_3 : decode cX9_checkSign 3 = .ok (.invokestatic 73, 3) := by decide +kernel
theorem dX9_checkSign_6 : decode cX9_checkSign 6 = .ok (.return_, 1) := by decide +kernel
theorem dX9_arrow_0 : decode cX9_arrow 0 = .ok (.aload_n 0, 1) := by decide +kernel
theorem dX9_arrow_1 : decode cX9_arrow 1 = .ok (.iload_n 1, 1) := by decide +kernel
theorem dX9_arrow_2 : decode cX9_arrow 2 = .ok (.invokevirtual 69, 3) := by decide +kernel
theorem dX9_arrow_5 : decode cX9_arrow 5 = .ok (.astore 6, 2) := by decide +kernel
theorem dX9_arrow_7 : decode cX9_arrow 7 = .ok (.aload 6, 2) := by decide +kernel
theorem dX9_arrow_9 : decode cX9_arrow 9 = .ok (.iload_n 2, 1) := by decide +kernel
theorem dX9_arrow_10 : decode cX9_arrow 10 = .ok (.invokestatic 88, 3) := by decide +kernel
theorem dX9_arrow_13 : decode cX9_arrow 13 = .ok (.aload 6, 2) := by decide +kernel
theorem dX9_arrow_15 : decode cX9_arrow 15 = .ok (.iload 4, 2) := by decide +kernel
theorem dX9_arrow_17 : decode cX9_arrow 17 = .ok (.invokestatic 88, 3) := by decide +kernel
theorem dX9_arrow_20 : decode cX9_arrow 20 = .ok (.iload_n 3, 1) := by decide +kernel
theorem dX9_arrow_21 : decode cX9_arrow 21 = .ok (.invokestatic 92, 3) := by decide +kernel
theorem dX9_arrow_24 : decode cX9_arrow 24 = .ok (.aload 6, 2) := by decide +kernel
theorem dX9_arrow_26 : decode cX9_arrow 26 = .ok (.iload_n 2, 1) := by decide +kernel
theorem dX9_arrow_27 : decode cX9_arrow 27 = .ok (.iload_n 3, 1) := by decide +kernel
theorem dX9_arrow_28 : decode cX9_arrow 28 = .ok (.invokevirtual 95, 3) := by decide +kernel
theorem dX9_arrow_31 : decode cX9_arrow 31 = .ok (.istore 7, 2) := by decide +kernel
theorem dX9_arrow_33 : decode cX9_arrow 33 = .ok (.iload 7, 2) := by decide +kernel
theorem dX9_arrow_35 : decode cX9_arrow 35 = .ok (.iload 4, 2) := by decide +kernel
theorem dX9_arrow_37 : decode cX9_arrow 37 = .ok (.iload 5, 2) := by decide +kernel
theorem dX9_arrow_39 : decode cX9_arrow 39 = .ok (.invokestatic 99, 3) := by decide +kernel
theorem dX9_arrow_42 : decode cX9_arrow 42 = .ok (.istore 8, 2) := by decide +kernel
theorem dX9_arrow_44 : decode cX9_arrow 44 = .ok (.aload 6, 2) := by decide +kernel
theorem dX9_arrow_46 : decode cX9_arrow 46 = .ok (.iload_n 2, 1) := by decide +kernel
theorem dX9_arrow_47 : decode cX9_arrow 47 = .ok (.iload_n 3, 1) := by decide +kernel
theorem dX9_arrow_48 : decode cX9_arrow 48 = .ok (.iload 8, 2) := by decide +kernel
theorem dX9_arrow_50 : decode cX9_arrow 50 = .ok (.invokevirtual 103, 3) := by decide +kernel
theorem dX9_arrow_53 : decode cX9_arrow 53 = .ok (.aload_n 0, 1) := by decide +kernel
theorem dX9_arrow_54 : decode cX9_arrow 54 = .ok (.iload 8, 2) := by decide +kernel
theorem dX9_arrow_56 : decode cX9_arrow 56 = .ok (.iload 7, 2) := by decide +kernel
theorem dX9_arrow_58 : decode cX9_arrow 58 = .ok (.if_icmp .eq 7, 3) := by decide +kernel
theorem dX9_arrow_61 : decode cX9_arrow 61 = .ok (.iconst 1, 1) := by decide +kernel
theorem dX9_arrow_62 : decode cX9_arrow 62 = .ok (.goto 4, 3) := by decide +kernel
theorem dX9_arrow_65 : decode cX9_arrow 65 = .ok (.iconst 0, 1) := by decide +kernel
theorem dX9_arrow_66 : decode cX9_arrow 66 = .ok (.invokevirtual 84, 3) := by decide +kernel
theorem dX9_arrow_69 : decode cX9_arrow 69 = .ok (.ireturn, 1) := by decide +kernel
theorem dX9_lead_0 : decode cX9_lead 0 = .ok (.aload_n 0, 1) := by decide +kernel
theorem dX9_lead_1 : decode cX9_lead 1 = .ok (.iload_n 1, 1) := by decide +kernel
theorem dX9_lead_2 : decode cX9_lead 2 = .ok (.invokevirtual 69, 3) := by decide +kernel
theorem dX9_lead_5 : decode cX9_lead 5 = .ok (.astore 5, 2) := by decide +kernel
theorem dX9_lead_7 : decode cX9_lead 7 = .ok (.aload 5, 2) := by decide +kernel
theorem dX9_lead_9 : decode cX9_lead 9 = .ok (.iload_n 2, 1) := by decide +kernel
theorem dX9_lead_10 : decode cX9_lead 10 = .ok (.invokestatic 88, 3) := by decide +kernel
theorem dX9_lead_13 : decode cX9_lead 13 = .ok (.aload 5, 2) := by decide +kernel
theorem dX9_lead_15 : decode cX9_lead 15 = .ok (.iload 4, 2) := by decide +kernel
theorem dX9_lead_17 : decode cX9_lead 17 = .ok (.invokestatic 88, 3) := by decide +kernel
theorem dX9_lead_20 : decode cX9_lead 20 = .ok (.iload_n 3, 1) := by decide +kernel
theorem dX9_lead_21 : decode cX9_lead 21 = .ok (.invokestatic 92, 3) := by decide +kernel
theorem dX9_lead_24 : decode cX9_lead 24 = .ok (.aload 5, 2) := by decide +kernel
theorem dX9_lead_26 : decode cX9_lead 26 = .ok (.iload_n 2, 1) := by decide +kernel
theorem dX9_lead_27 : decode cX9_lead 27 = .ok (.iload_n 3, 1) := by decide +kernel
theorem dX9_lead_28 : decode cX9_lead 28 = .ok (.invokevirtual 95, 3) := by decide +kernel
theorem dX9_lead_31 : decode cX9_lead 31 = .ok (.istore 6, 2) := by decide +kernel
theorem dX9_lead_33 : decode cX9_lead 33 = .ok (.aload 5, 2) := by decide +kernel
theorem dX9_lead_35 : decode cX9_lead 35 = .ok (.iload_n 2, 1) := by decide +kernel
theorem dX9_lead_36 : decode cX9_lead 36 = .ok (.iload_n 3, 1) := by decide +kernel
theorem dX9_lead_37 : decode cX9_lead 37 = .ok (.iconst 1, 1) := by decide +kernel
theorem dX9_lead_38 : decode cX9_lead 38 = .ok (.iload 4, 2) := by decide +kernel
theorem dX9_lead_40 : decode cX9_lead 40 = .ok (.ishl, 1) := by decide +kernel
theorem dX9_lead_41 : decode cX9_lead 41 = .ok (.invokevirtual 103, 3) := by decide +kernel
theorem dX9_lead_44 : decode cX9_lead 44 = .ok (.aload_n 0, 1) := by decide +kernel
theorem dX9_lead_45 : decode cX9_lead 45 = .ok (.iload 6, 2) := by decide +kernel
theorem dX9_lead_47 : decode cX9_lead 47 = .ok (.invokestatic 106, 3) := by decide +kernel
theorem dX9_lead_50 : decode cX9_lead 50 = .ok (.invokevirtual 84, 3) := by decide +kernel
theorem dX9_lead_53 : decode cX9_lead 53 = .ok (.ireturn, 1) := by decide +kernel
theorem dX9_mark_0 : decode cX9_mark 0 = .ok (.aload_n 0, 1) := by decide +kernel
theorem dX9_mark_1 : decode cX9_mark 1 = .ok (.iload_n 1, 1) := by decide +kernel
theorem dX9_mark_2 : decode cX9_mark 2 = .ok (.invokevirtual 69, 3) := by decide +kernel
theorem dX9_mark_5 : decode cX9_mark 5 = .ok (.astore 5, 2) := by decide +kernel
theorem dX9_mark_7 : decode cX9_mark 7 = .ok (.aload 5, 2) := by decide +kernel
theorem dX9_mark_9 : decode cX9_mark 9 = .ok (.iload_n 2, 1) := by decide +kernel
theorem dX9_mark_10 : decode cX9_mark 10 = .ok (.invokestatic 88, 3) := by decide +kernel
theorem dX9_mark_13 : decode cX9_mark 13 = .ok (.iload_n 3, 1) := by decide +kernel
theorem dX9_mark_14 : decode cX9_mark 14 = .ok (.ifCond .eq 11, 3) := by decide +kernel
theorem dX9_mark_17 : decode cX9_mark 17 = .ok (.aload 5, 2) := by decide +kernel
theorem dX9_mark_19 : decode cX9_mark 19 = .ok (.getfield 111, 3) := by decide +kernel
theorem dX9_mark_22 : decode cX9_mark 22 = .ok (.goto 8, 3) := by decide +kernel
theorem dX9_mark_25 : decode cX9_mark 25 = .ok (.aload 5, 2) := by decide +kernel
theorem dX9_mark_27 : decode cX9_mark 27 = .ok (.getfield 115, 3) := by decide +kernel
theorem dX9_mark_30 : decode cX9_mark 30 = .ok (.istore 6, 2) := by decide +kernel
theorem dX9_mark_32 : decode cX9_mark 32 = .ok (.iload 6, 2) := by decide +kernel
theorem dX9_mark_34 : decode cX9_mark 34 = .ok (.iload_n 2, 1) := by decide +kernel
theorem dX9_mark_35 : decode cX9_mark 35 = .ok (.iload 4, 2) := by decide +kernel
theorem dX9_mark_37 : decode cX9_mark 37 = .ok (.invokestatic 99, 3) := by decide +kernel
theorem dX9_mark_40 : decode cX9_mark 40 = .ok (.istore 7, 2) := by decide +kernel
theorem dX9_mark_42 : decode cX9_mark 42 = .ok (.iload_n 3, 1) := by decide +kernel
theorem dX9_mark_43 : decode cX9_mark 43 = .ok (.ifCond .eq 13, 3) := by decide +kernel
theorem dX9_mark_46 : decode cX9_mark 46 = .ok (.aload 5, 2) := by decide +kernel
theorem dX9_mark_48 : decode cX9_mark 48 = .ok (.iload 7, 2) := by decide +kernel
theorem dX9_mark_50 : decode cX9_mark 50 = .ok (.putfield 111, 3) := by decide +kernel
theorem dX9_mark_53 : decode cX9_mark 53 = .ok (.goto 10, 3) := by decide +kernel
theorem dX9_mark_56 : decode cX9_mark 56 = .ok (.aload 5, 2) := by decide +kernel
theorem dX9_mark_58 : decode cX9_mark 58 = .ok (.iload 7, 2) := by decide +kernel
theorem dX9_mark_60 : decode cX9_mark 60 = .ok (.putfield 115, 3) := by decide +kernel
theorem dX9_mark_63 : decode cX9_mark 63 = .ok (.aload_n 0, 1) := by decide +kernel
theorem dX9_mark_64 : decode cX9_mark 64 = .ok (.iload 7, 2) := by decide +kernel
theorem dX9_mark_66 : decode cX9_mark 66 = .ok (.iload 6, 2) := by decide +kernel
theorem dX9_mark_68 : decode cX9_mark 68 = .ok (.if_icmp .eq 7, 3) := by decide +kernel
theorem dX9_mark_71 : decode cX9_mark 71 = .ok (.iconst 1, 1) := by decide +kernel
theorem dX9_mark_72 : decode cX9_mark 72 = .ok (.goto 4, 3) := by decide +kernel
theorem dX9_mark_75 : decode cX9_mark 75 = .ok (.iconst 0, 1) := by decide +kernel
theorem dX9_mark_76 : decode cX9_mark 76 = .ok (.invokevirtual 84, 3) := by decide +kernel
theorem dX9_mark_79 : decode cX9_mark 79 = .ok (.ireturn, 1) := by decide +kernel
theorem dX9_sow_0 : decode cX9_sow 0 = .ok (.aload_n 0, 1) := by decide +kernel
theorem dX9_sow_1 : decode cX9_sow 1 = .ok (.iload_n 1, 1) := by decide +kernel
theorem dX9_sow_2 : decode cX9_sow 2 = .ok (.invokevirtual 69, 3) := by decide +kernel
theorem dX9_sow_5 : decode cX9_sow 5 = .ok (.astore 5, 2) := by decide +kernel
theorem dX9_sow_7 : decode cX9_sow 7 = .ok (.iload_n 2, 1) := by decide +kernel
theorem dX9_sow_8 : decode cX9_sow 8 = .ok (.iconst 0, 1) := by decide +kernel
theorem dX9_sow_9 : decode cX9_sow 9 = .ok (.ldc 118, 2) := by decide +kernel
theorem dX9_sow_11 : decode cX9_sow 11 = .ok (.invokestatic 73, 3) := by decide +kernel
theorem dX9_sow_14 : decode cX9_sow 14 = .ok (.iload_n 3, 1) := by decide +kernel
theorem dX9_sow_15 : decode cX9_sow 15 = .ok (.iconst 1, 1) := by decide +kernel
theorem dX9_sow_16 : decode cX9_sow 16 = .ok (.bipush 7, 2) := by decide +kernel
theorem dX9_sow_18 : decode cX9_sow 18 = .ok (.invokestatic 73, 3) := by decide +kernel
theorem dX9_sow_21 : decode cX9_sow 21 = .ok (.iload 4, 2) := by decide +kernel
theorem dX9_sow_23 : decode cX9_sow 23 = .ok (.iconst 0, 1) := by decide +kernel
theorem dX9_sow_24 : decode cX9_sow 24 = .ok (.bipush 6, 2) := by decide +kernel
theorem dX9_sow_26 : decode cX9_sow 26 = .ok (.invokestatic 73, 3) := by decide +kernel
theorem dX9_sow_29 : decode cX9_sow 29 = .ok (.aload_n 0, 1) := by decide +kernel
theorem dX9_sow_30 : decode cX9_sow 30 = .ok (.getfield 28, 3) := by decide +kernel
theorem dX9_sow_33 : decode cX9_sow 33 = .ok (.iload_n 2, 1) := by decide +kernel
theorem dX9_sow_34 : decode cX9_sow 34 = .ok (.invokevirtual 119, 3) := by decide +kernel
theorem dX9_sow_37 : decode cX9_sow 37 = .ok (.aload 5, 2) := by decide +kernel
theorem dX9_sow_39 : decode cX9_sow 39 = .ok (.iload_n 3, 1) := by decide +kernel
theorem dX9_sow_40 : decode cX9_sow 40 = .ok (.invokevirtual 81, 3) := by decide +kernel
theorem dX9_sow_43 : decode cX9_sow 43 = .ok (.aload 5, 2) := by decide +kernel
theorem dX9_sow_45 : decode cX9_sow 45 = .ok (.aload_n 0, 1) := by decide +kernel
theorem dX9_sow_46 : decode cX9_sow 46 = .ok (.getfield 28, 3) := by decide +kernel
theorem dX9_sow_49 : decode cX9_sow 49 = .ok (.iload 4, 2) := by decide +kernel
theorem dX9_sow_51 : decode cX9_sow 51 = .ok (.invokevirtual 122, 3) := by decide +kernel
theorem dX9_sow_54 : decode cX9_sow 54 = .ok (.aload 5, 2) := by decide +kernel
theorem dX9_sow_56 : decode cX9_sow 56 = .ok (.aload_n 0, 1) := by decide +kernel
theorem dX9_sow_57 : decode cX9_sow 57 = .ok (.getfield 28, 3) := by decide +kernel
theorem dX9_sow_60 : decode cX9_sow 60 = .ok (.invokevirtual 126, 3) := by decide +kernel
theorem dX9_sow_63 : decode cX9_sow 63 = .ok (.aload_n 0, 1) := by decide +kernel
theorem dX9_sow_64 : decode cX9_sow 64 = .ok (.aload 5, 2) := by decide +kernel
theorem dX9_sow_66 : decode cX9_sow 66 = .ok (.invokevirtual 77, 3) := by decide +kernel
theorem dX9_sow_69 : decode cX9_sow 69 = .ok (.invokevirtual 84, 3) := by decide +kernel
theorem dX9_sow_72 : decode cX9_sow 72 = .ok (.ireturn, 1) := by decide +kernel
theorem dX9_copy_0 : decode cX9_copy 0 = .ok (.aload_n 0, 1) := by decide +kernel
theorem dX9_copy_1 : decode cX9_copy 1 = .ok (.iload_n 1, 1) := by decide +kernel
theorem dX9_copy_2 : decode cX9_copy 2 = .ok (.invokevirtual 69, 3) := by decide +kernel
theorem dX9_copy_5 : decode cX9_copy 5 = .ok (.astore_n 3, 1) := by decide +kernel
theorem dX9_copy_6 : decode cX9_copy 6 = .ok (.aload_n 0, 1) := by decide +kernel
theorem dX9_copy_7 : decode cX9_copy 7 = .ok (.iload_n 2, 1) := by decide +kernel
theorem dX9_copy_8 : decode cX9_copy 8 = .ok (.invokevirtual 69, 3) := by decide +kernel
theorem dX9_copy_11 : decode cX9_copy 11 = .ok (.astore 4, 2) := by decide +kernel
theorem dX9_copy_13 : decode cX9_copy 13 = .ok (.aload 4, 2) := by decide +kernel
theorem dX9_copy_15 : decode cX9_copy 15 = .ok (.aload_n 3, 1) := by decide +kernel
theorem dX9_copy_16 : decode cX9_copy 16 = .ok (.invokevirtual 130, 3) := by decide +kernel
theorem dX9_copy_19 : decode cX9_copy 19 = .ok (.istore 5, 2) := by decide +kernel
theorem dX9_copy_21 : decode cX9_copy 21 = .ok (.aload 4, 2) := by decide +kernel
theorem dX9_copy_23 : decode cX9_copy 23 = .ok (.aload_n 3, 1) := by decide +kernel
theorem dX9_copy_24 : decode cX9_copy 24 = .ok (.invokevirtual 134, 3) := by decide +kernel
theorem dX9_copy_27 : decode cX9_copy 27 = .ok (.aload_n 0, 1) := by decide +kernel
theorem dX9_copy_28 : decode cX9_copy 28 = .ok (.iload 5, 2) := by decide +kernel
theorem dX9_copy_30 : decode cX9_copy 30 = .ok (.ifCond .eq 7, 3) := by decide +kernel
theorem dX9_copy_33 : decode cX9_copy 33 = .ok (.iconst 0, 1) := by decide +kernel
theorem dX9_copy_34 : decode cX9_copy 34 = .ok (.goto 4, 3) := by decide +kernel
theorem dX9_copy_37 : decode cX9_copy 37 = .ok (.iconst 1, 1) := by decide +kernel
theorem dX9_copy_38 : decode cX9_copy 38 = .ok (.invokevirtual 84, 3) := by decide +kernel
theorem dX9_copy_41 : decode cX9_copy 41 = .ok (.ireturn, 1) := by decide +kernel
theorem dX9_swap_0 : decode cX9_swap 0 = .ok (.aload_n 0, 1) := by decide +kernel
theorem dX9_swap_1 : decode cX9_swap 1 = .ok (.iload_n 1, 1) := by decide +kernel
theorem dX9_swap_2 : decode cX9_swap 2 = .ok (.invokevirtual 69, 3) := by decide +kernel
theorem dX9_swap_5 : decode cX9_swap 5 = .ok (.astore_n 3, 1) := by decide +kernel
theorem dX9_swap_6 : decode cX9_swap 6 = .ok (.aload_n 0, 1) := by decide +kernel
theorem dX9_swap_7 : decode cX9_swap 7 = .ok (.iload_n 2, 1) := by decide +kernel
theorem dX9_swap_8 : decode cX9_swap 8 = .ok (.invokevirtual 69, 3) := by decide +kernel
theorem dX9_swap_11 : decode cX9_swap 11 = .ok (.astore 4, 2) := by decide +kernel
theorem dX9_swap_13 : decode cX9_swap 13 = .ok (.aload_n 3, 1) := by decide +kernel
theorem dX9_swap_14 : decode cX9_swap 14 = .ok (.aload 4, 2) := by decide +kernel
theorem dX9_swap_16 : decode cX9_swap 16 = .ok (.invokevirtual 130, 3) := by decide +kernel
theorem dX9_swap_19 : decode cX9_swap 19 = .ok (.istore 5, 2) := by decide +kernel
theorem dX9_swap_21 : decode cX9_swap 21 = .ok (.aload_n 0, 1) := by decide +kernel
theorem dX9_swap_22 : decode cX9_swap 22 = .ok (.getfield 18, 3) := by decide +kernel
theorem dX9_swap_25 : decode cX9_swap 25 = .ok (.aload_n 3, 1) := by decide +kernel
theorem dX9_swap_26 : decode cX9_swap 26 = .ok (.invokevirtual 134, 3) := by decide +kernel
theorem dX9_swap_29 : decode cX9_swap 29 = .ok (.aload_n 3, 1) := by decide +kernel
theorem dX9_swap_30 : decode cX9_swap 30 = .ok (.aload 4, 2) := by decide +kernel
theorem dX9_swap_32 : decode cX9_swap 32 = .ok (.invokevirtual 134, 3) := by decide +kernel
theorem dX9_swap_35 : decode cX9_swap 35 = .ok (.aload 4, 2) := by decide +kernel
theorem dX9_swap_37 : decode cX9_swap 37 = .ok (.aload_n 0, 1) := by decide +kernel
theorem dX9_swap_38 : decode cX9_swap 38 = .ok (.getfield 18, 3) := by decide +kernel
theorem dX9_swap_41 : decode cX9_swap 41 = .ok (.invokevirtual 134, 3) := by decide +kernel
theorem dX9_swap_44 : decode cX9_swap 44 = .ok (.aload_n 0, 1) := by decide +kernel
theorem dX9_swap_45 : decode cX9_swap 45 = .ok (.iload 5, 2) := by decide +kernel
theorem dX9_swap_47 : decode cX9_swap 47 = .ok (.ifCond .eq 7, 3) := by decide +kernel
theorem dX9_swap_50 : decode cX9_swap 50 = .ok (.iconst 0, 1) := by decide +kernel
theorem dX9_swap_51 : decode cX9_swap 51 = .ok (.goto 4, 3) := by decide +kernel
theorem dX9_swap_54 : decode cX9_swap 54 = .ok (.iconst 1, 1) := by decide +kernel
theorem dX9_swap_55 : decode cX9_swap 55 = .ok (.invokevirtual 84, 3) := by decide +kernel
theorem dX9_swap_58 : decode cX9_swap 58 = .ok (.ireturn, 1) := by decide +kernel
theorem dX9_turn_0 : decode cX9_turn 0 = .ok (.aload_n 0, 1) := by decide +kernel
theorem dX9_turn_1 : decode cX9_turn 1 = .ok (.iload_n 1, 1) := by decide +kernel
theorem dX9_turn_2 : decode cX9_turn 2 = .ok (.invokevirtual 69, 3) := by decide +kernel
theorem dX9_turn_5 : decode cX9_turn 5 = .ok (.astore_n 2, 1) := by decide +kernel
theorem dX9_turn_6 : decode cX9_turn 6 = .ok (.aload_n 0, 1) := by decide +kernel
theorem dX9_turn_7 : decode cX9_turn 7 = .ok (.getfield 18, 3) := by decide +kernel
theorem dX9_turn_10 : decode cX9_turn 10 = .ok (.aload_n 2, 1) := by decide +kernel
theorem dX9_turn_11 : decode cX9_turn 11 = .ok (.invokevirtual 134, 3) := by decide +kernel
theorem dX9_turn_14 : decode cX9_turn 14 = .ok (.aload_n 2, 1) := by decide +kernel
theorem dX9_turn_15 : decode cX9_turn 15 = .ok (.aload_n 0, 1) := by decide +kernel
theorem dX9_turn_16 : decode cX9_turn 16 = .ok (.getfield 18, 3) := by decide +kernel
theorem dX9_turn_19 : decode cX9_turn 19 = .ok (.invokevirtual 138, 3) := by decide +kernel
theorem dX9_turn_22 : decode cX9_turn 22 = .ok (.aload_n 0, 1) := by decide +kernel
theorem dX9_turn_23 : decode cX9_turn 23 = .ok (.aload_n 2, 1) := by decide +kernel
theorem dX9_turn_24 : decode cX9_turn 24 = .ok (.invokevirtual 77, 3) := by decide +kernel
theorem dX9_turn_27 : decode cX9_turn 27 = .ok (.invokevirtual 84, 3) := by decide +kernel
theorem dX9_turn_30 : decode cX9_turn 30 = .ok (.ireturn, 1) := by decide +kernel
theorem dX9_other_0 : decode cX9_other 0 = .ok (.aload_n 0, 1) := by decide +kernel
theorem dX9_other_1 : decode cX9_other 1 = .ok (.iload_n 1, 1) := by decide +kernel
theorem dX9_other_2 : decode cX9_other 2 = .ok (.invokevirtual 69, 3) := by decide +kernel
theorem dX9_other_5 : decode cX9_other 5 = .ok (.astore_n 2, 1) := by decide +kernel
theorem dX9_other_6 : decode cX9_other 6 = .ok (.aload_n 2, 1) := by decide +kernel
theorem dX9_other_7 : decode cX9_other 7 = .ok (.invokevirtual 141, 3) := by decide +kernel
theorem dX9_other_10 : decode cX9_other 10 = .ok (.ifCond .ne 8, 3) := by decide +kernel
theorem dX9_other_13 : decode cX9_other 13 = .ok (.aload_n 0, 1) := by decide +kernel
theorem dX9_other_14 : decode cX9_other 14 = .ok (.invokevirtual 145, 3) := by decide +kernel
theorem dX9_other_17 : decode cX9_other 17 = .ok (.ireturn, 1) := by decide +kernel
theorem dX9_other_18 : decode cX9_other 18 = .ok (.aload_n 2, 1) := by decide +kernel
theorem dX9_other_19 : decode cX9_other 19 = .ok (.aload_n 2, 1) := by decide +kernel
theorem dX9_other_20 : decode cX9_other 20 = .ok (.invokevirtual 148, 3) := by decide +kernel
theorem dX9_other_23 : decode cX9_other 23 = .ok (.aload_n 2, 1) := by decide +kernel
theorem dX9_other_24 : decode cX9_other 24 = .ok (.getfield 111, 3) := by decide +kernel
theorem dX9_other_27 : decode cX9_other 27 = .ok (.iconst (-1), 1) := by decide +kernel
theorem dX9_other_28 : decode cX9_other 28 = .ok (.ixor, 1) := by decide +kernel
theorem dX9_other_29 : decode cX9_other 29 = .ok (.iand, 1) := by decide +kernel
theorem dX9_other_30 : decode cX9_other 30 = .ok (.putfield 111, 3) := by decide +kernel
theorem dX9_other_33 : decode cX9_other 33 = .ok (.aload_n 0, 1) := by decide +kernel
theorem dX9_other_34 : decode cX9_other 34 = .ok (.aload_n 2, 1) := by decide +kernel
theorem dX9_other_35 : decode cX9_other 35 = .ok (.getfield 111, 3) := by decide +kernel
theorem dX9_other_38 : decode cX9_other 38 = .ok (.invokestatic 106, 3) := by decide +kernel
theorem dX9_other_41 : decode cX9_other 41 = .ok (.invokevirtual 84, 3) := by decide +kernel
theorem dX9_other_44 : decode cX9_other 44 = .ok (.ireturn, 1) := by decide +kernel
theorem dX9_grow_0 : decode cX9_grow 0 = .ok (.aload_n 0, 1) := by decide +kernel
theorem dX9_grow_1 : decode cX9_grow 1 = .ok (.iload_n 1, 1) := by decide +kernel
theorem dX9_grow_2 : decode cX9_grow 2 = .ok (.invokevirtual 69, 3) := by decide +kernel
theorem dX9_grow_5 : decode cX9_grow 5 = .ok (.astore_n 2, 1) := by decide +kernel
theorem dX9_grow_6 : decode cX9_grow 6 = .ok (.aload_n 2, 1) := by decide +kernel
theorem dX9_grow_7 : decode cX9_grow 7 = .ok (.getfield 151, 3) := by decide +kernel
theorem dX9_grow_10 : decode cX9_grow 10 = .ok (.bipush 7, 2) := by decide +kernel
theorem dX9_grow_12 : decode cX9_grow 12 = .ok (.if_icmp .lt 8, 3) := by decide +kernel
theorem dX9_grow_15 : decode cX9_grow 15 = .ok (.aload_n 0, 1) := by decide +kernel
theorem dX9_grow_16 : decode cX9_grow 16 = .ok (.invokevirtual 145, 3) := by decide +kernel
theorem dX9_grow_19 : decode cX9_grow 19 = .ok (.ireturn, 1) := by decide +kernel
theorem dX9_grow_20 : decode cX9_grow 20 = .ok (.aload_n 2, 1) := by decide +kernel
theorem dX9_grow_21 : decode cX9_grow 21 = .ok (.invokevirtual 154, 3) := by decide +kernel
theorem dX9_grow_24 : decode cX9_grow 24 = .ok (.aload_n 0, 1) := by decide +kernel
theorem dX9_grow_25 : decode cX9_grow 25 = .ok (.aload_n 2, 1) := by decide +kernel
theorem dX9_grow_26 : decode cX9_grow 26 = .ok (.getfield 151, 3) := by decide +kernel
theorem dX9_grow_29 : decode cX9_grow 29 = .ok (.iconst 1, 1) := by decide +kernel
theorem dX9_grow_30 : decode cX9_grow 30 = .ok (.isub, 1) := by decide +kernel
theorem dX9_grow_31 : decode cX9_grow 31 = .ok (.invokevirtual 84, 3) := by decide +kernel
theorem dX9_grow_34 : decode cX9_grow 34 = .ok (.ireturn, 1) := by decide +kernel
theorem dX9_drop_0 : decode cX9_drop 0 = .ok (.aload_n 0, 1) := by decide +kernel
theorem dX9_drop_1 : decode cX9_drop 1 = .ok (.iload_n 1, 1) := by decide +kernel
theorem dX9_drop_2 : decode cX9_drop 2 = .ok (.invokevirtual 69, 3) := by decide +kernel
theorem dX9_drop_5 : decode cX9_drop 5 = .ok (.astore_n 3, 1) := by decide +kernel
theorem dX9_drop_6 : decode cX9_drop 6 = .ok (.aload_n 3, 1) := by decide +kernel
theorem dX9_drop_7 : decode cX9_drop 7 = .ok (.iload_n 2, 1) := by decide +kernel
theorem dX9_drop_8 : decode cX9_drop 8 = .ok (.invokestatic 88, 3) := by decide +kernel
theorem dX9_drop_11 : decode cX9_drop 11 = .ok (.aload_n 3, 1) := by decide +kernel
theorem dX9_drop_12 : decode cX9_drop 12 = .ok (.getfield 151, 3) := by decide +kernel
theorem dX9_drop_15 : decode cX9_drop 15 = .ok (.iconst 1, 1) := by decide +kernel
theorem dX9_drop_16 : decode cX9_drop 16 = .ok (.if_icmp .ne 8, 3) := by decide +kernel
theorem dX9_drop_19 : decode cX9_drop 19 = .ok (.aload_n 0, 1) := by decide +kernel
theorem dX9_drop_20 : decode cX9_drop 20 = .ok (.invokevirtual 145, 3) := by decide +kernel
theorem dX9_drop_23 : decode cX9_drop 23 = .ok (.ireturn, 1) := by decide +kernel
theorem dX9_drop_24 : decode cX9_drop 24 = .ok (.aload_n 3, 1) := by decide +kernel
theorem dX9_drop_25 : decode cX9_drop 25 = .ok (.invokevirtual 77, 3) := by decide +kernel
theorem dX9_drop_28 : decode cX9_drop 28 = .ok (.istore 4, 2) := by decide +kernel
theorem dX9_drop_30 : decode cX9_drop 30 = .ok (.aload_n 3, 1) := by decide +kernel
theorem dX9_drop_31 : decode cX9_drop 31 = .ok (.iload_n 2, 1) := by decide +kernel
theorem dX9_drop_32 : decode cX9_drop 32 = .ok (.invokevirtual 157, 3) := by decide +kernel
theorem dX9_drop_35 : decode cX9_drop 35 = .ok (.aload_n 0, 1) := by decide +kernel
theorem dX9_drop_36 : decode cX9_drop 36 = .ok (.iload 4, 2) := by decide +kernel
theorem dX9_drop_38 : decode cX9_drop 38 = .ok (.aload_n 3, 1) := by decide +kernel
theorem dX9_drop_39 : decode cX9_drop 39 = .ok (.invokevirtual 77, 3) := by decide +kernel
theorem dX9_drop_42 : decode cX9_drop 42 = .ok (.isub, 1) := by decide +kernel
theorem dX9_drop_43 : decode cX9_drop 43 = .ok (.invokevirtual 84, 3) := by decide +kernel
theorem dX9_drop_46 : decode cX9_drop 46 = .ok (.ireturn, 1) := by decide +kernel
theorem dX9_make_0 : decode cX9_make 0 = .ok (.aload_n 0, 1) := by decide +kernel
theorem dX9_make_1 : decode cX9_make 1 = .ok (.iload_n 1, 1) := by decide +kernel
theorem dX9_make_2 : decode cX9_make 2 = .ok (.invokevirtual 69, 3) := by decide +kernel
theorem dX9_make_5 : decode cX9_make 5 = .ok (.astore 4, 2) := by decide +kernel
theorem dX9_make_7 : decode cX9_make 7 = .ok (.aload_n 0, 1) := by decide +kernel
theorem dX9_make_8 : decode cX9_make 8 = .ok (.iload_n 3, 1) := by decide +kernel
theorem dX9_make_9 : decode cX9_make 9 = .ok (.invokevirtual 69, 3) := by decide +kernel
theorem dX9_make_12 : decode cX9_make 12 = .ok (.astore 5, 2) := by decide +kernel
theorem dX9_make_14 : decode cX9_make 14 = .ok (.aload_n 0, 1) := by decide +kernel
theorem dX9_make_15 : decode cX9_make 15 = .ok (.getfield 35, 3) := by decide +kernel
theorem dX9_make_18 : decode cX9_make 18 = .ok (.iload_n 2, 1) := by decide +kernel
theorem dX9_make_19 : decode cX9_make 19 = .ok (.ifCond .eq 7, 3) := by decide +kernel
theorem dX9_make_22 : decode cX9_make 22 = .ok (.iconst 0, 1) := by decide +kernel
theorem dX9_make_23 : decode cX9_make 23 = .ok (.goto 4, 3) := by decide +kernel
theorem dX9_make_26 : decode cX9_make 26 = .ok (.iconst 3, 1) := by decide +kernel
theorem dX9_make_27 : decode cX9_make 27 = .ok (.aload 4, 2) := by decide +kernel
theorem dX9_make_29 : decode cX9_make 29 = .ok (.aload_n 0, 1) := by decide +kernel
theorem dX9_make_30 : decode cX9_make 30 = .ok (.getfield 66, 3) := by decide +kernel
theorem dX9_make_33 : decode cX9_make 33 = .ok (.invokevirtual 160, 3) := by decide +kernel
theorem dX9_make_36 : decode cX9_make 36 = .ok (.ifCond .ne 8, 3) := by decide +kernel
theorem dX9_make_39 : decode cX9_make 39 = .ok (.aload_n 0, 1) := by decide +kernel
theorem dX9_make_40 : decode cX9_make 40 = .ok (.invokevirtual 145, 3) := by decide +kernel
theorem dX9_make_43 : decode cX9_make 43 = .ok (.ireturn, 1) := by decide +kernel
theorem dX9_make_44 : decode cX9_make 44 = .ok (.aload_n 0, 1) := by decide +kernel
theorem dX9_make_45 : decode cX9_make 45 = .ok (.aload 5, 2) := by decide +kernel
theorem dX9_make_47 : decode cX9_make 47 = .ok (.invokevirtual 164, 3) := by decide +kernel
theorem dX9_make_50 : decode cX9_make 50 = .ok (.ireturn, 1) := by decide +kernel
theorem dX9_combine_0 : decode cX9_combine 0 = .ok (.aload_n 0, 1) := by decide +kernel
theorem dX9_combine_1 : decode cX9_combine 1 = .ok (.iload_n 1, 1) := by decide +kernel
theorem dX9_combine_2 : decode cX9_combine 2 = .ok (.invokevirtual 69, 3) := by decide +kernel
theorem dX9_combine_5 : decode cX9_combine 5 = .ok (.astore 5, 2) := by decide +kernel
theorem dX9_combine_7 : decode cX9_combine 7 = .ok (.aload_n 0, 1) := by decide +kernel
theorem dX9_combine_8 : decode cX9_combine 8 = .ok (.iload_n 2, 1) := by decide +kernel
theorem dX9_combine_9 : decode cX9_combine 9 = .ok (.invokevirtual 69, 3) := by decide +kernel
theorem dX9_combine_12 : decode cX9_combine 12 = .ok (.astore 6, 2) := by decide +kernel
theorem dX9_combine_14 : decode cX9_combine 14 = .ok (.aload_n 0, 1) := by decide +kernel
theorem dX9_combine_15 : decode cX9_combine 15 = .ok (.iload 4, 2) := by decide +kernel
theorem dX9_combine_17 : decode cX9_combine 17 = .ok (.invokevirtual 69, 3) := by decide +kernel
theorem dX9_combine_20 : decode cX9_combine 20 = .ok (.astore 7, 2) := by decide +kernel
theorem dX9_combine_22 : decode cX9_combine 22 = .ok (.iload_n 3, 1) := by decide +kernel
theorem dX9_combine_23 : decode cX9_combine 23 = .ok (.iconst 0, 1) := by decide +kernel
theorem dX9_combine_24 : decode cX9_combine 24 = .ok (.iconst 3, 1) := by decide +kernel
theorem dX9_combine_25 : decode cX9_combine 25 = .ok (.invokestatic 73, 3) := by decide +kernel
theorem dX9_combine_28 : decode cX9_combine 28 = .ok (.aload_n 0, 1) := by decide +kernel
theorem dX9_combine_29 : decode cX9_combine 29 = .ok (.aload 5, 2) := by decide +kernel
theorem dX9_combine_31 : decode cX9_combine 31 = .ok (.aload 6, 2) := by decide +kernel
theorem dX9_combine_33 : decode cX9_combine 33 = .ok (.iload_n 3, 1) := by decide +kernel
theorem dX9_combine_34 : decode cX9_combine 34 = .ok (.invokevirtual 168, 3) := by decide +kernel
theorem dX9_combine_37 : decode cX9_combine 37 = .ok (.ifCond .ne 8, 3) := by decide +kernel
theorem dX9_combine_40 : decode cX9_combine 40 = .ok (.aload_n 0, 1) := by decide +kernel
theorem dX9_combine_41 : decode cX9_combine 41 = .ok (.invokevirtual 145, 3) := by decide +kernel
theorem dX9_combine_44 : decode cX9_combine 44 = .ok (.ireturn, 1) := by decide +kernel
theorem dX9_combine_45 : decode cX9_combine 45 = .ok (.aload_n 0, 1) := by decide +kernel
theorem dX9_combine_46 : decode cX9_combine 46 = .ok (.aload 7, 2) := by decide +kernel
theorem dX9_combine_48 : decode cX9_combine 48 = .ok (.invokevirtual 164, 3) := by decide +kernel
theorem dX9_combine_51 : decode cX9_combine 51 = .ok (.ireturn, 1) := by decide +kernel
theorem dX9_tell_0 : decode cX9_tell 0 = .ok (.aload_n 0, 1) := by decide +kernel
theorem dX9_tell_1 : decode cX9_tell 1 = .ok (.iload_n 1, 1) := by decide +kernel
theorem dX9_tell_2 : decode cX9_tell 2 = .ok (.invokevirtual 69, 3) := by decide +kernel
theorem dX9_tell_5 : decode cX9_tell 5 = .ok (.astore_n 3, 1) := by decide +kernel
theorem dX9_tell_6 : decode cX9_tell 6 = .ok (.iload_n 2, 1) := by decide +kernel
theorem dX9_tell_7 : decode cX9_tell 7 = .ok (.iconst 0, 1) := by decide +kernel
theorem dX9_tell_8 : decode cX9_tell 8 = .ok (.iconst 4, 1) := by decide +kernel
theorem dX9_tell_9 : decode cX9_tell 9 = .ok (.invokestatic 73, 3) := by decide +kernel
theorem dX9_tell_12 : decode cX9_tell 12 = .ok (.iload_n 2, 1) := by decide +kernel
theorem dX9_tell_13 : decode cX9_tell 13 = .ok (.tableswitch 51 0 3 #[31, 36, 41, 46], 31) := by decide +kernel
theorem dX9_tell_44 : decode cX9_tell 44 = .ok (.aload_n 3, 1) := by decide +kernel
theorem dX9_tell_45 : decode cX9_tell 45 = .ok (.getfield 151, 3) := by decide +kernel
theorem dX9_tell_48 : decode cX9_tell 48 = .ok (.ireturn, 1) := by decide +kernel
theorem dX9_tell_49 : decode cX9_tell 49 = .ok (.aload_n 3, 1) := by decide +kernel
theorem dX9_tell_50 : decode cX9_tell 50 = .ok (.invokevirtual 77, 3) := by decide +kernel
theorem dX9_tell_53 : decode cX9_tell 53 = .ok (.ireturn, 1) := by decide +kernel
theorem dX9_tell_54 : decode cX9_tell 54 = .ok (.aload_n 3, 1) := by decide +kernel
theorem dX9_tell_55 : decode cX9_tell 55 = .ok (.getfield 115, 3) := by decide +kernel
theorem dX9_tell_58 : decode cX9_tell 58 = .ok (.ireturn, 1) := by decide +kernel
theorem dX9_tell_59 : decode cX9_tell 59 = .ok (.aload_n 3, 1) := by decide +kernel
theorem dX9_tell_60 : decode cX9_tell 60 = .ok (.getfield 111, 3) := by decide +kernel
theorem dX9_tell_63 : decode cX9_tell 63 = .ok (.ireturn, 1) := by decide +kernel
theorem dX9_tell_64 : decode cX9_tell 64 = .ok (.aload_n 3, 1) := by decide +kernel
theorem dX9_tell_65 : decode cX9_tell 65 = .ok (.invokevirtual 141, 3) := by decide +kernel
theorem dX9_tell_68 : decode cX9_tell 68 = .ok (.ifCond .eq 7, 3) := by decide +kernel
theorem dX9_tell_71 : decode cX9_tell 71 = .ok (.iconst 1, 1) := by decide +kernel
theorem dX9_tell_72 : decode cX9_tell 72 = .ok (.goto 4, 3) := by decide +kernel
theorem dX9_tell_75 : decode cX9_tell 75 = .ok (.iconst 0, 1) := by decide +kernel
theorem dX9_tell_76 : decode cX9_tell 76 = .ok (.ireturn, 1) := by decide +kernel
theorem dX9_arrows_0 : decode cX9_arrows 0 = .ok (.aload_n 0, 1) := by decide +kernel
theorem dX9_arrows_1 : decode cX9_arrows 1 = .ok (.iload_n 1, 1) := by decide +kernel
theorem dX9_arrows_2 : decode cX9_arrows 2 = .ok (.invokevirtual 69, 3) := by decide +kernel
theorem dX9_arrows_5 : decode cX9_arrows 5 = .ok (.astore 4, 2) := by decide +kernel
theorem dX9_arrows_7 : decode cX9_arrows 7 = .ok (.aload 4, 2) := by decide +kernel
theorem dX9_arrows_9 : decode cX9_arrows 9 = .ok (.iload_n 2, 1) := by decide +kernel
theorem dX9_arrows_10 : decode cX9_arrows 10 = .ok (.invokestatic 88, 3) := by decide +kernel
theorem dX9_arrows_13 : decode cX9_arrows 13 = .ok (.iload_n 3, 1) := by decide +kernel
theorem dX9_arrows_14 : decode cX9_arrows 14 = .ok (.invokestatic 92, 3) := by decide +kernel
theorem dX9_arrows_17 : decode cX9_arrows 17 = .ok (.aload 4, 2) := by decide +kernel
theorem dX9_arrows_19 : decode cX9_arrows 19 = .ok (.iload_n 2, 1) := by decide +kernel
theorem dX9_arrows_20 : decode cX9_arrows 20 = .ok (.iload_n 3, 1) := by decide +kernel
theorem dX9_arrows_21 : decode cX9_arrows 21 = .ok (.invokevirtual 95, 3) := by decide +kernel
theorem dX9_arrows_24 : decode cX9_arrows 24 = .ok (.ireturn, 1) := by decide +kernel
theorem dX9_checkWord_0 : decode cX9_checkWord 0 = .ok (.iload_n 0, 1) := by decide +kernel
theorem dX9_checkWord_1 : decode cX9_checkWord 1 = .ok (.iconst 0, 1) := by decide +kernel
theorem dX9_checkWord_2 : decode cX9_checkWord 2 = .ok (.bipush 12, 2) := by decide +kernel
theorem dX9_checkWord_4 : decode cX9_checkWord 4 = .ok (.invokestatic 73, 3) := by decide +kernel
theorem dX9_checkWord_7 : decode cX9_checkWord 7 = .ok (.iload_n 1, 1) := by decide +kernel
theorem dX9_checkWord_8 : decode cX9_checkWord 8 = .ok (.iconst 0, 1) := by decide +kernel
theorem dX9_checkWord_9 : decode cX9_checkWord 9 = .ok (.iload_n 0, 1) := by decide +kernel
theorem dX9_checkWord_10 : decode cX9_checkWord 10 = .ok (.invokestatic 279, 3) := by decide +kernel
theorem dX9_checkWord_13 : decode cX9_checkWord 13 = .ok (.iconst 1, 1) := by decide +kernel
theorem dX9_checkWord_14 : decode cX9_checkWord 14 = .ok (.isub, 1) := by decide +kernel
theorem dX9_checkWord_15 : decode cX9_checkWord 15 = .ok (.invokestatic 73, 3) := by decide +kernel
theorem dX9_checkWord_18 : decode cX9_checkWord 18 = .ok (.return_, 1) := by decide +kernel
theorem dX9_takes_0 : decode cX9_takes 0 = .ok (.aload_n 0, 1) := by decide +kernel
theorem dX9_takes_1 : decode cX9_takes 1 = .ok (.iload_n 1, 1) := by decide +kernel
theorem dX9_takes_2 : decode cX9_takes 2 = .ok (.invokevirtual 69, 3) := by decide +kernel
theorem dX9_takes_5 : decode cX9_takes 5 = .ok (.astore 4, 2) := by decide +kernel
theorem dX9_takes_7 : decode cX9_takes 7 = .ok (.iload_n 2, 1) := by decide +kernel
theorem dX9_takes_8 : decode cX9_takes 8 = .ok (.iload_n 3, 1) := by decide +kernel
theorem dX9_takes_9 : decode cX9_takes 9 = .ok (.invokestatic 172, 3) := by decide +kernel
theorem dX9_takes_12 : decode cX9_takes 12 = .ok (.aload 4, 2) := by decide +kernel
theorem dX9_takes_14 : decode cX9_takes 14 = .ok (.iload_n 2, 1) := by decide +kernel
theorem dX9_takes_15 : decode cX9_takes 15 = .ok (.iload_n 3, 1) := by decide +kernel
theorem dX9_takes_16 : decode cX9_takes 16 = .ok (.invokevirtual 176, 3) := by decide +kernel
theorem dX9_takes_19 : decode cX9_takes 19 = .ok (.ireturn, 1) := by decide +kernel
theorem dX9_makeOrThrow_0 : decode cX9_makeOrThrow 0 = .ok (.aload_n 0, 1) := by decide +kernel
theorem dX9_makeOrThrow_1 : decode cX9_makeOrThrow 1 = .ok (.getfield 35, 3) := by decide +kernel
theorem dX9_makeOrThrow_4 : decode cX9_makeOrThrow 4 = .ok (.iload_n 1, 1) := by decide +kernel
theorem dX9_makeOrThrow_5 : decode cX9_makeOrThrow 5 = .ok (.aload_n 2, 1) := by decide +kernel
theorem dX9_makeOrThrow_6 : decode cX9_makeOrThrow 6 = .ok (.aload_n 3, 1) := by decide +kernel
theorem dX9_makeOrThrow_7 : decode cX9_makeOrThrow 7 = .ok (.invokevirtual 160, 3) := by decide +kernel
theorem dX9_makeOrThrow_10 : decode cX9_makeOrThrow 10 = .ok (.ifCond .ne 13, 3) := by decide +kernel
theorem dX9_makeOrThrow_13 : decode cX9_makeOrThrow 13 = .ok (.new 241, 3) := by decide +kernel
theorem dX9_makeOrThrow_16 : decode cX9_makeOrThrow 16 = .ok (.dup, 1) := by decide +kernel
theorem dX9_makeOrThrow_17 : decode cX9_makeOrThrow 17 = .ok (.ldc 243, 2) := by decide +kernel
theorem dX9_makeOrThrow_19 : decode cX9_makeOrThrow 19 = .ok (.invokespecial 245, 3) := by decide +kernel
theorem dX9_makeOrThrow_22 : decode cX9_makeOrThrow 22 = .ok (.athrow, 1) := by decide +kernel
theorem dX9_makeOrThrow_23 : decode cX9_makeOrThrow 23 = .ok (.return_, 1) := by decide +kernel
theorem dX9_after_0 : decode cX9_after 0 = .ok (.aload_n 0, 1) := by decide +kernel
theorem dX9_after_1 : decode cX9_after 1 = .ok (.iload_n 1, 1) := by decide +kernel
theorem dX9_after_2 : decode cX9_after 2 = .ok (.invokevirtual 69, 3) := by decide +kernel
theorem dX9_after_5 : decode cX9_after 5 = .ok (.astore 5, 2) := by decide +kernel
theorem dX9_after_7 : decode cX9_after 7 = .ok (.iload_n 2, 1) := by decide +kernel
theorem dX9_after_8 : decode cX9_after 8 = .ok (.iload_n 3, 1) := by decide +kernel
theorem dX9_after_9 : decode cX9_after 9 = .ok (.invokestatic 172, 3) := by decide +kernel
theorem dX9_after_12 : decode cX9_after 12 = .ok (.iload 4, 2) := by decide +kernel
theorem dX9_after_14 : decode cX9_after 14 = .ok (.iconst 0, 1) := by decide +kernel
theorem dX9_after_15 : decode cX9_after 15 = .ok (.iconst 2, 1) := by decide +kernel
theorem dX9_after_16 : decode cX9_after 16 = .ok (.invokestatic 73, 3) := by decide +kernel
theorem dX9_after_19 : decode cX9_after 19 = .ok (.iload 4, 2) := by decide +kernel
theorem dX9_after_21 : decode cX9_after 21 = .ok (.ifCond .ne 11, 3) := by decide +kernel
theorem dX9_after_24 : decode cX9_after 24 = .ok (.aload 5, 2) := by decide +kernel
theorem dX9_after_26 : decode cX9_after 26 = .ok (.iload_n 2, 1) := by decide +kernel
theorem dX9_after_27 : decode cX9_after 27 = .ok (.iload_n 3, 1) := by decide +kernel
theorem dX9_after_28 : decode cX9_after 28 = .ok (.invokevirtual 180, 3) := by decide +kernel
theorem dX9_after_31 : decode cX9_after 31 = .ok (.ireturn, 1) := by decide +kernel
theorem dX9_after_32 : decode cX9_after 32 = .ok (.aload_n 0, 1) := by decide +kernel
theorem dX9_after_33 : decode cX9_after 33 = .ok (.iload 4, 2) := by decide +kernel
theorem dX9_after_35 : decode cX9_after 35 = .ok (.iconst 1, 1) := by decide +kernel
theorem dX9_after_36 : decode cX9_after 36 = .ok (.if_icmp .ne 7, 3) := by decide +kernel
theorem dX9_after_39 : decode cX9_after 39 = .ok (.iconst 3, 1) := by decide +kernel
theorem dX9_after_40 : decode cX9_after 40 = .ok (.goto 4, 3) := by decide +kernel
theorem dX9_after_43 : decode cX9_after 43 = .ok (.iconst 0, 1) := by decide +kernel
theorem dX9_after_44 : decode cX9_after 44 = .ok (.aload 5, 2) := by decide +kernel
theorem dX9_after_46 : decode cX9_after 46 = .ok (.aload_n 0, 1) := by decide +kernel
theorem dX9_after_47 : decode cX9_after 47 = .ok (.getfield 66, 3) := by decide +kernel
theorem dX9_after_50 : decode cX9_after 50 = .ok (.invokevirtual 183, 3) := by decide +kernel
theorem dX9_after_53 : decode cX9_after 53 = .ok (.aload_n 0, 1) := by decide +kernel
theorem dX9_after_54 : decode cX9_after 54 = .ok (.getfield 66, 3) := by decide +kernel
theorem dX9_after_57 : decode cX9_after 57 = .ok (.iload_n 2, 1) := by decide +kernel
theorem dX9_after_58 : decode cX9_after 58 = .ok (.iload_n 3, 1) := by decide +kernel
theorem dX9_after_59 : decode cX9_after 59 = .ok (.invokevirtual 187, 3) := by decide +kernel
theorem dX9_after_62 : decode cX9_after 62 = .ok (.ireturn, 1) := by decide +kernel
theorem dX9_size_0 : decode cX9_size 0 = .ok (.aload_n 0, 1) := by decide +kernel
theorem dX9_size_1 : decode cX9_size 1 = .ok (.iload_n 1, 1) := by decide +kernel
theorem dX9_size_2 : decode cX9_size 2 = .ok (.invokevirtual 69, 3) := by decide +kernel
theorem dX9_size_5 : decode cX9_size 5 = .ok (.astore_n 3, 1) := by decide +kernel
theorem dX9_size_6 : decode cX9_size 6 = .ok (.iload_n 2, 1) := by decide +kernel
theorem dX9_size_7 : decode cX9_size 7 = .ok (.iconst 0, 1) := by decide +kernel
theorem dX9_size_8 : decode cX9_size 8 = .ok (.iconst 3, 1) := by decide +kernel
theorem dX9_size_9 : decode cX9_size 9 = .ok (.invokestatic 73, 3) := by decide +kernel
theorem dX9_size_12 : decode cX9_size 12 = .ok (.aload_n 0, 1) := by decide +kernel
theorem dX9_size_13 : decode cX9_size 13 = .ok (.iload_n 2, 1) := by decide +kernel
theorem dX9_size_14 : decode cX9_size 14 = .ok (.aload_n 3, 1) := by decide +kernel
theorem dX9_size_15 : decode cX9_size 15 = .ok (.aload_n 0, 1) := by decide +kernel
theorem dX9_size_16 : decode cX9_size 16 = .ok (.getfield 66, 3) := by decide +kernel
theorem dX9_size_19 : decode cX9_size 19 = .ok (.invokevirtual 183, 3) := by decide +kernel
theorem dX9_size_22 : decode cX9_size 22 = .ok (.aload_n 0, 1) := by decide +kernel
theorem dX9_size_23 : decode cX9_size 23 = .ok (.getfield 66, 3) := by decide +kernel
theorem dX9_size_26 : decode cX9_size 26 = .ok (.getfield 190, 3) := by decide +kernel
theorem dX9_size_29 : decode cX9_size 29 = .ok (.ireturn, 1) := by decide +kernel
theorem dX9_kind_0 : decode cX9_kind 0 = .ok (.aload_n 0, 1) := by decide +kernel
theorem dX9_kind_1 : decode cX9_kind 1 = .ok (.iconst 0, 1) := by decide +kernel
theorem dX9_kind_2 : decode cX9_kind 2 = .ok (.aload_n 0, 1) := by decide +kernel
theorem dX9_kind_3 : decode cX9_kind 3 = .ok (.iload_n 1, 1) := by decide +kernel
theorem dX9_kind_4 : decode cX9_kind 4 = .ok (.invokevirtual 69, 3) := by decide +kernel
theorem dX9_kind_7 : decode cX9_kind 7 = .ok (.aload_n 0, 1) := by decide +kernel
theorem dX9_kind_8 : decode cX9_kind 8 = .ok (.getfield 66, 3) := by decide +kernel
theorem dX9_kind_11 : decode cX9_kind 11 = .ok (.invokevirtual 183, 3) := by decide +kernel
theorem dX9_kind_14 : decode cX9_kind 14 = .ok (.aload_n 0, 1) := by decide +kernel
theorem dX9_kind_15 : decode cX9_kind 15 = .ok (.getfield 66, 3) := by decide +kernel
theorem dX9_kind_18 : decode cX9_kind 18 = .ok (.getfield 190, 3) := by decide +kernel
theorem dX9_kind_21 : decode cX9_kind 21 = .ok (.iconst 1, 1) := by decide +kernel
theorem dX9_kind_22 : decode cX9_kind 22 = .ok (.if_icmp .ne 20, 3) := by decide +kernel
theorem dX9_kind_25 : decode cX9_kind 25 = .ok (.aload_n 0, 1) := by decide +kernel
theorem dX9_kind_26 : decode cX9_kind 26 = .ok (.getfield 66, 3) := by decide +kernel
theorem dX9_kind_29 : decode cX9_kind 29 = .ok (.iconst 0, 1) := by decide +kernel
theorem dX9_kind_30 : decode cX9_kind 30 = .ok (.invokevirtual 195, 3) := by decide +kernel
theorem dX9_kind_33 : decode cX9_kind 33 = .ok (.ifCond .eq 7, 3) := by decide +kernel
theorem dX9_kind_36 : decode cX9_kind 36 = .ok (.iconst 1, 1) := by decide +kernel
theorem dX9_kind_37 : decode cX9_kind 37 = .ok (.goto 4, 3) := by decide +kernel
theorem dX9_kind_40 : decode cX9_kind 40 = .ok (.iconst 0, 1) := by decide +kernel
theorem dX9_kind_41 : decode cX9_kind 41 = .ok (.ireturn, 1) := by decide +kernel
theorem dX9_kind_42 : decode cX9_kind 42 = .ok (.aload_n 0, 1) := by decide +kernel
theorem dX9_kind_43 : decode cX9_kind 43 = .ok (.getfield 66, 3) := by decide +kernel
theorem dX9_kind_46 : decode cX9_kind 46 = .ok (.invokevirtual 199, 3) := by decide +kernel
theorem dX9_kind_49 : decode cX9_kind 49 = .ok (.ifCond .eq 7, 3) := by decide +kernel
theorem dX9_kind_52 : decode cX9_kind 52 = .ok (.iconst 3, 1) := by decide +kernel
theorem dX9_kind_53 : decode cX9_kind 53 = .ok (.goto 4, 3) := by decide +kernel
theorem dX9_kind_56 : decode cX9_kind 56 = .ok (.iconst 2, 1) := by decide +kernel
theorem dX9_kind_57 : decode cX9_kind 57 = .ok (.ireturn, 1) := by decide +kernel
theorem dX9_many_0 : decode cX9_many 0 = .ok (.aload_n 0, 1) := by decide +kernel
theorem dX9_many_1 : decode cX9_many 1 = .ok (.iload_n 1, 1) := by decide +kernel
theorem dX9_many_2 : decode cX9_many 2 = .ok (.invokevirtual 69, 3) := by decide +kernel
theorem dX9_many_5 : decode cX9_many 5 = .ok (.astore 4, 2) := by decide +kernel
theorem dX9_many_7 : decode cX9_many 7 = .ok (.iload_n 3, 1) := by decide +kernel
theorem dX9_many_8 : decode cX9_many 8 = .ok (.iconst 0, 1) := by decide +kernel
theorem dX9_many_9 : decode cX9_many 9 = .ok (.iconst 1, 1) := by decide +kernel
theorem dX9_many_10 : decode cX9_many 10 = .ok (.invokestatic 73, 3) := by decide +kernel
theorem dX9_many_13 : decode cX9_many 13 = .ok (.iload_n 2, 1) := by decide +kernel
theorem dX9_many_14 : decode cX9_many 14 = .ok (.iconst 0, 1) := by decide +kernel
theorem dX9_many_15 : decode cX9_many 15 = .ok (.iload_n 3, 1) := by decide +kernel
theorem dX9_many_16 : decode cX9_many 16 = .ok (.iconst 1, 1) := by decide +kernel
theorem dX9_many_17 : decode cX9_many 17 = .ok (.if_icmp .ne 7, 3) := by decide +kernel
theorem dX9_many_20 : decode cX9_many 20 = .ok (.iconst 5, 1) := by decide +kernel
theorem dX9_many_21 : decode cX9_many 21 = .ok (.goto 5, 3) := by decide +kernel
theorem dX9_many_24 : decode cX9_many 24 = .ok (.bipush 12, 2) := by decide +kernel
theorem dX9_many_26 : decode cX9_many 26 = .ok (.invokestatic 73, 3) := by decide +kernel
theorem dX9_many_29 : decode cX9_many 29 = .ok (.iload_n 3, 1) := by decide +kernel
theorem dX9_many_30 : decode cX9_many 30 = .ok (.iconst 1, 1) := by decide +kernel
theorem dX9_many_31 : decode cX9_many 31 = .ok (.if_icmp .ne 10, 3) := by decide +kernel
theorem dX9_many_34 : decode cX9_many 34 = .ok (.aload 4, 2) := by decide +kernel
theorem dX9_many_36 : decode cX9_many 36 = .ok (.iload_n 2, 1) := by decide +kernel
theorem dX9_many_37 : decode cX9_many 37 = .ok (.invokevirtual 202, 3) := by decide +kernel
theorem dX9_many_40 : decode cX9_many 40 = .ok (.ireturn, 1) := by decide +kernel
theorem dX9_many_41 : decode cX9_many 41 = .ok (.aload_n 0, 1) := by decide +kernel
theorem dX9_many_42 : decode cX9_many 42 = .ok (.iconst 0, 1) := by decide +kernel
theorem dX9_many_43 : decode cX9_many 43 = .ok (.aload 4, 2) := by decide +kernel
theorem dX9_many_45 : decode cX9_many 45 = .ok (.aload_n 0, 1) := by decide +kernel
theorem dX9_many_46 : decode cX9_many 46 = .ok (.getfield 66, 3) := by decide +kernel
theorem dX9_many_49 : decode cX9_many 49 = .ok (.invokevirtual 183, 3) := by decide +kernel
theorem dX9_many_52 : decode cX9_many 52 = .ok (.aload_n 0, 1) := by decide +kernel
theorem dX9_many_53 : decode cX9_many 53 = .ok (.getfield 49, 3) := by decide +kernel
theorem dX9_many_56 : decode cX9_many 56 = .ok (.aload_n 0, 1) := by decide +kernel
theorem dX9_many_57 : decode cX9_many 57 = .ok (.getfield 66, 3) := by decide +kernel
theorem dX9_many_60 : decode cX9_many 60 = .ok (.invokevirtual 205, 3) := by decide +kernel
theorem dX9_many_63 : decode cX9_many 63 = .ok (.aload_n 0, 1) := by decide +kernel
theorem dX9_many_64 : decode cX9_many 64 = .ok (.getfield 49, 3) := by decide +kernel
theorem dX9_many_67 : decode cX9_many 67 = .ok (.iconst 0, 1) := by decide +kernel
theorem dX9_many_68 : decode cX9_many 68 = .ok (.iload_n 2, 1) := by decide +kernel
theorem dX9_many_69 : decode cX9_many 69 = .ok (.invokevirtual 209, 3) := by decide +kernel
theorem dX9_many_72 : decode cX9_many 72 = .ok (.ireturn, 1) := by decide +kernel
theorem dX9_meetOrThrow_0 : decode cX9_meetOrThrow 0 = .ok (.aload_n 0, 1) := by decide +kernel
theorem dX9_meetOrThrow_1 : decode cX9_meetOrThrow 1 = .ok (.aload_n 1, 1) := by decide +kernel
theorem dX9_meetOrThrow_2 : decode cX9_meetOrThrow 2 = .ok (.aload_n 2, 1) := by decide +kernel
theorem dX9_meetOrThrow_3 : decode cX9_meetOrThrow 3 = .ok (.sipush 200, 3) := by decide +kernel
theorem dX9_meetOrThrow_6 : decode cX9_meetOrThrow 6 = .ok (.iconst 0, 1) := by decide +kernel
theorem dX9_meetOrThrow_7 : decode cX9_meetOrThrow 7 = .ok (.invokevirtual 284, 3) := by decide +kernel
theorem dX9_meetOrThrow_10 : decode cX9_meetOrThrow 10 = .ok (.ifCond .ne 13, 3) := by decide +kernel
theorem dX9_meetOrThrow_13 : decode cX9_meetOrThrow 13 = .ok (.new 241, 3) := by decide +kernel
theorem dX9_meetOrThrow_16 : decode cX9_meetOrThrow 16 = .ok (.dup, 1) := by decide +kernel
theorem dX9_meetOrThrow_17 : decode cX9_meetOrThrow 17 = .ok (.ldc 243, 2) := by decide +kernel
theorem dX9_meetOrThrow_19 : decode cX9_meetOrThrow 19 = .ok (.invokespecial 245, 3) := by decide +kernel
theorem dX9_meetOrThrow_22 : decode cX9_meetOrThrow 22 = .ok (.athrow, 1) := by decide +kernel
theorem dX9_meetOrThrow_23 : decode cX9_meetOrThrow 23 = .ok (.return_, 1) := by decide +kernel
theorem dX9_isAlike_0 : decode cX9_isAlike 0 = .ok (.aload_n 0, 1) := by decide +kernel
theorem dX9_isAlike_1 : decode cX9_isAlike 1 = .ok (.iload_n 1, 1) := by decide +kernel
theorem dX9_isAlike_2 : decode cX9_isAlike 2 = .ok (.invokevirtual 69, 3) := by decide +kernel
theorem dX9_isAlike_5 : decode cX9_isAlike 5 = .ok (.astore 4, 2) := by decide +kernel
theorem dX9_isAlike_7 : decode cX9_isAlike 7 = .ok (.aload_n 0, 1) := by decide +kernel
theorem dX9_isAlike_8 : decode cX9_isAlike 8 = .ok (.iload_n 2, 1) := by decide +kernel
theorem dX9_isAlike_9 : decode cX9_isAlike 9 = .ok (.invokevirtual 69, 3) := by decide +kernel
theorem dX9_isAlike_12 : decode cX9_isAlike 12 = .ok (.astore 5, 2) := by decide +kernel
theorem dX9_isAlike_14 : decode cX9_isAlike 14 = .ok (.iload_n 3, 1) := by decide +kernel
theorem dX9_isAlike_15 : decode cX9_isAlike 15 = .ok (.iconst 0, 1) := by decide +kernel
theorem dX9_isAlike_16 : decode cX9_isAlike 16 = .ok (.iconst 1, 1) := by decide +kernel
theorem dX9_isAlike_17 : decode cX9_isAlike 17 = .ok (.invokestatic 73, 3) := by decide +kernel
theorem dX9_isAlike_20 : decode cX9_isAlike 20 = .ok (.iload_n 3, 1) := by decide +kernel
theorem dX9_isAlike_21 : decode cX9_isAlike 21 = .ok (.ifCond .ne 28, 3) := by decide +kernel
theorem dX9_isAlike_24 : decode cX9_isAlike 24 = .ok (.aload_n 0, 1) := by decide +kernel
theorem dX9_isAlike_25 : decode cX9_isAlike 25 = .ok (.aload 4, 2) := by decide +kernel
theorem dX9_isAlike_27 : decode cX9_isAlike 27 = .ok (.aload 5, 2) := by decide +kernel
theorem dX9_isAlike_29 : decode cX9_isAlike 29 = .ok (.invokevirtual 223, 3) := by decide +kernel
theorem dX9_isAlike_32 : decode cX9_isAlike 32 = .ok (.aload_n 0, 1) := by decide +kernel
theorem dX9_isAlike_33 : decode cX9_isAlike 33 = .ok (.getfield 42, 3) := by decide +kernel
theorem dX9_isAlike_36 : decode cX9_isAlike 36 = .ok (.getfield 227, 3) := by decide +kernel
theorem dX9_isAlike_39 : decode cX9_isAlike 39 = .ok (.iconst (-1), 1) := by decide +kernel
theorem dX9_isAlike_40 : decode cX9_isAlike 40 = .ok (.if_icmp .ne 7, 3) := by decide +kernel
theorem dX9_isAlike_43 : decode cX9_isAlike 43 = .ok (.iconst 1, 1) := by decide +kernel
theorem dX9_isAlike_44 : decode cX9_isAlike 44 = .ok (.goto 4, 3) := by decide +kernel
theorem dX9_isAlike_47 : decode cX9_isAlike 47 = .ok (.iconst 0, 1) := by decide +kernel
theorem dX9_isAlike_48 : decode cX9_isAlike 48 = .ok (.ireturn, 1) := by decide +kernel
theorem dX9_isAlike_49 : decode cX9_isAlike 49 = .ok (.aload_n 0, 1) := by decide +kernel
theorem dX9_isAlike_50 : decode cX9_isAlike 50 = .ok (.iconst 0, 1) := by decide +kernel
theorem dX9_isAlike_51 : decode cX9_isAlike 51 = .ok (.aload 4, 2) := by decide +kernel
theorem dX9_isAlike_53 : decode cX9_isAlike 53 = .ok (.aload_n 0, 1) := by decide +kernel
theorem dX9_isAlike_54 : decode cX9_isAlike 54 = .ok (.getfield 56, 3) := by decide +kernel
theorem dX9_isAlike_57 : decode cX9_isAlike 57 = .ok (.invokevirtual 183, 3) := by decide +kernel
theorem dX9_isAlike_60 : decode cX9_isAlike 60 = .ok (.aload_n 0, 1) := by decide +kernel
theorem dX9_isAlike_61 : decode cX9_isAlike 61 = .ok (.iconst 0, 1) := by decide +kernel
theorem dX9_isAlike_62 : decode cX9_isAlike 62 = .ok (.aload 5, 2) := by decide +kernel
theorem dX9_isAlike_64 : decode cX9_isAlike 64 = .ok (.aload_n 0, 1) := by decide +kernel
theorem dX9_isAlike_65 : decode cX9_isAlike 65 = .ok (.getfield 60, 3) := by decide +kernel
theorem dX9_isAlike_68 : decode cX9_isAlike 68 = .ok (.invokevirtual 183, 3) := by decide +kernel
theorem dX9_isAlike_71 : decode cX9_isAlike 71 = .ok (.aload_n 0, 1) := by decide +kernel
theorem dX9_isAlike_72 : decode cX9_isAlike 72 = .ok (.getfield 56, 3) := by decide +kernel
theorem dX9_isAlike_75 : decode cX9_isAlike 75 = .ok (.aload_n 0, 1) := by decide +kernel
theorem dX9_isAlike_76 : decode cX9_isAlike 76 = .ok (.getfield 60, 3) := by decide +kernel
theorem dX9_isAlike_79 : decode cX9_isAlike 79 = .ok (.invokevirtual 230, 3) := by decide +kernel
theorem dX9_isAlike_82 : decode cX9_isAlike 82 = .ok (.ireturn, 1) := by decide +kernel
theorem dX9_pairs_0 : decode cX9_pairs 0 = .ok (.aload_n 0, 1) := by decide +kernel
theorem dX9_pairs_1 : decode cX9_pairs 1 = .ok (.iload_n 1, 1) := by decide +kernel
theorem dX9_pairs_2 : decode cX9_pairs 2 = .ok (.invokevirtual 69, 3) := by decide +kernel
theorem dX9_pairs_5 : decode cX9_pairs 5 = .ok (.astore_n 3, 1) := by decide +kernel
theorem dX9_pairs_6 : decode cX9_pairs 6 = .ok (.aload_n 0, 1) := by decide +kernel
theorem dX9_pairs_7 : decode cX9_pairs 7 = .ok (.iload_n 2, 1) := by decide +kernel
theorem dX9_pairs_8 : decode cX9_pairs 8 = .ok (.invokevirtual 69, 3) := by decide +kernel
theorem dX9_pairs_11 : decode cX9_pairs 11 = .ok (.astore 4, 2) := by decide +kernel
theorem dX9_pairs_13 : decode cX9_pairs 13 = .ok (.aload_n 0, 1) := by decide +kernel
theorem dX9_pairs_14 : decode cX9_pairs 14 = .ok (.aload_n 3, 1) := by decide +kernel
theorem dX9_pairs_15 : decode cX9_pairs 15 = .ok (.aload 4, 2) := by decide +kernel
theorem dX9_pairs_17 : decode cX9_pairs 17 = .ok (.invokevirtual 223, 3) := by decide +kernel
theorem dX9_pairs_20 : decode cX9_pairs 20 = .ok (.aload_n 0, 1) := by decide +kernel
theorem dX9_pairs_21 : decode cX9_pairs 21 = .ok (.getfield 42, 3) := by decide +kernel
theorem dX9_pairs_24 : decode cX9_pairs 24 = .ok (.getfield 239, 3) := by decide +kernel
theorem dX9_pairs_27 : decode cX9_pairs 27 = .ok (.ireturn, 1) := by decide +kernel
theorem dX9_together_0 : decode cX9_together 0 = .ok (.aload_n 0, 1) := by decide +kernel
theorem dX9_together_1 : decode cX9_together 1 = .ok (.iload_n 1, 1) := by decide +kernel
theorem dX9_together_2 : decode cX9_together 2 = .ok (.invokevirtual 69, 3) := by decide +kernel
theorem dX9_together_5 : decode cX9_together 5 = .ok (.astore 5, 2) := by decide +kernel
theorem dX9_together_7 : decode cX9_together 7 = .ok (.aload_n 0, 1) := by decide +kernel
theorem dX9_together_8 : decode cX9_together 8 = .ok (.iload_n 2, 1) := by decide +kernel
theorem dX9_together_9 : decode cX9_together 9 = .ok (.invokevirtual 69, 3) := by decide +kernel
theorem dX9_together_12 : decode cX9_together 12 = .ok (.astore 6, 2) := by decide +kernel
theorem dX9_together_14 : decode cX9_together 14 = .ok (.iload_n 3, 1) := by decide +kernel
theorem dX9_together_15 : decode cX9_together 15 = .ok (.iconst 0, 1) := by decide +kernel
theorem dX9_together_16 : decode cX9_together 16 = .ok (.iconst 3, 1) := by decide +kernel
theorem dX9_together_17 : decode cX9_together 17 = .ok (.invokestatic 73, 3) := by decide +kernel
theorem dX9_together_20 : decode cX9_together 20 = .ok (.iload 4, 2) := by decide +kernel
theorem dX9_together_22 : decode cX9_together 22 = .ok (.iconst (-1), 1) := by decide +kernel
theorem dX9_together_23 : decode cX9_together 23 = .ok (.bipush 12, 2) := by decide +kernel
theorem dX9_together_25 : decode cX9_together 25 = .ok (.invokestatic 73, 3) := by decide +kernel
theorem dX9_together_28 : decode cX9_together 28 = .ok (.aload_n 0, 1) := by decide +kernel
theorem dX9_together_29 : decode cX9_together 29 = .ok (.aload 5, 2) := by decide +kernel
theorem dX9_together_31 : decode cX9_together 31 = .ok (.aload 6, 2) := by decide +kernel
theorem dX9_together_33 : decode cX9_together 33 = .ok (.iload_n 3, 1) := by decide +kernel
theorem dX9_together_34 : decode cX9_together 34 = .ok (.invokevirtual 168, 3) := by decide +kernel
theorem dX9_together_37 : decode cX9_together 37 = .ok (.ifCond .ne 13, 3) := by decide +kernel
theorem dX9_together_40 : decode cX9_together 40 = .ok (.new 241, 3) := by decide +kernel
theorem dX9_together_43 : decode cX9_together 43 = .ok (.dup, 1) := by decide +kernel
theorem dX9_together_44 : decode cX9_together 44 = .ok (.ldc 243, 2) := by decide +kernel
theorem dX9_together_46 : decode cX9_together 46 = .ok (.invokespecial 245, 3) := by decide +kernel
theorem dX9_together_49 : decode cX9_together 49 = .ok (.athrow, 1) := by decide +kernel
theorem dX9_together_50 : decode cX9_together 50 = .ok (.iload 4, 2) := by decide +kernel
theorem dX9_together_52 : decode cX9_together 52 = .ok (.iconst (-1), 1) := by decide +kernel
theorem dX9_together_53 : decode cX9_together 53 = .ok (.if_icmp .ne 11, 3) := by decide +kernel
theorem dX9_together_56 : decode cX9_together 56 = .ok (.aload_n 0, 1) := by decide +kernel
theorem dX9_together_57 : decode cX9_together 57 = .ok (.getfield 66, 3) := by decide +kernel
theorem dX9_together_60 : decode cX9_together 60 = .ok (.getfield 190, 3) := by decide +kernel
theorem dX9_together_63 : decode cX9_together 63 = .ok (.ireturn, 1) := by decide +kernel
theorem dX9_together_64 : decode cX9_together 64 = .ok (.aload_n 0, 1) := by decide +kernel
theorem dX9_together_65 : decode cX9_together 65 = .ok (.getfield 49, 3) := by decide +kernel
theorem dX9_together_68 : decode cX9_together 68 = .ok (.aload_n 0, 1) := by decide +kernel
theorem dX9_together_69 : decode cX9_together 69 = .ok (.getfield 66, 3) := by decide +kernel
theorem dX9_together_72 : decode cX9_together 72 = .ok (.invokevirtual 205, 3) := by decide +kernel
theorem dX9_together_75 : decode cX9_together 75 = .ok (.aload_n 0, 1) := by decide +kernel
theorem dX9_together_76 : decode cX9_together 76 = .ok (.getfield 49, 3) := by decide +kernel
theorem dX9_together_79 : decode cX9_together 79 = .ok (.iconst 0, 1) := by decide +kernel
theorem dX9_together_80 : decode cX9_together 80 = .ok (.iload 4, 2) := by decide +kernel
theorem dX9_together_82 : decode cX9_together 82 = .ok (.invokevirtual 209, 3) := by decide +kernel
theorem dX9_together_85 : decode cX9_together 85 = .ok (.ireturn, 1) := by decide +kernel
theorem dX9_house_0 : decode cX9_house 0 = .ok (.iload_n 1, 1) := by decide +kernel
theorem dX9_house_1 : decode cX9_house 1 = .ok (.iconst 0, 1) := by decide +kernel
theorem dX9_house_2 : decode cX9_house 2 = .ok (.iconst 2, 1) := by decide +kernel
theorem dX9_house_3 : decode cX9_house 3 = .ok (.invokestatic 73, 3) := by decide +kernel
theorem dX9_house_6 : decode cX9_house 6 = .ok (.iload_n 1, 1) := by decide +kernel
theorem dX9_house_7 : decode cX9_house 7 = .ok (.lookupswitch 35 #[(0, 25), (1, 30)], 25) := by decide +kernel
theorem dX9_house_32 : decode cX9_house 32 = .ok (.aload_n 0, 1) := by decide +kernel
theorem dX9_house_33 : decode cX9_house 33 = .ok (.getfield 246, 3) := by decide +kernel
theorem dX9_house_36 : decode cX9_house 36 = .ok (.ireturn, 1) := by decide +kernel
theorem dX9_house_37 : decode cX9_house 37 = .ok (.aload_n 0, 1) := by decide +kernel
theorem dX9_house_38 : decode cX9_house 38 = .ok (.getfield 249, 3) := by decide +kernel
theorem dX9_house_41 : decode cX9_house 41 = .ok (.ireturn, 1) := by decide +kernel
theorem dX9_house_42 : decode cX9_house 42 = .ok (.aload_n 0, 1) := by decide +kernel
theorem dX9_house_43 : decode cX9_house 43 = .ok (.getfield 252, 3) := by decide +kernel
theorem dX9_house_46 : decode cX9_house 46 = .ok (.ireturn, 1) := by decide +kernel
theorem dX9_isSound_0 : decode cX9_isSound 0 = .ok (.aload_n 0, 1) := by decide +kernel
theorem dX9_isSound_1 : decode cX9_isSound 1 = .ok (.iconst 0, 1) := by decide +kernel
theorem dX9_isSound_2 : decode cX9_isSound 2 = .ok (.invokevirtual 69, 3) := by decide +kernel
theorem dX9_isSound_5 : decode cX9_isSound 5 = .ok (.astore_n 1, 1) := by decide +kernel
theorem dX9_isSound_6 : decode cX9_isSound 6 = .ok (.aload_n 0, 1) := by decide +kernel
theorem dX9_isSound_7 : decode cX9_isSound 7 = .ok (.getfield 35, 3) := by decide +kernel
theorem dX9_isSound_10 : decode cX9_isSound 10 = .ok (.iconst 0, 1) := by decide +kernel
theorem dX9_isSound_11 : decode cX9_isSound 11 = .ok (.aload_n 1, 1) := by decide +kernel
theorem dX9_isSound_12 : decode cX9_isSound 12 = .ok (.aload_n 0, 1) := by decide +kernel
theorem dX9_isSound_13 : decode cX9_isSound 13 = .ok (.getfield 66, 3) := by decide +kernel
theorem dX9_isSound_16 : decode cX9_isSound 16 = .ok (.invokevirtual 160, 3) := by decide +kernel
theorem dX9_isSound_19 : decode cX9_isSound 19 = .ok (.ifCond .ne 5, 3) := by decide +kernel
theorem dX9_isSound_22 : decode cX9_isSound 22 = .ok (.iconst 1, 1) := by decide +kernel
theorem dX9_isSound_23 : decode cX9_isSound 23 = .ok (.ireturn, 1) := by decide +kernel
theorem dX9_isSound_24 : decode cX9_isSound 24 = .ok (.aload_n 0, 1) := by decide +kernel
theorem dX9_isSound_25 : decode cX9_isSound 25 = .ok (.getfield 35, 3) := by decide +kernel
theorem dX9_isSound_28 : decode cX9_isSound 28 = .ok (.iconst 1, 1) := by decide +kernel
theorem dX9_isSound_29 : decode cX9_isSound 29 = .ok (.aload_n 1, 1) := by decide +kernel
theorem dX9_isSound_30 : decode cX9_isSound 30 = .ok (.aload_n 0, 1) := by decide +kernel
theorem dX9_isSound_31 : decode cX9_isSound 31 = .ok (.getfield 56, 3) := by decide +kernel
theorem dX9_isSound_34 : decode cX9_isSound 34 = .ok (.invokevirtual 160, 3) := by decide +kernel
theorem dX9_isSound_37 : decode cX9_isSound 37 = .ok (.ifCond .eq 17, 3) := by decide +kernel
theorem dX9_isSound_40 : decode cX9_isSound 40 = .ok (.aload_n 0, 1) := by decide +kernel
theorem dX9_isSound_41 : decode cX9_isSound 41 = .ok (.getfield 56, 3) := by decide +kernel
theorem dX9_isSound_44 : decode cX9_isSound 44 = .ok (.aload_n 0, 1) := by decide +kernel
theorem dX9_isSound_45 : decode cX9_isSound 45 = .ok (.getfield 66, 3) := by decide +kernel
theorem dX9_isSound_48 : decode cX9_isSound 48 = .ok (.invokevirtual 230, 3) := by decide +kernel
theorem dX9_isSound_51 : decode cX9_isSound 51 = .ok (.ifCond .ne 5, 3) := by decide +kernel
theorem dX9_isSound_54 : decode cX9_isSound 54 = .ok (.iconst 0, 1) := by decide +kernel
theorem dX9_isSound_55 : decode cX9_isSound 55 = .ok (.ireturn, 1) := by decide +kernel
theorem dX9_isSound_56 : decode cX9_isSound 56 = .ok (.aload_n 0, 1) := by decide +kernel
theorem dX9_isSound_57 : decode cX9_isSound 57 = .ok (.getfield 35, 3) := by decide +kernel
theorem dX9_isSound_60 : decode cX9_isSound 60 = .ok (.iconst 2, 1) := by decide +kernel
theorem dX9_isSound_61 : decode cX9_isSound 61 = .ok (.aload_n 1, 1) := by decide +kernel
theorem dX9_isSound_62 : decode cX9_isSound 62 = .ok (.aload_n 0, 1) := by decide +kernel
theorem dX9_isSound_63 : decode cX9_isSound 63 = .ok (.getfield 56, 3) := by decide +kernel
theorem dX9_isSound_66 : decode cX9_isSound 66 = .ok (.invokevirtual 160, 3) := by decide +kernel
theorem dX9_isSound_69 : decode cX9_isSound 69 = .ok (.ifCond .eq 19, 3) := by decide +kernel
theorem dX9_isSound_72 : decode cX9_isSound 72 = .ok (.aload_n 0, 1) := by decide +kernel
theorem dX9_isSound_73 : decode cX9_isSound 73 = .ok (.getfield 56, 3) := by decide +kernel
theorem dX9_isSound_76 : decode cX9_isSound 76 = .ok (.aload_n 0, 1) := by decide +kernel
theorem dX9_isSound_77 : decode cX9_isSound 77 = .ok (.getfield 66, 3) := by decide +kernel
theorem dX9_isSound_80 : decode cX9_isSound 80 = .ok (.invokevirtual 230, 3) := by decide +kernel
theorem dX9_isSound_83 : decode cX9_isSound 83 = .ok (.ifCond .ne 5, 3) := by decide +kernel
theorem dX9_isSound_86 : decode cX9_isSound 86 = .ok (.iconst 0, 1) := by decide +kernel
theorem dX9_isSound_87 : decode cX9_isSound 87 = .ok (.ireturn, 1) := by decide +kernel
theorem dX9_isSound_88 : decode cX9_isSound 88 = .ok (.aload_n 0, 1) := by decide +kernel
theorem dX9_isSound_89 : decode cX9_isSound 89 = .ok (.getfield 22, 3) := by decide +kernel
theorem dX9_isSound_92 : decode cX9_isSound 92 = .ok (.aload_n 0, 1) := by decide +kernel
theorem dX9_isSound_93 : decode cX9_isSound 93 = .ok (.getfield 66, 3) := by decide +kernel
theorem dX9_isSound_96 : decode cX9_isSound 96 = .ok (.invokevirtual 255, 3) := by decide +kernel
theorem dX9_isSound_99 : decode cX9_isSound 99 = .ok (.aload_n 0, 1) := by decide +kernel
theorem dX9_isSound_100 : decode cX9_isSound 100 = .ok (.getfield 35, 3) := by decide +kernel
theorem dX9_isSound_103 : decode cX9_isSound 103 = .ok (.iconst 0, 1) := by decide +kernel
theorem dX9_isSound_104 : decode cX9_isSound 104 = .ok (.aload_n 0, 1) := by decide +kernel
theorem dX9_isSound_105 : decode cX9_isSound 105 = .ok (.getfield 22, 3) := by decide +kernel
theorem dX9_isSound_108 : decode cX9_isSound 108 = .ok (.aload_n 0, 1) := by decide +kernel
theorem dX9_isSound_109 : decode cX9_isSound 109 = .ok (.getfield 56, 3) := by decide +kernel
theorem dX9_isSound_112 : decode cX9_isSound 112 = .ok (.invokevirtual 160, 3) := by decide +kernel
theorem dX9_isSound_115 : decode cX9_isSound 115 = .ok (.ifCond .eq 17, 3) := by decide +kernel
theorem dX9_isSound_118 : decode cX9_isSound 118 = .ok (.aload_n 0, 1) := by decide +kernel
theorem dX9_isSound_119 : decode cX9_isSound 119 = .ok (.getfield 56, 3) := by decide +kernel
theorem dX9_isSound_122 : decode cX9_isSound 122 = .ok (.aload_n 0, 1) := by decide +kernel
theorem dX9_isSound_123 : decode cX9_isSound 123 = .ok (.getfield 66, 3) := by decide +kernel
theorem dX9_isSound_126 : decode cX9_isSound 126 = .ok (.invokevirtual 230, 3) := by decide +kernel
theorem dX9_isSound_129 : decode cX9_isSound 129 = .ok (.ifCond .ne 5, 3) := by decide +kernel
theorem dX9_isSound_132 : decode cX9_isSound 132 = .ok (.iconst 0, 1) := by decide +kernel
theorem dX9_isSound_133 : decode cX9_isSound 133 = .ok (.ireturn, 1) := by decide +kernel
theorem dX9_isSound_134 : decode cX9_isSound 134 = .ok (.aload_n 0, 1) := by decide +kernel
theorem dX9_isSound_135 : decode cX9_isSound 135 = .ok (.aload_n 1, 1) := by decide +kernel
theorem dX9_isSound_136 : decode cX9_isSound 136 = .ok (.invokevirtual 258, 3) := by decide +kernel
theorem dX9_isSound_139 : decode cX9_isSound 139 = .ok (.ireturn, 1) := by decide +kernel
theorem dX9_digest_0 : decode cX9_digest 0 = .ok (.ldc2_w 261, 3) := by decide +kernel
theorem dX9_digest_3 : decode cX9_digest 3 = .ok (.lstore_n 1, 1) := by decide +kernel
theorem dX9_digest_4 : decode cX9_digest 4 = .ok (.iconst 0, 1) := by decide +kernel
theorem dX9_digest_5 : decode cX9_digest 5 = .ok (.istore_n 3, 1) := by decide +kernel
theorem dX9_digest_6 : decode cX9_digest 6 = .ok (.iload_n 3, 1) := by decide +kernel
theorem dX9_digest_7 : decode cX9_digest 7 = .ok (.aload_n 0, 1) := by decide +kernel
theorem dX9_digest_8 : decode cX9_digest 8 = .ok (.getfield 11, 3) := by decide +kernel
theorem dX9_digest_11 : decode cX9_digest 11 = .ok (.arraylength, 1) := by decide +kernel
theorem dX9_digest_12 : decode cX9_digest 12 = .ok (.if_icmp .ge 20, 3) := by decide +kernel
theorem dX9_digest_15 : decode cX9_digest 15 = .ok (.lload_n 1, 1) := by decide +kernel
theorem dX9_digest_16 : decode cX9_digest 16 = .ok (.aload_n 0, 1) := by decide +kernel
theorem dX9_digest_17 : decode cX9_digest 17 = .ok (.getfield 11, 3) := by decide +kernel
theorem dX9_digest_20 : decode cX9_digest 20 = .ok (.iload_n 3, 1) := by decide +kernel
theorem dX9_digest_21 : decode cX9_digest 21 = .ok (.aaload, 1) := by decide +kernel
theorem dX9_digest_22 : decode cX9_digest 22 = .ok (.invokestatic 263, 3) := by decide +kernel
theorem dX9_digest_25 : decode cX9_digest 25 = .ok (.lstore_n 1, 1) := by decide +kernel
theorem dX9_digest_26 : decode cX9_digest 26 = .ok (.iinc 3 1, 3) := by decide +kernel
theorem dX9_digest_29 : decode cX9_digest 29 = .ok (.goto (-23), 3) := by decide +kernel
theorem dX9_digest_32 : decode cX9_digest 32 = .ok (.lload_n 1, 1) := by decide +kernel
theorem dX9_digest_33 : decode cX9_digest 33 = .ok (.ldc2_w 267, 3) := by decide +kernel
theorem dX9_digest_36 : decode cX9_digest 36 = .ok (.lmul, 1) := by decide +kernel
theorem dX9_digest_37 : decode cX9_digest 37 = .ok (.aload_n 0, 1) := by decide +kernel
theorem dX9_digest_38 : decode cX9_digest 38 = .ok (.getfield 246, 3) := by decide +kernel
theorem dX9_digest_41 : decode cX9_digest 41 = .ok (.i2l, 1) := by decide +kernel
theorem dX9_digest_42 : decode cX9_digest 42 = .ok (.ladd, 1) := by decide +kernel
theorem dX9_digest_43 : decode cX9_digest 43 = .ok (.lstore_n 1, 1) := by decide +kernel
theorem dX9_digest_44 : decode cX9_digest 44 = .ok (.lload_n 1, 1) := by decide +kernel
theorem dX9_digest_45 : decode cX9_digest 45 = .ok (.ldc2_w 267, 3) := by decide +kernel
theorem dX9_digest_48 : decode cX9_digest 48 = .ok (.lmul, 1) := by decide +kernel
theorem dX9_digest_49 : decode cX9_digest 49 = .ok (.aload_n 0, 1) := by decide +kernel
theorem dX9_digest_50 : decode cX9_digest 50 = .ok (.getfield 249, 3) := by decide +kernel
theorem dX9_digest_53 : decode cX9_digest 53 = .ok (.i2l, 1) := by decide +kernel
theorem dX9_digest_54 : decode cX9_digest 54 = .ok (.ladd, 1) := by decide +kernel
theorem dX9_digest_55 : decode cX9_digest 55 = .ok (.lstore_n 1, 1) := by decide +kernel
theorem dX9_digest_56 : decode cX9_digest 56 = .ok (.lload_n 1, 1) := by decide +kernel
theorem dX9_digest_57 : decode cX9_digest 57 = .ok (.ldc2_w 267, 3) := by decide +kernel
theorem dX9_digest_60 : decode cX9_digest 60 = .ok (.lmul, 1) := by decide +kernel
theorem dX9_digest_61 : decode cX9_digest 61 = .ok (.aload_n 0, 1) := by decide +kernel
theorem dX9_digest_62 : decode cX9_digest 62 = .ok (.getfield 252, 3) := by decide +kernel
theorem dX9_digest_65 : decode cX9_digest 65 = .ok (.i2l, 1) := by decide +kernel
theorem dX9_digest_66 : decode cX9_digest 66 = .ok (.ladd, 1) := by decide +kernel
theorem dX9_digest_67 : decode cX9_digest 67 = .ok (.lstore_n 1, 1) := by decide +kernel
theorem dX9_digest_68 : decode cX9_digest 68 = .ok (.lload_n 1, 1) := by decide +kernel
theorem dX9_digest_69 : decode cX9_digest 69 = .ok (.ldc2_w 267, 3) := by decide +kernel
theorem dX9_digest_72 : decode cX9_digest 72 = .ok (.lmul, 1) := by decide +kernel
theorem dX9_digest_73 : decode cX9_digest 73 = .ok (.aload_n 0, 1) := by decide +kernel
theorem dX9_digest_74 : decode cX9_digest 74 = .ok (.invokevirtual 269, 3) := by decide +kernel
theorem dX9_digest_77 : decode cX9_digest 77 = .ok (.ifCond .eq 7, 3) := by decide +kernel
theorem dX9_digest_80 : decode cX9_digest 80 = .ok (.iconst 1, 1) := by decide +kernel
theorem dX9_digest_81 : decode cX9_digest 81 = .ok (.goto 4, 3) := by decide +kernel
theorem dX9_digest_84 : decode cX9_digest 84 = .ok (.iconst 0, 1) := by decide +kernel
theorem dX9_digest_85 : decode cX9_digest 85 = .ok (.i2l, 1) := by decide +kernel
theorem dX9_digest_86 : decode cX9_digest 86 = .ok (.ladd, 1) := by decide +kernel
theorem dX9_digest_87 : decode cX9_digest 87 = .ok (.lreturn, 1) := by decide +kernel
