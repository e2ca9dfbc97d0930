set_option maxRecDepth 100000 in
theorem db_cX9_knock_dX9_knock_0_0 : (decode cX9_knock 0 = .ok (.aload_n 0, 1)) ∧ (decode cX9_knock 1 = .ok (.dup, 1)) ∧ (decode cX9_knock 2 = .ok (.getfield 252, 3)) ∧ (decode cX9_knock 5 = .ok (.iconst 1, 1)) ∧ (decode cX9_knock 6 = .ok (.iadd, 1)) ∧ (decode cX9_knock 7 = .ok (.putfield 252, 3)) ∧ (decode cX9_knock 10 = .ok (.aload_n 0, 1)) ∧ (decode cX9_knock 11 = .ok (.getfield 252, 3)) ∧ (decode cX9_knock 14 = .ok (.ireturn, 1)) := by decide +kernel
theorem dX9_knock_0 : decode cX9_knock 0 = .ok (.aload_n 0, 1) := db_cX9_knock_dX9_knock_0_0.1
theorem dX9_knock_1 : decode cX9_knock 1 = .ok (.dup, 1) := db_cX9_knock_dX9_knock_0_0.2.1
theorem dX9_knock_2 : decode cX9_knock 2 = .ok (.getfield 252, 3) := db_cX9_knock_dX9_knock_0_0.2.2.1
theorem dX9_knock_5 : decode cX9_knock 5 = .ok (.iconst 1, 1) := db_cX9_knock_dX9_knock_0_0.2.2.2.1
theorem dX9_knock_6 : decode cX9_knock 6 = .ok (.iadd, 1) := db_cX9_knock_dX9_knock_0_0.2.2.2.2.1
theorem dX9_knock_7 : decode cX9_knock 7 = .ok (.putfield 252, 3) := db_cX9_knock_dX9_knock_0_0.2.2.2.2.2.1
theorem dX9_knock_10 : decode cX9_knock 10 = .ok (.aload_n 0, 1) := db_cX9_knock_dX9_knock_0_0.2.2.2.2.2.2.1
theorem dX9_knock_11 : decode cX9_knock 11 = .ok (.getfield 252, 3) := db_cX9_knock_dX9_knock_0_0.2.2.2.2.2.2.2.1
theorem dX9_knock_14 : decode cX9_knock 14 = .ok (.ireturn, 1) := db_cX9_knock_dX9_knock_0_0.2.2.2.2.2.2.2.2
set_option maxRecDepth 100000 in
theorem db_cX9_countCodes_dX9_countCodes_0_0 : (decode cX9_countCodes 0 = .ok (.iconst 1, 1)) ∧ (decode cX9_countCodes 1 = .ok (.istore_n 1, 1)) ∧ (decode cX9_countCodes 2 = .ok (.iconst 0, 1)) ∧ (decode cX9_countCodes 3 = .ok (.istore_n 2, 1)) ∧ (decode cX9_countCodes 4 = .ok (.iload_n 2, 1)) ∧ (decode cX9_countCodes 5 = .ok (.iload_n 0, 1)) ∧ (decode cX9_countCodes 6 = .ok (.if_icmp .ge 13, 3)) ∧ (decode cX9_countCodes 9 = .ok (.iload_n 1, 1)) ∧ (decode cX9_countCodes 10 = .ok (.iconst 3, 1)) ∧ (decode cX9_countCodes 11 = .ok (.imul, 1)) ∧ (decode cX9_countCodes 12 = .ok (.istore_n 1, 1)) ∧ (decode cX9_countCodes 13 = .ok (.iinc 2 1, 3)) := by decide +kernel
theorem dX9_countCodes_0 : decode cX9_countCodes 0 = .ok (.iconst 1, 1) := db_cX9_countCodes_dX9_countCodes_0_0.1
theorem dX9_countCodes_1 : decode cX9_countCodes 1 = .ok (.istore_n 1, 1) := db_cX9_countCodes_dX9_countCodes_0_0.2.1
theorem dX9_countCodes_2 : decode cX9_countCodes 2 = .ok (.iconst 0, 1) := db_cX9_countCodes_dX9_countCodes_0_0.2.2.1
theorem dX9_countCodes_3 : decode cX9_countCodes 3 = .ok (.istore_n 2, 1) := db_cX9_countCodes_dX9_countCodes_0_0.2.2.2.1
theorem dX9_countCodes_4 : decode cX9_countCodes 4 = .ok (.iload_n 2, 1) := db_cX9_countCodes_dX9_countCodes_0_0.2.2.2.2.1
theorem dX9_countCodes_5 : decode cX9_countCodes 5 = .ok (.iload_n 0, 1) := db_cX9_countCodes_dX9_countCodes_0_0.2.2.2.2.2.1
theorem dX9_countCodes_6 : decode cX9_countCodes 6 = .ok (.if_icmp .ge 13, 3) := db_cX9_countCodes_dX9_countCodes_0_0.2.2.2.2.2.2.1
theorem dX9_countCodes_9 : decode cX9_countCodes 9 = .ok (.iload_n 1, 1) := db_cX9_countCodes_dX9_countCodes_0_0.2.2.2.2.2.2.2.1
theorem dX9_countCodes_10 : decode cX9_countCodes 10 = .ok (.iconst 3, 1) := db_cX9_countCodes_dX9_countCodes_0_0.2.2.2.2.2.2.2.2.1
theorem dX9_countCodes_11 : decode cX9_countCodes 11 = .ok (.imul, 1) := db_cX9_countCodes_dX9_countCodes_0_0.2.2.2.2.2.2.2.2.2.1
theorem dX9_countCodes_12 : decode cX9_countCodes 12 = .ok (.istore_n 1, 1) := db_cX9_countCodes_dX9_countCodes_0_0.2.2.2.2.2.2.2.2.2.2.1
theorem dX9_countCodes_13 : decode cX9_countCodes 13 = .ok (.iinc 2 1, 3) := db_cX9_countCodes_dX9_countCodes_0_0.2.2.2.2.2.2.2.2.2.2.2
set_option maxRecDepth 100000 in
theorem db_cX9_countCodes_dX9_countCodes_16_1 : (decode cX9_countCodes 16 = .ok (.goto (-12), 3)) ∧ (decode cX9_countCodes 19 = .ok (.iload_n 1, 1)) ∧ (decode cX9_countCodes 20 = .ok (.ireturn, 1)) := by decide +kernel
theorem dX9_countCodes_16 : decode cX9_countCodes 16 = .ok (.goto (-12), 3) := db_cX9_countCodes_dX9_countCodes_16_1.1
theorem dX9_countCodes_19 : decode cX9_countCodes 19 = .ok (.iload_n 1, 1) := db_cX9_countCodes_dX9_countCodes_16_1.2.1
theorem dX9_countCodes_20 : decode cX9_countCodes 20 = .ok (.ireturn, 1) := db_cX9_countCodes_dX9_countCodes_16_1.2.2
set_option maxRecDepth 100000 in
theorem db_cX9_isIn_dX9_isIn_0_0 : (decode cX9_isIn 0 = .ok (.iload_n 0, 1)) ∧ (decode cX9_isIn 1 = .ok (.iload_n 1, 1)) ∧ (decode cX9_isIn 2 = .ok (.ishr, 1)) ∧ (decode cX9_isIn 3 = .ok (.iconst 1, 1)) ∧ (decode cX9_isIn 4 = .ok (.iand, 1)) ∧ (decode cX9_isIn 5 = .ok (.ifCond .eq 7, 3)) ∧ (decode cX9_isIn 8 = .ok (.iconst 1, 1)) ∧ (decode cX9_isIn 9 = .ok (.goto 4, 3)) ∧ (decode cX9_isIn 12 = .ok (.iconst 0, 1)) ∧ (decode cX9_isIn 13 = .ok (.ireturn, 1)) := by decide +kernel
theorem dX9_isIn_0 : decode cX9_isIn 0 = .ok (.iload_n 0, 1) := db_cX9_isIn_dX9_isIn_0_0.1
theorem dX9_isIn_1 : decode cX9_isIn 1 = .ok (.iload_n 1, 1) := db_cX9_isIn_dX9_isIn_0_0.2.1
theorem dX9_isIn_2 : decode cX9_isIn 2 = .ok (.ishr, 1) := db_cX9_isIn_dX9_isIn_0_0.2.2.1
theorem dX9_isIn_3 : decode cX9_isIn 3 = .ok (.iconst 1, 1) := db_cX9_isIn_dX9_isIn_0_0.2.2.2.1
theorem dX9_isIn_4 : decode cX9_isIn 4 = .ok (.iand, 1) := db_cX9_isIn_dX9_isIn_0_0.2.2.2.2.1
theorem dX9_isIn_5 : decode cX9_isIn 5 = .ok (.ifCond .eq 7, 3) := db_cX9_isIn_dX9_isIn_0_0.2.2.2.2.2.1
theorem dX9_isIn_8 : decode cX9_isIn 8 = .ok (.iconst 1, 1) := db_cX9_isIn_dX9_isIn_0_0.2.2.2.2.2.2.1
theorem dX9_isIn_9 : decode cX9_isIn 9 = .ok (.goto 4, 3) := db_cX9_isIn_dX9_isIn_0_0.2.2.2.2.2.2.2.1
theorem dX9_isIn_12 : decode cX9_isIn 12 = .ok (.iconst 0, 1) := db_cX9_isIn_dX9_isIn_0_0.2.2.2.2.2.2.2.2.1
theorem dX9_isIn_13 : decode cX9_isIn 13 = .ok (.ireturn, 1) := db_cX9_isIn_dX9_isIn_0_0.2.2.2.2.2.2.2.2.2
set_option maxRecDepth 100000 in
theorem db_cX9_withOrWithout_dX9_withOrWithout_0_0 : (decode cX9_withOrWithout 0 = .ok (.iload_n 2, 1)) ∧ (decode cX9_withOrWithout 1 = .ok (.ifCond .eq 11, 3)) ∧ (decode cX9_withOrWithout 4 = .ok (.iload_n 0, 1)) ∧ (decode cX9_withOrWithout 5 = .ok (.iconst 1, 1)) ∧ (decode cX9_withOrWithout 6 = .ok (.iload_n 1, 1)) ∧ (decode cX9_withOrWithout 7 = .ok (.ishl, 1)) ∧ (decode cX9_withOrWithout 8 = .ok (.ior, 1)) ∧ (decode cX9_withOrWithout 9 = .ok (.goto 10, 3)) ∧ (decode cX9_withOrWithout 12 = .ok (.iload_n 0, 1)) ∧ (decode cX9_withOrWithout 13 = .ok (.iconst 1, 1)) ∧ (decode cX9_withOrWithout 14 = .ok (.iload_n 1, 1)) ∧ (decode cX9_withOrWithout 15 = .ok (.ishl, 1)) := by decide +kernel
theorem dX9_withOrWithout_0 : decode cX9_withOrWithout 0 = .ok (.iload_n 2, 1) := db_cX9_withOrWithout_dX9_withOrWithout_0_0.1
theorem dX9_withOrWithout_1 : decode cX9_withOrWithout 1 = .ok (.ifCond .eq 11, 3) := db_cX9_withOrWithout_dX9_withOrWithout_0_0.2.1
theorem dX9_withOrWithout_4 : decode cX9_withOrWithout 4 = .ok (.iload_n 0, 1) := db_cX9_withOrWithout_dX9_withOrWithout_0_0.2.2.1
theorem dX9_withOrWithout_5 : decode cX9_withOrWithout 5 = .ok (.iconst 1, 1) := db_cX9_withOrWithout_dX9_withOrWithout_0_0.2.2.2.1
theorem dX9_withOrWithout_6 : decode cX9_withOrWithout 6 = .ok (.iload_n 1, 1) := db_cX9_withOrWithout_dX9_withOrWithout_0_0.2.2.2.2.1
theorem dX9_withOrWithout_7 : decode cX9_withOrWithout 7 = .ok (.ishl, 1) := db_cX9_withOrWithout_dX9_withOrWithout_0_0.2.2.2.2.2.1
theorem dX9_withOrWithout_8 : decode cX9_withOrWithout 8 = .ok (.ior, 1) := db_cX9_withOrWithout_dX9_withOrWithout_0_0.2.2.2.2.2.2.1
theorem dX9_withOrWithout_9 : decode cX9_withOrWithout 9 = .ok (.goto 10, 3) := db_cX9_withOrWithout_dX9_withOrWithout_0_0.2.2.2.2.2.2.2.1
theorem dX9_withOrWithout_12 : decode cX9_withOrWithout 12 = .ok (.iload_n 0, 1) := db_cX9_withOrWithout_dX9_withOrWithout_0_0.2.2.2.2.2.2.2.2.1
theorem dX9_withOrWithout_13 : decode cX9_withOrWithout 13 = .ok (.iconst 1, 1) := db_cX9_withOrWithout_dX9_withOrWithout_0_0.2.2.2.2.2.2.2.2.2.1
theorem dX9_withOrWithout_14 : decode cX9_withOrWithout 14 = .ok (.iload_n 1, 1) := db_cX9_withOrWithout_dX9_withOrWithout_0_0.2.2.2.2.2.2.2.2.2.2.1
theorem dX9_withOrWithout_15 : decode cX9_withOrWithout 15 = .ok (.ishl, 1) := db_cX9_withOrWithout_dX9_withOrWithout_0_0.2.2.2.2.2.2.2.2.2.2.2
set_option maxRecDepth 100000 in
theorem db_cX9_withOrWithout_dX9_withOrWithout_16_1 : (decode cX9_withOrWithout 16 = .ok (.iconst (-1), 1)) ∧ (decode cX9_withOrWithout 17 = .ok (.ixor, 1)) ∧ (decode cX9_withOrWithout 18 = .ok (.iand, 1)) ∧ (decode cX9_withOrWithout 19 = .ok (.ireturn, 1)) := by decide +kernel
theorem dX9_withOrWithout_16 : decode cX9_withOrWithout 16 = .ok (.iconst (-1), 1) := db_cX9_withOrWithout_dX9_withOrWithout_16_1.1
theorem dX9_withOrWithout_17 : decode cX9_withOrWithout 17 = .ok (.ixor, 1) := db_cX9_withOrWithout_dX9_withOrWithout_16_1.2.1
theorem dX9_withOrWithout_18 : decode cX9_withOrWithout 18 = .ok (.iand, 1) := db_cX9_withOrWithout_dX9_withOrWithout_16_1.2.2.1
theorem dX9_withOrWithout_19 : decode cX9_withOrWithout 19 = .ok (.ireturn, 1) := db_cX9_withOrWithout_dX9_withOrWithout_16_1.2.2.2
set_option maxRecDepth 100000 in
theorem db_cX9_letterOf_dX9_letterOf_0_0 : (decode cX9_letterOf 0 = .ok (.bipush 97, 2)) ∧ (decode cX9_letterOf 2 = .ok (.iload_n 0, 1)) ∧ (decode cX9_letterOf 3 = .ok (.iadd, 1)) ∧ (decode cX9_letterOf 4 = .ok (.i2c, 1)) ∧ (decode cX9_letterOf 5 = .ok (.ireturn, 1)) := by decide +kernel
theorem dX9_letterOf_0 : decode cX9_letterOf 0 = .ok (.bipush 97, 2) := db_cX9_letterOf_dX9_letterOf_0_0.1
theorem dX9_letterOf_2 : decode cX9_letterOf 2 = .ok (.iload_n 0, 1) := db_cX9_letterOf_dX9_letterOf_0_0.2.1
theorem dX9_letterOf_3 : decode cX9_letterOf 3 = .ok (.iadd, 1) := db_cX9_letterOf_dX9_letterOf_0_0.2.2.1
theorem dX9_letterOf_4 : decode cX9_letterOf 4 = .ok (.i2c, 1) := db_cX9_letterOf_dX9_letterOf_0_0.2.2.2.1
theorem dX9_letterOf_5 : decode cX9_letterOf 5 = .ok (.ireturn, 1) := db_cX9_letterOf_dX9_letterOf_0_0.2.2.2.2
set_option maxRecDepth 100000 in
theorem db_cX9_acted_dX9_acted_0_0 : (decode cX9_acted 0 = .ok (.aload_n 0, 1)) ∧ (decode cX9_acted 1 = .ok (.dup, 1)) ∧ (decode cX9_acted 2 = .ok (.getfield 246, 3)) ∧ (decode cX9_acted 5 = .ok (.iconst 1, 1)) ∧ (decode cX9_acted 6 = .ok (.iadd, 1)) ∧ (decode cX9_acted 7 = .ok (.putfield 246, 3)) ∧ (decode cX9_acted 10 = .ok (.iload_n 1, 1)) ∧ (decode cX9_acted 11 = .ok (.ireturn, 1)) := by decide +kernel
theorem dX9_acted_0 : decode cX9_acted 0 = .ok (.aload_n 0, 1) := db_cX9_acted_dX9_acted_0_0.1
theorem dX9_acted_1 : decode cX9_acted 1 = .ok (.dup, 1) := db_cX9_acted_dX9_acted_0_0.2.1
theorem dX9_acted_2 : decode cX9_acted 2 = .ok (.getfield 246, 3) := db_cX9_acted_dX9_acted_0_0.2.2.1
theorem dX9_acted_5 : decode cX9_acted 5 = .ok (.iconst 1, 1) := db_cX9_acted_dX9_acted_0_0.2.2.2.1
theorem dX9_acted_6 : decode cX9_acted 6 = .ok (.iadd, 1) := db_cX9_acted_dX9_acted_0_0.2.2.2.2.1
theorem dX9_acted_7 : decode cX9_acted 7 = .ok (.putfield 246, 3) := db_cX9_acted_dX9_acted_0_0.2.2.2.2.2.1
theorem dX9_acted_10 : decode cX9_acted 10 = .ok (.iload_n 1, 1) := db_cX9_acted_dX9_acted_0_0.2.2.2.2.2.2.1
theorem dX9_acted_11 : decode cX9_acted 11 = .ok (.ireturn, 1) := db_cX9_acted_dX9_acted_0_0.2.2.2.2.2.2.2
set_option maxRecDepth 100000 in
theorem db_cX9_refuse_dX9_refuse_0_0 : (decode cX9_refuse 0 = .ok (.aload_n 0, 1)) ∧ (decode cX9_refuse 1 = .ok (.dup, 1)) ∧ (decode cX9_refuse 2 = .ok (.getfield 249, 3)) ∧ (decode cX9_refuse 5 = .ok (.iconst 1, 1)) ∧ (decode cX9_refuse 6 = .ok (.iadd, 1)) ∧ (decode cX9_refuse 7 = .ok (.putfield 249, 3)) ∧ (decode cX9_refuse 10 = .ok (.bipush (-9), 2)) ∧ (decode cX9_refuse 12 = .ok (.ireturn, 1)) := by decide +kernel
theorem dX9_refuse_0 : decode cX9_refuse 0 = .ok (.aload_n 0, 1) := db_cX9_refuse_dX9_refuse_0_0.1
theorem dX9_refuse_1 : decode cX9_refuse 1 = .ok (.dup, 1) := db_cX9_refuse_dX9_refuse_0_0.2.1
theorem dX9_refuse_2 : decode cX9_refuse 2 = .ok (.getfield 249, 3) := db_cX9_refuse_dX9_refuse_0_0.2.2.1
theorem dX9_refuse_5 : decode cX9_refuse 5 = .ok (.iconst 1, 1) := db_cX9_refuse_dX9_refuse_0_0.2.2.2.1
theorem dX9_refuse_6 : decode cX9_refuse 6 = .ok (.iadd, 1) := db_cX9_refuse_dX9_refuse_0_0.2.2.2.2.1
theorem dX9_refuse_7 : decode cX9_refuse 7 = .ok (.putfield 249, 3) := db_cX9_refuse_dX9_refuse_0_0.2.2.2.2.2.1
theorem dX9_refuse_10 : decode cX9_refuse 10 = .ok (.bipush (-9), 2) := db_cX9_refuse_dX9_refuse_0_0.2.2.2.2.2.2.1
theorem dX9_refuse_12 : decode cX9_refuse 12 = .ok (.ireturn, 1) := db_cX9_refuse_dX9_refuse_0_0.2.2.2.2.2.2.2
set_option maxRecDepth 100000 in
theorem db_cX7_at_dX7_at_0_0 : (decode cX7_at 0 = .ok (.iload_n 1, 1)) ∧ (decode cX7_at 1 = .ok (.iconst 3, 1)) ∧ (decode cX7_at 2 = .ok (.imul, 1)) ∧ (decode cX7_at 3 = .ok (.iload_n 2, 1)) ∧ (decode cX7_at 4 = .ok (.iadd, 1)) ∧ (decode cX7_at 5 = .ok (.istore_n 3, 1)) ∧ (decode cX7_at 6 = .ok (.iload_n 3, 1)) ∧ (decode cX7_at 7 = .ok (.ifCond .lt 21, 3)) ∧ (decode cX7_at 10 = .ok (.iload_n 3, 1)) ∧ (decode cX7_at 11 = .ok (.aload_n 0, 1)) ∧ (decode cX7_at 12 = .ok (.getfield 15, 3)) ∧ (decode cX7_at 15 = .ok (.arraylength, 1)) := by decide +kernel
theorem dX7_at_0 : decode cX7_at 0 = .ok (.iload_n 1, 1) := db_cX7_at_dX7_at_0_0.1
theorem dX7_at_1 : decode cX7_at 1 = .ok (.iconst 3, 1) := db_cX7_at_dX7_at_0_0.2.1
theorem dX7_at_2 : decode cX7_at 2 = .ok (.imul, 1) := db_cX7_at_dX7_at_0_0.2.2.1
theorem dX7_at_3 : decode cX7_at 3 = .ok (.iload_n 2, 1) := db_cX7_at_dX7_at_0_0.2.2.2.1
theorem dX7_at_4 : decode cX7_at 4 = .ok (.iadd, 1) := db_cX7_at_dX7_at_0_0.2.2.2.2.1
theorem dX7_at_5 : decode cX7_at 5 = .ok (.istore_n 3, 1) := db_cX7_at_dX7_at_0_0.2.2.2.2.2.1
theorem dX7_at_6 : decode cX7_at 6 = .ok (.iload_n 3, 1) := db_cX7_at_dX7_at_0_0.2.2.2.2.2.2.1
theorem dX7_at_7 : decode cX7_at 7 = .ok (.ifCond .lt 21, 3) := db_cX7_at_dX7_at_0_0.2.2.2.2.2.2.2.1
theorem dX7_at_10 : decode cX7_at 10 = .ok (.iload_n 3, 1) := db_cX7_at_dX7_at_0_0.2.2.2.2.2.2.2.2.1
theorem dX7_at_11 : decode cX7_at 11 = .ok (.aload_n 0, 1) := db_cX7_at_dX7_at_0_0.2.2.2.2.2.2.2.2.2.1
theorem dX7_at_12 : decode cX7_at 12 = .ok (.getfield 15, 3) := db_cX7_at_dX7_at_0_0.2.2.2.2.2.2.2.2.2.2.1
theorem dX7_at_15 : decode cX7_at 15 = .ok (.arraylength, 1) := db_cX7_at_dX7_at_0_0.2.2.2.2.2.2.2.2.2.2.2
set_option maxRecDepth 100000 in
theorem db_cX7_at_dX7_at_16_1 : (decode cX7_at 16 = .ok (.if_icmp .ge 12, 3)) ∧ (decode cX7_at 19 = .ok (.aload_n 0, 1)) ∧ (decode cX7_at 20 = .ok (.getfield 15, 3)) ∧ (decode cX7_at 23 = .ok (.iload_n 3, 1)) ∧ (decode cX7_at 24 = .ok (.iaload, 1)) ∧ (decode cX7_at 25 = .ok (.goto 4, 3)) ∧ (decode cX7_at 28 = .ok (.iconst 0, 1)) ∧ (decode cX7_at 29 = .ok (.ireturn, 1)) := by decide +kernel
theorem dX7_at_16 : decode cX7_at 16 = .ok (.if_icmp .ge 12, 3) := db_cX7_at_dX7_at_16_1.1
theorem dX7_at_19 : decode cX7_at 19 = .ok (.aload_n 0, 1) := db_cX7_at_dX7_at_16_1.2.1
theorem dX7_at_20 : decode cX7_at 20 = .ok (.getfield 15, 3) := db_cX7_at_dX7_at_16_1.2.2.1
theorem dX7_at_23 : decode cX7_at 23 = .ok (.iload_n 3, 1) := db_cX7_at_dX7_at_16_1.2.2.2.1
theorem dX7_at_24 : decode cX7_at 24 = .ok (.iaload, 1) := db_cX7_at_dX7_at_16_1.2.2.2.2.1
theorem dX7_at_25 : decode cX7_at 25 = .ok (.goto 4, 3) := db_cX7_at_dX7_at_16_1.2.2.2.2.2.1
theorem dX7_at_28 : decode cX7_at 28 = .ok (.iconst 0, 1) := db_cX7_at_dX7_at_16_1.2.2.2.2.2.2.1
theorem dX7_at_29 : decode cX7_at 29 = .ok (.ireturn, 1) := db_cX7_at_dX7_at_16_1.2.2.2.2.2.2.2
set_option maxRecDepth 100000 in
theorem db_cX7_put_dX7_put_0_0 : (decode cX7_put 0 = .ok (.iload_n 1, 1)) ∧ (decode cX7_put 1 = .ok (.iconst 3, 1)) ∧ (decode cX7_put 2 = .ok (.imul, 1)) ∧ (decode cX7_put 3 = .ok (.iload_n 2, 1)) ∧ (decode cX7_put 4 = .ok (.iadd, 1)) ∧ (decode cX7_put 5 = .ok (.istore 4, 2)) ∧ (decode cX7_put 7 = .ok (.iload 4, 2)) ∧ (decode cX7_put 9 = .ok (.ifCond .lt 21, 3)) ∧ (decode cX7_put 12 = .ok (.iload 4, 2)) ∧ (decode cX7_put 14 = .ok (.aload_n 0, 1)) ∧ (decode cX7_put 15 = .ok (.getfield 15, 3)) ∧ (decode cX7_put 18 = .ok (.arraylength, 1)) := by decide +kernel
theorem dX7_put_0 : decode cX7_put 0 = .ok (.iload_n 1, 1) := db_cX7_put_dX7_put_0_0.1
theorem dX7_put_1 : decode cX7_put 1 = .ok (.iconst 3, 1) := db_cX7_put_dX7_put_0_0.2.1
theorem dX7_put_2 : decode cX7_put 2 = .ok (.imul, 1) := db_cX7_put_dX7_put_0_0.2.2.1
theorem dX7_put_3 : decode cX7_put 3 = .ok (.iload_n 2, 1) := db_cX7_put_dX7_put_0_0.2.2.2.1
theorem dX7_put_4 : decode cX7_put 4 = .ok (.iadd, 1) := db_cX7_put_dX7_put_0_0.2.2.2.2.1
theorem dX7_put_5 : decode cX7_put 5 = .ok (.istore 4, 2) := db_cX7_put_dX7_put_0_0.2.2.2.2.2.1
theorem dX7_put_7 : decode cX7_put 7 = .ok (.iload 4, 2) := db_cX7_put_dX7_put_0_0.2.2.2.2.2.2.1
theorem dX7_put_9 : decode cX7_put 9 = .ok (.ifCond .lt 21, 3) := db_cX7_put_dX7_put_0_0.2.2.2.2.2.2.2.1
theorem dX7_put_12 : decode cX7_put 12 = .ok (.iload 4, 2) := db_cX7_put_dX7_put_0_0.2.2.2.2.2.2.2.2.1
theorem dX7_put_14 : decode cX7_put 14 = .ok (.aload_n 0, 1) := db_cX7_put_dX7_put_0_0.2.2.2.2.2.2.2.2.2.1
theorem dX7_put_15 : decode cX7_put 15 = .ok (.getfield 15, 3) := db_cX7_put_dX7_put_0_0.2.2.2.2.2.2.2.2.2.2.1
theorem dX7_put_18 : decode cX7_put 18 = .ok (.arraylength, 1) := db_cX7_put_dX7_put_0_0.2.2.2.2.2.2.2.2.2.2.2
set_option maxRecDepth 100000 in
theorem db_cX7_put_dX7_put_19_1 : (decode cX7_put 19 = .ok (.if_icmp .ge 11, 3)) ∧ (decode cX7_put 22 = .ok (.aload_n 0, 1)) ∧ (decode cX7_put 23 = .ok (.getfield 15, 3)) ∧ (decode cX7_put 26 = .ok (.iload 4, 2)) ∧ (decode cX7_put 28 = .ok (.iload_n 3, 1)) ∧ (decode cX7_put 29 = .ok (.iastore, 1)) ∧ (decode cX7_put 30 = .ok (.return_, 1)) := by decide +kernel
theorem dX7_put_19 : decode cX7_put 19 = .ok (.if_icmp .ge 11, 3) := db_cX7_put_dX7_put_19_1.1
theorem dX7_put_22 : decode cX7_put 22 = .ok (.aload_n 0, 1) := db_cX7_put_dX7_put_19_1.2.1
theorem dX7_put_23 : decode cX7_put 23 = .ok (.getfield 15, 3) := db_cX7_put_dX7_put_19_1.2.2.1
theorem dX7_put_26 : decode cX7_put 26 = .ok (.iload 4, 2) := db_cX7_put_dX7_put_19_1.2.2.2.1
theorem dX7_put_28 : decode cX7_put 28 = .ok (.iload_n 3, 1) := db_cX7_put_dX7_put_19_1.2.2.2.2.1
theorem dX7_put_29 : decode cX7_put 29 = .ok (.iastore, 1) := db_cX7_put_dX7_put_19_1.2.2.2.2.2.1
theorem dX7_put_30 : decode cX7_put 30 = .ok (.return_, 1) := db_cX7_put_dX7_put_19_1.2.2.2.2.2.2
set_option maxRecDepth 100000 in
theorem db_cX2_becomePlain_dX2_becomePlain_0_0 : (decode cX2_becomePlain 0 = .ok (.aload_n 0, 1)) ∧ (decode cX2_becomePlain 1 = .ok (.aload_n 1, 1)) ∧ (decode cX2_becomePlain 2 = .ok (.getfield 57, 3)) ∧ (decode cX2_becomePlain 5 = .ok (.putfield 15, 3)) ∧ (decode cX2_becomePlain 8 = .ok (.aload_n 0, 1)) ∧ (decode cX2_becomePlain 9 = .ok (.iconst 1, 1)) ∧ (decode cX2_becomePlain 10 = .ok (.putfield 9, 3)) ∧ (decode cX2_becomePlain 13 = .ok (.aload_n 0, 1)) ∧ (decode cX2_becomePlain 14 = .ok (.aload_n 1, 1)) ∧ (decode cX2_becomePlain 15 = .ok (.getfield 60, 3)) ∧ (decode cX2_becomePlain 18 = .ok (.putfield 18, 3)) ∧ (decode cX2_becomePlain 21 = .ok (.iconst 0, 1)) := by decide +kernel
theorem dX2_becomePlain_0 : decode cX2_becomePlain 0 = .ok (.aload_n 0, 1) := db_cX2_becomePlain_dX2_becomePlain_0_0.1
theorem dX2_becomePlain_1 : decode cX2_becomePlain 1 = .ok (.aload_n 1, 1) := db_cX2_becomePlain_dX2_becomePlain_0_0.2.1
theorem dX2_becomePlain_2 : decode cX2_becomePlain 2 = .ok (.getfield 57, 3) := db_cX2_becomePlain_dX2_becomePlain_0_0.2.2.1
theorem dX2_becomePlain_5 : decode cX2_becomePlain 5 = .ok (.putfield 15, 3) := db_cX2_becomePlain_dX2_becomePlain_0_0.2.2.2.1
theorem dX2_becomePlain_8 : decode cX2_becomePlain 8 = .ok (.aload_n 0, 1) := db_cX2_becomePlain_dX2_becomePlain_0_0.2.2.2.2.1
theorem dX2_becomePlain_9 : decode cX2_becomePlain 9 = .ok (.iconst 1, 1) := db_cX2_becomePlain_dX2_becomePlain_0_0.2.2.2.2.2.1
theorem dX2_becomePlain_10 : decode cX2_becomePlain 10 = .ok (.putfield 9, 3) := db_cX2_becomePlain_dX2_becomePlain_0_0.2.2.2.2.2.2.1
theorem dX2_becomePlain_13 : decode cX2_becomePlain 13 = .ok (.aload_n 0, 1) := db_cX2_becomePlain_dX2_becomePlain_0_0.2.2.2.2.2.2.2.1
theorem dX2_becomePlain_14 : decode cX2_becomePlain 14 = .ok (.aload_n 1, 1) := db_cX2_becomePlain_dX2_becomePlain_0_0.2.2.2.2.2.2.2.2.1
theorem dX2_becomePlain_15 : decode cX2_becomePlain 15 = .ok (.getfield 60, 3) := db_cX2_becomePlain_dX2_becomePlain_0_0.2.2.2.2.2.2.2.2.2.1
theorem dX2_becomePlain_18 : decode cX2_becomePlain 18 = .ok (.putfield 18, 3) := db_cX2_becomePlain_dX2_becomePlain_0_0.2.2.2.2.2.2.2.2.2.2.1
theorem dX2_becomePlain_21 : decode cX2_becomePlain 21 = .ok (.iconst 0, 1) := db_cX2_becomePlain_dX2_becomePlain_0_0.2.2.2.2.2.2.2.2.2.2.2
set_option maxRecDepth 100000 in
theorem db_cX2_becomePlain_dX2_becomePlain_22_1 : (decode cX2_becomePlain 22 = .ok (.istore_n 2, 1)) ∧ (decode cX2_becomePlain 23 = .ok (.iload_n 2, 1)) ∧ (decode cX2_becomePlain 24 = .ok (.aload_n 0, 1)) ∧ (decode cX2_becomePlain 25 = .ok (.getfield 15, 3)) ∧ (decode cX2_becomePlain 28 = .ok (.if_icmp .ge 36, 3)) ∧ (decode cX2_becomePlain 31 = .ok (.iconst 0, 1)) ∧ (decode cX2_becomePlain 32 = .ok (.istore_n 3, 1)) ∧ (decode cX2_becomePlain 33 = .ok (.iload_n 3, 1)) ∧ (decode cX2_becomePlain 34 = .ok (.iconst 3, 1)) ∧ (decode cX2_becomePlain 35 = .ok (.if_icmp .ge 23, 3)) ∧ (decode cX2_becomePlain 38 = .ok (.aload_n 0, 1)) ∧ (decode cX2_becomePlain 39 = .ok (.iload_n 2, 1)) := by decide +kernel
theorem dX2_becomePlain_22 : decode cX2_becomePlain 22 = .ok (.istore_n 2, 1) := db_cX2_becomePlain_dX2_becomePlain_22_1.1
theorem dX2_becomePlain_23 : decode cX2_becomePlain 23 = .ok (.iload_n 2, 1) := db_cX2_becomePlain_dX2_becomePlain_22_1.2.1
theorem dX2_becomePlain_24 : decode cX2_becomePlain 24 = .ok (.aload_n 0, 1) := db_cX2_becomePlain_dX2_becomePlain_22_1.2.2.1
theorem dX2_becomePlain_25 : decode cX2_becomePlain 25 = .ok (.getfield 15, 3) := db_cX2_becomePlain_dX2_becomePlain_22_1.2.2.2.1
theorem dX2_becomePlain_28 : decode cX2_becomePlain 28 = .ok (.if_icmp .ge 36, 3) := db_cX2_becomePlain_dX2_becomePlain_22_1.2.2.2.2.1
theorem dX2_becomePlain_31 : decode cX2_becomePlain 31 = .ok (.iconst 0, 1) := db_cX2_becomePlain_dX2_becomePlain_22_1.2.2.2.2.2.1
theorem dX2_becomePlain_32 : decode cX2_becomePlain 32 = .ok (.istore_n 3, 1) := db_cX2_becomePlain_dX2_becomePlain_22_1.2.2.2.2.2.2.1
theorem dX2_becomePlain_33 : decode cX2_becomePlain 33 = .ok (.iload_n 3, 1) := db_cX2_becomePlain_dX2_becomePlain_22_1.2.2.2.2.2.2.2.1
theorem dX2_becomePlain_34 : decode cX2_becomePlain 34 = .ok (.iconst 3, 1) := db_cX2_becomePlain_dX2_becomePlain_22_1.2.2.2.2.2.2.2.2.1
theorem dX2_becomePlain_35 : decode cX2_becomePlain 35 = .ok (.if_icmp .ge 23, 3) := db_cX2_becomePlain_dX2_becomePlain_22_1.2.2.2.2.2.2.2.2.2.1
theorem dX2_becomePlain_38 : decode cX2_becomePlain 38 = .ok (.aload_n 0, 1) := db_cX2_becomePlain_dX2_becomePlain_22_1.2.2.2.2.2.2.2.2.2.2.1
theorem dX2_becomePlain_39 : decode cX2_becomePlain 39 = .ok (.iload_n 2, 1) := db_cX2_becomePlain_dX2_becomePlain_22_1.2.2.2.2.2.2.2.2.2.2.2
set_option maxRecDepth 100000 in
theorem db_cX2_becomePlain_dX2_becomePlain_40_2 : (decode cX2_becomePlain 40 = .ok (.iload_n 3, 1)) ∧ (decode cX2_becomePlain 41 = .ok (.iconst 1, 1)) ∧ (decode cX2_becomePlain 42 = .ok (.aload_n 1, 1)) ∧ (decode cX2_becomePlain 43 = .ok (.iload_n 2, 1)) ∧ (decode cX2_becomePlain 44 = .ok (.iload_n 3, 1)) ∧ (decode cX2_becomePlain 45 = .ok (.invokevirtual 61, 3)) ∧ (decode cX2_becomePlain 48 = .ok (.ishl, 1)) ∧ (decode cX2_becomePlain 49 = .ok (.invokevirtual 43, 3)) ∧ (decode cX2_becomePlain 52 = .ok (.iinc 3 1, 3)) ∧ (decode cX2_becomePlain 55 = .ok (.goto (-22), 3)) ∧ (decode cX2_becomePlain 58 = .ok (.iinc 2 1, 3)) ∧ (decode cX2_becomePlain 61 = .ok (.goto (-38), 3)) := by decide +kernel
theorem dX2_becomePlain_40 : decode cX2_becomePlain 40 = .ok (.iload_n 3, 1) := db_cX2_becomePlain_dX2_becomePlain_40_2.1
theorem dX2_becomePlain_41 : decode cX2_becomePlain 41 = .ok (.iconst 1, 1) := db_cX2_becomePlain_dX2_becomePlain_40_2.2.1
theorem dX2_becomePlain_42 : decode cX2_becomePlain 42 = .ok (.aload_n 1, 1) := db_cX2_becomePlain_dX2_becomePlain_40_2.2.2.1
theorem dX2_becomePlain_43 : decode cX2_becomePlain 43 = .ok (.iload_n 2, 1) := db_cX2_becomePlain_dX2_becomePlain_40_2.2.2.2.1
theorem dX2_becomePlain_44 : decode cX2_becomePlain 44 = .ok (.iload_n 3, 1) := db_cX2_becomePlain_dX2_becomePlain_40_2.2.2.2.2.1
theorem dX2_becomePlain_45 : decode cX2_becomePlain 45 = .ok (.invokevirtual 61, 3) := db_cX2_becomePlain_dX2_becomePlain_40_2.2.2.2.2.2.1
theorem dX2_becomePlain_48 : decode cX2_becomePlain 48 = .ok (.ishl, 1) := db_cX2_becomePlain_dX2_becomePlain_40_2.2.2.2.2.2.2.1
theorem dX2_becomePlain_49 : decode cX2_becomePlain 49 = .ok (.invokevirtual 43, 3) := db_cX2_becomePlain_dX2_becomePlain_40_2.2.2.2.2.2.2.2.1
theorem dX2_becomePlain_52 : decode cX2_becomePlain 52 = .ok (.iinc 3 1, 3) := db_cX2_becomePlain_dX2_becomePlain_40_2.2.2.2.2.2.2.2.2.1
theorem dX2_becomePlain_55 : decode cX2_becomePlain 55 = .ok (.goto (-22), 3) := db_cX2_becomePlain_dX2_becomePlain_40_2.2.2.2.2.2.2.2.2.2.1
theorem dX2_becomePlain_58 : decode cX2_becomePlain 58 = .ok (.iinc 2 1, 3) := db_cX2_becomePlain_dX2_becomePlain_40_2.2.2.2.2.2.2.2.2.2.2.1
theorem dX2_becomePlain_61 : decode cX2_becomePlain 61 = .ok (.goto (-38), 3) := db_cX2_becomePlain_dX2_becomePlain_40_2.2.2.2.2.2.2.2.2.2.2.2
theorem dX2_becomePlain_64 : decode cX2_becomePlain 64 = .ok (.return_, 1) := by decide +kernel
set_option maxRecDepth 100000 in
theorem db_cX9_becomeMade_dX9_becomeMade_0_0 : (decode cX9_becomeMade 0 = .ok (.aload_n 0, 1)) ∧ (decode cX9_becomeMade 1 = .ok (.getfield 66, 3)) ∧ (decode cX9_becomeMade 4 = .ok (.getfield 190, 3)) ∧ (decode cX9_becomeMade 7 = .ok (.bipush 7, 2)) ∧ (decode cX9_becomeMade 9 = .ok (.if_icmp .le 8, 3)) ∧ (decode cX9_becomeMade 12 = .ok (.aload_n 0, 1)) ∧ (decode cX9_becomeMade 13 = .ok (.invokevirtual 145, 3)) ∧ (decode cX9_becomeMade 16 = .ok (.ireturn, 1)) ∧ (decode cX9_becomeMade 17 = .ok (.aload_n 1, 1)) ∧ (decode cX9_becomeMade 18 = .ok (.aload_n 0, 1)) ∧ (decode cX9_becomeMade 19 = .ok (.getfield 66, 3)) ∧ (decode cX9_becomeMade 22 = .ok (.invokevirtual 255, 3)) := by decide +kernel
theorem dX9_becomeMade_0 : decode cX9_becomeMade 0 = .ok (.aload_n 0, 1) := db_cX9_becomeMade_dX9_becomeMade_0_0.1
theorem dX9_becomeMade_1 : decode cX9_becomeMade 1 = .ok (.getfield 66, 3) := db_cX9_becomeMade_dX9_becomeMade_0_0.2.1
theorem dX9_becomeMade_4 : decode cX9_becomeMade 4 = .ok (.getfield 190, 3) := db_cX9_becomeMade_dX9_becomeMade_0_0.2.2.1
theorem dX9_becomeMade_7 : decode cX9_becomeMade 7 = .ok (.bipush 7, 2) := db_cX9_becomeMade_dX9_becomeMade_0_0.2.2.2.1
theorem dX9_becomeMade_9 : decode cX9_becomeMade 9 = .ok (.if_icmp .le 8, 3) := db_cX9_becomeMade_dX9_becomeMade_0_0.2.2.2.2.1
theorem dX9_becomeMade_12 : decode cX9_becomeMade 12 = .ok (.aload_n 0, 1) := db_cX9_becomeMade_dX9_becomeMade_0_0.2.2.2.2.2.1
theorem dX9_becomeMade_13 : decode cX9_becomeMade 13 = .ok (.invokevirtual 145, 3) := db_cX9_becomeMade_dX9_becomeMade_0_0.2.2.2.2.2.2.1
theorem dX9_becomeMade_16 : decode cX9_becomeMade 16 = .ok (.ireturn, 1) := db_cX9_becomeMade_dX9_becomeMade_0_0.2.2.2.2.2.2.2.1
theorem dX9_becomeMade_17 : decode cX9_becomeMade 17 = .ok (.aload_n 1, 1) := db_cX9_becomeMade_dX9_becomeMade_0_0.2.2.2.2.2.2.2.2.1
theorem dX9_becomeMade_18 : decode cX9_becomeMade 18 = .ok (.aload_n 0, 1) := db_cX9_becomeMade_dX9_becomeMade_0_0.2.2.2.2.2.2.2.2.2.1
theorem dX9_becomeMade_19 : decode cX9_becomeMade 19 = .ok (.getfield 66, 3) := db_cX9_becomeMade_dX9_becomeMade_0_0.2.2.2.2.2.2.2.2.2.2.1
theorem dX9_becomeMade_22 : decode cX9_becomeMade 22 = .ok (.invokevirtual 255, 3) := db_cX9_becomeMade_dX9_becomeMade_0_0.2.2.2.2.2.2.2.2.2.2.2
set_option maxRecDepth 100000 in
theorem db_cX9_becomeMade_dX9_becomeMade_25_1 : (decode cX9_becomeMade 25 = .ok (.aload_n 0, 1)) ∧ (decode cX9_becomeMade 26 = .ok (.aload_n 0, 1)) ∧ (decode cX9_becomeMade 27 = .ok (.getfield 66, 3)) ∧ (decode cX9_becomeMade 30 = .ok (.getfield 190, 3)) ∧ (decode cX9_becomeMade 33 = .ok (.invokevirtual 84, 3)) ∧ (decode cX9_becomeMade 36 = .ok (.ireturn, 1)) := by decide +kernel
theorem dX9_becomeMade_25 : decode cX9_becomeMade 25 = .ok (.aload_n 0, 1) := db_cX9_becomeMade_dX9_becomeMade_25_1.1
theorem dX9_becomeMade_26 : decode cX9_becomeMade 26 = .ok (.aload_n 0, 1) := db_cX9_becomeMade_dX9_becomeMade_25_1.2.1
theorem dX9_becomeMade_27 : decode cX9_becomeMade 27 = .ok (.getfield 66, 3) := db_cX9_becomeMade_dX9_becomeMade_25_1.2.2.1
theorem dX9_becomeMade_30 : decode cX9_becomeMade 30 = .ok (.getfield 190, 3) := db_cX9_becomeMade_dX9_becomeMade_25_1.2.2.2.1
theorem dX9_becomeMade_33 : decode cX9_becomeMade 33 = .ok (.invokevirtual 84, 3) := db_cX9_becomeMade_dX9_becomeMade_25_1.2.2.2.2.1
theorem dX9_becomeMade_36 : decode cX9_becomeMade 36 = .ok (.ireturn, 1) := db_cX9_becomeMade_dX9_becomeMade_25_1.2.2.2.2.2
set_option maxRecDepth 100000 in
theorem db_cX6_put_dX6_put_0_0 : (decode cX6_put 0 = .ok (.iload_n 1, 1)) ∧ (decode cX6_put 1 = .ok (.ifCond .lt 19, 3)) ∧ (decode cX6_put 4 = .ok (.iload_n 1, 1)) ∧ (decode cX6_put 5 = .ok (.aload_n 0, 1)) ∧ (decode cX6_put 6 = .ok (.getfield 9, 3)) ∧ (decode cX6_put 9 = .ok (.arraylength, 1)) ∧ (decode cX6_put 10 = .ok (.if_icmp .ge 10, 3)) ∧ (decode cX6_put 13 = .ok (.aload_n 0, 1)) ∧ (decode cX6_put 14 = .ok (.getfield 9, 3)) ∧ (decode cX6_put 17 = .ok (.iload_n 1, 1)) ∧ (decode cX6_put 18 = .ok (.iload_n 2, 1)) ∧ (decode cX6_put 19 = .ok (.iastore, 1)) := by decide +kernel
theorem dX6_put_0 : decode cX6_put 0 = .ok (.iload_n 1, 1) := db_cX6_put_dX6_put_0_0.1
theorem dX6_put_1 : decode cX6_put 1 = .ok (.ifCond .lt 19, 3) := db_cX6_put_dX6_put_0_0.2.1
theorem dX6_put_4 : decode cX6_put 4 = .ok (.iload_n 1, 1) := db_cX6_put_dX6_put_0_0.2.2.1
theorem dX6_put_5 : decode cX6_put 5 = .ok (.aload_n 0, 1) := db_cX6_put_dX6_put_0_0.2.2.2.1
theorem dX6_put_6 : decode cX6_put 6 = .ok (.getfield 9, 3) := db_cX6_put_dX6_put_0_0.2.2.2.2.1
theorem dX6_put_9 : decode cX6_put 9 = .ok (.arraylength, 1) := db_cX6_put_dX6_put_0_0.2.2.2.2.2.1
theorem dX6_put_10 : decode cX6_put 10 = .ok (.if_icmp .ge 10, 3) := db_cX6_put_dX6_put_0_0.2.2.2.2.2.2.1
theorem dX6_put_13 : decode cX6_put 13 = .ok (.aload_n 0, 1) := db_cX6_put_dX6_put_0_0.2.2.2.2.2.2.2.1
theorem dX6_put_14 : decode cX6_put 14 = .ok (.getfield 9, 3) := db_cX6_put_dX6_put_0_0.2.2.2.2.2.2.2.2.1
theorem dX6_put_17 : decode cX6_put 17 = .ok (.iload_n 1, 1) := db_cX6_put_dX6_put_0_0.2.2.2.2.2.2.2.2.2.1
theorem dX6_put_18 : decode cX6_put 18 = .ok (.iload_n 2, 1) := db_cX6_put_dX6_put_0_0.2.2.2.2.2.2.2.2.2.2.1
theorem dX6_put_19 : decode cX6_put 19 = .ok (.iastore, 1) := db_cX6_put_dX6_put_0_0.2.2.2.2.2.2.2.2.2.2.2
theorem dX6_put_20 : decode cX6_put 20 = .ok (.return_, 1) := by decide +kernel
set_option maxRecDepth 100000 in
theorem db_cX6_at_dX6_at_0_0 : (decode cX6_at 0 = .ok (.iload_n 1, 1)) ∧ (decode cX6_at 1 = .ok (.ifCond .lt 21, 3)) ∧ (decode cX6_at 4 = .ok (.iload_n 1, 1)) ∧ (decode cX6_at 5 = .ok (.aload_n 0, 1)) ∧ (decode cX6_at 6 = .ok (.getfield 9, 3)) ∧ (decode cX6_at 9 = .ok (.arraylength, 1)) ∧ (decode cX6_at 10 = .ok (.if_icmp .ge 12, 3)) ∧ (decode cX6_at 13 = .ok (.aload_n 0, 1)) ∧ (decode cX6_at 14 = .ok (.getfield 9, 3)) ∧ (decode cX6_at 17 = .ok (.iload_n 1, 1)) ∧ (decode cX6_at 18 = .ok (.iaload, 1)) ∧ (decode cX6_at 19 = .ok (.goto 4, 3)) := by decide +kernel
theorem dX6_at_0 : decode cX6_at 0 = .ok (.iload_n 1, 1) := db_cX6_at_dX6_at_0_0.1
theorem dX6_at_1 : decode cX6_at 1 = .ok (.ifCond .lt 21, 3) := db_cX6_at_dX6_at_0_0.2.1
theorem dX6_at_4 : decode cX6_at 4 = .ok (.iload_n 1, 1) := db_cX6_at_dX6_at_0_0.2.2.1
theorem dX6_at_5 : decode cX6_at 5 = .ok (.aload_n 0, 1) := db_cX6_at_dX6_at_0_0.2.2.2.1
theorem dX6_at_6 : decode cX6_at 6 = .ok (.getfield 9, 3) := db_cX6_at_dX6_at_0_0.2.2.2.2.1
theorem dX6_at_9 : decode cX6_at 9 = .ok (.arraylength, 1) := db_cX6_at_dX6_at_0_0.2.2.2.2.2.1
theorem dX6_at_10 : decode cX6_at 10 = .ok (.if_icmp .ge 12, 3) := db_cX6_at_dX6_at_0_0.2.2.2.2.2.2.1
theorem dX6_at_13 : decode cX6_at 13 = .ok (.aload_n 0, 1) := db_cX6_at_dX6_at_0_0.2.2.2.2.2.2.2.1
theorem dX6_at_14 : decode cX6_at 14 = .ok (.getfield 9, 3) := db_cX6_at_dX6_at_0_0.2.2.2.2.2.2.2.2.1
theorem dX6_at_17 : decode cX6_at 17 = .ok (.iload_n 1, 1) := db_cX6_at_dX6_at_0_0.2.2.2.2.2.2.2.2.2.1
theorem dX6_at_18 : decode cX6_at 18 = .ok (.iaload, 1) := db_cX6_at_dX6_at_0_0.2.2.2.2.2.2.2.2.2.2.1
theorem dX6_at_19 : decode cX6_at 19 = .ok (.goto 4, 3) := db_cX6_at_dX6_at_0_0.2.2.2.2.2.2.2.2.2.2.2
theorem dX6_at_22 : decode cX6_at 22 = .ok (.iconst 0, 1) := by decide +kernel
theorem dX6_at_23 : decode cX6_at 23 = .ok (.ireturn, 1) := by decide +kernel
set_option maxRecDepth 100000 in
theorem db_cX2_reach_dX2_reach_0_0 : (decode cX2_reach 0 = .ok (.iconst 0, 1)) ∧ (decode cX2_reach 1 = .ok (.istore_n 3, 1)) ∧ (decode cX2_reach 2 = .ok (.iconst 0, 1)) ∧ (decode cX2_reach 3 = .ok (.istore 4, 2)) ∧ (decode cX2_reach 5 = .ok (.iload 4, 2)) ∧ (decode cX2_reach 7 = .ok (.aload_n 0, 1)) ∧ (decode cX2_reach 8 = .ok (.getfield 15, 3)) ∧ (decode cX2_reach 11 = .ok (.if_icmp .ge 28, 3)) ∧ (decode cX2_reach 14 = .ok (.iload_n 1, 1)) ∧ (decode cX2_reach 15 = .ok (.iload 4, 2)) ∧ (decode cX2_reach 17 = .ok (.invokestatic 65, 3)) ∧ (decode cX2_reach 20 = .ok (.ifCond .eq 13, 3)) := by decide +kernel
theorem dX2_reach_0 : decode cX2_reach 0 = .ok (.iconst 0, 1) := db_cX2_reach_dX2_reach_0_0.1
theorem dX2_reach_1 : decode cX2_reach 1 = .ok (.istore_n 3, 1) := db_cX2_reach_dX2_reach_0_0.2.1
theorem dX2_reach_2 : decode cX2_reach 2 = .ok (.iconst 0, 1) := db_cX2_reach_dX2_reach_0_0.2.2.1
theorem dX2_reach_3 : decode cX2_reach 3 = .ok (.istore 4, 2) := db_cX2_reach_dX2_reach_0_0.2.2.2.1
theorem dX2_reach_5 : decode cX2_reach 5 = .ok (.iload 4, 2) := db_cX2_reach_dX2_reach_0_0.2.2.2.2.1
theorem dX2_reach_7 : decode cX2_reach 7 = .ok (.aload_n 0, 1) := db_cX2_reach_dX2_reach_0_0.2.2.2.2.2.1
theorem dX2_reach_8 : decode cX2_reach 8 = .ok (.getfield 15, 3) := db_cX2_reach_dX2_reach_0_0.2.2.2.2.2.2.1
theorem dX2_reach_11 : decode cX2_reach 11 = .ok (.if_icmp .ge 28, 3) := db_cX2_reach_dX2_reach_0_0.2.2.2.2.2.2.2.1
theorem dX2_reach_14 : decode cX2_reach 14 = .ok (.iload_n 1, 1) := db_cX2_reach_dX2_reach_0_0.2.2.2.2.2.2.2.2.1
theorem dX2_reach_15 : decode cX2_reach 15 = .ok (.iload 4, 2) := db_cX2_reach_dX2_reach_0_0.2.2.2.2.2.2.2.2.2.1
theorem dX2_reach_17 : decode cX2_reach 17 = .ok (.invokestatic 65, 3) := db_cX2_reach_dX2_reach_0_0.2.2.2.2.2.2.2.2.2.2.1
theorem dX2_reach_20 : decode cX2_reach 20 = .ok (.ifCond .eq 13, 3) := db_cX2_reach_dX2_reach_0_0.2.2.2.2.2.2.2.2.2.2.2
set_option maxRecDepth 100000 in
theorem db_cX2_reach_dX2_reach_23_1 : (decode cX2_reach 23 = .ok (.iload_n 3, 1)) ∧ (decode cX2_reach 24 = .ok (.aload_n 0, 1)) ∧ (decode cX2_reach 25 = .ok (.iload 4, 2)) ∧ (decode cX2_reach 27 = .ok (.iload_n 2, 1)) ∧ (decode cX2_reach 28 = .ok (.invokevirtual 25, 3)) ∧ (decode cX2_reach 31 = .ok (.ior, 1)) ∧ (decode cX2_reach 32 = .ok (.istore_n 3, 1)) ∧ (decode cX2_reach 33 = .ok (.iinc 4 1, 3)) ∧ (decode cX2_reach 36 = .ok (.goto (-31), 3)) ∧ (decode cX2_reach 39 = .ok (.iload_n 3, 1)) ∧ (decode cX2_reach 40 = .ok (.ireturn, 1)) := by decide +kernel
theorem dX2_reach_23 : decode cX2_reach 23 = .ok (.iload_n 3, 1) := db_cX2_reach_dX2_reach_23_1.1
theorem dX2_reach_24 : decode cX2_reach 24 = .ok (.aload_n 0, 1) := db_cX2_reach_dX2_reach_23_1.2.1
theorem dX2_reach_25 : decode cX2_reach 25 = .ok (.iload 4, 2) := db_cX2_reach_dX2_reach_23_1.2.2.1
theorem dX2_reach_27 : decode cX2_reach 27 = .ok (.iload_n 2, 1) := db_cX2_reach_dX2_reach_23_1.2.2.2.1
theorem dX2_reach_28 : decode cX2_reach 28 = .ok (.invokevirtual 25, 3) := db_cX2_reach_dX2_reach_23_1.2.2.2.2.1
theorem dX2_reach_31 : decode cX2_reach 31 = .ok (.ior, 1) := db_cX2_reach_dX2_reach_23_1.2.2.2.2.2.1
theorem dX2_reach_32 : decode cX2_reach 32 = .ok (.istore_n 3, 1) := db_cX2_reach_dX2_reach_23_1.2.2.2.2.2.2.1
theorem dX2_reach_33 : decode cX2_reach 33 = .ok (.iinc 4 1, 3) := db_cX2_reach_dX2_reach_23_1.2.2.2.2.2.2.2.1
theorem dX2_reach_36 : decode cX2_reach 36 = .ok (.goto (-31), 3) := db_cX2_reach_dX2_reach_23_1.2.2.2.2.2.2.2.2.1
theorem dX2_reach_39 : decode cX2_reach 39 = .ok (.iload_n 3, 1) := db_cX2_reach_dX2_reach_23_1.2.2.2.2.2.2.2.2.2.1
theorem dX2_reach_40 : decode cX2_reach 40 = .ok (.ireturn, 1) := db_cX2_reach_dX2_reach_23_1.2.2.2.2.2.2.2.2.2.2
set_option maxRecDepth 100000 in
theorem db_cX6_find_dX6_find_0_0 : (decode cX6_find 0 = .ok (.iconst 0, 1)) ∧ (decode cX6_find 1 = .ok (.istore_n 3, 1)) ∧ (decode cX6_find 2 = .ok (.iload_n 3, 1)) ∧ (decode cX6_find 3 = .ok (.iload_n 2, 1)) ∧ (decode cX6_find 4 = .ok (.if_icmp .ge 30, 3)) ∧ (decode cX6_find 7 = .ok (.iload_n 3, 1)) ∧ (decode cX6_find 8 = .ok (.aload_n 0, 1)) ∧ (decode cX6_find 9 = .ok (.getfield 9, 3)) ∧ (decode cX6_find 12 = .ok (.arraylength, 1)) ∧ (decode cX6_find 13 = .ok (.if_icmp .ge 21, 3)) ∧ (decode cX6_find 16 = .ok (.aload_n 0, 1)) ∧ (decode cX6_find 17 = .ok (.getfield 9, 3)) := by decide +kernel
theorem dX6_find_0 : decode cX6_find 0 = .ok (.iconst 0, 1) := db_cX6_find_dX6_find_0_0.1
theorem dX6_find_1 : decode cX6_find 1 = .ok (.istore_n 3, 1) := db_cX6_find_dX6_find_0_0.2.1
theorem dX6_find_2 : decode cX6_find 2 = .ok (.iload_n 3, 1) := db_cX6_find_dX6_find_0_0.2.2.1
theorem dX6_find_3 : decode cX6_find 3 = .ok (.iload_n 2, 1) := db_cX6_find_dX6_find_0_0.2.2.2.1
theorem dX6_find_4 : decode cX6_find 4 = .ok (.if_icmp .ge 30, 3) := db_cX6_find_dX6_find_0_0.2.2.2.2.1
theorem dX6_find_7 : decode cX6_find 7 = .ok (.iload_n 3, 1) := db_cX6_find_dX6_find_0_0.2.2.2.2.2.1
theorem dX6_find_8 : decode cX6_find 8 = .ok (.aload_n 0, 1) := db_cX6_find_dX6_find_0_0.2.2.2.2.2.2.1
theorem dX6_find_9 : decode cX6_find 9 = .ok (.getfield 9, 3) := db_cX6_find_dX6_find_0_0.2.2.2.2.2.2.2.1
theorem dX6_find_12 : decode cX6_find 12 = .ok (.arraylength, 1) := db_cX6_find_dX6_find_0_0.2.2.2.2.2.2.2.2.1
theorem dX6_find_13 : decode cX6_find 13 = .ok (.if_icmp .ge 21, 3) := db_cX6_find_dX6_find_0_0.2.2.2.2.2.2.2.2.2.1
theorem dX6_find_16 : decode cX6_find 16 = .ok (.aload_n 0, 1) := db_cX6_find_dX6_find_0_0.2.2.2.2.2.2.2.2.2.2.1
theorem dX6_find_17 : decode cX6_find 17 = .ok (.getfield 9, 3) := db_cX6_find_dX6_find_0_0.2.2.2.2.2.2.2.2.2.2.2
set_option maxRecDepth 100000 in
theorem db_cX6_find_dX6_find_20_1 : (decode cX6_find 20 = .ok (.iload_n 3, 1)) ∧ (decode cX6_find 21 = .ok (.iaload, 1)) ∧ (decode cX6_find 22 = .ok (.iload_n 1, 1)) ∧ (decode cX6_find 23 = .ok (.if_icmp .ne 5, 3)) ∧ (decode cX6_find 26 = .ok (.iload_n 3, 1)) ∧ (decode cX6_find 27 = .ok (.ireturn, 1)) ∧ (decode cX6_find 28 = .ok (.iinc 3 1, 3)) ∧ (decode cX6_find 31 = .ok (.goto (-29), 3)) ∧ (decode cX6_find 34 = .ok (.iconst (-1), 1)) ∧ (decode cX6_find 35 = .ok (.ireturn, 1)) := by decide +kernel
theorem dX6_find_20 : decode cX6_find 20 = .ok (.iload_n 3, 1) := db_cX6_find_dX6_find_20_1.1
theorem dX6_find_21 : decode cX6_find 21 = .ok (.iaload, 1) := db_cX6_find_dX6_find_20_1.2.1
theorem dX6_find_22 : decode cX6_find 22 = .ok (.iload_n 1, 1) := db_cX6_find_dX6_find_20_1.2.2.1
theorem dX6_find_23 : decode cX6_find 23 = .ok (.if_icmp .ne 5, 3) := db_cX6_find_dX6_find_20_1.2.2.2.1
theorem dX6_find_26 : decode cX6_find 26 = .ok (.iload_n 3, 1) := db_cX6_find_dX6_find_20_1.2.2.2.2.1
theorem dX6_find_27 : decode cX6_find 27 = .ok (.ireturn, 1) := db_cX6_find_dX6_find_20_1.2.2.2.2.2.1
theorem dX6_find_28 : decode cX6_find 28 = .ok (.iinc 3 1, 3) := db_cX6_find_dX6_find_20_1.2.2.2.2.2.2.1
theorem dX6_find_31 : decode cX6_find 31 = .ok (.goto (-29), 3) := db_cX6_find_dX6_find_20_1.2.2.2.2.2.2.2.1
theorem dX6_find_34 : decode cX6_find 34 = .ok (.iconst (-1), 1) := db_cX6_find_dX6_find_20_1.2.2.2.2.2.2.2.2.1
theorem dX6_find_35 : decode cX6_find 35 = .ok (.ireturn, 1) := db_cX6_find_dX6_find_20_1.2.2.2.2.2.2.2.2.2
set_option maxRecDepth 100000 in
theorem db_cX3_numberOf_dX3_numberOf_0_0 : (decode cX3_numberOf 0 = .ok (.aload_n 0, 1)) ∧ (decode cX3_numberOf 1 = .ok (.getfield 14, 3)) ∧ (decode cX3_numberOf 4 = .ok (.iload_n 1, 1)) ∧ (decode cX3_numberOf 5 = .ok (.aload_n 2, 1)) ∧ (decode cX3_numberOf 6 = .ok (.getfield 83, 3)) ∧ (decode cX3_numberOf 9 = .ok (.invokevirtual 109, 3)) ∧ (decode cX3_numberOf 12 = .ok (.istore_n 3, 1)) ∧ (decode cX3_numberOf 13 = .ok (.iload_n 3, 1)) ∧ (decode cX3_numberOf 14 = .ok (.iconst (-1), 1)) ∧ (decode cX3_numberOf 15 = .ok (.if_icmp .ne 12, 3)) ∧ (decode cX3_numberOf 18 = .ok (.aload_n 2, 1)) ∧ (decode cX3_numberOf 19 = .ok (.getfield 83, 3)) := by decide +kernel
theorem dX3_numberOf_0 : decode cX3_numberOf 0 = .ok (.aload_n 0, 1) := db_cX3_numberOf_dX3_numberOf_0_0.1
theorem dX3_numberOf_1 : decode cX3_numberOf 1 = .ok (.getfield 14, 3) := db_cX3_numberOf_dX3_numberOf_0_0.2.1
theorem dX3_numberOf_4 : decode cX3_numberOf 4 = .ok (.iload_n 1, 1) := db_cX3_numberOf_dX3_numberOf_0_0.2.2.1
theorem dX3_numberOf_5 : decode cX3_numberOf 5 = .ok (.aload_n 2, 1) := db_cX3_numberOf_dX3_numberOf_0_0.2.2.2.1
theorem dX3_numberOf_6 : decode cX3_numberOf 6 = .ok (.getfield 83, 3) := db_cX3_numberOf_dX3_numberOf_0_0.2.2.2.2.1
theorem dX3_numberOf_9 : decode cX3_numberOf 9 = .ok (.invokevirtual 109, 3) := db_cX3_numberOf_dX3_numberOf_0_0.2.2.2.2.2.1
theorem dX3_numberOf_12 : decode cX3_numberOf 12 = .ok (.istore_n 3, 1) := db_cX3_numberOf_dX3_numberOf_0_0.2.2.2.2.2.2.1
theorem dX3_numberOf_13 : decode cX3_numberOf 13 = .ok (.iload_n 3, 1) := db_cX3_numberOf_dX3_numberOf_0_0.2.2.2.2.2.2.2.1
theorem dX3_numberOf_14 : decode cX3_numberOf 14 = .ok (.iconst (-1), 1) := db_cX3_numberOf_dX3_numberOf_0_0.2.2.2.2.2.2.2.2.1
theorem dX3_numberOf_15 : decode cX3_numberOf 15 = .ok (.if_icmp .ne 12, 3) := db_cX3_numberOf_dX3_numberOf_0_0.2.2.2.2.2.2.2.2.2.1
theorem dX3_numberOf_18 : decode cX3_numberOf 18 = .ok (.aload_n 2, 1) := db_cX3_numberOf_dX3_numberOf_0_0.2.2.2.2.2.2.2.2.2.2.1
theorem dX3_numberOf_19 : decode cX3_numberOf 19 = .ok (.getfield 83, 3) := db_cX3_numberOf_dX3_numberOf_0_0.2.2.2.2.2.2.2.2.2.2.2
set_option maxRecDepth 100000 in
theorem db_cX3_numberOf_dX3_numberOf_22_1 : (decode cX3_numberOf 22 = .ok (.bipush 32, 2)) ∧ (decode cX3_numberOf 24 = .ok (.if_icmp .lt 5, 3)) ∧ (decode cX3_numberOf 27 = .ok (.iload_n 3, 1)) ∧ (decode cX3_numberOf 28 = .ok (.ireturn, 1)) ∧ (decode cX3_numberOf 29 = .ok (.aload_n 0, 1)) ∧ (decode cX3_numberOf 30 = .ok (.getfield 14, 3)) ∧ (decode cX3_numberOf 33 = .ok (.aload_n 2, 1)) ∧ (decode cX3_numberOf 34 = .ok (.getfield 83, 3)) ∧ (decode cX3_numberOf 37 = .ok (.iload_n 1, 1)) ∧ (decode cX3_numberOf 38 = .ok (.invokevirtual 79, 3)) ∧ (decode cX3_numberOf 41 = .ok (.aload_n 2, 1)) ∧ (decode cX3_numberOf 42 = .ok (.dup, 1)) := by decide +kernel
theorem dX3_numberOf_22 : decode cX3_numberOf 22 = .ok (.bipush 32, 2) := db_cX3_numberOf_dX3_numberOf_22_1.1
theorem dX3_numberOf_24 : decode cX3_numberOf 24 = .ok (.if_icmp .lt 5, 3) := db_cX3_numberOf_dX3_numberOf_22_1.2.1
theorem dX3_numberOf_27 : decode cX3_numberOf 27 = .ok (.iload_n 3, 1) := db_cX3_numberOf_dX3_numberOf_22_1.2.2.1
theorem dX3_numberOf_28 : decode cX3_numberOf 28 = .ok (.ireturn, 1) := db_cX3_numberOf_dX3_numberOf_22_1.2.2.2.1
theorem dX3_numberOf_29 : decode cX3_numberOf 29 = .ok (.aload_n 0, 1) := db_cX3_numberOf_dX3_numberOf_22_1.2.2.2.2.1
theorem dX3_numberOf_30 : decode cX3_numberOf 30 = .ok (.getfield 14, 3) := db_cX3_numberOf_dX3_numberOf_22_1.2.2.2.2.2.1
theorem dX3_numberOf_33 : decode cX3_numberOf 33 = .ok (.aload_n 2, 1) := db_cX3_numberOf_dX3_numberOf_22_1.2.2.2.2.2.2.1
theorem dX3_numberOf_34 : decode cX3_numberOf 34 = .ok (.getfield 83, 3) := db_cX3_numberOf_dX3_numberOf_22_1.2.2.2.2.2.2.2.1
theorem dX3_numberOf_37 : decode cX3_numberOf 37 = .ok (.iload_n 1, 1) := db_cX3_numberOf_dX3_numberOf_22_1.2.2.2.2.2.2.2.2.1
theorem dX3_numberOf_38 : decode cX3_numberOf 38 = .ok (.invokevirtual 79, 3) := db_cX3_numberOf_dX3_numberOf_22_1.2.2.2.2.2.2.2.2.2.1
theorem dX3_numberOf_41 : decode cX3_numberOf 41 = .ok (.aload_n 2, 1) := db_cX3_numberOf_dX3_numberOf_22_1.2.2.2.2.2.2.2.2.2.2.1
theorem dX3_numberOf_42 : decode cX3_numberOf 42 = .ok (.dup, 1) := db_cX3_numberOf_dX3_numberOf_22_1.2.2.2.2.2.2.2.2.2.2.2
set_option maxRecDepth 100000 in
theorem db_cX3_numberOf_dX3_numberOf_43_2 : (decode cX3_numberOf 43 = .ok (.getfield 83, 3)) ∧ (decode cX3_numberOf 46 = .ok (.iconst 1, 1)) ∧ (decode cX3_numberOf 47 = .ok (.iadd, 1)) ∧ (decode cX3_numberOf 48 = .ok (.putfield 83, 3)) ∧ (decode cX3_numberOf 51 = .ok (.aload_n 2, 1)) ∧ (decode cX3_numberOf 52 = .ok (.getfield 83, 3)) ∧ (decode cX3_numberOf 55 = .ok (.iconst 1, 1)) ∧ (decode cX3_numberOf 56 = .ok (.isub, 1)) ∧ (decode cX3_numberOf 57 = .ok (.ireturn, 1)) := by decide +kernel
theorem dX3_numberOf_43 : decode cX3_numberOf 43 = .ok (.getfield 83, 3) := db_cX3_numberOf_dX3_numberOf_43_2.1
theorem dX3_numberOf_46 : decode cX3_numberOf 46 = .ok (.iconst 1, 1) := db_cX3_numberOf_dX3_numberOf_43_2.2.1
theorem dX3_numberOf_47 : decode cX3_numberOf 47 = .ok (.iadd, 1) := db_cX3_numberOf_dX3_numberOf_43_2.2.2.1
theorem dX3_numberOf_48 : decode cX3_numberOf 48 = .ok (.putfield 83, 3) := db_cX3_numberOf_dX3_numberOf_43_2.2.2.2.1
theorem dX3_numberOf_51 : decode cX3_numberOf 51 = .ok (.aload_n 2, 1) := db_cX3_numberOf_dX3_numberOf_43_2.2.2.2.2.1
theorem dX3_numberOf_52 : decode cX3_numberOf 52 = .ok (.getfield 83, 3) := db_cX3_numberOf_dX3_numberOf_43_2.2.2.2.2.2.1
theorem dX3_numberOf_55 : decode cX3_numberOf 55 = .ok (.iconst 1, 1) := db_cX3_numberOf_dX3_numberOf_43_2.2.2.2.2.2.2.1
theorem dX3_numberOf_56 : decode cX3_numberOf 56 = .ok (.isub, 1) := db_cX3_numberOf_dX3_numberOf_43_2.2.2.2.2.2.2.2.1
theorem dX3_numberOf_57 : decode cX3_numberOf 57 = .ok (.ireturn, 1) := db_cX3_numberOf_dX3_numberOf_43_2.2.2.2.2.2.2.2.2
set_option maxRecDepth 100000 in
theorem db_cX3_makeOneWay_dX3_makeOneWay_0_0 : (decode cX3_makeOneWay 0 = .ok (.aload_n 0, 1)) ∧ (decode cX3_makeOneWay 1 = .ok (.getfield 14, 3)) ∧ (decode cX3_makeOneWay 4 = .ok (.iconst 0, 1)) ∧ (decode cX3_makeOneWay 5 = .ok (.aload_n 1, 1)) ∧ (decode cX3_makeOneWay 6 = .ok (.getfield 75, 3)) ∧ (decode cX3_makeOneWay 9 = .ok (.invokevirtual 79, 3)) ∧ (decode cX3_makeOneWay 12 = .ok (.aload_n 2, 1)) ∧ (decode cX3_makeOneWay 13 = .ok (.iconst 1, 1)) ∧ (decode cX3_makeOneWay 14 = .ok (.putfield 83, 3)) ∧ (decode cX3_makeOneWay 17 = .ok (.aload_n 2, 1)) ∧ (decode cX3_makeOneWay 18 = .ok (.iconst 0, 1)) ∧ (decode cX3_makeOneWay 19 = .ok (.putfield 86, 3)) := by decide +kernel
theorem dX3_makeOneWay_0 : decode cX3_makeOneWay 0 = .ok (.aload_n 0, 1) := db_cX3_makeOneWay_dX3_makeOneWay_0_0.1
theorem dX3_makeOneWay_1 : decode cX3_makeOneWay 1 = .ok (.getfield 14, 3) := db_cX3_makeOneWay_dX3_makeOneWay_0_0.2.1
theorem dX3_makeOneWay_4 : decode cX3_makeOneWay 4 = .ok (.iconst 0, 1) := db_cX3_makeOneWay_dX3_makeOneWay_0_0.2.2.1
theorem dX3_makeOneWay_5 : decode cX3_makeOneWay 5 = .ok (.aload_n 1, 1) := db_cX3_makeOneWay_dX3_makeOneWay_0_0.2.2.2.1
theorem dX3_makeOneWay_6 : decode cX3_makeOneWay 6 = .ok (.getfield 75, 3) := db_cX3_makeOneWay_dX3_makeOneWay_0_0.2.2.2.2.1
theorem dX3_makeOneWay_9 : decode cX3_makeOneWay 9 = .ok (.invokevirtual 79, 3) := db_cX3_makeOneWay_dX3_makeOneWay_0_0.2.2.2.2.2.1
theorem dX3_makeOneWay_12 : decode cX3_makeOneWay 12 = .ok (.aload_n 2, 1) := db_cX3_makeOneWay_dX3_makeOneWay_0_0.2.2.2.2.2.2.1
theorem dX3_makeOneWay_13 : decode cX3_makeOneWay 13 = .ok (.iconst 1, 1) := db_cX3_makeOneWay_dX3_makeOneWay_0_0.2.2.2.2.2.2.2.1
theorem dX3_makeOneWay_14 : decode cX3_makeOneWay 14 = .ok (.putfield 83, 3) := db_cX3_makeOneWay_dX3_makeOneWay_0_0.2.2.2.2.2.2.2.2.1
theorem dX3_makeOneWay_17 : decode cX3_makeOneWay 17 = .ok (.aload_n 2, 1) := db_cX3_makeOneWay_dX3_makeOneWay_0_0.2.2.2.2.2.2.2.2.2.1
theorem dX3_makeOneWay_18 : decode cX3_makeOneWay 18 = .ok (.iconst 0, 1) := db_cX3_makeOneWay_dX3_makeOneWay_0_0.2.2.2.2.2.2.2.2.2.2.1
theorem dX3_makeOneWay_19 : decode cX3_makeOneWay 19 = .ok (.putfield 86, 3) := db_cX3_makeOneWay_dX3_makeOneWay_0_0.2.2.2.2.2.2.2.2.2.2.2
set_option maxRecDepth 100000 in
theorem db_cX3_makeOneWay_dX3_makeOneWay_22_1 : (decode cX3_makeOneWay 22 = .ok (.iconst 0, 1)) ∧ (decode cX3_makeOneWay 23 = .ok (.istore_n 3, 1)) ∧ (decode cX3_makeOneWay 24 = .ok (.iload_n 3, 1)) ∧ (decode cX3_makeOneWay 25 = .ok (.bipush 32, 2)) ∧ (decode cX3_makeOneWay 27 = .ok (.if_icmp .ge 101, 3)) ∧ (decode cX3_makeOneWay 30 = .ok (.iload_n 3, 1)) ∧ (decode cX3_makeOneWay 31 = .ok (.aload_n 2, 1)) ∧ (decode cX3_makeOneWay 32 = .ok (.getfield 83, 3)) ∧ (decode cX3_makeOneWay 35 = .ok (.if_icmp .ge 93, 3)) ∧ (decode cX3_makeOneWay 38 = .ok (.aload_n 0, 1)) ∧ (decode cX3_makeOneWay 39 = .ok (.getfield 14, 3)) ∧ (decode cX3_makeOneWay 42 = .ok (.iload_n 3, 1)) := by decide +kernel
theorem dX3_makeOneWay_22 : decode cX3_makeOneWay 22 = .ok (.iconst 0, 1) := db_cX3_makeOneWay_dX3_makeOneWay_22_1.1
theorem dX3_makeOneWay_23 : decode cX3_makeOneWay 23 = .ok (.istore_n 3, 1) := db_cX3_makeOneWay_dX3_makeOneWay_22_1.2.1
theorem dX3_makeOneWay_24 : decode cX3_makeOneWay 24 = .ok (.iload_n 3, 1) := db_cX3_makeOneWay_dX3_makeOneWay_22_1.2.2.1
theorem dX3_makeOneWay_25 : decode cX3_makeOneWay 25 = .ok (.bipush 32, 2) := db_cX3_makeOneWay_dX3_makeOneWay_22_1.2.2.2.1
theorem dX3_makeOneWay_27 : decode cX3_makeOneWay 27 = .ok (.if_icmp .ge 101, 3) := db_cX3_makeOneWay_dX3_makeOneWay_22_1.2.2.2.2.1
theorem dX3_makeOneWay_30 : decode cX3_makeOneWay 30 = .ok (.iload_n 3, 1) := db_cX3_makeOneWay_dX3_makeOneWay_22_1.2.2.2.2.2.1
theorem dX3_makeOneWay_31 : decode cX3_makeOneWay 31 = .ok (.aload_n 2, 1) := db_cX3_makeOneWay_dX3_makeOneWay_22_1.2.2.2.2.2.2.1
theorem dX3_makeOneWay_32 : decode cX3_makeOneWay 32 = .ok (.getfield 83, 3) := db_cX3_makeOneWay_dX3_makeOneWay_22_1.2.2.2.2.2.2.2.1
theorem dX3_makeOneWay_35 : decode cX3_makeOneWay 35 = .ok (.if_icmp .ge 93, 3) := db_cX3_makeOneWay_dX3_makeOneWay_22_1.2.2.2.2.2.2.2.2.1
theorem dX3_makeOneWay_38 : decode cX3_makeOneWay 38 = .ok (.aload_n 0, 1) := db_cX3_makeOneWay_dX3_makeOneWay_22_1.2.2.2.2.2.2.2.2.2.1
theorem dX3_makeOneWay_39 : decode cX3_makeOneWay 39 = .ok (.getfield 14, 3) := db_cX3_makeOneWay_dX3_makeOneWay_22_1.2.2.2.2.2.2.2.2.2.2.1
theorem dX3_makeOneWay_42 : decode cX3_makeOneWay 42 = .ok (.iload_n 3, 1) := db_cX3_makeOneWay_dX3_makeOneWay_22_1.2.2.2.2.2.2.2.2.2.2.2
set_option maxRecDepth 100000 in
theorem db_cX3_makeOneWay_dX3_makeOneWay_43_2 : (decode cX3_makeOneWay 43 = .ok (.invokevirtual 89, 3)) ∧ (decode cX3_makeOneWay 46 = .ok (.istore 4, 2)) ∧ (decode cX3_makeOneWay 48 = .ok (.aload_n 2, 1)) ∧ (decode cX3_makeOneWay 49 = .ok (.aload_n 2, 1)) ∧ (decode cX3_makeOneWay 50 = .ok (.getfield 86, 3)) ∧ (decode cX3_makeOneWay 53 = .ok (.iload_n 3, 1)) ∧ (decode cX3_makeOneWay 54 = .ok (.iload 4, 2)) ∧ (decode cX3_makeOneWay 56 = .ok (.aload_n 1, 1)) ∧ (decode cX3_makeOneWay 57 = .ok (.getfield 93, 3)) ∧ (decode cX3_makeOneWay 60 = .ok (.iand, 1)) ∧ (decode cX3_makeOneWay 61 = .ok (.ifCond .eq 7, 3)) ∧ (decode cX3_makeOneWay 64 = .ok (.iconst 1, 1)) := by decide +kernel
theorem dX3_makeOneWay_43 : decode cX3_makeOneWay 43 = .ok (.invokevirtual 89, 3) := db_cX3_makeOneWay_dX3_makeOneWay_43_2.1
theorem dX3_makeOneWay_46 : decode cX3_makeOneWay 46 = .ok (.istore 4, 2) := db_cX3_makeOneWay_dX3_makeOneWay_43_2.2.1
theorem dX3_makeOneWay_48 : decode cX3_makeOneWay 48 = .ok (.aload_n 2, 1) := db_cX3_makeOneWay_dX3_makeOneWay_43_2.2.2.1
theorem dX3_makeOneWay_49 : decode cX3_makeOneWay 49 = .ok (.aload_n 2, 1) := db_cX3_makeOneWay_dX3_makeOneWay_43_2.2.2.2.1
theorem dX3_makeOneWay_50 : decode cX3_makeOneWay 50 = .ok (.getfield 86, 3) := db_cX3_makeOneWay_dX3_makeOneWay_43_2.2.2.2.2.1
theorem dX3_makeOneWay_53 : decode cX3_makeOneWay 53 = .ok (.iload_n 3, 1) := db_cX3_makeOneWay_dX3_makeOneWay_43_2.2.2.2.2.2.1
theorem dX3_makeOneWay_54 : decode cX3_makeOneWay 54 = .ok (.iload 4, 2) := db_cX3_makeOneWay_dX3_makeOneWay_43_2.2.2.2.2.2.2.1
theorem dX3_makeOneWay_56 : decode cX3_makeOneWay 56 = .ok (.aload_n 1, 1) := db_cX3_makeOneWay_dX3_makeOneWay_43_2.2.2.2.2.2.2.2.1
theorem dX3_makeOneWay_57 : decode cX3_makeOneWay 57 = .ok (.getfield 93, 3) := db_cX3_makeOneWay_dX3_makeOneWay_43_2.2.2.2.2.2.2.2.2.1
theorem dX3_makeOneWay_60 : decode cX3_makeOneWay 60 = .ok (.iand, 1) := db_cX3_makeOneWay_dX3_makeOneWay_43_2.2.2.2.2.2.2.2.2.2.1
theorem dX3_makeOneWay_61 : decode cX3_makeOneWay 61 = .ok (.ifCond .eq 7, 3) := db_cX3_makeOneWay_dX3_makeOneWay_43_2.2.2.2.2.2.2.2.2.2.2.1
theorem dX3_makeOneWay_64 : decode cX3_makeOneWay 64 = .ok (.iconst 1, 1) := db_cX3_makeOneWay_dX3_makeOneWay_43_2.2.2.2.2.2.2.2.2.2.2.2
set_option maxRecDepth 100000 in
theorem db_cX3_makeOneWay_dX3_makeOneWay_65_3 : (decode cX3_makeOneWay 65 = .ok (.goto 4, 3)) ∧ (decode cX3_makeOneWay 68 = .ok (.iconst 0, 1)) ∧ (decode cX3_makeOneWay 69 = .ok (.invokestatic 94, 3)) ∧ (decode cX3_makeOneWay 72 = .ok (.putfield 86, 3)) ∧ (decode cX3_makeOneWay 75 = .ok (.iconst 0, 1)) ∧ (decode cX3_makeOneWay 76 = .ok (.istore 5, 2)) ∧ (decode cX3_makeOneWay 78 = .ok (.iload 5, 2)) ∧ (decode cX3_makeOneWay 80 = .ok (.iconst 3, 1)) ∧ (decode cX3_makeOneWay 81 = .ok (.if_icmp .ge 41, 3)) ∧ (decode cX3_makeOneWay 84 = .ok (.aload_n 0, 1)) ∧ (decode cX3_makeOneWay 85 = .ok (.aload_n 1, 1)) ∧ (decode cX3_makeOneWay 86 = .ok (.iload 4, 2)) := by decide +kernel
theorem dX3_makeOneWay_65 : decode cX3_makeOneWay 65 = .ok (.goto 4, 3) := db_cX3_makeOneWay_dX3_makeOneWay_65_3.1
theorem dX3_makeOneWay_68 : decode cX3_makeOneWay 68 = .ok (.iconst 0, 1) := db_cX3_makeOneWay_dX3_makeOneWay_65_3.2.1
theorem dX3_makeOneWay_69 : decode cX3_makeOneWay 69 = .ok (.invokestatic 94, 3) := db_cX3_makeOneWay_dX3_makeOneWay_65_3.2.2.1
theorem dX3_makeOneWay_72 : decode cX3_makeOneWay 72 = .ok (.putfield 86, 3) := db_cX3_makeOneWay_dX3_makeOneWay_65_3.2.2.2.1
theorem dX3_makeOneWay_75 : decode cX3_makeOneWay 75 = .ok (.iconst 0, 1) := db_cX3_makeOneWay_dX3_makeOneWay_65_3.2.2.2.2.1
theorem dX3_makeOneWay_76 : decode cX3_makeOneWay 76 = .ok (.istore 5, 2) := db_cX3_makeOneWay_dX3_makeOneWay_65_3.2.2.2.2.2.1
theorem dX3_makeOneWay_78 : decode cX3_makeOneWay 78 = .ok (.iload 5, 2) := db_cX3_makeOneWay_dX3_makeOneWay_65_3.2.2.2.2.2.2.1
theorem dX3_makeOneWay_80 : decode cX3_makeOneWay 80 = .ok (.iconst 3, 1) := db_cX3_makeOneWay_dX3_makeOneWay_65_3.2.2.2.2.2.2.2.1
theorem dX3_makeOneWay_81 : decode cX3_makeOneWay 81 = .ok (.if_icmp .ge 41, 3) := db_cX3_makeOneWay_dX3_makeOneWay_65_3.2.2.2.2.2.2.2.2.1
theorem dX3_makeOneWay_84 : decode cX3_makeOneWay 84 = .ok (.aload_n 0, 1) := db_cX3_makeOneWay_dX3_makeOneWay_65_3.2.2.2.2.2.2.2.2.2.1
theorem dX3_makeOneWay_85 : decode cX3_makeOneWay 85 = .ok (.aload_n 1, 1) := db_cX3_makeOneWay_dX3_makeOneWay_65_3.2.2.2.2.2.2.2.2.2.2.1
theorem dX3_makeOneWay_86 : decode cX3_makeOneWay 86 = .ok (.iload 4, 2) := db_cX3_makeOneWay_dX3_makeOneWay_65_3.2.2.2.2.2.2.2.2.2.2.2
set_option maxRecDepth 100000 in
theorem db_cX3_makeOneWay_dX3_makeOneWay_88_4 : (decode cX3_makeOneWay 88 = .ok (.iload 5, 2)) ∧ (decode cX3_makeOneWay 90 = .ok (.invokevirtual 98, 3)) ∧ (decode cX3_makeOneWay 93 = .ok (.aload_n 2, 1)) ∧ (decode cX3_makeOneWay 94 = .ok (.invokevirtual 102, 3)) ∧ (decode cX3_makeOneWay 97 = .ok (.istore 6, 2)) ∧ (decode cX3_makeOneWay 99 = .ok (.iload 6, 2)) ∧ (decode cX3_makeOneWay 101 = .ok (.iconst (-1), 1)) ∧ (decode cX3_makeOneWay 102 = .ok (.if_icmp .ne 5, 3)) ∧ (decode cX3_makeOneWay 105 = .ok (.iconst 0, 1)) ∧ (decode cX3_makeOneWay 106 = .ok (.ireturn, 1)) ∧ (decode cX3_makeOneWay 107 = .ok (.aload_n 2, 1)) ∧ (decode cX3_makeOneWay 108 = .ok (.iload_n 3, 1)) := by decide +kernel
theorem dX3_makeOneWay_88 : decode cX3_makeOneWay 88 = .ok (.iload 5, 2) := db_cX3_makeOneWay_dX3_makeOneWay_88_4.1
theorem dX3_makeOneWay_90 : decode cX3_makeOneWay 90 = .ok (.invokevirtual 98, 3) := db_cX3_makeOneWay_dX3_makeOneWay_88_4.2.1
theorem dX3_makeOneWay_93 : decode cX3_makeOneWay 93 = .ok (.aload_n 2, 1) := db_cX3_makeOneWay_dX3_makeOneWay_88_4.2.2.1
theorem dX3_makeOneWay_94 : decode cX3_makeOneWay 94 = .ok (.invokevirtual 102, 3) := db_cX3_makeOneWay_dX3_makeOneWay_88_4.2.2.2.1
theorem dX3_makeOneWay_97 : decode cX3_makeOneWay 97 = .ok (.istore 6, 2) := db_cX3_makeOneWay_dX3_makeOneWay_88_4.2.2.2.2.1
theorem dX3_makeOneWay_99 : decode cX3_makeOneWay 99 = .ok (.iload 6, 2) := db_cX3_makeOneWay_dX3_makeOneWay_88_4.2.2.2.2.2.1
theorem dX3_makeOneWay_101 : decode cX3_makeOneWay 101 = .ok (.iconst (-1), 1) := db_cX3_makeOneWay_dX3_makeOneWay_88_4.2.2.2.2.2.2.1
theorem dX3_makeOneWay_102 : decode cX3_makeOneWay 102 = .ok (.if_icmp .ne 5, 3) := db_cX3_makeOneWay_dX3_makeOneWay_88_4.2.2.2.2.2.2.2.1
theorem dX3_makeOneWay_105 : decode cX3_makeOneWay 105 = .ok (.iconst 0, 1) := db_cX3_makeOneWay_dX3_makeOneWay_88_4.2.2.2.2.2.2.2.2.1
theorem dX3_makeOneWay_106 : decode cX3_makeOneWay 106 = .ok (.ireturn, 1) := db_cX3_makeOneWay_dX3_makeOneWay_88_4.2.2.2.2.2.2.2.2.2.1
theorem dX3_makeOneWay_107 : decode cX3_makeOneWay 107 = .ok (.aload_n 2, 1) := db_cX3_makeOneWay_dX3_makeOneWay_88_4.2.2.2.2.2.2.2.2.2.2.1
theorem dX3_makeOneWay_108 : decode cX3_makeOneWay 108 = .ok (.iload_n 3, 1) := db_cX3_makeOneWay_dX3_makeOneWay_88_4.2.2.2.2.2.2.2.2.2.2.2
set_option maxRecDepth 100000 in
theorem db_cX3_makeOneWay_dX3_makeOneWay_109_5 : (decode cX3_makeOneWay 109 = .ok (.iload 5, 2)) ∧ (decode cX3_makeOneWay 111 = .ok (.iload 6, 2)) ∧ (decode cX3_makeOneWay 113 = .ok (.invokevirtual 106, 3)) ∧ (decode cX3_makeOneWay 116 = .ok (.iinc 5 1, 3)) ∧ (decode cX3_makeOneWay 119 = .ok (.goto (-41), 3)) ∧ (decode cX3_makeOneWay 122 = .ok (.iinc 3 1, 3)) ∧ (decode cX3_makeOneWay 125 = .ok (.goto (-101), 3)) ∧ (decode cX3_makeOneWay 128 = .ok (.iconst 1, 1)) ∧ (decode cX3_makeOneWay 129 = .ok (.ireturn, 1)) := by decide +kernel
theorem dX3_makeOneWay_109 : decode cX3_makeOneWay 109 = .ok (.iload 5, 2) := db_cX3_makeOneWay_dX3_makeOneWay_109_5.1
theorem dX3_makeOneWay_111 : decode cX3_makeOneWay 111 = .ok (.iload 6, 2) := db_cX3_makeOneWay_dX3_makeOneWay_109_5.2.1
theorem dX3_makeOneWay_113 : decode cX3_makeOneWay 113 = .ok (.invokevirtual 106, 3) := db_cX3_makeOneWay_dX3_makeOneWay_109_5.2.2.1
theorem dX3_makeOneWay_116 : decode cX3_makeOneWay 116 = .ok (.iinc 5 1, 3) := db_cX3_makeOneWay_dX3_makeOneWay_109_5.2.2.2.1
theorem dX3_makeOneWay_119 : decode cX3_makeOneWay 119 = .ok (.goto (-41), 3) := db_cX3_makeOneWay_dX3_makeOneWay_109_5.2.2.2.2.1
theorem dX3_makeOneWay_122 : decode cX3_makeOneWay 122 = .ok (.iinc 3 1, 3) := db_cX3_makeOneWay_dX3_makeOneWay_109_5.2.2.2.2.2.1
theorem dX3_makeOneWay_125 : decode cX3_makeOneWay 125 = .ok (.goto (-101), 3) := db_cX3_makeOneWay_dX3_makeOneWay_109_5.2.2.2.2.2.2.1
theorem dX3_makeOneWay_128 : decode cX3_makeOneWay 128 = .ok (.iconst 1, 1) := db_cX3_makeOneWay_dX3_makeOneWay_109_5.2.2.2.2.2.2.2.1
theorem dX3_makeOneWay_129 : decode cX3_makeOneWay 129 = .ok (.ireturn, 1) := db_cX3_makeOneWay_dX3_makeOneWay_109_5.2.2.2.2.2.2.2.2
set_option maxRecDepth 100000 in
theorem db_cX6_fill_dX6_fill_0_0 : (decode cX6_fill 0 = .ok (.iconst 0, 1)) ∧ (decode cX6_fill 1 = .ok (.istore_n 2, 1)) ∧ (decode cX6_fill 2 = .ok (.iload_n 2, 1)) ∧ (decode cX6_fill 3 = .ok (.aload_n 0, 1)) ∧ (decode cX6_fill 4 = .ok (.getfield 9, 3)) ∧ (decode cX6_fill 7 = .ok (.arraylength, 1)) ∧ (decode cX6_fill 8 = .ok (.if_icmp .ge 16, 3)) ∧ (decode cX6_fill 11 = .ok (.aload_n 0, 1)) ∧ (decode cX6_fill 12 = .ok (.getfield 9, 3)) ∧ (decode cX6_fill 15 = .ok (.iload_n 2, 1)) ∧ (decode cX6_fill 16 = .ok (.iload_n 1, 1)) ∧ (decode cX6_fill 17 = .ok (.iastore, 1)) := by decide +kernel
theorem dX6_fill_0 : decode cX6_fill 0 = .ok (.iconst 0, 1) := db_cX6_fill_dX6_fill_0_0.1
theorem dX6_fill_1 : decode cX6_fill 1 = .ok (.istore_n 2, 1) := db_cX6_fill_dX6_fill_0_0.2.1
theorem dX6_fill_2 : decode cX6_fill 2 = .ok (.iload_n 2, 1) := db_cX6_fill_dX6_fill_0_0.2.2.1
theorem dX6_fill_3 : decode cX6_fill 3 = .ok (.aload_n 0, 1) := db_cX6_fill_dX6_fill_0_0.2.2.2.1
theorem dX6_fill_4 : decode cX6_fill 4 = .ok (.getfield 9, 3) := db_cX6_fill_dX6_fill_0_0.2.2.2.2.1
theorem dX6_fill_7 : decode cX6_fill 7 = .ok (.arraylength, 1) := db_cX6_fill_dX6_fill_0_0.2.2.2.2.2.1
theorem dX6_fill_8 : decode cX6_fill 8 = .ok (.if_icmp .ge 16, 3) := db_cX6_fill_dX6_fill_0_0.2.2.2.2.2.2.1
theorem dX6_fill_11 : decode cX6_fill 11 = .ok (.aload_n 0, 1) := db_cX6_fill_dX6_fill_0_0.2.2.2.2.2.2.2.1
theorem dX6_fill_12 : decode cX6_fill 12 = .ok (.getfield 9, 3) := db_cX6_fill_dX6_fill_0_0.2.2.2.2.2.2.2.2.1
theorem dX6_fill_15 : decode cX6_fill 15 = .ok (.iload_n 2, 1) := db_cX6_fill_dX6_fill_0_0.2.2.2.2.2.2.2.2.2.1
theorem dX6_fill_16 : decode cX6_fill 16 = .ok (.iload_n 1, 1) := db_cX6_fill_dX6_fill_0_0.2.2.2.2.2.2.2.2.2.2.1
theorem dX6_fill_17 : decode cX6_fill 17 = .ok (.iastore, 1) := db_cX6_fill_dX6_fill_0_0.2.2.2.2.2.2.2.2.2.2.2
set_option maxRecDepth 100000 in
theorem db_cX6_fill_dX6_fill_18_1 : (decode cX6_fill 18 = .ok (.iinc 2 1, 3)) ∧ (decode cX6_fill 21 = .ok (.goto (-19), 3)) ∧ (decode cX6_fill 24 = .ok (.return_, 1)) := by decide +kernel
theorem dX6_fill_18 : decode cX6_fill 18 = .ok (.iinc 2 1, 3) := db_cX6_fill_dX6_fill_18_1.1
theorem dX6_fill_21 : decode cX6_fill 21 = .ok (.goto (-19), 3) := db_cX6_fill_dX6_fill_18_1.2.1
theorem dX6_fill_24 : decode cX6_fill 24 = .ok (.return_, 1) := db_cX6_fill_dX6_fill_18_1.2.2
set_option maxRecDepth 100000 in
theorem db_cX4_isGoal_dX4_isGoal_0_0 : (decode cX4_isGoal 0 = .ok (.aload_n 0, 1)) ∧ (decode cX4_isGoal 1 = .ok (.getfield 44, 3)) ∧ (decode cX4_isGoal 4 = .ok (.aload_n 0, 1)) ∧ (decode cX4_isGoal 5 = .ok (.getfield 14, 3)) ∧ (decode cX4_isGoal 8 = .ok (.iload_n 1, 1)) ∧ (decode cX4_isGoal 9 = .ok (.invokevirtual 60, 3)) ∧ (decode cX4_isGoal 12 = .ok (.invokestatic 75, 3)) ∧ (decode cX4_isGoal 15 = .ok (.istore_n 3, 1)) ∧ (decode cX4_isGoal 16 = .ok (.aload_n 0, 1)) ∧ (decode cX4_isGoal 17 = .ok (.getfield 47, 3)) ∧ (decode cX4_isGoal 20 = .ok (.aload_n 0, 1)) ∧ (decode cX4_isGoal 21 = .ok (.getfield 20, 3)) := by decide +kernel
theorem dX4_isGoal_0 : decode cX4_isGoal 0 = .ok (.aload_n 0, 1) := db_cX4_isGoal_dX4_isGoal_0_0.1
theorem dX4_isGoal_1 : decode cX4_isGoal 1 = .ok (.getfield 44, 3) := db_cX4_isGoal_dX4_isGoal_0_0.2.1
theorem dX4_isGoal_4 : decode cX4_isGoal 4 = .ok (.aload_n 0, 1) := db_cX4_isGoal_dX4_isGoal_0_0.2.2.1
theorem dX4_isGoal_5 : decode cX4_isGoal 5 = .ok (.getfield 14, 3) := db_cX4_isGoal_dX4_isGoal_0_0.2.2.2.1
theorem dX4_isGoal_8 : decode cX4_isGoal 8 = .ok (.iload_n 1, 1) := db_cX4_isGoal_dX4_isGoal_0_0.2.2.2.2.1
theorem dX4_isGoal_9 : decode cX4_isGoal 9 = .ok (.invokevirtual 60, 3) := db_cX4_isGoal_dX4_isGoal_0_0.2.2.2.2.2.1
theorem dX4_isGoal_12 : decode cX4_isGoal 12 = .ok (.invokestatic 75, 3) := db_cX4_isGoal_dX4_isGoal_0_0.2.2.2.2.2.2.1
theorem dX4_isGoal_15 : decode cX4_isGoal 15 = .ok (.istore_n 3, 1) := db_cX4_isGoal_dX4_isGoal_0_0.2.2.2.2.2.2.2.1
theorem dX4_isGoal_16 : decode cX4_isGoal 16 = .ok (.aload_n 0, 1) := db_cX4_isGoal_dX4_isGoal_0_0.2.2.2.2.2.2.2.2.1
theorem dX4_isGoal_17 : decode cX4_isGoal 17 = .ok (.getfield 47, 3) := db_cX4_isGoal_dX4_isGoal_0_0.2.2.2.2.2.2.2.2.2.1
theorem dX4_isGoal_20 : decode cX4_isGoal 20 = .ok (.aload_n 0, 1) := db_cX4_isGoal_dX4_isGoal_0_0.2.2.2.2.2.2.2.2.2.2.1
theorem dX4_isGoal_21 : decode cX4_isGoal 21 = .ok (.getfield 20, 3) := db_cX4_isGoal_dX4_isGoal_0_0.2.2.2.2.2.2.2.2.2.2.2
set_option maxRecDepth 100000 in
theorem db_cX4_isGoal_dX4_isGoal_24_1 : (decode cX4_isGoal 24 = .ok (.iload_n 1, 1)) ∧ (decode cX4_isGoal 25 = .ok (.invokevirtual 60, 3)) ∧ (decode cX4_isGoal 28 = .ok (.invokestatic 75, 3)) ∧ (decode cX4_isGoal 31 = .ok (.istore 4, 2)) ∧ (decode cX4_isGoal 33 = .ok (.iload_n 2, 1)) ∧ (decode cX4_isGoal 34 = .ok (.tableswitch 71 0 2 #[26, 41, 56], 26)) ∧ (decode cX4_isGoal 60 = .ok (.iload_n 3, 1)) ∧ (decode cX4_isGoal 61 = .ok (.ifCond .ne 8, 3)) ∧ (decode cX4_isGoal 64 = .ok (.iload 4, 2)) ∧ (decode cX4_isGoal 66 = .ok (.ifCond .eq 7, 3)) ∧ (decode cX4_isGoal 69 = .ok (.iconst 1, 1)) ∧ (decode cX4_isGoal 70 = .ok (.goto 4, 3)) := by decide +kernel
theorem dX4_isGoal_24 : decode cX4_isGoal 24 = .ok (.iload_n 1, 1) := db_cX4_isGoal_dX4_isGoal_24_1.1
theorem dX4_isGoal_25 : decode cX4_isGoal 25 = .ok (.invokevirtual 60, 3) := db_cX4_isGoal_dX4_isGoal_24_1.2.1
theorem dX4_isGoal_28 : decode cX4_isGoal 28 = .ok (.invokestatic 75, 3) := db_cX4_isGoal_dX4_isGoal_24_1.2.2.1
theorem dX4_isGoal_31 : decode cX4_isGoal 31 = .ok (.istore 4, 2) := db_cX4_isGoal_dX4_isGoal_24_1.2.2.2.1
theorem dX4_isGoal_33 : decode cX4_isGoal 33 = .ok (.iload_n 2, 1) := db_cX4_isGoal_dX4_isGoal_24_1.2.2.2.2.1
theorem dX4_isGoal_34 : decode cX4_isGoal 34 = .ok (.tableswitch 71 0 2 #[26, 41, 56], 26) := db_cX4_isGoal_dX4_isGoal_24_1.2.2.2.2.2.1
theorem dX4_isGoal_60 : decode cX4_isGoal 60 = .ok (.iload_n 3, 1) := db_cX4_isGoal_dX4_isGoal_24_1.2.2.2.2.2.2.1
theorem dX4_isGoal_61 : decode cX4_isGoal 61 = .ok (.ifCond .ne 8, 3) := db_cX4_isGoal_dX4_isGoal_24_1.2.2.2.2.2.2.2.1
theorem dX4_isGoal_64 : decode cX4_isGoal 64 = .ok (.iload 4, 2) := db_cX4_isGoal_dX4_isGoal_24_1.2.2.2.2.2.2.2.2.1
theorem dX4_isGoal_66 : decode cX4_isGoal 66 = .ok (.ifCond .eq 7, 3) := db_cX4_isGoal_dX4_isGoal_24_1.2.2.2.2.2.2.2.2.2.1
theorem dX4_isGoal_69 : decode cX4_isGoal 69 = .ok (.iconst 1, 1) := db_cX4_isGoal_dX4_isGoal_24_1.2.2.2.2.2.2.2.2.2.2.1
theorem dX4_isGoal_70 : decode cX4_isGoal 70 = .ok (.goto 4, 3) := db_cX4_isGoal_dX4_isGoal_24_1.2.2.2.2.2.2.2.2.2.2.2
set_option maxRecDepth 100000 in
theorem db_cX4_isGoal_dX4_isGoal_73_2 : (decode cX4_isGoal 73 = .ok (.iconst 0, 1)) ∧ (decode cX4_isGoal 74 = .ok (.ireturn, 1)) ∧ (decode cX4_isGoal 75 = .ok (.iload_n 3, 1)) ∧ (decode cX4_isGoal 76 = .ok (.ifCond .eq 12, 3)) ∧ (decode cX4_isGoal 79 = .ok (.iload 4, 2)) ∧ (decode cX4_isGoal 81 = .ok (.ifCond .eq 7, 3)) ∧ (decode cX4_isGoal 84 = .ok (.iconst 1, 1)) ∧ (decode cX4_isGoal 85 = .ok (.goto 4, 3)) ∧ (decode cX4_isGoal 88 = .ok (.iconst 0, 1)) ∧ (decode cX4_isGoal 89 = .ok (.ireturn, 1)) ∧ (decode cX4_isGoal 90 = .ok (.iload_n 3, 1)) ∧ (decode cX4_isGoal 91 = .ok (.ifCond .eq 12, 3)) := by decide +kernel
theorem dX4_isGoal_73 : decode cX4_isGoal 73 = .ok (.iconst 0, 1) := db_cX4_isGoal_dX4_isGoal_73_2.1
theorem dX4_isGoal_74 : decode cX4_isGoal 74 = .ok (.ireturn, 1) := db_cX4_isGoal_dX4_isGoal_73_2.2.1
theorem dX4_isGoal_75 : decode cX4_isGoal 75 = .ok (.iload_n 3, 1) := db_cX4_isGoal_dX4_isGoal_73_2.2.2.1
theorem dX4_isGoal_76 : decode cX4_isGoal 76 = .ok (.ifCond .eq 12, 3) := db_cX4_isGoal_dX4_isGoal_73_2.2.2.2.1
theorem dX4_isGoal_79 : decode cX4_isGoal 79 = .ok (.iload 4, 2) := db_cX4_isGoal_dX4_isGoal_73_2.2.2.2.2.1
theorem dX4_isGoal_81 : decode cX4_isGoal 81 = .ok (.ifCond .eq 7, 3) := db_cX4_isGoal_dX4_isGoal_73_2.2.2.2.2.2.1
theorem dX4_isGoal_84 : decode cX4_isGoal 84 = .ok (.iconst 1, 1) := db_cX4_isGoal_dX4_isGoal_73_2.2.2.2.2.2.2.1
theorem dX4_isGoal_85 : decode cX4_isGoal 85 = .ok (.goto 4, 3) := db_cX4_isGoal_dX4_isGoal_73_2.2.2.2.2.2.2.2.1
theorem dX4_isGoal_88 : decode cX4_isGoal 88 = .ok (.iconst 0, 1) := db_cX4_isGoal_dX4_isGoal_73_2.2.2.2.2.2.2.2.2.1
theorem dX4_isGoal_89 : decode cX4_isGoal 89 = .ok (.ireturn, 1) := db_cX4_isGoal_dX4_isGoal_73_2.2.2.2.2.2.2.2.2.2.1
theorem dX4_isGoal_90 : decode cX4_isGoal 90 = .ok (.iload_n 3, 1) := db_cX4_isGoal_dX4_isGoal_73_2.2.2.2.2.2.2.2.2.2.2.1
theorem dX4_isGoal_91 : decode cX4_isGoal 91 = .ok (.ifCond .eq 12, 3) := db_cX4_isGoal_dX4_isGoal_73_2.2.2.2.2.2.2.2.2.2.2.2
set_option maxRecDepth 100000 in
theorem db_cX4_isGoal_dX4_isGoal_94_3 : (decode cX4_isGoal 94 = .ok (.iload 4, 2)) ∧ (decode cX4_isGoal 96 = .ok (.ifCond .ne 7, 3)) ∧ (decode cX4_isGoal 99 = .ok (.iconst 1, 1)) ∧ (decode cX4_isGoal 100 = .ok (.goto 4, 3)) ∧ (decode cX4_isGoal 103 = .ok (.iconst 0, 1)) ∧ (decode cX4_isGoal 104 = .ok (.ireturn, 1)) ∧ (decode cX4_isGoal 105 = .ok (.iload_n 3, 1)) ∧ (decode cX4_isGoal 106 = .ok (.iload 4, 2)) ∧ (decode cX4_isGoal 108 = .ok (.if_icmp .eq 7, 3)) ∧ (decode cX4_isGoal 111 = .ok (.iconst 1, 1)) ∧ (decode cX4_isGoal 112 = .ok (.goto 4, 3)) ∧ (decode cX4_isGoal 115 = .ok (.iconst 0, 1)) := by decide +kernel
theorem dX4_isGoal_94 : decode cX4_isGoal 94 = .ok (.iload 4, 2) := db_cX4_isGoal_dX4_isGoal_94_3.1
theorem dX4_isGoal_96 : decode cX4_isGoal 96 = .ok (.ifCond .ne 7, 3) := db_cX4_isGoal_dX4_isGoal_94_3.2.1
theorem dX4_isGoal_99 : decode cX4_isGoal 99 = .ok (.iconst 1, 1) := db_cX4_isGoal_dX4_isGoal_94_3.2.2.1
theorem dX4_isGoal_100 : decode cX4_isGoal 100 = .ok (.goto 4, 3) := db_cX4_isGoal_dX4_isGoal_94_3.2.2.2.1
theorem dX4_isGoal_103 : decode cX4_isGoal 103 = .ok (.iconst 0, 1) := db_cX4_isGoal_dX4_isGoal_94_3.2.2.2.2.1
theorem dX4_isGoal_104 : decode cX4_isGoal 104 = .ok (.ireturn, 1) := db_cX4_isGoal_dX4_isGoal_94_3.2.2.2.2.2.1
theorem dX4_isGoal_105 : decode cX4_isGoal 105 = .ok (.iload_n 3, 1) := db_cX4_isGoal_dX4_isGoal_94_3.2.2.2.2.2.2.1
theorem dX4_isGoal_106 : decode cX4_isGoal 106 = .ok (.iload 4, 2) := db_cX4_isGoal_dX4_isGoal_94_3.2.2.2.2.2.2.2.1
theorem dX4_isGoal_108 : decode cX4_isGoal 108 = .ok (.if_icmp .eq 7, 3) := db_cX4_isGoal_dX4_isGoal_94_3.2.2.2.2.2.2.2.2.1
theorem dX4_isGoal_111 : decode cX4_isGoal 111 = .ok (.iconst 1, 1) := db_cX4_isGoal_dX4_isGoal_94_3.2.2.2.2.2.2.2.2.2.1
theorem dX4_isGoal_112 : decode cX4_isGoal 112 = .ok (.goto 4, 3) := db_cX4_isGoal_dX4_isGoal_94_3.2.2.2.2.2.2.2.2.2.2.1
theorem dX4_isGoal_115 : decode cX4_isGoal 115 = .ok (.iconst 0, 1) := db_cX4_isGoal_dX4_isGoal_94_3.2.2.2.2.2.2.2.2.2.2.2
theorem dX4_isGoal_116 : decode cX4_isGoal 116 = .ok (.ireturn, 1) := by decide +kernel
set_option maxRecDepth 100000 in
theorem db_cX4_add_dX4_add_0_0 : (decode cX4_add 0 = .ok (.aload_n 0, 1)) ∧ (decode cX4_add 1 = .ok (.getfield 14, 3)) ∧ (decode cX4_add 4 = .ok (.aload_n 0, 1)) ∧ (decode cX4_add 5 = .ok (.getfield 50, 3)) ∧ (decode cX4_add 8 = .ok (.iload_n 1, 1)) ∧ (decode cX4_add 9 = .ok (.invokevirtual 67, 3)) ∧ (decode cX4_add 12 = .ok (.aload_n 0, 1)) ∧ (decode cX4_add 13 = .ok (.getfield 20, 3)) ∧ (decode cX4_add 16 = .ok (.aload_n 0, 1)) ∧ (decode cX4_add 17 = .ok (.getfield 50, 3)) ∧ (decode cX4_add 20 = .ok (.iload_n 2, 1)) ∧ (decode cX4_add 21 = .ok (.invokevirtual 67, 3)) := by decide +kernel
theorem dX4_add_0 : decode cX4_add 0 = .ok (.aload_n 0, 1) := db_cX4_add_dX4_add_0_0.1
theorem dX4_add_1 : decode cX4_add 1 = .ok (.getfield 14, 3) := db_cX4_add_dX4_add_0_0.2.1
theorem dX4_add_4 : decode cX4_add 4 = .ok (.aload_n 0, 1) := db_cX4_add_dX4_add_0_0.2.2.1
theorem dX4_add_5 : decode cX4_add 5 = .ok (.getfield 50, 3) := db_cX4_add_dX4_add_0_0.2.2.2.1
theorem dX4_add_8 : decode cX4_add 8 = .ok (.iload_n 1, 1) := db_cX4_add_dX4_add_0_0.2.2.2.2.1
theorem dX4_add_9 : decode cX4_add 9 = .ok (.invokevirtual 67, 3) := db_cX4_add_dX4_add_0_0.2.2.2.2.2.1
theorem dX4_add_12 : decode cX4_add 12 = .ok (.aload_n 0, 1) := db_cX4_add_dX4_add_0_0.2.2.2.2.2.2.1
theorem dX4_add_13 : decode cX4_add 13 = .ok (.getfield 20, 3) := db_cX4_add_dX4_add_0_0.2.2.2.2.2.2.2.1
theorem dX4_add_16 : decode cX4_add 16 = .ok (.aload_n 0, 1) := db_cX4_add_dX4_add_0_0.2.2.2.2.2.2.2.2.1
theorem dX4_add_17 : decode cX4_add 17 = .ok (.getfield 50, 3) := db_cX4_add_dX4_add_0_0.2.2.2.2.2.2.2.2.2.1
theorem dX4_add_20 : decode cX4_add 20 = .ok (.iload_n 2, 1) := db_cX4_add_dX4_add_0_0.2.2.2.2.2.2.2.2.2.2.1
theorem dX4_add_21 : decode cX4_add 21 = .ok (.invokevirtual 67, 3) := db_cX4_add_dX4_add_0_0.2.2.2.2.2.2.2.2.2.2.2
set_option maxRecDepth 100000 in
theorem db_cX4_add_dX4_add_24_1 : (decode cX4_add 24 = .ok (.aload_n 0, 1)) ∧ (decode cX4_add 25 = .ok (.getfield 23, 3)) ∧ (decode cX4_add 28 = .ok (.aload_n 0, 1)) ∧ (decode cX4_add 29 = .ok (.getfield 50, 3)) ∧ (decode cX4_add 32 = .ok (.iload_n 3, 1)) ∧ (decode cX4_add 33 = .ok (.invokevirtual 67, 3)) ∧ (decode cX4_add 36 = .ok (.aload_n 0, 1)) ∧ (decode cX4_add 37 = .ok (.getfield 26, 3)) ∧ (decode cX4_add 40 = .ok (.aload_n 0, 1)) ∧ (decode cX4_add 41 = .ok (.getfield 50, 3)) ∧ (decode cX4_add 44 = .ok (.iload 4, 2)) ∧ (decode cX4_add 46 = .ok (.invokevirtual 67, 3)) := by decide +kernel
theorem dX4_add_24 : decode cX4_add 24 = .ok (.aload_n 0, 1) := db_cX4_add_dX4_add_24_1.1
theorem dX4_add_25 : decode cX4_add 25 = .ok (.getfield 23, 3) := db_cX4_add_dX4_add_24_1.2.1
theorem dX4_add_28 : decode cX4_add 28 = .ok (.aload_n 0, 1) := db_cX4_add_dX4_add_24_1.2.2.1
theorem dX4_add_29 : decode cX4_add 29 = .ok (.getfield 50, 3) := db_cX4_add_dX4_add_24_1.2.2.2.1
theorem dX4_add_32 : decode cX4_add 32 = .ok (.iload_n 3, 1) := db_cX4_add_dX4_add_24_1.2.2.2.2.1
theorem dX4_add_33 : decode cX4_add 33 = .ok (.invokevirtual 67, 3) := db_cX4_add_dX4_add_24_1.2.2.2.2.2.1
theorem dX4_add_36 : decode cX4_add 36 = .ok (.aload_n 0, 1) := db_cX4_add_dX4_add_24_1.2.2.2.2.2.2.1
theorem dX4_add_37 : decode cX4_add 37 = .ok (.getfield 26, 3) := db_cX4_add_dX4_add_24_1.2.2.2.2.2.2.2.1
theorem dX4_add_40 : decode cX4_add 40 = .ok (.aload_n 0, 1) := db_cX4_add_dX4_add_24_1.2.2.2.2.2.2.2.2.1
theorem dX4_add_41 : decode cX4_add 41 = .ok (.getfield 50, 3) := db_cX4_add_dX4_add_24_1.2.2.2.2.2.2.2.2.2.1
theorem dX4_add_44 : decode cX4_add 44 = .ok (.iload 4, 2) := db_cX4_add_dX4_add_24_1.2.2.2.2.2.2.2.2.2.2.1
theorem dX4_add_46 : decode cX4_add 46 = .ok (.invokevirtual 67, 3) := db_cX4_add_dX4_add_24_1.2.2.2.2.2.2.2.2.2.2.2
set_option maxRecDepth 100000 in
theorem db_cX4_add_dX4_add_49_2 : (decode cX4_add 49 = .ok (.aload_n 0, 1)) ∧ (decode cX4_add 50 = .ok (.getfield 32, 3)) ∧ (decode cX4_add 53 = .ok (.iload_n 1, 1)) ∧ (decode cX4_add 54 = .ok (.bipush 32, 2)) ∧ (decode cX4_add 56 = .ok (.imul, 1)) ∧ (decode cX4_add 57 = .ok (.iload_n 2, 1)) ∧ (decode cX4_add 58 = .ok (.iadd, 1)) ∧ (decode cX4_add 59 = .ok (.aload_n 0, 1)) ∧ (decode cX4_add 60 = .ok (.getfield 50, 3)) ∧ (decode cX4_add 63 = .ok (.invokevirtual 67, 3)) ∧ (decode cX4_add 66 = .ok (.aload_n 0, 1)) ∧ (decode cX4_add 67 = .ok (.getfield 53, 3)) := by decide +kernel
theorem dX4_add_49 : decode cX4_add 49 = .ok (.aload_n 0, 1) := db_cX4_add_dX4_add_49_2.1
theorem dX4_add_50 : decode cX4_add 50 = .ok (.getfield 32, 3) := db_cX4_add_dX4_add_49_2.2.1
theorem dX4_add_53 : decode cX4_add 53 = .ok (.iload_n 1, 1) := db_cX4_add_dX4_add_49_2.2.2.1
theorem dX4_add_54 : decode cX4_add 54 = .ok (.bipush 32, 2) := db_cX4_add_dX4_add_49_2.2.2.2.1
theorem dX4_add_56 : decode cX4_add 56 = .ok (.imul, 1) := db_cX4_add_dX4_add_49_2.2.2.2.2.1
theorem dX4_add_57 : decode cX4_add 57 = .ok (.iload_n 2, 1) := db_cX4_add_dX4_add_49_2.2.2.2.2.2.1
theorem dX4_add_58 : decode cX4_add 58 = .ok (.iadd, 1) := db_cX4_add_dX4_add_49_2.2.2.2.2.2.2.1
theorem dX4_add_59 : decode cX4_add 59 = .ok (.aload_n 0, 1) := db_cX4_add_dX4_add_49_2.2.2.2.2.2.2.2.1
theorem dX4_add_60 : decode cX4_add 60 = .ok (.getfield 50, 3) := db_cX4_add_dX4_add_49_2.2.2.2.2.2.2.2.2.1
theorem dX4_add_63 : decode cX4_add 63 = .ok (.invokevirtual 67, 3) := db_cX4_add_dX4_add_49_2.2.2.2.2.2.2.2.2.2.1
theorem dX4_add_66 : decode cX4_add 66 = .ok (.aload_n 0, 1) := db_cX4_add_dX4_add_49_2.2.2.2.2.2.2.2.2.2.2.1
theorem dX4_add_67 : decode cX4_add 67 = .ok (.getfield 53, 3) := db_cX4_add_dX4_add_49_2.2.2.2.2.2.2.2.2.2.2.2
set_option maxRecDepth 100000 in
theorem db_cX4_add_dX4_add_70_3 : (decode cX4_add 70 = .ok (.iconst (-1), 1)) ∧ (decode cX4_add 71 = .ok (.if_icmp .ne 23, 3)) ∧ (decode cX4_add 74 = .ok (.aload_n 0, 1)) ∧ (decode cX4_add 75 = .ok (.aload_n 0, 1)) ∧ (decode cX4_add 76 = .ok (.getfield 50, 3)) ∧ (decode cX4_add 79 = .ok (.iconst 3, 1)) ∧ (decode cX4_add 80 = .ok (.invokevirtual 71, 3)) ∧ (decode cX4_add 83 = .ok (.ifCond .eq 11, 3)) ∧ (decode cX4_add 86 = .ok (.aload_n 0, 1)) ∧ (decode cX4_add 87 = .ok (.aload_n 0, 1)) ∧ (decode cX4_add 88 = .ok (.getfield 50, 3)) ∧ (decode cX4_add 91 = .ok (.putfield 53, 3)) := by decide +kernel
theorem dX4_add_70 : decode cX4_add 70 = .ok (.iconst (-1), 1) := db_cX4_add_dX4_add_70_3.1
theorem dX4_add_71 : decode cX4_add 71 = .ok (.if_icmp .ne 23, 3) := db_cX4_add_dX4_add_70_3.2.1
theorem dX4_add_74 : decode cX4_add 74 = .ok (.aload_n 0, 1) := db_cX4_add_dX4_add_70_3.2.2.1
theorem dX4_add_75 : decode cX4_add 75 = .ok (.aload_n 0, 1) := db_cX4_add_dX4_add_70_3.2.2.2.1
theorem dX4_add_76 : decode cX4_add 76 = .ok (.getfield 50, 3) := db_cX4_add_dX4_add_70_3.2.2.2.2.1
theorem dX4_add_79 : decode cX4_add 79 = .ok (.iconst 3, 1) := db_cX4_add_dX4_add_70_3.2.2.2.2.2.1
theorem dX4_add_80 : decode cX4_add 80 = .ok (.invokevirtual 71, 3) := db_cX4_add_dX4_add_70_3.2.2.2.2.2.2.1
theorem dX4_add_83 : decode cX4_add 83 = .ok (.ifCond .eq 11, 3) := db_cX4_add_dX4_add_70_3.2.2.2.2.2.2.2.1
theorem dX4_add_86 : decode cX4_add 86 = .ok (.aload_n 0, 1) := db_cX4_add_dX4_add_70_3.2.2.2.2.2.2.2.2.1
theorem dX4_add_87 : decode cX4_add 87 = .ok (.aload_n 0, 1) := db_cX4_add_dX4_add_70_3.2.2.2.2.2.2.2.2.2.1
theorem dX4_add_88 : decode cX4_add 88 = .ok (.getfield 50, 3) := db_cX4_add_dX4_add_70_3.2.2.2.2.2.2.2.2.2.2.1
theorem dX4_add_91 : decode cX4_add 91 = .ok (.putfield 53, 3) := db_cX4_add_dX4_add_70_3.2.2.2.2.2.2.2.2.2.2.2
set_option maxRecDepth 100000 in
theorem db_cX4_add_dX4_add_94_4 : (decode cX4_add 94 = .ok (.aload_n 0, 1)) ∧ (decode cX4_add 95 = .ok (.dup, 1)) ∧ (decode cX4_add 96 = .ok (.getfield 50, 3)) ∧ (decode cX4_add 99 = .ok (.iconst 1, 1)) ∧ (decode cX4_add 100 = .ok (.iadd, 1)) ∧ (decode cX4_add 101 = .ok (.putfield 50, 3)) ∧ (decode cX4_add 104 = .ok (.return_, 1)) := by decide +kernel
theorem dX4_add_94 : decode cX4_add 94 = .ok (.aload_n 0, 1) := db_cX4_add_dX4_add_94_4.1
theorem dX4_add_95 : decode cX4_add 95 = .ok (.dup, 1) := db_cX4_add_dX4_add_94_4.2.1
theorem dX4_add_96 : decode cX4_add 96 = .ok (.getfield 50, 3) := db_cX4_add_dX4_add_94_4.2.2.1
theorem dX4_add_99 : decode cX4_add 99 = .ok (.iconst 1, 1) := db_cX4_add_dX4_add_94_4.2.2.2.1
theorem dX4_add_100 : decode cX4_add 100 = .ok (.iadd, 1) := db_cX4_add_dX4_add_94_4.2.2.2.2.1
theorem dX4_add_101 : decode cX4_add 101 = .ok (.putfield 50, 3) := db_cX4_add_dX4_add_94_4.2.2.2.2.2.1
theorem dX4_add_104 : decode cX4_add 104 = .ok (.return_, 1) := db_cX4_add_dX4_add_94_4.2.2.2.2.2.2
set_option maxRecDepth 100000 in
theorem db_cX4_meet_dX4_meet_0_0 : (decode cX4_meet 0 = .ok (.aload_n 0, 1)) ∧ (decode cX4_meet 1 = .ok (.getfield 32, 3)) ∧ (decode cX4_meet 4 = .ok (.iconst (-1), 1)) ∧ (decode cX4_meet 5 = .ok (.invokevirtual 35, 3)) ∧ (decode cX4_meet 8 = .ok (.aload_n 0, 1)) ∧ (decode cX4_meet 9 = .ok (.aload_n 1, 1)) ∧ (decode cX4_meet 10 = .ok (.getfield 38, 3)) ∧ (decode cX4_meet 13 = .ok (.putfield 44, 3)) ∧ (decode cX4_meet 16 = .ok (.aload_n 0, 1)) ∧ (decode cX4_meet 17 = .ok (.aload_n 2, 1)) ∧ (decode cX4_meet 18 = .ok (.getfield 38, 3)) ∧ (decode cX4_meet 21 = .ok (.putfield 47, 3)) := by decide +kernel
theorem dX4_meet_0 : decode cX4_meet 0 = .ok (.aload_n 0, 1) := db_cX4_meet_dX4_meet_0_0.1
theorem dX4_meet_1 : decode cX4_meet 1 = .ok (.getfield 32, 3) := db_cX4_meet_dX4_meet_0_0.2.1
theorem dX4_meet_4 : decode cX4_meet 4 = .ok (.iconst (-1), 1) := db_cX4_meet_dX4_meet_0_0.2.2.1
theorem dX4_meet_5 : decode cX4_meet 5 = .ok (.invokevirtual 35, 3) := db_cX4_meet_dX4_meet_0_0.2.2.2.1
theorem dX4_meet_8 : decode cX4_meet 8 = .ok (.aload_n 0, 1) := db_cX4_meet_dX4_meet_0_0.2.2.2.2.1
theorem dX4_meet_9 : decode cX4_meet 9 = .ok (.aload_n 1, 1) := db_cX4_meet_dX4_meet_0_0.2.2.2.2.2.1
theorem dX4_meet_10 : decode cX4_meet 10 = .ok (.getfield 38, 3) := db_cX4_meet_dX4_meet_0_0.2.2.2.2.2.2.1
theorem dX4_meet_13 : decode cX4_meet 13 = .ok (.putfield 44, 3) := db_cX4_meet_dX4_meet_0_0.2.2.2.2.2.2.2.1
theorem dX4_meet_16 : decode cX4_meet 16 = .ok (.aload_n 0, 1) := db_cX4_meet_dX4_meet_0_0.2.2.2.2.2.2.2.2.1
theorem dX4_meet_17 : decode cX4_meet 17 = .ok (.aload_n 2, 1) := db_cX4_meet_dX4_meet_0_0.2.2.2.2.2.2.2.2.2.1
theorem dX4_meet_18 : decode cX4_meet 18 = .ok (.getfield 38, 3) := db_cX4_meet_dX4_meet_0_0.2.2.2.2.2.2.2.2.2.2.1
theorem dX4_meet_21 : decode cX4_meet 21 = .ok (.putfield 47, 3) := db_cX4_meet_dX4_meet_0_0.2.2.2.2.2.2.2.2.2.2.2
set_option maxRecDepth 100000 in
theorem db_cX4_meet_dX4_meet_24_1 : (decode cX4_meet 24 = .ok (.aload_n 0, 1)) ∧ (decode cX4_meet 25 = .ok (.iconst 0, 1)) ∧ (decode cX4_meet 26 = .ok (.putfield 50, 3)) ∧ (decode cX4_meet 29 = .ok (.aload_n 0, 1)) ∧ (decode cX4_meet 30 = .ok (.iconst (-1), 1)) ∧ (decode cX4_meet 31 = .ok (.putfield 53, 3)) ∧ (decode cX4_meet 34 = .ok (.aload_n 0, 1)) ∧ (decode cX4_meet 35 = .ok (.iconst 0, 1)) ∧ (decode cX4_meet 36 = .ok (.iconst 0, 1)) ∧ (decode cX4_meet 37 = .ok (.iconst (-1), 1)) ∧ (decode cX4_meet 38 = .ok (.iconst (-1), 1)) ∧ (decode cX4_meet 39 = .ok (.invokevirtual 56, 3)) := by decide +kernel
theorem dX4_meet_24 : decode cX4_meet 24 = .ok (.aload_n 0, 1) := db_cX4_meet_dX4_meet_24_1.1
theorem dX4_meet_25 : decode cX4_meet 25 = .ok (.iconst 0, 1) := db_cX4_meet_dX4_meet_24_1.2.1
theorem dX4_meet_26 : decode cX4_meet 26 = .ok (.putfield 50, 3) := db_cX4_meet_dX4_meet_24_1.2.2.1
theorem dX4_meet_29 : decode cX4_meet 29 = .ok (.aload_n 0, 1) := db_cX4_meet_dX4_meet_24_1.2.2.2.1
theorem dX4_meet_30 : decode cX4_meet 30 = .ok (.iconst (-1), 1) := db_cX4_meet_dX4_meet_24_1.2.2.2.2.1
theorem dX4_meet_31 : decode cX4_meet 31 = .ok (.putfield 53, 3) := db_cX4_meet_dX4_meet_24_1.2.2.2.2.2.1
theorem dX4_meet_34 : decode cX4_meet 34 = .ok (.aload_n 0, 1) := db_cX4_meet_dX4_meet_24_1.2.2.2.2.2.2.1
theorem dX4_meet_35 : decode cX4_meet 35 = .ok (.iconst 0, 1) := db_cX4_meet_dX4_meet_24_1.2.2.2.2.2.2.2.1
theorem dX4_meet_36 : decode cX4_meet 36 = .ok (.iconst 0, 1) := db_cX4_meet_dX4_meet_24_1.2.2.2.2.2.2.2.2.1
theorem dX4_meet_37 : decode cX4_meet 37 = .ok (.iconst (-1), 1) := db_cX4_meet_dX4_meet_24_1.2.2.2.2.2.2.2.2.2.1
theorem dX4_meet_38 : decode cX4_meet 38 = .ok (.iconst (-1), 1) := db_cX4_meet_dX4_meet_24_1.2.2.2.2.2.2.2.2.2.2.1
theorem dX4_meet_39 : decode cX4_meet 39 = .ok (.invokevirtual 56, 3) := db_cX4_meet_dX4_meet_24_1.2.2.2.2.2.2.2.2.2.2.2
set_option maxRecDepth 100000 in
theorem db_cX4_meet_dX4_meet_42_2 : (decode cX4_meet 42 = .ok (.iconst 0, 1)) ∧ (decode cX4_meet 43 = .ok (.istore 5, 2)) ∧ (decode cX4_meet 45 = .ok (.iload 5, 2)) ∧ (decode cX4_meet 47 = .ok (.iload_n 3, 1)) ∧ (decode cX4_meet 48 = .ok (.if_icmp .ge 152, 3)) ∧ (decode cX4_meet 51 = .ok (.iload 5, 2)) ∧ (decode cX4_meet 53 = .ok (.aload_n 0, 1)) ∧ (decode cX4_meet 54 = .ok (.getfield 50, 3)) ∧ (decode cX4_meet 57 = .ok (.if_icmp .ge 143, 3)) ∧ (decode cX4_meet 60 = .ok (.iconst 0, 1)) ∧ (decode cX4_meet 61 = .ok (.istore 6, 2)) ∧ (decode cX4_meet 63 = .ok (.iload 6, 2)) := by decide +kernel
theorem dX4_meet_42 : decode cX4_meet 42 = .ok (.iconst 0, 1) := db_cX4_meet_dX4_meet_42_2.1
theorem dX4_meet_43 : decode cX4_meet 43 = .ok (.istore 5, 2) := db_cX4_meet_dX4_meet_42_2.2.1
theorem dX4_meet_45 : decode cX4_meet 45 = .ok (.iload 5, 2) := db_cX4_meet_dX4_meet_42_2.2.2.1
theorem dX4_meet_47 : decode cX4_meet 47 = .ok (.iload_n 3, 1) := db_cX4_meet_dX4_meet_42_2.2.2.2.1
theorem dX4_meet_48 : decode cX4_meet 48 = .ok (.if_icmp .ge 152, 3) := db_cX4_meet_dX4_meet_42_2.2.2.2.2.1
theorem dX4_meet_51 : decode cX4_meet 51 = .ok (.iload 5, 2) := db_cX4_meet_dX4_meet_42_2.2.2.2.2.2.1
theorem dX4_meet_53 : decode cX4_meet 53 = .ok (.aload_n 0, 1) := db_cX4_meet_dX4_meet_42_2.2.2.2.2.2.2.1
theorem dX4_meet_54 : decode cX4_meet 54 = .ok (.getfield 50, 3) := db_cX4_meet_dX4_meet_42_2.2.2.2.2.2.2.2.1
theorem dX4_meet_57 : decode cX4_meet 57 = .ok (.if_icmp .ge 143, 3) := db_cX4_meet_dX4_meet_42_2.2.2.2.2.2.2.2.2.1
theorem dX4_meet_60 : decode cX4_meet 60 = .ok (.iconst 0, 1) := db_cX4_meet_dX4_meet_42_2.2.2.2.2.2.2.2.2.2.1
theorem dX4_meet_61 : decode cX4_meet 61 = .ok (.istore 6, 2) := db_cX4_meet_dX4_meet_42_2.2.2.2.2.2.2.2.2.2.2.1
theorem dX4_meet_63 : decode cX4_meet 63 = .ok (.iload 6, 2) := db_cX4_meet_dX4_meet_42_2.2.2.2.2.2.2.2.2.2.2.2
set_option maxRecDepth 100000 in
theorem db_cX4_meet_dX4_meet_65_3 : (decode cX4_meet 65 = .ok (.iconst 3, 1)) ∧ (decode cX4_meet 66 = .ok (.if_icmp .ge 128, 3)) ∧ (decode cX4_meet 69 = .ok (.aload_n 0, 1)) ∧ (decode cX4_meet 70 = .ok (.getfield 53, 3)) ∧ (decode cX4_meet 73 = .ok (.iconst (-1), 1)) ∧ (decode cX4_meet 74 = .ok (.if_icmp .eq 10, 3)) ∧ (decode cX4_meet 77 = .ok (.iload 4, 2)) ∧ (decode cX4_meet 79 = .ok (.ifCond .ne 5, 3)) ∧ (decode cX4_meet 82 = .ok (.iconst 1, 1)) ∧ (decode cX4_meet 83 = .ok (.ireturn, 1)) ∧ (decode cX4_meet 84 = .ok (.aload_n 1, 1)) ∧ (decode cX4_meet 85 = .ok (.aload_n 0, 1)) := by decide +kernel
theorem dX4_meet_65 : decode cX4_meet 65 = .ok (.iconst 3, 1) := db_cX4_meet_dX4_meet_65_3.1
theorem dX4_meet_66 : decode cX4_meet 66 = .ok (.if_icmp .ge 128, 3) := db_cX4_meet_dX4_meet_65_3.2.1
theorem dX4_meet_69 : decode cX4_meet 69 = .ok (.aload_n 0, 1) := db_cX4_meet_dX4_meet_65_3.2.2.1
theorem dX4_meet_70 : decode cX4_meet 70 = .ok (.getfield 53, 3) := db_cX4_meet_dX4_meet_65_3.2.2.2.1
theorem dX4_meet_73 : decode cX4_meet 73 = .ok (.iconst (-1), 1) := db_cX4_meet_dX4_meet_65_3.2.2.2.2.1
theorem dX4_meet_74 : decode cX4_meet 74 = .ok (.if_icmp .eq 10, 3) := db_cX4_meet_dX4_meet_65_3.2.2.2.2.2.1
theorem dX4_meet_77 : decode cX4_meet 77 = .ok (.iload 4, 2) := db_cX4_meet_dX4_meet_65_3.2.2.2.2.2.2.1
theorem dX4_meet_79 : decode cX4_meet 79 = .ok (.ifCond .ne 5, 3) := db_cX4_meet_dX4_meet_65_3.2.2.2.2.2.2.2.1
theorem dX4_meet_82 : decode cX4_meet 82 = .ok (.iconst 1, 1) := db_cX4_meet_dX4_meet_65_3.2.2.2.2.2.2.2.2.1
theorem dX4_meet_83 : decode cX4_meet 83 = .ok (.ireturn, 1) := db_cX4_meet_dX4_meet_65_3.2.2.2.2.2.2.2.2.2.1
theorem dX4_meet_84 : decode cX4_meet 84 = .ok (.aload_n 1, 1) := db_cX4_meet_dX4_meet_65_3.2.2.2.2.2.2.2.2.2.2.1
theorem dX4_meet_85 : decode cX4_meet 85 = .ok (.aload_n 0, 1) := db_cX4_meet_dX4_meet_65_3.2.2.2.2.2.2.2.2.2.2.2
set_option maxRecDepth 100000 in
theorem db_cX4_meet_dX4_meet_86_4 : (decode cX4_meet 86 = .ok (.getfield 14, 3)) ∧ (decode cX4_meet 89 = .ok (.iload 5, 2)) ∧ (decode cX4_meet 91 = .ok (.invokevirtual 60, 3)) ∧ (decode cX4_meet 94 = .ok (.iload 6, 2)) ∧ (decode cX4_meet 96 = .ok (.invokevirtual 64, 3)) ∧ (decode cX4_meet 99 = .ok (.istore 7, 2)) ∧ (decode cX4_meet 101 = .ok (.aload_n 2, 1)) ∧ (decode cX4_meet 102 = .ok (.aload_n 0, 1)) ∧ (decode cX4_meet 103 = .ok (.getfield 20, 3)) ∧ (decode cX4_meet 106 = .ok (.iload 5, 2)) ∧ (decode cX4_meet 108 = .ok (.invokevirtual 60, 3)) ∧ (decode cX4_meet 111 = .ok (.iload 6, 2)) := by decide +kernel
theorem dX4_meet_86 : decode cX4_meet 86 = .ok (.getfield 14, 3) := db_cX4_meet_dX4_meet_86_4.1
theorem dX4_meet_89 : decode cX4_meet 89 = .ok (.iload 5, 2) := db_cX4_meet_dX4_meet_86_4.2.1
theorem dX4_meet_91 : decode cX4_meet 91 = .ok (.invokevirtual 60, 3) := db_cX4_meet_dX4_meet_86_4.2.2.1
theorem dX4_meet_94 : decode cX4_meet 94 = .ok (.iload 6, 2) := db_cX4_meet_dX4_meet_86_4.2.2.2.1
theorem dX4_meet_96 : decode cX4_meet 96 = .ok (.invokevirtual 64, 3) := db_cX4_meet_dX4_meet_86_4.2.2.2.2.1
theorem dX4_meet_99 : decode cX4_meet 99 = .ok (.istore 7, 2) := db_cX4_meet_dX4_meet_86_4.2.2.2.2.2.1
theorem dX4_meet_101 : decode cX4_meet 101 = .ok (.aload_n 2, 1) := db_cX4_meet_dX4_meet_86_4.2.2.2.2.2.2.1
theorem dX4_meet_102 : decode cX4_meet 102 = .ok (.aload_n 0, 1) := db_cX4_meet_dX4_meet_86_4.2.2.2.2.2.2.2.1
theorem dX4_meet_103 : decode cX4_meet 103 = .ok (.getfield 20, 3) := db_cX4_meet_dX4_meet_86_4.2.2.2.2.2.2.2.2.1
theorem dX4_meet_106 : decode cX4_meet 106 = .ok (.iload 5, 2) := db_cX4_meet_dX4_meet_86_4.2.2.2.2.2.2.2.2.2.1
theorem dX4_meet_108 : decode cX4_meet 108 = .ok (.invokevirtual 60, 3) := db_cX4_meet_dX4_meet_86_4.2.2.2.2.2.2.2.2.2.2.1
theorem dX4_meet_111 : decode cX4_meet 111 = .ok (.iload 6, 2) := db_cX4_meet_dX4_meet_86_4.2.2.2.2.2.2.2.2.2.2.2
set_option maxRecDepth 100000 in
theorem db_cX4_meet_dX4_meet_113_5 : (decode cX4_meet 113 = .ok (.invokevirtual 64, 3)) ∧ (decode cX4_meet 116 = .ok (.istore 8, 2)) ∧ (decode cX4_meet 118 = .ok (.aload_n 0, 1)) ∧ (decode cX4_meet 119 = .ok (.getfield 32, 3)) ∧ (decode cX4_meet 122 = .ok (.iload 7, 2)) ∧ (decode cX4_meet 124 = .ok (.bipush 32, 2)) ∧ (decode cX4_meet 126 = .ok (.imul, 1)) ∧ (decode cX4_meet 127 = .ok (.iload 8, 2)) ∧ (decode cX4_meet 129 = .ok (.iadd, 1)) ∧ (decode cX4_meet 130 = .ok (.invokevirtual 60, 3)) ∧ (decode cX4_meet 133 = .ok (.iconst (-1), 1)) ∧ (decode cX4_meet 134 = .ok (.if_icmp .ne 25, 3)) := by decide +kernel
theorem dX4_meet_113 : decode cX4_meet 113 = .ok (.invokevirtual 64, 3) := db_cX4_meet_dX4_meet_113_5.1
theorem dX4_meet_116 : decode cX4_meet 116 = .ok (.istore 8, 2) := db_cX4_meet_dX4_meet_113_5.2.1
theorem dX4_meet_118 : decode cX4_meet 118 = .ok (.aload_n 0, 1) := db_cX4_meet_dX4_meet_113_5.2.2.1
theorem dX4_meet_119 : decode cX4_meet 119 = .ok (.getfield 32, 3) := db_cX4_meet_dX4_meet_113_5.2.2.2.1
theorem dX4_meet_122 : decode cX4_meet 122 = .ok (.iload 7, 2) := db_cX4_meet_dX4_meet_113_5.2.2.2.2.1
theorem dX4_meet_124 : decode cX4_meet 124 = .ok (.bipush 32, 2) := db_cX4_meet_dX4_meet_113_5.2.2.2.2.2.1
theorem dX4_meet_126 : decode cX4_meet 126 = .ok (.imul, 1) := db_cX4_meet_dX4_meet_113_5.2.2.2.2.2.2.1
theorem dX4_meet_127 : decode cX4_meet 127 = .ok (.iload 8, 2) := db_cX4_meet_dX4_meet_113_5.2.2.2.2.2.2.2.1
theorem dX4_meet_129 : decode cX4_meet 129 = .ok (.iadd, 1) := db_cX4_meet_dX4_meet_113_5.2.2.2.2.2.2.2.2.1
theorem dX4_meet_130 : decode cX4_meet 130 = .ok (.invokevirtual 60, 3) := db_cX4_meet_dX4_meet_113_5.2.2.2.2.2.2.2.2.2.1
theorem dX4_meet_133 : decode cX4_meet 133 = .ok (.iconst (-1), 1) := db_cX4_meet_dX4_meet_113_5.2.2.2.2.2.2.2.2.2.2.1
theorem dX4_meet_134 : decode cX4_meet 134 = .ok (.if_icmp .ne 25, 3) := db_cX4_meet_dX4_meet_113_5.2.2.2.2.2.2.2.2.2.2.2
set_option maxRecDepth 100000 in
theorem db_cX4_meet_dX4_meet_137_6 : (decode cX4_meet 137 = .ok (.aload_n 0, 1)) ∧ (decode cX4_meet 138 = .ok (.getfield 50, 3)) ∧ (decode cX4_meet 141 = .ok (.iload_n 3, 1)) ∧ (decode cX4_meet 142 = .ok (.if_icmp .lt 5, 3)) ∧ (decode cX4_meet 145 = .ok (.iconst 0, 1)) ∧ (decode cX4_meet 146 = .ok (.ireturn, 1)) ∧ (decode cX4_meet 147 = .ok (.aload_n 0, 1)) ∧ (decode cX4_meet 148 = .ok (.iload 7, 2)) ∧ (decode cX4_meet 150 = .ok (.iload 8, 2)) ∧ (decode cX4_meet 152 = .ok (.iload 5, 2)) ∧ (decode cX4_meet 154 = .ok (.iload 6, 2)) ∧ (decode cX4_meet 156 = .ok (.invokevirtual 56, 3)) := by decide +kernel
theorem dX4_meet_137 : decode cX4_meet 137 = .ok (.aload_n 0, 1) := db_cX4_meet_dX4_meet_137_6.1
theorem dX4_meet_138 : decode cX4_meet 138 = .ok (.getfield 50, 3) := db_cX4_meet_dX4_meet_137_6.2.1
theorem dX4_meet_141 : decode cX4_meet 141 = .ok (.iload_n 3, 1) := db_cX4_meet_dX4_meet_137_6.2.2.1
theorem dX4_meet_142 : decode cX4_meet 142 = .ok (.if_icmp .lt 5, 3) := db_cX4_meet_dX4_meet_137_6.2.2.2.1
theorem dX4_meet_145 : decode cX4_meet 145 = .ok (.iconst 0, 1) := db_cX4_meet_dX4_meet_137_6.2.2.2.2.1
theorem dX4_meet_146 : decode cX4_meet 146 = .ok (.ireturn, 1) := db_cX4_meet_dX4_meet_137_6.2.2.2.2.2.1
theorem dX4_meet_147 : decode cX4_meet 147 = .ok (.aload_n 0, 1) := db_cX4_meet_dX4_meet_137_6.2.2.2.2.2.2.1
theorem dX4_meet_148 : decode cX4_meet 148 = .ok (.iload 7, 2) := db_cX4_meet_dX4_meet_137_6.2.2.2.2.2.2.2.1
theorem dX4_meet_150 : decode cX4_meet 150 = .ok (.iload 8, 2) := db_cX4_meet_dX4_meet_137_6.2.2.2.2.2.2.2.2.1
theorem dX4_meet_152 : decode cX4_meet 152 = .ok (.iload 5, 2) := db_cX4_meet_dX4_meet_137_6.2.2.2.2.2.2.2.2.2.1
theorem dX4_meet_154 : decode cX4_meet 154 = .ok (.iload 6, 2) := db_cX4_meet_dX4_meet_137_6.2.2.2.2.2.2.2.2.2.2.1
theorem dX4_meet_156 : decode cX4_meet 156 = .ok (.invokevirtual 56, 3) := db_cX4_meet_dX4_meet_137_6.2.2.2.2.2.2.2.2.2.2.2
set_option maxRecDepth 100000 in
theorem db_cX4_meet_dX4_meet_159_7 : (decode cX4_meet 159 = .ok (.aload_n 0, 1)) ∧ (decode cX4_meet 160 = .ok (.getfield 29, 3)) ∧ (decode cX4_meet 163 = .ok (.iload 5, 2)) ∧ (decode cX4_meet 165 = .ok (.iconst 3, 1)) ∧ (decode cX4_meet 166 = .ok (.imul, 1)) ∧ (decode cX4_meet 167 = .ok (.iload 6, 2)) ∧ (decode cX4_meet 169 = .ok (.iadd, 1)) ∧ (decode cX4_meet 170 = .ok (.aload_n 0, 1)) ∧ (decode cX4_meet 171 = .ok (.getfield 32, 3)) ∧ (decode cX4_meet 174 = .ok (.iload 7, 2)) ∧ (decode cX4_meet 176 = .ok (.bipush 32, 2)) ∧ (decode cX4_meet 178 = .ok (.imul, 1)) := by decide +kernel
theorem dX4_meet_159 : decode cX4_meet 159 = .ok (.aload_n 0, 1) := db_cX4_meet_dX4_meet_159_7.1
theorem dX4_meet_160 : decode cX4_meet 160 = .ok (.getfield 29, 3) := db_cX4_meet_dX4_meet_159_7.2.1
theorem dX4_meet_163 : decode cX4_meet 163 = .ok (.iload 5, 2) := db_cX4_meet_dX4_meet_159_7.2.2.1
theorem dX4_meet_165 : decode cX4_meet 165 = .ok (.iconst 3, 1) := db_cX4_meet_dX4_meet_159_7.2.2.2.1
theorem dX4_meet_166 : decode cX4_meet 166 = .ok (.imul, 1) := db_cX4_meet_dX4_meet_159_7.2.2.2.2.1
theorem dX4_meet_167 : decode cX4_meet 167 = .ok (.iload 6, 2) := db_cX4_meet_dX4_meet_159_7.2.2.2.2.2.1
theorem dX4_meet_169 : decode cX4_meet 169 = .ok (.iadd, 1) := db_cX4_meet_dX4_meet_159_7.2.2.2.2.2.2.1
theorem dX4_meet_170 : decode cX4_meet 170 = .ok (.aload_n 0, 1) := db_cX4_meet_dX4_meet_159_7.2.2.2.2.2.2.2.1
theorem dX4_meet_171 : decode cX4_meet 171 = .ok (.getfield 32, 3) := db_cX4_meet_dX4_meet_159_7.2.2.2.2.2.2.2.2.1
theorem dX4_meet_174 : decode cX4_meet 174 = .ok (.iload 7, 2) := db_cX4_meet_dX4_meet_159_7.2.2.2.2.2.2.2.2.2.1
theorem dX4_meet_176 : decode cX4_meet 176 = .ok (.bipush 32, 2) := db_cX4_meet_dX4_meet_159_7.2.2.2.2.2.2.2.2.2.2.1
theorem dX4_meet_178 : decode cX4_meet 178 = .ok (.imul, 1) := db_cX4_meet_dX4_meet_159_7.2.2.2.2.2.2.2.2.2.2.2
set_option maxRecDepth 100000 in
theorem db_cX4_meet_dX4_meet_179_8 : (decode cX4_meet 179 = .ok (.iload 8, 2)) ∧ (decode cX4_meet 181 = .ok (.iadd, 1)) ∧ (decode cX4_meet 182 = .ok (.invokevirtual 60, 3)) ∧ (decode cX4_meet 185 = .ok (.invokevirtual 67, 3)) ∧ (decode cX4_meet 188 = .ok (.iinc 6 1, 3)) ∧ (decode cX4_meet 191 = .ok (.goto (-128), 3)) ∧ (decode cX4_meet 194 = .ok (.iinc 5 1, 3)) ∧ (decode cX4_meet 197 = .ok (.goto (-152), 3)) ∧ (decode cX4_meet 200 = .ok (.iconst 1, 1)) ∧ (decode cX4_meet 201 = .ok (.ireturn, 1)) := by decide +kernel
theorem dX4_meet_179 : decode cX4_meet 179 = .ok (.iload 8, 2) := db_cX4_meet_dX4_meet_179_8.1
theorem dX4_meet_181 : decode cX4_meet 181 = .ok (.iadd, 1) := db_cX4_meet_dX4_meet_179_8.2.1
theorem dX4_meet_182 : decode cX4_meet 182 = .ok (.invokevirtual 60, 3) := db_cX4_meet_dX4_meet_179_8.2.2.1
theorem dX4_meet_185 : decode cX4_meet 185 = .ok (.invokevirtual 67, 3) := db_cX4_meet_dX4_meet_179_8.2.2.2.1
theorem dX4_meet_188 : decode cX4_meet 188 = .ok (.iinc 6 1, 3) := db_cX4_meet_dX4_meet_179_8.2.2.2.2.1
theorem dX4_meet_191 : decode cX4_meet 191 = .ok (.goto (-128), 3) := db_cX4_meet_dX4_meet_179_8.2.2.2.2.2.1
theorem dX4_meet_194 : decode cX4_meet 194 = .ok (.iinc 5 1, 3) := db_cX4_meet_dX4_meet_179_8.2.2.2.2.2.2.1
theorem dX4_meet_197 : decode cX4_meet 197 = .ok (.goto (-152), 3) := db_cX4_meet_dX4_meet_179_8.2.2.2.2.2.2.2.1
theorem dX4_meet_200 : decode cX4_meet 200 = .ok (.iconst 1, 1) := db_cX4_meet_dX4_meet_179_8.2.2.2.2.2.2.2.2.1
theorem dX4_meet_201 : decode cX4_meet 201 = .ok (.ireturn, 1) := db_cX4_meet_dX4_meet_179_8.2.2.2.2.2.2.2.2.2
set_option maxRecDepth 100000 in
theorem db_cX9_meetPairs_dX9_meetPairs_0_0 : (decode cX9_meetPairs 0 = .ok (.aload_n 0, 1)) ∧ (decode cX9_meetPairs 1 = .ok (.getfield 35, 3)) ∧ (decode cX9_meetPairs 4 = .ok (.aload_n 1, 1)) ∧ (decode cX9_meetPairs 5 = .ok (.aload_n 0, 1)) ∧ (decode cX9_meetPairs 6 = .ok (.getfield 56, 3)) ∧ (decode cX9_meetPairs 9 = .ok (.invokevirtual 288, 3)) ∧ (decode cX9_meetPairs 12 = .ok (.ifCond .eq 43, 3)) ∧ (decode cX9_meetPairs 15 = .ok (.aload_n 0, 1)) ∧ (decode cX9_meetPairs 16 = .ok (.getfield 35, 3)) ∧ (decode cX9_meetPairs 19 = .ok (.aload_n 2, 1)) ∧ (decode cX9_meetPairs 20 = .ok (.aload_n 0, 1)) ∧ (decode cX9_meetPairs 21 = .ok (.getfield 60, 3)) := by decide +kernel
theorem dX9_meetPairs_0 : decode cX9_meetPairs 0 = .ok (.aload_n 0, 1) := db_cX9_meetPairs_dX9_meetPairs_0_0.1
theorem dX9_meetPairs_1 : decode cX9_meetPairs 1 = .ok (.getfield 35, 3) := db_cX9_meetPairs_dX9_meetPairs_0_0.2.1
theorem dX9_meetPairs_4 : decode cX9_meetPairs 4 = .ok (.aload_n 1, 1) := db_cX9_meetPairs_dX9_meetPairs_0_0.2.2.1
theorem dX9_meetPairs_5 : decode cX9_meetPairs 5 = .ok (.aload_n 0, 1) := db_cX9_meetPairs_dX9_meetPairs_0_0.2.2.2.1
theorem dX9_meetPairs_6 : decode cX9_meetPairs 6 = .ok (.getfield 56, 3) := db_cX9_meetPairs_dX9_meetPairs_0_0.2.2.2.2.1
theorem dX9_meetPairs_9 : decode cX9_meetPairs 9 = .ok (.invokevirtual 288, 3) := db_cX9_meetPairs_dX9_meetPairs_0_0.2.2.2.2.2.1
theorem dX9_meetPairs_12 : decode cX9_meetPairs 12 = .ok (.ifCond .eq 43, 3) := db_cX9_meetPairs_dX9_meetPairs_0_0.2.2.2.2.2.2.1
theorem dX9_meetPairs_15 : decode cX9_meetPairs 15 = .ok (.aload_n 0, 1) := db_cX9_meetPairs_dX9_meetPairs_0_0.2.2.2.2.2.2.2.1
theorem dX9_meetPairs_16 : decode cX9_meetPairs 16 = .ok (.getfield 35, 3) := db_cX9_meetPairs_dX9_meetPairs_0_0.2.2.2.2.2.2.2.2.1
theorem dX9_meetPairs_19 : decode cX9_meetPairs 19 = .ok (.aload_n 2, 1) := db_cX9_meetPairs_dX9_meetPairs_0_0.2.2.2.2.2.2.2.2.2.1
theorem dX9_meetPairs_20 : decode cX9_meetPairs 20 = .ok (.aload_n 0, 1) := db_cX9_meetPairs_dX9_meetPairs_0_0.2.2.2.2.2.2.2.2.2.2.1
theorem dX9_meetPairs_21 : decode cX9_meetPairs 21 = .ok (.getfield 60, 3) := db_cX9_meetPairs_dX9_meetPairs_0_0.2.2.2.2.2.2.2.2.2.2.2
set_option maxRecDepth 100000 in
theorem db_cX9_meetPairs_dX9_meetPairs_24_1 : (decode cX9_meetPairs 24 = .ok (.invokevirtual 288, 3)) ∧ (decode cX9_meetPairs 27 = .ok (.ifCond .eq 28, 3)) ∧ (decode cX9_meetPairs 30 = .ok (.aload_n 0, 1)) ∧ (decode cX9_meetPairs 31 = .ok (.getfield 42, 3)) ∧ (decode cX9_meetPairs 34 = .ok (.aload_n 0, 1)) ∧ (decode cX9_meetPairs 35 = .ok (.getfield 56, 3)) ∧ (decode cX9_meetPairs 38 = .ok (.aload_n 0, 1)) ∧ (decode cX9_meetPairs 39 = .ok (.getfield 60, 3)) ∧ (decode cX9_meetPairs 42 = .ok (.iload_n 3, 1)) ∧ (decode cX9_meetPairs 43 = .ok (.iload 4, 2)) ∧ (decode cX9_meetPairs 45 = .ok (.invokevirtual 292, 3)) ∧ (decode cX9_meetPairs 48 = .ok (.ifCond .eq 7, 3)) := by decide +kernel
theorem dX9_meetPairs_24 : decode cX9_meetPairs 24 = .ok (.invokevirtual 288, 3) := db_cX9_meetPairs_dX9_meetPairs_24_1.1
theorem dX9_meetPairs_27 : decode cX9_meetPairs 27 = .ok (.ifCond .eq 28, 3) := db_cX9_meetPairs_dX9_meetPairs_24_1.2.1
theorem dX9_meetPairs_30 : decode cX9_meetPairs 30 = .ok (.aload_n 0, 1) := db_cX9_meetPairs_dX9_meetPairs_24_1.2.2.1
theorem dX9_meetPairs_31 : decode cX9_meetPairs 31 = .ok (.getfield 42, 3) := db_cX9_meetPairs_dX9_meetPairs_24_1.2.2.2.1
theorem dX9_meetPairs_34 : decode cX9_meetPairs 34 = .ok (.aload_n 0, 1) := db_cX9_meetPairs_dX9_meetPairs_24_1.2.2.2.2.1
theorem dX9_meetPairs_35 : decode cX9_meetPairs 35 = .ok (.getfield 56, 3) := db_cX9_meetPairs_dX9_meetPairs_24_1.2.2.2.2.2.1
theorem dX9_meetPairs_38 : decode cX9_meetPairs 38 = .ok (.aload_n 0, 1) := db_cX9_meetPairs_dX9_meetPairs_24_1.2.2.2.2.2.2.1
theorem dX9_meetPairs_39 : decode cX9_meetPairs 39 = .ok (.getfield 60, 3) := db_cX9_meetPairs_dX9_meetPairs_24_1.2.2.2.2.2.2.2.1
theorem dX9_meetPairs_42 : decode cX9_meetPairs 42 = .ok (.iload_n 3, 1) := db_cX9_meetPairs_dX9_meetPairs_24_1.2.2.2.2.2.2.2.2.1
theorem dX9_meetPairs_43 : decode cX9_meetPairs 43 = .ok (.iload 4, 2) := db_cX9_meetPairs_dX9_meetPairs_24_1.2.2.2.2.2.2.2.2.2.1
theorem dX9_meetPairs_45 : decode cX9_meetPairs 45 = .ok (.invokevirtual 292, 3) := db_cX9_meetPairs_dX9_meetPairs_24_1.2.2.2.2.2.2.2.2.2.2.1
theorem dX9_meetPairs_48 : decode cX9_meetPairs 48 = .ok (.ifCond .eq 7, 3) := db_cX9_meetPairs_dX9_meetPairs_24_1.2.2.2.2.2.2.2.2.2.2.2
set_option maxRecDepth 100000 in
theorem db_cX9_meetPairs_dX9_meetPairs_51_2 : (decode cX9_meetPairs 51 = .ok (.iconst 1, 1)) ∧ (decode cX9_meetPairs 52 = .ok (.goto 4, 3)) ∧ (decode cX9_meetPairs 55 = .ok (.iconst 0, 1)) ∧ (decode cX9_meetPairs 56 = .ok (.ireturn, 1)) := by decide +kernel
theorem dX9_meetPairs_51 : decode cX9_meetPairs 51 = .ok (.iconst 1, 1) := db_cX9_meetPairs_dX9_meetPairs_51_2.1
theorem dX9_meetPairs_52 : decode cX9_meetPairs 52 = .ok (.goto 4, 3) := db_cX9_meetPairs_dX9_meetPairs_51_2.2.1
theorem dX9_meetPairs_55 : decode cX9_meetPairs 55 = .ok (.iconst 0, 1) := db_cX9_meetPairs_dX9_meetPairs_51_2.2.2.1
theorem dX9_meetPairs_56 : decode cX9_meetPairs 56 = .ok (.ireturn, 1) := db_cX9_meetPairs_dX9_meetPairs_51_2.2.2.2
set_option maxRecDepth 100000 in
theorem db_cX4_target_dX4_target_0_0 : (decode cX4_target 0 = .ok (.aload_n 0, 1)) ∧ (decode cX4_target 1 = .ok (.getfield 29, 3)) ∧ (decode cX4_target 4 = .ok (.iload_n 1, 1)) ∧ (decode cX4_target 5 = .ok (.iconst 3, 1)) ∧ (decode cX4_target 6 = .ok (.imul, 1)) ∧ (decode cX4_target 7 = .ok (.iload_n 2, 1)) ∧ (decode cX4_target 8 = .ok (.iadd, 1)) ∧ (decode cX4_target 9 = .ok (.invokevirtual 60, 3)) ∧ (decode cX4_target 12 = .ok (.ireturn, 1)) := by decide +kernel
theorem dX4_target_0 : decode cX4_target 0 = .ok (.aload_n 0, 1) := db_cX4_target_dX4_target_0_0.1
theorem dX4_target_1 : decode cX4_target 1 = .ok (.getfield 29, 3) := db_cX4_target_dX4_target_0_0.2.1
theorem dX4_target_4 : decode cX4_target 4 = .ok (.iload_n 1, 1) := db_cX4_target_dX4_target_0_0.2.2.1
theorem dX4_target_5 : decode cX4_target 5 = .ok (.iconst 3, 1) := db_cX4_target_dX4_target_0_0.2.2.2.1
theorem dX4_target_6 : decode cX4_target 6 = .ok (.imul, 1) := db_cX4_target_dX4_target_0_0.2.2.2.2.1
theorem dX4_target_7 : decode cX4_target 7 = .ok (.iload_n 2, 1) := db_cX4_target_dX4_target_0_0.2.2.2.2.2.1
theorem dX4_target_8 : decode cX4_target 8 = .ok (.iadd, 1) := db_cX4_target_dX4_target_0_0.2.2.2.2.2.2.1
theorem dX4_target_9 : decode cX4_target 9 = .ok (.invokevirtual 60, 3) := db_cX4_target_dX4_target_0_0.2.2.2.2.2.2.2.1
theorem dX4_target_12 : decode cX4_target 12 = .ok (.ireturn, 1) := db_cX4_target_dX4_target_0_0.2.2.2.2.2.2.2.2
set_option maxRecDepth 100000 in
theorem db_cX5_becomePairs_dX5_becomePairs_0_0 : (decode cX5_becomePairs 0 = .ok (.aload_n 0, 1)) ∧ (decode cX5_becomePairs 1 = .ok (.aload_n 1, 1)) ∧ (decode cX5_becomePairs 2 = .ok (.getfield 23, 3)) ∧ (decode cX5_becomePairs 5 = .ok (.putfield 28, 3)) ∧ (decode cX5_becomePairs 8 = .ok (.aload_n 0, 1)) ∧ (decode cX5_becomePairs 9 = .ok (.iconst 0, 1)) ∧ (decode cX5_becomePairs 10 = .ok (.putfield 9, 3)) ∧ (decode cX5_becomePairs 13 = .ok (.iconst 0, 1)) ∧ (decode cX5_becomePairs 14 = .ok (.istore_n 3, 1)) ∧ (decode cX5_becomePairs 15 = .ok (.iload_n 3, 1)) ∧ (decode cX5_becomePairs 16 = .ok (.aload_n 0, 1)) ∧ (decode cX5_becomePairs 17 = .ok (.getfield 28, 3)) := by decide +kernel
theorem dX5_becomePairs_0 : decode cX5_becomePairs 0 = .ok (.aload_n 0, 1) := db_cX5_becomePairs_dX5_becomePairs_0_0.1
theorem dX5_becomePairs_1 : decode cX5_becomePairs 1 = .ok (.aload_n 1, 1) := db_cX5_becomePairs_dX5_becomePairs_0_0.2.1
theorem dX5_becomePairs_2 : decode cX5_becomePairs 2 = .ok (.getfield 23, 3) := db_cX5_becomePairs_dX5_becomePairs_0_0.2.2.1
theorem dX5_becomePairs_5 : decode cX5_becomePairs 5 = .ok (.putfield 28, 3) := db_cX5_becomePairs_dX5_becomePairs_0_0.2.2.2.1
theorem dX5_becomePairs_8 : decode cX5_becomePairs 8 = .ok (.aload_n 0, 1) := db_cX5_becomePairs_dX5_becomePairs_0_0.2.2.2.2.1
theorem dX5_becomePairs_9 : decode cX5_becomePairs 9 = .ok (.iconst 0, 1) := db_cX5_becomePairs_dX5_becomePairs_0_0.2.2.2.2.2.1
theorem dX5_becomePairs_10 : decode cX5_becomePairs 10 = .ok (.putfield 9, 3) := db_cX5_becomePairs_dX5_becomePairs_0_0.2.2.2.2.2.2.1
theorem dX5_becomePairs_13 : decode cX5_becomePairs 13 = .ok (.iconst 0, 1) := db_cX5_becomePairs_dX5_becomePairs_0_0.2.2.2.2.2.2.2.1
theorem dX5_becomePairs_14 : decode cX5_becomePairs 14 = .ok (.istore_n 3, 1) := db_cX5_becomePairs_dX5_becomePairs_0_0.2.2.2.2.2.2.2.2.1
theorem dX5_becomePairs_15 : decode cX5_becomePairs 15 = .ok (.iload_n 3, 1) := db_cX5_becomePairs_dX5_becomePairs_0_0.2.2.2.2.2.2.2.2.2.1
theorem dX5_becomePairs_16 : decode cX5_becomePairs 16 = .ok (.aload_n 0, 1) := db_cX5_becomePairs_dX5_becomePairs_0_0.2.2.2.2.2.2.2.2.2.2.1
theorem dX5_becomePairs_17 : decode cX5_becomePairs 17 = .ok (.getfield 28, 3) := db_cX5_becomePairs_dX5_becomePairs_0_0.2.2.2.2.2.2.2.2.2.2.2
set_option maxRecDepth 100000 in
theorem db_cX5_becomePairs_dX5_becomePairs_20_1 : (decode cX5_becomePairs 20 = .ok (.if_icmp .ge 56, 3)) ∧ (decode cX5_becomePairs 23 = .ok (.aload_n 0, 1)) ∧ (decode cX5_becomePairs 24 = .ok (.aload_n 0, 1)) ∧ (decode cX5_becomePairs 25 = .ok (.getfield 9, 3)) ∧ (decode cX5_becomePairs 28 = .ok (.iload_n 3, 1)) ∧ (decode cX5_becomePairs 29 = .ok (.aload_n 1, 1)) ∧ (decode cX5_becomePairs 30 = .ok (.iload_n 3, 1)) ∧ (decode cX5_becomePairs 31 = .ok (.iload_n 2, 1)) ∧ (decode cX5_becomePairs 32 = .ok (.invokevirtual 31, 3)) ∧ (decode cX5_becomePairs 35 = .ok (.invokestatic 34, 3)) ∧ (decode cX5_becomePairs 38 = .ok (.putfield 9, 3)) ∧ (decode cX5_becomePairs 41 = .ok (.iconst 0, 1)) := by decide +kernel
theorem dX5_becomePairs_20 : decode cX5_becomePairs 20 = .ok (.if_icmp .ge 56, 3) := db_cX5_becomePairs_dX5_becomePairs_20_1.1
theorem dX5_becomePairs_23 : decode cX5_becomePairs 23 = .ok (.aload_n 0, 1) := db_cX5_becomePairs_dX5_becomePairs_20_1.2.1
theorem dX5_becomePairs_24 : decode cX5_becomePairs 24 = .ok (.aload_n 0, 1) := db_cX5_becomePairs_dX5_becomePairs_20_1.2.2.1
theorem dX5_becomePairs_25 : decode cX5_becomePairs 25 = .ok (.getfield 9, 3) := db_cX5_becomePairs_dX5_becomePairs_20_1.2.2.2.1
theorem dX5_becomePairs_28 : decode cX5_becomePairs 28 = .ok (.iload_n 3, 1) := db_cX5_becomePairs_dX5_becomePairs_20_1.2.2.2.2.1
theorem dX5_becomePairs_29 : decode cX5_becomePairs 29 = .ok (.aload_n 1, 1) := db_cX5_becomePairs_dX5_becomePairs_20_1.2.2.2.2.2.1
theorem dX5_becomePairs_30 : decode cX5_becomePairs 30 = .ok (.iload_n 3, 1) := db_cX5_becomePairs_dX5_becomePairs_20_1.2.2.2.2.2.2.1
theorem dX5_becomePairs_31 : decode cX5_becomePairs 31 = .ok (.iload_n 2, 1) := db_cX5_becomePairs_dX5_becomePairs_20_1.2.2.2.2.2.2.2.1
theorem dX5_becomePairs_32 : decode cX5_becomePairs 32 = .ok (.invokevirtual 31, 3) := db_cX5_becomePairs_dX5_becomePairs_20_1.2.2.2.2.2.2.2.2.1
theorem dX5_becomePairs_35 : decode cX5_becomePairs 35 = .ok (.invokestatic 34, 3) := db_cX5_becomePairs_dX5_becomePairs_20_1.2.2.2.2.2.2.2.2.2.1
theorem dX5_becomePairs_38 : decode cX5_becomePairs 38 = .ok (.putfield 9, 3) := db_cX5_becomePairs_dX5_becomePairs_20_1.2.2.2.2.2.2.2.2.2.2.1
theorem dX5_becomePairs_41 : decode cX5_becomePairs 41 = .ok (.iconst 0, 1) := db_cX5_becomePairs_dX5_becomePairs_20_1.2.2.2.2.2.2.2.2.2.2.2
set_option maxRecDepth 100000 in
theorem db_cX5_becomePairs_dX5_becomePairs_42_2 : (decode cX5_becomePairs 42 = .ok (.istore 4, 2)) ∧ (decode cX5_becomePairs 44 = .ok (.iload 4, 2)) ∧ (decode cX5_becomePairs 46 = .ok (.iconst 3, 1)) ∧ (decode cX5_becomePairs 47 = .ok (.if_icmp .ge 23, 3)) ∧ (decode cX5_becomePairs 50 = .ok (.aload_n 0, 1)) ∧ (decode cX5_becomePairs 51 = .ok (.iload_n 3, 1)) ∧ (decode cX5_becomePairs 52 = .ok (.iload 4, 2)) ∧ (decode cX5_becomePairs 54 = .ok (.aload_n 1, 1)) ∧ (decode cX5_becomePairs 55 = .ok (.iload_n 3, 1)) ∧ (decode cX5_becomePairs 56 = .ok (.iload 4, 2)) ∧ (decode cX5_becomePairs 58 = .ok (.invokevirtual 38, 3)) ∧ (decode cX5_becomePairs 61 = .ok (.invokevirtual 42, 3)) := by decide +kernel
theorem dX5_becomePairs_42 : decode cX5_becomePairs 42 = .ok (.istore 4, 2) := db_cX5_becomePairs_dX5_becomePairs_42_2.1
theorem dX5_becomePairs_44 : decode cX5_becomePairs 44 = .ok (.iload 4, 2) := db_cX5_becomePairs_dX5_becomePairs_42_2.2.1
theorem dX5_becomePairs_46 : decode cX5_becomePairs 46 = .ok (.iconst 3, 1) := db_cX5_becomePairs_dX5_becomePairs_42_2.2.2.1
theorem dX5_becomePairs_47 : decode cX5_becomePairs 47 = .ok (.if_icmp .ge 23, 3) := db_cX5_becomePairs_dX5_becomePairs_42_2.2.2.2.1
theorem dX5_becomePairs_50 : decode cX5_becomePairs 50 = .ok (.aload_n 0, 1) := db_cX5_becomePairs_dX5_becomePairs_42_2.2.2.2.2.1
theorem dX5_becomePairs_51 : decode cX5_becomePairs 51 = .ok (.iload_n 3, 1) := db_cX5_becomePairs_dX5_becomePairs_42_2.2.2.2.2.2.1
theorem dX5_becomePairs_52 : decode cX5_becomePairs 52 = .ok (.iload 4, 2) := db_cX5_becomePairs_dX5_becomePairs_42_2.2.2.2.2.2.2.1
theorem dX5_becomePairs_54 : decode cX5_becomePairs 54 = .ok (.aload_n 1, 1) := db_cX5_becomePairs_dX5_becomePairs_42_2.2.2.2.2.2.2.2.1
theorem dX5_becomePairs_55 : decode cX5_becomePairs 55 = .ok (.iload_n 3, 1) := db_cX5_becomePairs_dX5_becomePairs_42_2.2.2.2.2.2.2.2.2.1
theorem dX5_becomePairs_56 : decode cX5_becomePairs 56 = .ok (.iload 4, 2) := db_cX5_becomePairs_dX5_becomePairs_42_2.2.2.2.2.2.2.2.2.2.1
theorem dX5_becomePairs_58 : decode cX5_becomePairs 58 = .ok (.invokevirtual 38, 3) := db_cX5_becomePairs_dX5_becomePairs_42_2.2.2.2.2.2.2.2.2.2.2.1
theorem dX5_becomePairs_61 : decode cX5_becomePairs 61 = .ok (.invokevirtual 42, 3) := db_cX5_becomePairs_dX5_becomePairs_42_2.2.2.2.2.2.2.2.2.2.2.2
set_option maxRecDepth 100000 in
theorem db_cX5_becomePairs_dX5_becomePairs_64_3 : (decode cX5_becomePairs 64 = .ok (.iinc 4 1, 3)) ∧ (decode cX5_becomePairs 67 = .ok (.goto (-23), 3)) ∧ (decode cX5_becomePairs 70 = .ok (.iinc 3 1, 3)) ∧ (decode cX5_becomePairs 73 = .ok (.goto (-58), 3)) ∧ (decode cX5_becomePairs 76 = .ok (.return_, 1)) := by decide +kernel
theorem dX5_becomePairs_64 : decode cX5_becomePairs 64 = .ok (.iinc 4 1, 3) := db_cX5_becomePairs_dX5_becomePairs_64_3.1
theorem dX5_becomePairs_67 : decode cX5_becomePairs 67 = .ok (.goto (-23), 3) := db_cX5_becomePairs_dX5_becomePairs_64_3.2.1
theorem dX5_becomePairs_70 : decode cX5_becomePairs 70 = .ok (.iinc 3 1, 3) := db_cX5_becomePairs_dX5_becomePairs_64_3.2.2.1
theorem dX5_becomePairs_73 : decode cX5_becomePairs 73 = .ok (.goto (-58), 3) := db_cX5_becomePairs_dX5_becomePairs_64_3.2.2.2.1
theorem dX5_becomePairs_76 : decode cX5_becomePairs 76 = .ok (.return_, 1) := db_cX5_becomePairs_dX5_becomePairs_64_3.2.2.2.2
set_option maxRecDepth 100000 in
theorem db_cX5_isGoal_dX5_isGoal_0_0 : (decode cX5_isGoal 0 = .ok (.aload_n 0, 1)) ∧ (decode cX5_isGoal 1 = .ok (.getfield 9, 3)) ∧ (decode cX5_isGoal 4 = .ok (.iload_n 1, 1)) ∧ (decode cX5_isGoal 5 = .ok (.invokestatic 15, 3)) ∧ (decode cX5_isGoal 8 = .ok (.ireturn, 1)) := by decide +kernel
theorem dX5_isGoal_0 : decode cX5_isGoal 0 = .ok (.aload_n 0, 1) := db_cX5_isGoal_dX5_isGoal_0_0.1
theorem dX5_isGoal_1 : decode cX5_isGoal 1 = .ok (.getfield 9, 3) := db_cX5_isGoal_dX5_isGoal_0_0.2.1
theorem dX5_isGoal_4 : decode cX5_isGoal 4 = .ok (.iload_n 1, 1) := db_cX5_isGoal_dX5_isGoal_0_0.2.2.1
theorem dX5_isGoal_5 : decode cX5_isGoal 5 = .ok (.invokestatic 15, 3) := db_cX5_isGoal_dX5_isGoal_0_0.2.2.2.1
theorem dX5_isGoal_8 : decode cX5_isGoal 8 = .ok (.ireturn, 1) := db_cX5_isGoal_dX5_isGoal_0_0.2.2.2.2
set_option maxRecDepth 100000 in
theorem db_cX1_firstOfGoalness_dX1_firstOfGoalness_0_0 : (decode cX1_firstOfGoalness 0 = .ok (.iconst 0, 1)) ∧ (decode cX1_firstOfGoalness 1 = .ok (.istore_n 2, 1)) ∧ (decode cX1_firstOfGoalness 2 = .ok (.iload_n 2, 1)) ∧ (decode cX1_firstOfGoalness 3 = .ok (.iload_n 1, 1)) ∧ (decode cX1_firstOfGoalness 4 = .ok (.if_icmp .ge 24, 3)) ∧ (decode cX1_firstOfGoalness 7 = .ok (.aload_n 0, 1)) ∧ (decode cX1_firstOfGoalness 8 = .ok (.iload_n 2, 1)) ∧ (decode cX1_firstOfGoalness 9 = .ok (.invokevirtual 48, 3)) ∧ (decode cX1_firstOfGoalness 12 = .ok (.aload_n 0, 1)) ∧ (decode cX1_firstOfGoalness 13 = .ok (.iload_n 1, 1)) ∧ (decode cX1_firstOfGoalness 14 = .ok (.invokevirtual 48, 3)) ∧ (decode cX1_firstOfGoalness 17 = .ok (.if_icmp .ne 5, 3)) := by decide +kernel
theorem dX1_firstOfGoalness_0 : decode cX1_firstOfGoalness 0 = .ok (.iconst 0, 1) := db_cX1_firstOfGoalness_dX1_firstOfGoalness_0_0.1
theorem dX1_firstOfGoalness_1 : decode cX1_firstOfGoalness 1 = .ok (.istore_n 2, 1) := db_cX1_firstOfGoalness_dX1_firstOfGoalness_0_0.2.1
theorem dX1_firstOfGoalness_2 : decode cX1_firstOfGoalness 2 = .ok (.iload_n 2, 1) := db_cX1_firstOfGoalness_dX1_firstOfGoalness_0_0.2.2.1
theorem dX1_firstOfGoalness_3 : decode cX1_firstOfGoalness 3 = .ok (.iload_n 1, 1) := db_cX1_firstOfGoalness_dX1_firstOfGoalness_0_0.2.2.2.1
theorem dX1_firstOfGoalness_4 : decode cX1_firstOfGoalness 4 = .ok (.if_icmp .ge 24, 3) := db_cX1_firstOfGoalness_dX1_firstOfGoalness_0_0.2.2.2.2.1
theorem dX1_firstOfGoalness_7 : decode cX1_firstOfGoalness 7 = .ok (.aload_n 0, 1) := db_cX1_firstOfGoalness_dX1_firstOfGoalness_0_0.2.2.2.2.2.1
theorem dX1_firstOfGoalness_8 : decode cX1_firstOfGoalness 8 = .ok (.iload_n 2, 1) := db_cX1_firstOfGoalness_dX1_firstOfGoalness_0_0.2.2.2.2.2.2.1
theorem dX1_firstOfGoalness_9 : decode cX1_firstOfGoalness 9 = .ok (.invokevirtual 48, 3) := db_cX1_firstOfGoalness_dX1_firstOfGoalness_0_0.2.2.2.2.2.2.2.1
theorem dX1_firstOfGoalness_12 : decode cX1_firstOfGoalness 12 = .ok (.aload_n 0, 1) := db_cX1_firstOfGoalness_dX1_firstOfGoalness_0_0.2.2.2.2.2.2.2.2.1
theorem dX1_firstOfGoalness_13 : decode cX1_firstOfGoalness 13 = .ok (.iload_n 1, 1) := db_cX1_firstOfGoalness_dX1_firstOfGoalness_0_0.2.2.2.2.2.2.2.2.2.1
theorem dX1_firstOfGoalness_14 : decode cX1_firstOfGoalness 14 = .ok (.invokevirtual 48, 3) := db_cX1_firstOfGoalness_dX1_firstOfGoalness_0_0.2.2.2.2.2.2.2.2.2.2.1
theorem dX1_firstOfGoalness_17 : decode cX1_firstOfGoalness 17 = .ok (.if_icmp .ne 5, 3) := db_cX1_firstOfGoalness_dX1_firstOfGoalness_0_0.2.2.2.2.2.2.2.2.2.2.2
set_option maxRecDepth 100000 in
theorem db_cX1_firstOfGoalness_dX1_firstOfGoalness_20_1 : (decode cX1_firstOfGoalness 20 = .ok (.iload_n 2, 1)) ∧ (decode cX1_firstOfGoalness 21 = .ok (.ireturn, 1)) ∧ (decode cX1_firstOfGoalness 22 = .ok (.iinc 2 1, 3)) ∧ (decode cX1_firstOfGoalness 25 = .ok (.goto (-23), 3)) ∧ (decode cX1_firstOfGoalness 28 = .ok (.iload_n 1, 1)) ∧ (decode cX1_firstOfGoalness 29 = .ok (.ireturn, 1)) := by decide +kernel
theorem dX1_firstOfGoalness_20 : decode cX1_firstOfGoalness 20 = .ok (.iload_n 2, 1) := db_cX1_firstOfGoalness_dX1_firstOfGoalness_20_1.1
theorem dX1_firstOfGoalness_21 : decode cX1_firstOfGoalness 21 = .ok (.ireturn, 1) := db_cX1_firstOfGoalness_dX1_firstOfGoalness_20_1.2.1
theorem dX1_firstOfGoalness_22 : decode cX1_firstOfGoalness 22 = .ok (.iinc 2 1, 3) := db_cX1_firstOfGoalness_dX1_firstOfGoalness_20_1.2.2.1
theorem dX1_firstOfGoalness_25 : decode cX1_firstOfGoalness 25 = .ok (.goto (-23), 3) := db_cX1_firstOfGoalness_dX1_firstOfGoalness_20_1.2.2.2.1
theorem dX1_firstOfGoalness_28 : decode cX1_firstOfGoalness 28 = .ok (.iload_n 1, 1) := db_cX1_firstOfGoalness_dX1_firstOfGoalness_20_1.2.2.2.2.1
theorem dX1_firstOfGoalness_29 : decode cX1_firstOfGoalness 29 = .ok (.ireturn, 1) := db_cX1_firstOfGoalness_dX1_firstOfGoalness_20_1.2.2.2.2.2
set_option maxRecDepth 100000 in
theorem db_cX1_codeOf_dX1_codeOf_0_0 : (decode cX1_codeOf 0 = .ok (.aload_n 0, 1)) ∧ (decode cX1_codeOf 1 = .ok (.getfield 14, 3)) ∧ (decode cX1_codeOf 4 = .ok (.iload_n 2, 1)) ∧ (decode cX1_codeOf 5 = .ok (.invokevirtual 26, 3)) ∧ (decode cX1_codeOf 8 = .ok (.istore_n 3, 1)) ∧ (decode cX1_codeOf 9 = .ok (.iconst 0, 1)) ∧ (decode cX1_codeOf 10 = .ok (.istore 4, 2)) ∧ (decode cX1_codeOf 12 = .ok (.iload 4, 2)) ∧ (decode cX1_codeOf 14 = .ok (.iconst 3, 1)) ∧ (decode cX1_codeOf 15 = .ok (.if_icmp .ge 29, 3)) ∧ (decode cX1_codeOf 18 = .ok (.iload_n 3, 1)) ∧ (decode cX1_codeOf 19 = .ok (.bipush 32, 2)) := by decide +kernel
theorem dX1_codeOf_0 : decode cX1_codeOf 0 = .ok (.aload_n 0, 1) := db_cX1_codeOf_dX1_codeOf_0_0.1
theorem dX1_codeOf_1 : decode cX1_codeOf 1 = .ok (.getfield 14, 3) := db_cX1_codeOf_dX1_codeOf_0_0.2.1
theorem dX1_codeOf_4 : decode cX1_codeOf 4 = .ok (.iload_n 2, 1) := db_cX1_codeOf_dX1_codeOf_0_0.2.2.1
theorem dX1_codeOf_5 : decode cX1_codeOf 5 = .ok (.invokevirtual 26, 3) := db_cX1_codeOf_dX1_codeOf_0_0.2.2.2.1
theorem dX1_codeOf_8 : decode cX1_codeOf 8 = .ok (.istore_n 3, 1) := db_cX1_codeOf_dX1_codeOf_0_0.2.2.2.2.1
theorem dX1_codeOf_9 : decode cX1_codeOf 9 = .ok (.iconst 0, 1) := db_cX1_codeOf_dX1_codeOf_0_0.2.2.2.2.2.1
theorem dX1_codeOf_10 : decode cX1_codeOf 10 = .ok (.istore 4, 2) := db_cX1_codeOf_dX1_codeOf_0_0.2.2.2.2.2.2.1
theorem dX1_codeOf_12 : decode cX1_codeOf 12 = .ok (.iload 4, 2) := db_cX1_codeOf_dX1_codeOf_0_0.2.2.2.2.2.2.2.1
theorem dX1_codeOf_14 : decode cX1_codeOf 14 = .ok (.iconst 3, 1) := db_cX1_codeOf_dX1_codeOf_0_0.2.2.2.2.2.2.2.2.1
theorem dX1_codeOf_15 : decode cX1_codeOf 15 = .ok (.if_icmp .ge 29, 3) := db_cX1_codeOf_dX1_codeOf_0_0.2.2.2.2.2.2.2.2.2.1
theorem dX1_codeOf_18 : decode cX1_codeOf 18 = .ok (.iload_n 3, 1) := db_cX1_codeOf_dX1_codeOf_0_0.2.2.2.2.2.2.2.2.2.2.1
theorem dX1_codeOf_19 : decode cX1_codeOf 19 = .ok (.bipush 32, 2) := db_cX1_codeOf_dX1_codeOf_0_0.2.2.2.2.2.2.2.2.2.2.2
set_option maxRecDepth 100000 in
theorem db_cX1_codeOf_dX1_codeOf_21_1 : (decode cX1_codeOf 21 = .ok (.imul, 1)) ∧ (decode cX1_codeOf 22 = .ok (.aload_n 0, 1)) ∧ (decode cX1_codeOf 23 = .ok (.getfield 14, 3)) ∧ (decode cX1_codeOf 26 = .ok (.aload_n 1, 1)) ∧ (decode cX1_codeOf 27 = .ok (.iload_n 2, 1)) ∧ (decode cX1_codeOf 28 = .ok (.iload 4, 2)) ∧ (decode cX1_codeOf 30 = .ok (.invokevirtual 59, 3)) ∧ (decode cX1_codeOf 33 = .ok (.invokevirtual 26, 3)) ∧ (decode cX1_codeOf 36 = .ok (.iadd, 1)) ∧ (decode cX1_codeOf 37 = .ok (.istore_n 3, 1)) ∧ (decode cX1_codeOf 38 = .ok (.iinc 4 1, 3)) ∧ (decode cX1_codeOf 41 = .ok (.goto (-29), 3)) := by decide +kernel
theorem dX1_codeOf_21 : decode cX1_codeOf 21 = .ok (.imul, 1) := db_cX1_codeOf_dX1_codeOf_21_1.1
theorem dX1_codeOf_22 : decode cX1_codeOf 22 = .ok (.aload_n 0, 1) := db_cX1_codeOf_dX1_codeOf_21_1.2.1
theorem dX1_codeOf_23 : decode cX1_codeOf 23 = .ok (.getfield 14, 3) := db_cX1_codeOf_dX1_codeOf_21_1.2.2.1
theorem dX1_codeOf_26 : decode cX1_codeOf 26 = .ok (.aload_n 1, 1) := db_cX1_codeOf_dX1_codeOf_21_1.2.2.2.1
theorem dX1_codeOf_27 : decode cX1_codeOf 27 = .ok (.iload_n 2, 1) := db_cX1_codeOf_dX1_codeOf_21_1.2.2.2.2.1
theorem dX1_codeOf_28 : decode cX1_codeOf 28 = .ok (.iload 4, 2) := db_cX1_codeOf_dX1_codeOf_21_1.2.2.2.2.2.1
theorem dX1_codeOf_30 : decode cX1_codeOf 30 = .ok (.invokevirtual 59, 3) := db_cX1_codeOf_dX1_codeOf_21_1.2.2.2.2.2.2.1
theorem dX1_codeOf_33 : decode cX1_codeOf 33 = .ok (.invokevirtual 26, 3) := db_cX1_codeOf_dX1_codeOf_21_1.2.2.2.2.2.2.2.1
theorem dX1_codeOf_36 : decode cX1_codeOf 36 = .ok (.iadd, 1) := db_cX1_codeOf_dX1_codeOf_21_1.2.2.2.2.2.2.2.2.1
theorem dX1_codeOf_37 : decode cX1_codeOf 37 = .ok (.istore_n 3, 1) := db_cX1_codeOf_dX1_codeOf_21_1.2.2.2.2.2.2.2.2.2.1
theorem dX1_codeOf_38 : decode cX1_codeOf 38 = .ok (.iinc 4 1, 3) := db_cX1_codeOf_dX1_codeOf_21_1.2.2.2.2.2.2.2.2.2.2.1
theorem dX1_codeOf_41 : decode cX1_codeOf 41 = .ok (.goto (-29), 3) := db_cX1_codeOf_dX1_codeOf_21_1.2.2.2.2.2.2.2.2.2.2.2
theorem dX1_codeOf_44 : decode cX1_codeOf 44 = .ok (.iload_n 3, 1) := by decide +kernel
theorem dX1_codeOf_45 : decode cX1_codeOf 45 = .ok (.ireturn, 1) := by decide +kernel
set_option maxRecDepth 100000 in
theorem db_cX1_partOnce_dX1_partOnce_0_0 : (decode cX1_partOnce 0 = .ok (.iconst 0, 1)) ∧ (decode cX1_partOnce 1 = .ok (.istore_n 2, 1)) ∧ (decode cX1_partOnce 2 = .ok (.iload_n 2, 1)) ∧ (decode cX1_partOnce 3 = .ok (.aload_n 1, 1)) ∧ (decode cX1_partOnce 4 = .ok (.getfield 30, 3)) ∧ (decode cX1_partOnce 7 = .ok (.if_icmp .ge 23, 3)) ∧ (decode cX1_partOnce 10 = .ok (.aload_n 0, 1)) ∧ (decode cX1_partOnce 11 = .ok (.getfield 20, 3)) ∧ (decode cX1_partOnce 14 = .ok (.iload_n 2, 1)) ∧ (decode cX1_partOnce 15 = .ok (.aload_n 0, 1)) ∧ (decode cX1_partOnce 16 = .ok (.aload_n 1, 1)) ∧ (decode cX1_partOnce 17 = .ok (.iload_n 2, 1)) := by decide +kernel
theorem dX1_partOnce_0 : decode cX1_partOnce 0 = .ok (.iconst 0, 1) := db_cX1_partOnce_dX1_partOnce_0_0.1
theorem dX1_partOnce_1 : decode cX1_partOnce 1 = .ok (.istore_n 2, 1) := db_cX1_partOnce_dX1_partOnce_0_0.2.1
theorem dX1_partOnce_2 : decode cX1_partOnce 2 = .ok (.iload_n 2, 1) := db_cX1_partOnce_dX1_partOnce_0_0.2.2.1
theorem dX1_partOnce_3 : decode cX1_partOnce 3 = .ok (.aload_n 1, 1) := db_cX1_partOnce_dX1_partOnce_0_0.2.2.2.1
theorem dX1_partOnce_4 : decode cX1_partOnce 4 = .ok (.getfield 30, 3) := db_cX1_partOnce_dX1_partOnce_0_0.2.2.2.2.1
theorem dX1_partOnce_7 : decode cX1_partOnce 7 = .ok (.if_icmp .ge 23, 3) := db_cX1_partOnce_dX1_partOnce_0_0.2.2.2.2.2.1
theorem dX1_partOnce_10 : decode cX1_partOnce 10 = .ok (.aload_n 0, 1) := db_cX1_partOnce_dX1_partOnce_0_0.2.2.2.2.2.2.1
theorem dX1_partOnce_11 : decode cX1_partOnce 11 = .ok (.getfield 20, 3) := db_cX1_partOnce_dX1_partOnce_0_0.2.2.2.2.2.2.2.1
theorem dX1_partOnce_14 : decode cX1_partOnce 14 = .ok (.iload_n 2, 1) := db_cX1_partOnce_dX1_partOnce_0_0.2.2.2.2.2.2.2.2.1
theorem dX1_partOnce_15 : decode cX1_partOnce 15 = .ok (.aload_n 0, 1) := db_cX1_partOnce_dX1_partOnce_0_0.2.2.2.2.2.2.2.2.2.1
theorem dX1_partOnce_16 : decode cX1_partOnce 16 = .ok (.aload_n 1, 1) := db_cX1_partOnce_dX1_partOnce_0_0.2.2.2.2.2.2.2.2.2.2.1
theorem dX1_partOnce_17 : decode cX1_partOnce 17 = .ok (.iload_n 2, 1) := db_cX1_partOnce_dX1_partOnce_0_0.2.2.2.2.2.2.2.2.2.2.2
set_option maxRecDepth 100000 in
theorem db_cX1_partOnce_dX1_partOnce_18_1 : (decode cX1_partOnce 18 = .ok (.invokevirtual 52, 3)) ∧ (decode cX1_partOnce 21 = .ok (.invokevirtual 40, 3)) ∧ (decode cX1_partOnce 24 = .ok (.iinc 2 1, 3)) ∧ (decode cX1_partOnce 27 = .ok (.goto (-25), 3)) ∧ (decode cX1_partOnce 30 = .ok (.iconst 0, 1)) ∧ (decode cX1_partOnce 31 = .ok (.istore_n 2, 1)) ∧ (decode cX1_partOnce 32 = .ok (.iconst 0, 1)) ∧ (decode cX1_partOnce 33 = .ok (.istore_n 3, 1)) ∧ (decode cX1_partOnce 34 = .ok (.iload_n 3, 1)) ∧ (decode cX1_partOnce 35 = .ok (.aload_n 1, 1)) ∧ (decode cX1_partOnce 36 = .ok (.getfield 30, 3)) ∧ (decode cX1_partOnce 39 = .ok (.if_icmp .ge 61, 3)) := by decide +kernel
theorem dX1_partOnce_18 : decode cX1_partOnce 18 = .ok (.invokevirtual 52, 3) := db_cX1_partOnce_dX1_partOnce_18_1.1
theorem dX1_partOnce_21 : decode cX1_partOnce 21 = .ok (.invokevirtual 40, 3) := db_cX1_partOnce_dX1_partOnce_18_1.2.1
theorem dX1_partOnce_24 : decode cX1_partOnce 24 = .ok (.iinc 2 1, 3) := db_cX1_partOnce_dX1_partOnce_18_1.2.2.1
theorem dX1_partOnce_27 : decode cX1_partOnce 27 = .ok (.goto (-25), 3) := db_cX1_partOnce_dX1_partOnce_18_1.2.2.2.1
theorem dX1_partOnce_30 : decode cX1_partOnce 30 = .ok (.iconst 0, 1) := db_cX1_partOnce_dX1_partOnce_18_1.2.2.2.2.1
theorem dX1_partOnce_31 : decode cX1_partOnce 31 = .ok (.istore_n 2, 1) := db_cX1_partOnce_dX1_partOnce_18_1.2.2.2.2.2.1
theorem dX1_partOnce_32 : decode cX1_partOnce 32 = .ok (.iconst 0, 1) := db_cX1_partOnce_dX1_partOnce_18_1.2.2.2.2.2.2.1
theorem dX1_partOnce_33 : decode cX1_partOnce 33 = .ok (.istore_n 3, 1) := db_cX1_partOnce_dX1_partOnce_18_1.2.2.2.2.2.2.2.1
theorem dX1_partOnce_34 : decode cX1_partOnce 34 = .ok (.iload_n 3, 1) := db_cX1_partOnce_dX1_partOnce_18_1.2.2.2.2.2.2.2.2.1
theorem dX1_partOnce_35 : decode cX1_partOnce 35 = .ok (.aload_n 1, 1) := db_cX1_partOnce_dX1_partOnce_18_1.2.2.2.2.2.2.2.2.2.1
theorem dX1_partOnce_36 : decode cX1_partOnce 36 = .ok (.getfield 30, 3) := db_cX1_partOnce_dX1_partOnce_18_1.2.2.2.2.2.2.2.2.2.2.1
theorem dX1_partOnce_39 : decode cX1_partOnce 39 = .ok (.if_icmp .ge 61, 3) := db_cX1_partOnce_dX1_partOnce_18_1.2.2.2.2.2.2.2.2.2.2.2
set_option maxRecDepth 100000 in
theorem db_cX1_partOnce_dX1_partOnce_42_2 : (decode cX1_partOnce 42 = .ok (.aload_n 0, 1)) ∧ (decode cX1_partOnce 43 = .ok (.getfield 20, 3)) ∧ (decode cX1_partOnce 46 = .ok (.aload_n 0, 1)) ∧ (decode cX1_partOnce 47 = .ok (.getfield 20, 3)) ∧ (decode cX1_partOnce 50 = .ok (.iload_n 3, 1)) ∧ (decode cX1_partOnce 51 = .ok (.invokevirtual 26, 3)) ∧ (decode cX1_partOnce 54 = .ok (.aload_n 1, 1)) ∧ (decode cX1_partOnce 55 = .ok (.getfield 30, 3)) ∧ (decode cX1_partOnce 58 = .ok (.invokevirtual 55, 3)) ∧ (decode cX1_partOnce 61 = .ok (.istore 4, 2)) ∧ (decode cX1_partOnce 63 = .ok (.iload_n 2, 1)) ∧ (decode cX1_partOnce 64 = .ok (.iload 4, 2)) := by decide +kernel
theorem dX1_partOnce_42 : decode cX1_partOnce 42 = .ok (.aload_n 0, 1) := db_cX1_partOnce_dX1_partOnce_42_2.1
theorem dX1_partOnce_43 : decode cX1_partOnce 43 = .ok (.getfield 20, 3) := db_cX1_partOnce_dX1_partOnce_42_2.2.1
theorem dX1_partOnce_46 : decode cX1_partOnce 46 = .ok (.aload_n 0, 1) := db_cX1_partOnce_dX1_partOnce_42_2.2.2.1
theorem dX1_partOnce_47 : decode cX1_partOnce 47 = .ok (.getfield 20, 3) := db_cX1_partOnce_dX1_partOnce_42_2.2.2.2.1
theorem dX1_partOnce_50 : decode cX1_partOnce 50 = .ok (.iload_n 3, 1) := db_cX1_partOnce_dX1_partOnce_42_2.2.2.2.2.1
theorem dX1_partOnce_51 : decode cX1_partOnce 51 = .ok (.invokevirtual 26, 3) := db_cX1_partOnce_dX1_partOnce_42_2.2.2.2.2.2.1
theorem dX1_partOnce_54 : decode cX1_partOnce 54 = .ok (.aload_n 1, 1) := db_cX1_partOnce_dX1_partOnce_42_2.2.2.2.2.2.2.1
theorem dX1_partOnce_55 : decode cX1_partOnce 55 = .ok (.getfield 30, 3) := db_cX1_partOnce_dX1_partOnce_42_2.2.2.2.2.2.2.2.1
theorem dX1_partOnce_58 : decode cX1_partOnce 58 = .ok (.invokevirtual 55, 3) := db_cX1_partOnce_dX1_partOnce_42_2.2.2.2.2.2.2.2.2.1
theorem dX1_partOnce_61 : decode cX1_partOnce 61 = .ok (.istore 4, 2) := db_cX1_partOnce_dX1_partOnce_42_2.2.2.2.2.2.2.2.2.2.1
theorem dX1_partOnce_63 : decode cX1_partOnce 63 = .ok (.iload_n 2, 1) := db_cX1_partOnce_dX1_partOnce_42_2.2.2.2.2.2.2.2.2.2.2.1
theorem dX1_partOnce_64 : decode cX1_partOnce 64 = .ok (.iload 4, 2) := db_cX1_partOnce_dX1_partOnce_42_2.2.2.2.2.2.2.2.2.2.2.2
set_option maxRecDepth 100000 in
theorem db_cX1_partOnce_dX1_partOnce_66_3 : (decode cX1_partOnce 66 = .ok (.aload_n 0, 1)) ∧ (decode cX1_partOnce 67 = .ok (.getfield 14, 3)) ∧ (decode cX1_partOnce 70 = .ok (.iload_n 3, 1)) ∧ (decode cX1_partOnce 71 = .ok (.invokevirtual 26, 3)) ∧ (decode cX1_partOnce 74 = .ok (.if_icmp .eq 7, 3)) ∧ (decode cX1_partOnce 77 = .ok (.iconst 1, 1)) ∧ (decode cX1_partOnce 78 = .ok (.goto 4, 3)) ∧ (decode cX1_partOnce 81 = .ok (.iconst 0, 1)) ∧ (decode cX1_partOnce 82 = .ok (.ior, 1)) ∧ (decode cX1_partOnce 83 = .ok (.istore_n 2, 1)) ∧ (decode cX1_partOnce 84 = .ok (.aload_n 0, 1)) ∧ (decode cX1_partOnce 85 = .ok (.getfield 14, 3)) := by decide +kernel
theorem dX1_partOnce_66 : decode cX1_partOnce 66 = .ok (.aload_n 0, 1) := db_cX1_partOnce_dX1_partOnce_66_3.1
theorem dX1_partOnce_67 : decode cX1_partOnce 67 = .ok (.getfield 14, 3) := db_cX1_partOnce_dX1_partOnce_66_3.2.1
theorem dX1_partOnce_70 : decode cX1_partOnce 70 = .ok (.iload_n 3, 1) := db_cX1_partOnce_dX1_partOnce_66_3.2.2.1
theorem dX1_partOnce_71 : decode cX1_partOnce 71 = .ok (.invokevirtual 26, 3) := db_cX1_partOnce_dX1_partOnce_66_3.2.2.2.1
theorem dX1_partOnce_74 : decode cX1_partOnce 74 = .ok (.if_icmp .eq 7, 3) := db_cX1_partOnce_dX1_partOnce_66_3.2.2.2.2.1
theorem dX1_partOnce_77 : decode cX1_partOnce 77 = .ok (.iconst 1, 1) := db_cX1_partOnce_dX1_partOnce_66_3.2.2.2.2.2.1
theorem dX1_partOnce_78 : decode cX1_partOnce 78 = .ok (.goto 4, 3) := db_cX1_partOnce_dX1_partOnce_66_3.2.2.2.2.2.2.1
theorem dX1_partOnce_81 : decode cX1_partOnce 81 = .ok (.iconst 0, 1) := db_cX1_partOnce_dX1_partOnce_66_3.2.2.2.2.2.2.2.1
theorem dX1_partOnce_82 : decode cX1_partOnce 82 = .ok (.ior, 1) := db_cX1_partOnce_dX1_partOnce_66_3.2.2.2.2.2.2.2.2.1
theorem dX1_partOnce_83 : decode cX1_partOnce 83 = .ok (.istore_n 2, 1) := db_cX1_partOnce_dX1_partOnce_66_3.2.2.2.2.2.2.2.2.2.1
theorem dX1_partOnce_84 : decode cX1_partOnce 84 = .ok (.aload_n 0, 1) := db_cX1_partOnce_dX1_partOnce_66_3.2.2.2.2.2.2.2.2.2.2.1
theorem dX1_partOnce_85 : decode cX1_partOnce 85 = .ok (.getfield 14, 3) := db_cX1_partOnce_dX1_partOnce_66_3.2.2.2.2.2.2.2.2.2.2.2
set_option maxRecDepth 100000 in
theorem db_cX1_partOnce_dX1_partOnce_88_4 : (decode cX1_partOnce 88 = .ok (.iload_n 3, 1)) ∧ (decode cX1_partOnce 89 = .ok (.iload 4, 2)) ∧ (decode cX1_partOnce 91 = .ok (.invokevirtual 40, 3)) ∧ (decode cX1_partOnce 94 = .ok (.iinc 3 1, 3)) ∧ (decode cX1_partOnce 97 = .ok (.goto (-63), 3)) ∧ (decode cX1_partOnce 100 = .ok (.iload_n 2, 1)) ∧ (decode cX1_partOnce 101 = .ok (.ireturn, 1)) := by decide +kernel
theorem dX1_partOnce_88 : decode cX1_partOnce 88 = .ok (.iload_n 3, 1) := db_cX1_partOnce_dX1_partOnce_88_4.1
theorem dX1_partOnce_89 : decode cX1_partOnce 89 = .ok (.iload 4, 2) := db_cX1_partOnce_dX1_partOnce_88_4.2.1
theorem dX1_partOnce_91 : decode cX1_partOnce 91 = .ok (.invokevirtual 40, 3) := db_cX1_partOnce_dX1_partOnce_88_4.2.2.1
theorem dX1_partOnce_94 : decode cX1_partOnce 94 = .ok (.iinc 3 1, 3) := db_cX1_partOnce_dX1_partOnce_88_4.2.2.2.1
theorem dX1_partOnce_97 : decode cX1_partOnce 97 = .ok (.goto (-63), 3) := db_cX1_partOnce_dX1_partOnce_88_4.2.2.2.2.1
theorem dX1_partOnce_100 : decode cX1_partOnce 100 = .ok (.iload_n 2, 1) := db_cX1_partOnce_dX1_partOnce_88_4.2.2.2.2.2.1
theorem dX1_partOnce_101 : decode cX1_partOnce 101 = .ok (.ireturn, 1) := db_cX1_partOnce_dX1_partOnce_88_4.2.2.2.2.2.2
set_option maxRecDepth 100000 in
theorem db_cX1_findByParting_dX1_findByParting_0_0 : (decode cX1_findByParting 0 = .ok (.iconst 0, 1)) ∧ (decode cX1_findByParting 1 = .ok (.istore_n 2, 1)) ∧ (decode cX1_findByParting 2 = .ok (.iload_n 2, 1)) ∧ (decode cX1_findByParting 3 = .ok (.aload_n 1, 1)) ∧ (decode cX1_findByParting 4 = .ok (.getfield 30, 3)) ∧ (decode cX1_findByParting 7 = .ok (.if_icmp .ge 22, 3)) ∧ (decode cX1_findByParting 10 = .ok (.aload_n 0, 1)) ∧ (decode cX1_findByParting 11 = .ok (.getfield 14, 3)) ∧ (decode cX1_findByParting 14 = .ok (.iload_n 2, 1)) ∧ (decode cX1_findByParting 15 = .ok (.aload_n 1, 1)) ∧ (decode cX1_findByParting 16 = .ok (.iload_n 2, 1)) ∧ (decode cX1_findByParting 17 = .ok (.invokestatic 36, 3)) := by decide +kernel
theorem dX1_findByParting_0 : decode cX1_findByParting 0 = .ok (.iconst 0, 1) := db_cX1_findByParting_dX1_findByParting_0_0.1
theorem dX1_findByParting_1 : decode cX1_findByParting 1 = .ok (.istore_n 2, 1) := db_cX1_findByParting_dX1_findByParting_0_0.2.1
theorem dX1_findByParting_2 : decode cX1_findByParting 2 = .ok (.iload_n 2, 1) := db_cX1_findByParting_dX1_findByParting_0_0.2.2.1
theorem dX1_findByParting_3 : decode cX1_findByParting 3 = .ok (.aload_n 1, 1) := db_cX1_findByParting_dX1_findByParting_0_0.2.2.2.1
theorem dX1_findByParting_4 : decode cX1_findByParting 4 = .ok (.getfield 30, 3) := db_cX1_findByParting_dX1_findByParting_0_0.2.2.2.2.1
theorem dX1_findByParting_7 : decode cX1_findByParting 7 = .ok (.if_icmp .ge 22, 3) := db_cX1_findByParting_dX1_findByParting_0_0.2.2.2.2.2.1
theorem dX1_findByParting_10 : decode cX1_findByParting 10 = .ok (.aload_n 0, 1) := db_cX1_findByParting_dX1_findByParting_0_0.2.2.2.2.2.2.1
theorem dX1_findByParting_11 : decode cX1_findByParting 11 = .ok (.getfield 14, 3) := db_cX1_findByParting_dX1_findByParting_0_0.2.2.2.2.2.2.2.1
theorem dX1_findByParting_14 : decode cX1_findByParting 14 = .ok (.iload_n 2, 1) := db_cX1_findByParting_dX1_findByParting_0_0.2.2.2.2.2.2.2.2.1
theorem dX1_findByParting_15 : decode cX1_findByParting 15 = .ok (.aload_n 1, 1) := db_cX1_findByParting_dX1_findByParting_0_0.2.2.2.2.2.2.2.2.2.1
theorem dX1_findByParting_16 : decode cX1_findByParting 16 = .ok (.iload_n 2, 1) := db_cX1_findByParting_dX1_findByParting_0_0.2.2.2.2.2.2.2.2.2.2.1
theorem dX1_findByParting_17 : decode cX1_findByParting 17 = .ok (.invokestatic 36, 3) := db_cX1_findByParting_dX1_findByParting_0_0.2.2.2.2.2.2.2.2.2.2.2
set_option maxRecDepth 100000 in
theorem db_cX1_findByParting_dX1_findByParting_20_1 : (decode cX1_findByParting 20 = .ok (.invokevirtual 40, 3)) ∧ (decode cX1_findByParting 23 = .ok (.iinc 2 1, 3)) ∧ (decode cX1_findByParting 26 = .ok (.goto (-24), 3)) ∧ (decode cX1_findByParting 29 = .ok (.iconst 1, 1)) ∧ (decode cX1_findByParting 30 = .ok (.istore_n 2, 1)) ∧ (decode cX1_findByParting 31 = .ok (.iconst 0, 1)) ∧ (decode cX1_findByParting 32 = .ok (.istore_n 3, 1)) ∧ (decode cX1_findByParting 33 = .ok (.iload_n 3, 1)) ∧ (decode cX1_findByParting 34 = .ok (.bipush 32, 2)) ∧ (decode cX1_findByParting 36 = .ok (.if_icmp .ge 19, 3)) ∧ (decode cX1_findByParting 39 = .ok (.iload_n 2, 1)) ∧ (decode cX1_findByParting 40 = .ok (.ifCond .eq 15, 3)) := by decide +kernel
theorem dX1_findByParting_20 : decode cX1_findByParting 20 = .ok (.invokevirtual 40, 3) := db_cX1_findByParting_dX1_findByParting_20_1.1
theorem dX1_findByParting_23 : decode cX1_findByParting 23 = .ok (.iinc 2 1, 3) := db_cX1_findByParting_dX1_findByParting_20_1.2.1
theorem dX1_findByParting_26 : decode cX1_findByParting 26 = .ok (.goto (-24), 3) := db_cX1_findByParting_dX1_findByParting_20_1.2.2.1
theorem dX1_findByParting_29 : decode cX1_findByParting 29 = .ok (.iconst 1, 1) := db_cX1_findByParting_dX1_findByParting_20_1.2.2.2.1
theorem dX1_findByParting_30 : decode cX1_findByParting 30 = .ok (.istore_n 2, 1) := db_cX1_findByParting_dX1_findByParting_20_1.2.2.2.2.1
theorem dX1_findByParting_31 : decode cX1_findByParting 31 = .ok (.iconst 0, 1) := db_cX1_findByParting_dX1_findByParting_20_1.2.2.2.2.2.1
theorem dX1_findByParting_32 : decode cX1_findByParting 32 = .ok (.istore_n 3, 1) := db_cX1_findByParting_dX1_findByParting_20_1.2.2.2.2.2.2.1
theorem dX1_findByParting_33 : decode cX1_findByParting 33 = .ok (.iload_n 3, 1) := db_cX1_findByParting_dX1_findByParting_20_1.2.2.2.2.2.2.2.1
theorem dX1_findByParting_34 : decode cX1_findByParting 34 = .ok (.bipush 32, 2) := db_cX1_findByParting_dX1_findByParting_20_1.2.2.2.2.2.2.2.2.1
theorem dX1_findByParting_36 : decode cX1_findByParting 36 = .ok (.if_icmp .ge 19, 3) := db_cX1_findByParting_dX1_findByParting_20_1.2.2.2.2.2.2.2.2.2.1
theorem dX1_findByParting_39 : decode cX1_findByParting 39 = .ok (.iload_n 2, 1) := db_cX1_findByParting_dX1_findByParting_20_1.2.2.2.2.2.2.2.2.2.2.1
theorem dX1_findByParting_40 : decode cX1_findByParting 40 = .ok (.ifCond .eq 15, 3) := db_cX1_findByParting_dX1_findByParting_20_1.2.2.2.2.2.2.2.2.2.2.2
set_option maxRecDepth 100000 in
theorem db_cX1_findByParting_dX1_findByParting_43_2 : (decode cX1_findByParting 43 = .ok (.aload_n 0, 1)) ∧ (decode cX1_findByParting 44 = .ok (.aload_n 1, 1)) ∧ (decode cX1_findByParting 45 = .ok (.invokevirtual 44, 3)) ∧ (decode cX1_findByParting 48 = .ok (.istore_n 2, 1)) ∧ (decode cX1_findByParting 49 = .ok (.iinc 3 1, 3)) ∧ (decode cX1_findByParting 52 = .ok (.goto (-19), 3)) ∧ (decode cX1_findByParting 55 = .ok (.return_, 1)) := by decide +kernel
theorem dX1_findByParting_43 : decode cX1_findByParting 43 = .ok (.aload_n 0, 1) := db_cX1_findByParting_dX1_findByParting_43_2.1
theorem dX1_findByParting_44 : decode cX1_findByParting 44 = .ok (.aload_n 1, 1) := db_cX1_findByParting_dX1_findByParting_43_2.2.1
theorem dX1_findByParting_45 : decode cX1_findByParting 45 = .ok (.invokevirtual 44, 3) := db_cX1_findByParting_dX1_findByParting_43_2.2.2.1
theorem dX1_findByParting_48 : decode cX1_findByParting 48 = .ok (.istore_n 2, 1) := db_cX1_findByParting_dX1_findByParting_43_2.2.2.2.1
theorem dX1_findByParting_49 : decode cX1_findByParting 49 = .ok (.iinc 3 1, 3) := db_cX1_findByParting_dX1_findByParting_43_2.2.2.2.2.1
theorem dX1_findByParting_52 : decode cX1_findByParting 52 = .ok (.goto (-19), 3) := db_cX1_findByParting_dX1_findByParting_43_2.2.2.2.2.2.1
theorem dX1_findByParting_55 : decode cX1_findByParting 55 = .ok (.return_, 1) := db_cX1_findByParting_dX1_findByParting_43_2.2.2.2.2.2.2
set_option maxRecDepth 100000 in
theorem db_cX1_partOf_dX1_partOf_0_0 : (decode cX1_partOf 0 = .ok (.aload_n 0, 1)) ∧ (decode cX1_partOf 1 = .ok (.getfield 14, 3)) ∧ (decode cX1_partOf 4 = .ok (.iload_n 1, 1)) ∧ (decode cX1_partOf 5 = .ok (.invokevirtual 26, 3)) ∧ (decode cX1_partOf 8 = .ok (.ireturn, 1)) := by decide +kernel
theorem dX1_partOf_0 : decode cX1_partOf 0 = .ok (.aload_n 0, 1) := db_cX1_partOf_dX1_partOf_0_0.1
theorem dX1_partOf_1 : decode cX1_partOf 1 = .ok (.getfield 14, 3) := db_cX1_partOf_dX1_partOf_0_0.2.1
theorem dX1_partOf_4 : decode cX1_partOf 4 = .ok (.iload_n 1, 1) := db_cX1_partOf_dX1_partOf_0_0.2.2.1
theorem dX1_partOf_5 : decode cX1_partOf 5 = .ok (.invokevirtual 26, 3) := db_cX1_partOf_dX1_partOf_0_0.2.2.2.1
theorem dX1_partOf_8 : decode cX1_partOf 8 = .ok (.ireturn, 1) := db_cX1_partOf_dX1_partOf_0_0.2.2.2.2
set_option maxRecDepth 100000 in
theorem db_cX3_groupNumber_dX3_groupNumber_0_0 : (decode cX3_groupNumber 0 = .ok (.aload_n 0, 1)) ∧ (decode cX3_groupNumber 1 = .ok (.getfield 29, 3)) ∧ (decode cX3_groupNumber 4 = .ok (.iload_n 1, 1)) ∧ (decode cX3_groupNumber 5 = .ok (.invokevirtual 115, 3)) ∧ (decode cX3_groupNumber 8 = .ok (.istore_n 3, 1)) ∧ (decode cX3_groupNumber 9 = .ok (.aload_n 0, 1)) ∧ (decode cX3_groupNumber 10 = .ok (.getfield 23, 3)) ∧ (decode cX3_groupNumber 13 = .ok (.iload_n 3, 1)) ∧ (decode cX3_groupNumber 14 = .ok (.invokevirtual 89, 3)) ∧ (decode cX3_groupNumber 17 = .ok (.iconst (-1), 1)) ∧ (decode cX3_groupNumber 18 = .ok (.if_icmp .ne 37, 3)) ∧ (decode cX3_groupNumber 21 = .ok (.aload_n 0, 1)) := by decide +kernel
theorem dX3_groupNumber_0 : decode cX3_groupNumber 0 = .ok (.aload_n 0, 1) := db_cX3_groupNumber_dX3_groupNumber_0_0.1
theorem dX3_groupNumber_1 : decode cX3_groupNumber 1 = .ok (.getfield 29, 3) := db_cX3_groupNumber_dX3_groupNumber_0_0.2.1
theorem dX3_groupNumber_4 : decode cX3_groupNumber 4 = .ok (.iload_n 1, 1) := db_cX3_groupNumber_dX3_groupNumber_0_0.2.2.1
theorem dX3_groupNumber_5 : decode cX3_groupNumber 5 = .ok (.invokevirtual 115, 3) := db_cX3_groupNumber_dX3_groupNumber_0_0.2.2.2.1
theorem dX3_groupNumber_8 : decode cX3_groupNumber 8 = .ok (.istore_n 3, 1) := db_cX3_groupNumber_dX3_groupNumber_0_0.2.2.2.2.1
theorem dX3_groupNumber_9 : decode cX3_groupNumber 9 = .ok (.aload_n 0, 1) := db_cX3_groupNumber_dX3_groupNumber_0_0.2.2.2.2.2.1
theorem dX3_groupNumber_10 : decode cX3_groupNumber 10 = .ok (.getfield 23, 3) := db_cX3_groupNumber_dX3_groupNumber_0_0.2.2.2.2.2.2.1
theorem dX3_groupNumber_13 : decode cX3_groupNumber 13 = .ok (.iload_n 3, 1) := db_cX3_groupNumber_dX3_groupNumber_0_0.2.2.2.2.2.2.2.1
theorem dX3_groupNumber_14 : decode cX3_groupNumber 14 = .ok (.invokevirtual 89, 3) := db_cX3_groupNumber_dX3_groupNumber_0_0.2.2.2.2.2.2.2.2.1
theorem dX3_groupNumber_17 : decode cX3_groupNumber 17 = .ok (.iconst (-1), 1) := db_cX3_groupNumber_dX3_groupNumber_0_0.2.2.2.2.2.2.2.2.2.1
theorem dX3_groupNumber_18 : decode cX3_groupNumber 18 = .ok (.if_icmp .ne 37, 3) := db_cX3_groupNumber_dX3_groupNumber_0_0.2.2.2.2.2.2.2.2.2.2.1
theorem dX3_groupNumber_21 : decode cX3_groupNumber 21 = .ok (.aload_n 0, 1) := db_cX3_groupNumber_dX3_groupNumber_0_0.2.2.2.2.2.2.2.2.2.2.2
set_option maxRecDepth 100000 in
theorem db_cX3_groupNumber_dX3_groupNumber_22_1 : (decode cX3_groupNumber 22 = .ok (.getfield 23, 3)) ∧ (decode cX3_groupNumber 25 = .ok (.iload_n 3, 1)) ∧ (decode cX3_groupNumber 26 = .ok (.aload_n 2, 1)) ∧ (decode cX3_groupNumber 27 = .ok (.getfield 83, 3)) ∧ (decode cX3_groupNumber 30 = .ok (.invokevirtual 79, 3)) ∧ (decode cX3_groupNumber 33 = .ok (.aload_n 0, 1)) ∧ (decode cX3_groupNumber 34 = .ok (.getfield 20, 3)) ∧ (decode cX3_groupNumber 37 = .ok (.aload_n 2, 1)) ∧ (decode cX3_groupNumber 38 = .ok (.getfield 83, 3)) ∧ (decode cX3_groupNumber 41 = .ok (.iload_n 1, 1)) ∧ (decode cX3_groupNumber 42 = .ok (.invokevirtual 79, 3)) ∧ (decode cX3_groupNumber 45 = .ok (.aload_n 2, 1)) := by decide +kernel
theorem dX3_groupNumber_22 : decode cX3_groupNumber 22 = .ok (.getfield 23, 3) := db_cX3_groupNumber_dX3_groupNumber_22_1.1
theorem dX3_groupNumber_25 : decode cX3_groupNumber 25 = .ok (.iload_n 3, 1) := db_cX3_groupNumber_dX3_groupNumber_22_1.2.1
theorem dX3_groupNumber_26 : decode cX3_groupNumber 26 = .ok (.aload_n 2, 1) := db_cX3_groupNumber_dX3_groupNumber_22_1.2.2.1
theorem dX3_groupNumber_27 : decode cX3_groupNumber 27 = .ok (.getfield 83, 3) := db_cX3_groupNumber_dX3_groupNumber_22_1.2.2.2.1
theorem dX3_groupNumber_30 : decode cX3_groupNumber 30 = .ok (.invokevirtual 79, 3) := db_cX3_groupNumber_dX3_groupNumber_22_1.2.2.2.2.1
theorem dX3_groupNumber_33 : decode cX3_groupNumber 33 = .ok (.aload_n 0, 1) := db_cX3_groupNumber_dX3_groupNumber_22_1.2.2.2.2.2.1
theorem dX3_groupNumber_34 : decode cX3_groupNumber 34 = .ok (.getfield 20, 3) := db_cX3_groupNumber_dX3_groupNumber_22_1.2.2.2.2.2.2.1
theorem dX3_groupNumber_37 : decode cX3_groupNumber 37 = .ok (.aload_n 2, 1) := db_cX3_groupNumber_dX3_groupNumber_22_1.2.2.2.2.2.2.2.1
theorem dX3_groupNumber_38 : decode cX3_groupNumber 38 = .ok (.getfield 83, 3) := db_cX3_groupNumber_dX3_groupNumber_22_1.2.2.2.2.2.2.2.2.1
theorem dX3_groupNumber_41 : decode cX3_groupNumber 41 = .ok (.iload_n 1, 1) := db_cX3_groupNumber_dX3_groupNumber_22_1.2.2.2.2.2.2.2.2.2.1
theorem dX3_groupNumber_42 : decode cX3_groupNumber 42 = .ok (.invokevirtual 79, 3) := db_cX3_groupNumber_dX3_groupNumber_22_1.2.2.2.2.2.2.2.2.2.2.1
theorem dX3_groupNumber_45 : decode cX3_groupNumber 45 = .ok (.aload_n 2, 1) := db_cX3_groupNumber_dX3_groupNumber_22_1.2.2.2.2.2.2.2.2.2.2.2
set_option maxRecDepth 100000 in
theorem db_cX3_groupNumber_dX3_groupNumber_46_2 : (decode cX3_groupNumber 46 = .ok (.dup, 1)) ∧ (decode cX3_groupNumber 47 = .ok (.getfield 83, 3)) ∧ (decode cX3_groupNumber 50 = .ok (.iconst 1, 1)) ∧ (decode cX3_groupNumber 51 = .ok (.iadd, 1)) ∧ (decode cX3_groupNumber 52 = .ok (.putfield 83, 3)) ∧ (decode cX3_groupNumber 55 = .ok (.aload_n 0, 1)) ∧ (decode cX3_groupNumber 56 = .ok (.getfield 23, 3)) ∧ (decode cX3_groupNumber 59 = .ok (.iload_n 3, 1)) ∧ (decode cX3_groupNumber 60 = .ok (.invokevirtual 89, 3)) ∧ (decode cX3_groupNumber 63 = .ok (.ireturn, 1)) := by decide +kernel
theorem dX3_groupNumber_46 : decode cX3_groupNumber 46 = .ok (.dup, 1) := db_cX3_groupNumber_dX3_groupNumber_46_2.1
theorem dX3_groupNumber_47 : decode cX3_groupNumber 47 = .ok (.getfield 83, 3) := db_cX3_groupNumber_dX3_groupNumber_46_2.2.1
theorem dX3_groupNumber_50 : decode cX3_groupNumber 50 = .ok (.iconst 1, 1) := db_cX3_groupNumber_dX3_groupNumber_46_2.2.2.1
theorem dX3_groupNumber_51 : decode cX3_groupNumber 51 = .ok (.iadd, 1) := db_cX3_groupNumber_dX3_groupNumber_46_2.2.2.2.1
theorem dX3_groupNumber_52 : decode cX3_groupNumber 52 = .ok (.putfield 83, 3) := db_cX3_groupNumber_dX3_groupNumber_46_2.2.2.2.2.1
theorem dX3_groupNumber_55 : decode cX3_groupNumber 55 = .ok (.aload_n 0, 1) := db_cX3_groupNumber_dX3_groupNumber_46_2.2.2.2.2.2.1
theorem dX3_groupNumber_56 : decode cX3_groupNumber 56 = .ok (.getfield 23, 3) := db_cX3_groupNumber_dX3_groupNumber_46_2.2.2.2.2.2.2.1
theorem dX3_groupNumber_59 : decode cX3_groupNumber 59 = .ok (.iload_n 3, 1) := db_cX3_groupNumber_dX3_groupNumber_46_2.2.2.2.2.2.2.2.1
theorem dX3_groupNumber_60 : decode cX3_groupNumber 60 = .ok (.invokevirtual 89, 3) := db_cX3_groupNumber_dX3_groupNumber_46_2.2.2.2.2.2.2.2.2.1
theorem dX3_groupNumber_63 : decode cX3_groupNumber 63 = .ok (.ireturn, 1) := db_cX3_groupNumber_dX3_groupNumber_46_2.2.2.2.2.2.2.2.2.2
set_option maxRecDepth 100000 in
theorem db_cX3_makeGroups_dX3_makeGroups_0_0 : (decode cX3_makeGroups 0 = .ok (.aload_n 0, 1)) ∧ (decode cX3_makeGroups 1 = .ok (.getfield 23, 3)) ∧ (decode cX3_makeGroups 4 = .ok (.iconst (-1), 1)) ∧ (decode cX3_makeGroups 5 = .ok (.invokevirtual 112, 3)) ∧ (decode cX3_makeGroups 8 = .ok (.aload_n 0, 1)) ∧ (decode cX3_makeGroups 9 = .ok (.getfield 23, 3)) ∧ (decode cX3_makeGroups 12 = .ok (.aload_n 0, 1)) ∧ (decode cX3_makeGroups 13 = .ok (.getfield 29, 3)) ∧ (decode cX3_makeGroups 16 = .ok (.iconst 0, 1)) ∧ (decode cX3_makeGroups 17 = .ok (.invokevirtual 115, 3)) ∧ (decode cX3_makeGroups 20 = .ok (.iconst 0, 1)) ∧ (decode cX3_makeGroups 21 = .ok (.invokevirtual 79, 3)) := by decide +kernel
theorem dX3_makeGroups_0 : decode cX3_makeGroups 0 = .ok (.aload_n 0, 1) := db_cX3_makeGroups_dX3_makeGroups_0_0.1
theorem dX3_makeGroups_1 : decode cX3_makeGroups 1 = .ok (.getfield 23, 3) := db_cX3_makeGroups_dX3_makeGroups_0_0.2.1
theorem dX3_makeGroups_4 : decode cX3_makeGroups 4 = .ok (.iconst (-1), 1) := db_cX3_makeGroups_dX3_makeGroups_0_0.2.2.1
theorem dX3_makeGroups_5 : decode cX3_makeGroups 5 = .ok (.invokevirtual 112, 3) := db_cX3_makeGroups_dX3_makeGroups_0_0.2.2.2.1
theorem dX3_makeGroups_8 : decode cX3_makeGroups 8 = .ok (.aload_n 0, 1) := db_cX3_makeGroups_dX3_makeGroups_0_0.2.2.2.2.1
theorem dX3_makeGroups_9 : decode cX3_makeGroups 9 = .ok (.getfield 23, 3) := db_cX3_makeGroups_dX3_makeGroups_0_0.2.2.2.2.2.1
theorem dX3_makeGroups_12 : decode cX3_makeGroups 12 = .ok (.aload_n 0, 1) := db_cX3_makeGroups_dX3_makeGroups_0_0.2.2.2.2.2.2.1
theorem dX3_makeGroups_13 : decode cX3_makeGroups 13 = .ok (.getfield 29, 3) := db_cX3_makeGroups_dX3_makeGroups_0_0.2.2.2.2.2.2.2.1
theorem dX3_makeGroups_16 : decode cX3_makeGroups 16 = .ok (.iconst 0, 1) := db_cX3_makeGroups_dX3_makeGroups_0_0.2.2.2.2.2.2.2.2.1
theorem dX3_makeGroups_17 : decode cX3_makeGroups 17 = .ok (.invokevirtual 115, 3) := db_cX3_makeGroups_dX3_makeGroups_0_0.2.2.2.2.2.2.2.2.2.1
theorem dX3_makeGroups_20 : decode cX3_makeGroups 20 = .ok (.iconst 0, 1) := db_cX3_makeGroups_dX3_makeGroups_0_0.2.2.2.2.2.2.2.2.2.2.1
theorem dX3_makeGroups_21 : decode cX3_makeGroups 21 = .ok (.invokevirtual 79, 3) := db_cX3_makeGroups_dX3_makeGroups_0_0.2.2.2.2.2.2.2.2.2.2.2
set_option maxRecDepth 100000 in
theorem db_cX3_makeGroups_dX3_makeGroups_24_1 : (decode cX3_makeGroups 24 = .ok (.aload_n 0, 1)) ∧ (decode cX3_makeGroups 25 = .ok (.getfield 20, 3)) ∧ (decode cX3_makeGroups 28 = .ok (.iconst 0, 1)) ∧ (decode cX3_makeGroups 29 = .ok (.iconst 0, 1)) ∧ (decode cX3_makeGroups 30 = .ok (.invokevirtual 79, 3)) ∧ (decode cX3_makeGroups 33 = .ok (.aload_n 2, 1)) ∧ (decode cX3_makeGroups 34 = .ok (.iconst 1, 1)) ∧ (decode cX3_makeGroups 35 = .ok (.putfield 83, 3)) ∧ (decode cX3_makeGroups 38 = .ok (.aload_n 2, 1)) ∧ (decode cX3_makeGroups 39 = .ok (.iconst 0, 1)) ∧ (decode cX3_makeGroups 40 = .ok (.putfield 86, 3)) ∧ (decode cX3_makeGroups 43 = .ok (.iconst 0, 1)) := by decide +kernel
theorem dX3_makeGroups_24 : decode cX3_makeGroups 24 = .ok (.aload_n 0, 1) := db_cX3_makeGroups_dX3_makeGroups_24_1.1
theorem dX3_makeGroups_25 : decode cX3_makeGroups 25 = .ok (.getfield 20, 3) := db_cX3_makeGroups_dX3_makeGroups_24_1.2.1
theorem dX3_makeGroups_28 : decode cX3_makeGroups 28 = .ok (.iconst 0, 1) := db_cX3_makeGroups_dX3_makeGroups_24_1.2.2.1
theorem dX3_makeGroups_29 : decode cX3_makeGroups 29 = .ok (.iconst 0, 1) := db_cX3_makeGroups_dX3_makeGroups_24_1.2.2.2.1
theorem dX3_makeGroups_30 : decode cX3_makeGroups 30 = .ok (.invokevirtual 79, 3) := db_cX3_makeGroups_dX3_makeGroups_24_1.2.2.2.2.1
theorem dX3_makeGroups_33 : decode cX3_makeGroups 33 = .ok (.aload_n 2, 1) := db_cX3_makeGroups_dX3_makeGroups_24_1.2.2.2.2.2.1
theorem dX3_makeGroups_34 : decode cX3_makeGroups 34 = .ok (.iconst 1, 1) := db_cX3_makeGroups_dX3_makeGroups_24_1.2.2.2.2.2.2.1
theorem dX3_makeGroups_35 : decode cX3_makeGroups 35 = .ok (.putfield 83, 3) := db_cX3_makeGroups_dX3_makeGroups_24_1.2.2.2.2.2.2.2.1
theorem dX3_makeGroups_38 : decode cX3_makeGroups 38 = .ok (.aload_n 2, 1) := db_cX3_makeGroups_dX3_makeGroups_24_1.2.2.2.2.2.2.2.2.1
theorem dX3_makeGroups_39 : decode cX3_makeGroups 39 = .ok (.iconst 0, 1) := db_cX3_makeGroups_dX3_makeGroups_24_1.2.2.2.2.2.2.2.2.2.1
theorem dX3_makeGroups_40 : decode cX3_makeGroups 40 = .ok (.putfield 86, 3) := db_cX3_makeGroups_dX3_makeGroups_24_1.2.2.2.2.2.2.2.2.2.2.1
theorem dX3_makeGroups_43 : decode cX3_makeGroups 43 = .ok (.iconst 0, 1) := db_cX3_makeGroups_dX3_makeGroups_24_1.2.2.2.2.2.2.2.2.2.2.2
set_option maxRecDepth 100000 in
theorem db_cX3_makeGroups_dX3_makeGroups_44_2 : (decode cX3_makeGroups 44 = .ok (.istore_n 3, 1)) ∧ (decode cX3_makeGroups 45 = .ok (.iload_n 3, 1)) ∧ (decode cX3_makeGroups 46 = .ok (.bipush 32, 2)) ∧ (decode cX3_makeGroups 48 = .ok (.if_icmp .ge 80, 3)) ∧ (decode cX3_makeGroups 51 = .ok (.iload_n 3, 1)) ∧ (decode cX3_makeGroups 52 = .ok (.aload_n 2, 1)) ∧ (decode cX3_makeGroups 53 = .ok (.getfield 83, 3)) ∧ (decode cX3_makeGroups 56 = .ok (.if_icmp .ge 72, 3)) ∧ (decode cX3_makeGroups 59 = .ok (.aload_n 0, 1)) ∧ (decode cX3_makeGroups 60 = .ok (.getfield 20, 3)) ∧ (decode cX3_makeGroups 63 = .ok (.iload_n 3, 1)) ∧ (decode cX3_makeGroups 64 = .ok (.invokevirtual 89, 3)) := by decide +kernel
theorem dX3_makeGroups_44 : decode cX3_makeGroups 44 = .ok (.istore_n 3, 1) := db_cX3_makeGroups_dX3_makeGroups_44_2.1
theorem dX3_makeGroups_45 : decode cX3_makeGroups 45 = .ok (.iload_n 3, 1) := db_cX3_makeGroups_dX3_makeGroups_44_2.2.1
theorem dX3_makeGroups_46 : decode cX3_makeGroups 46 = .ok (.bipush 32, 2) := db_cX3_makeGroups_dX3_makeGroups_44_2.2.2.1
theorem dX3_makeGroups_48 : decode cX3_makeGroups 48 = .ok (.if_icmp .ge 80, 3) := db_cX3_makeGroups_dX3_makeGroups_44_2.2.2.2.1
theorem dX3_makeGroups_51 : decode cX3_makeGroups 51 = .ok (.iload_n 3, 1) := db_cX3_makeGroups_dX3_makeGroups_44_2.2.2.2.2.1
theorem dX3_makeGroups_52 : decode cX3_makeGroups 52 = .ok (.aload_n 2, 1) := db_cX3_makeGroups_dX3_makeGroups_44_2.2.2.2.2.2.1
theorem dX3_makeGroups_53 : decode cX3_makeGroups 53 = .ok (.getfield 83, 3) := db_cX3_makeGroups_dX3_makeGroups_44_2.2.2.2.2.2.2.1
theorem dX3_makeGroups_56 : decode cX3_makeGroups 56 = .ok (.if_icmp .ge 72, 3) := db_cX3_makeGroups_dX3_makeGroups_44_2.2.2.2.2.2.2.2.1
theorem dX3_makeGroups_59 : decode cX3_makeGroups 59 = .ok (.aload_n 0, 1) := db_cX3_makeGroups_dX3_makeGroups_44_2.2.2.2.2.2.2.2.2.1
theorem dX3_makeGroups_60 : decode cX3_makeGroups 60 = .ok (.getfield 20, 3) := db_cX3_makeGroups_dX3_makeGroups_44_2.2.2.2.2.2.2.2.2.2.1
theorem dX3_makeGroups_63 : decode cX3_makeGroups 63 = .ok (.iload_n 3, 1) := db_cX3_makeGroups_dX3_makeGroups_44_2.2.2.2.2.2.2.2.2.2.2.1
theorem dX3_makeGroups_64 : decode cX3_makeGroups 64 = .ok (.invokevirtual 89, 3) := db_cX3_makeGroups_dX3_makeGroups_44_2.2.2.2.2.2.2.2.2.2.2.2
set_option maxRecDepth 100000 in
theorem db_cX3_makeGroups_dX3_makeGroups_67_3 : (decode cX3_makeGroups 67 = .ok (.istore 4, 2)) ∧ (decode cX3_makeGroups 69 = .ok (.aload_n 2, 1)) ∧ (decode cX3_makeGroups 70 = .ok (.aload_n 2, 1)) ∧ (decode cX3_makeGroups 71 = .ok (.getfield 86, 3)) ∧ (decode cX3_makeGroups 74 = .ok (.iload_n 3, 1)) ∧ (decode cX3_makeGroups 75 = .ok (.aload_n 1, 1)) ∧ (decode cX3_makeGroups 76 = .ok (.iload 4, 2)) ∧ (decode cX3_makeGroups 78 = .ok (.invokevirtual 118, 3)) ∧ (decode cX3_makeGroups 81 = .ok (.invokestatic 94, 3)) ∧ (decode cX3_makeGroups 84 = .ok (.putfield 86, 3)) ∧ (decode cX3_makeGroups 87 = .ok (.iconst 0, 1)) ∧ (decode cX3_makeGroups 88 = .ok (.istore 5, 2)) := by decide +kernel
theorem dX3_makeGroups_67 : decode cX3_makeGroups 67 = .ok (.istore 4, 2) := db_cX3_makeGroups_dX3_makeGroups_67_3.1
theorem dX3_makeGroups_69 : decode cX3_makeGroups 69 = .ok (.aload_n 2, 1) := db_cX3_makeGroups_dX3_makeGroups_67_3.2.1
theorem dX3_makeGroups_70 : decode cX3_makeGroups 70 = .ok (.aload_n 2, 1) := db_cX3_makeGroups_dX3_makeGroups_67_3.2.2.1
theorem dX3_makeGroups_71 : decode cX3_makeGroups 71 = .ok (.getfield 86, 3) := db_cX3_makeGroups_dX3_makeGroups_67_3.2.2.2.1
theorem dX3_makeGroups_74 : decode cX3_makeGroups 74 = .ok (.iload_n 3, 1) := db_cX3_makeGroups_dX3_makeGroups_67_3.2.2.2.2.1
theorem dX3_makeGroups_75 : decode cX3_makeGroups 75 = .ok (.aload_n 1, 1) := db_cX3_makeGroups_dX3_makeGroups_67_3.2.2.2.2.2.1
theorem dX3_makeGroups_76 : decode cX3_makeGroups 76 = .ok (.iload 4, 2) := db_cX3_makeGroups_dX3_makeGroups_67_3.2.2.2.2.2.2.1
theorem dX3_makeGroups_78 : decode cX3_makeGroups 78 = .ok (.invokevirtual 118, 3) := db_cX3_makeGroups_dX3_makeGroups_67_3.2.2.2.2.2.2.2.1
theorem dX3_makeGroups_81 : decode cX3_makeGroups 81 = .ok (.invokestatic 94, 3) := db_cX3_makeGroups_dX3_makeGroups_67_3.2.2.2.2.2.2.2.2.1
theorem dX3_makeGroups_84 : decode cX3_makeGroups 84 = .ok (.putfield 86, 3) := db_cX3_makeGroups_dX3_makeGroups_67_3.2.2.2.2.2.2.2.2.2.1
theorem dX3_makeGroups_87 : decode cX3_makeGroups 87 = .ok (.iconst 0, 1) := db_cX3_makeGroups_dX3_makeGroups_67_3.2.2.2.2.2.2.2.2.2.2.1
theorem dX3_makeGroups_88 : decode cX3_makeGroups 88 = .ok (.istore 5, 2) := db_cX3_makeGroups_dX3_makeGroups_67_3.2.2.2.2.2.2.2.2.2.2.2
set_option maxRecDepth 100000 in
theorem db_cX3_makeGroups_dX3_makeGroups_90_4 : (decode cX3_makeGroups 90 = .ok (.iload 5, 2)) ∧ (decode cX3_makeGroups 92 = .ok (.iconst 3, 1)) ∧ (decode cX3_makeGroups 93 = .ok (.if_icmp .ge 29, 3)) ∧ (decode cX3_makeGroups 96 = .ok (.aload_n 2, 1)) ∧ (decode cX3_makeGroups 97 = .ok (.iload_n 3, 1)) ∧ (decode cX3_makeGroups 98 = .ok (.iload 5, 2)) ∧ (decode cX3_makeGroups 100 = .ok (.aload_n 0, 1)) ∧ (decode cX3_makeGroups 101 = .ok (.aload_n 1, 1)) ∧ (decode cX3_makeGroups 102 = .ok (.iload 4, 2)) ∧ (decode cX3_makeGroups 104 = .ok (.iload 5, 2)) ∧ (decode cX3_makeGroups 106 = .ok (.invokevirtual 122, 3)) ∧ (decode cX3_makeGroups 109 = .ok (.aload_n 2, 1)) := by decide +kernel
theorem dX3_makeGroups_90 : decode cX3_makeGroups 90 = .ok (.iload 5, 2) := db_cX3_makeGroups_dX3_makeGroups_90_4.1
theorem dX3_makeGroups_92 : decode cX3_makeGroups 92 = .ok (.iconst 3, 1) := db_cX3_makeGroups_dX3_makeGroups_90_4.2.1
theorem dX3_makeGroups_93 : decode cX3_makeGroups 93 = .ok (.if_icmp .ge 29, 3) := db_cX3_makeGroups_dX3_makeGroups_90_4.2.2.1
theorem dX3_makeGroups_96 : decode cX3_makeGroups 96 = .ok (.aload_n 2, 1) := db_cX3_makeGroups_dX3_makeGroups_90_4.2.2.2.1
theorem dX3_makeGroups_97 : decode cX3_makeGroups 97 = .ok (.iload_n 3, 1) := db_cX3_makeGroups_dX3_makeGroups_90_4.2.2.2.2.1
theorem dX3_makeGroups_98 : decode cX3_makeGroups 98 = .ok (.iload 5, 2) := db_cX3_makeGroups_dX3_makeGroups_90_4.2.2.2.2.2.1
theorem dX3_makeGroups_100 : decode cX3_makeGroups 100 = .ok (.aload_n 0, 1) := db_cX3_makeGroups_dX3_makeGroups_90_4.2.2.2.2.2.2.1
theorem dX3_makeGroups_101 : decode cX3_makeGroups 101 = .ok (.aload_n 1, 1) := db_cX3_makeGroups_dX3_makeGroups_90_4.2.2.2.2.2.2.2.1
theorem dX3_makeGroups_102 : decode cX3_makeGroups 102 = .ok (.iload 4, 2) := db_cX3_makeGroups_dX3_makeGroups_90_4.2.2.2.2.2.2.2.2.1
theorem dX3_makeGroups_104 : decode cX3_makeGroups 104 = .ok (.iload 5, 2) := db_cX3_makeGroups_dX3_makeGroups_90_4.2.2.2.2.2.2.2.2.2.1
theorem dX3_makeGroups_106 : decode cX3_makeGroups 106 = .ok (.invokevirtual 122, 3) := db_cX3_makeGroups_dX3_makeGroups_90_4.2.2.2.2.2.2.2.2.2.2.1
theorem dX3_makeGroups_109 : decode cX3_makeGroups 109 = .ok (.aload_n 2, 1) := db_cX3_makeGroups_dX3_makeGroups_90_4.2.2.2.2.2.2.2.2.2.2.2
set_option maxRecDepth 100000 in
theorem db_cX3_makeGroups_dX3_makeGroups_110_5 : (decode cX3_makeGroups 110 = .ok (.invokevirtual 124, 3)) ∧ (decode cX3_makeGroups 113 = .ok (.invokevirtual 106, 3)) ∧ (decode cX3_makeGroups 116 = .ok (.iinc 5 1, 3)) ∧ (decode cX3_makeGroups 119 = .ok (.goto (-29), 3)) ∧ (decode cX3_makeGroups 122 = .ok (.iinc 3 1, 3)) ∧ (decode cX3_makeGroups 125 = .ok (.goto (-80), 3)) ∧ (decode cX3_makeGroups 128 = .ok (.return_, 1)) := by decide +kernel
theorem dX3_makeGroups_110 : decode cX3_makeGroups 110 = .ok (.invokevirtual 124, 3) := db_cX3_makeGroups_dX3_makeGroups_110_5.1
theorem dX3_makeGroups_113 : decode cX3_makeGroups 113 = .ok (.invokevirtual 106, 3) := db_cX3_makeGroups_dX3_makeGroups_110_5.2.1
theorem dX3_makeGroups_116 : decode cX3_makeGroups 116 = .ok (.iinc 5 1, 3) := db_cX3_makeGroups_dX3_makeGroups_110_5.2.2.1
theorem dX3_makeGroups_119 : decode cX3_makeGroups 119 = .ok (.goto (-29), 3) := db_cX3_makeGroups_dX3_makeGroups_110_5.2.2.2.1
theorem dX3_makeGroups_122 : decode cX3_makeGroups 122 = .ok (.iinc 3 1, 3) := db_cX3_makeGroups_dX3_makeGroups_110_5.2.2.2.2.1
theorem dX3_makeGroups_125 : decode cX3_makeGroups 125 = .ok (.goto (-80), 3) := db_cX3_makeGroups_dX3_makeGroups_110_5.2.2.2.2.2.1
theorem dX3_makeGroups_128 : decode cX3_makeGroups 128 = .ok (.return_, 1) := db_cX3_makeGroups_dX3_makeGroups_110_5.2.2.2.2.2.2
set_option maxRecDepth 100000 in
theorem db_cX3_lessen_dX3_lessen_0_0 : (decode cX3_lessen 0 = .ok (.aload_n 0, 1)) ∧ (decode cX3_lessen 1 = .ok (.getfield 29, 3)) ∧ (decode cX3_lessen 4 = .ok (.aload_n 1, 1)) ∧ (decode cX3_lessen 5 = .ok (.invokevirtual 61, 3)) ∧ (decode cX3_lessen 8 = .ok (.aload_n 0, 1)) ∧ (decode cX3_lessen 9 = .ok (.aload_n 1, 1)) ∧ (decode cX3_lessen 10 = .ok (.aload_n 2, 1)) ∧ (decode cX3_lessen 11 = .ok (.invokevirtual 64, 3)) ∧ (decode cX3_lessen 14 = .ok (.return_, 1)) := by decide +kernel
theorem dX3_lessen_0 : decode cX3_lessen 0 = .ok (.aload_n 0, 1) := db_cX3_lessen_dX3_lessen_0_0.1
theorem dX3_lessen_1 : decode cX3_lessen 1 = .ok (.getfield 29, 3) := db_cX3_lessen_dX3_lessen_0_0.2.1
theorem dX3_lessen_4 : decode cX3_lessen 4 = .ok (.aload_n 1, 1) := db_cX3_lessen_dX3_lessen_0_0.2.2.1
theorem dX3_lessen_5 : decode cX3_lessen 5 = .ok (.invokevirtual 61, 3) := db_cX3_lessen_dX3_lessen_0_0.2.2.2.1
theorem dX3_lessen_8 : decode cX3_lessen 8 = .ok (.aload_n 0, 1) := db_cX3_lessen_dX3_lessen_0_0.2.2.2.2.1
theorem dX3_lessen_9 : decode cX3_lessen 9 = .ok (.aload_n 1, 1) := db_cX3_lessen_dX3_lessen_0_0.2.2.2.2.2.1
theorem dX3_lessen_10 : decode cX3_lessen 10 = .ok (.aload_n 2, 1) := db_cX3_lessen_dX3_lessen_0_0.2.2.2.2.2.2.1
theorem dX3_lessen_11 : decode cX3_lessen 11 = .ok (.invokevirtual 64, 3) := db_cX3_lessen_dX3_lessen_0_0.2.2.2.2.2.2.2.1
theorem dX3_lessen_14 : decode cX3_lessen 14 = .ok (.return_, 1) := db_cX3_lessen_dX3_lessen_0_0.2.2.2.2.2.2.2.2
set_option maxRecDepth 100000 in
theorem db_cX9_putTogether_dX9_putTogether_0_0 : (decode cX9_putTogether 0 = .ok (.aload_n 0, 1)) ∧ (decode cX9_putTogether 1 = .ok (.aload_n 1, 1)) ∧ (decode cX9_putTogether 2 = .ok (.aload_n 2, 1)) ∧ (decode cX9_putTogether 3 = .ok (.bipush 32, 2)) ∧ (decode cX9_putTogether 5 = .ok (.iconst 1, 1)) ∧ (decode cX9_putTogether 6 = .ok (.invokevirtual 284, 3)) ∧ (decode cX9_putTogether 9 = .ok (.ifCond .ne 5, 3)) ∧ (decode cX9_putTogether 12 = .ok (.iconst 0, 1)) ∧ (decode cX9_putTogether 13 = .ok (.ireturn, 1)) ∧ (decode cX9_putTogether 14 = .ok (.aload_n 0, 1)) ∧ (decode cX9_putTogether 15 = .ok (.getfield 63, 3)) ∧ (decode cX9_putTogether 18 = .ok (.aload_n 0, 1)) := by decide +kernel
theorem dX9_putTogether_0 : decode cX9_putTogether 0 = .ok (.aload_n 0, 1) := db_cX9_putTogether_dX9_putTogether_0_0.1
theorem dX9_putTogether_1 : decode cX9_putTogether 1 = .ok (.aload_n 1, 1) := db_cX9_putTogether_dX9_putTogether_0_0.2.1
theorem dX9_putTogether_2 : decode cX9_putTogether 2 = .ok (.aload_n 2, 1) := db_cX9_putTogether_dX9_putTogether_0_0.2.2.1
theorem dX9_putTogether_3 : decode cX9_putTogether 3 = .ok (.bipush 32, 2) := db_cX9_putTogether_dX9_putTogether_0_0.2.2.2.1
theorem dX9_putTogether_5 : decode cX9_putTogether 5 = .ok (.iconst 1, 1) := db_cX9_putTogether_dX9_putTogether_0_0.2.2.2.2.1
theorem dX9_putTogether_6 : decode cX9_putTogether 6 = .ok (.invokevirtual 284, 3) := db_cX9_putTogether_dX9_putTogether_0_0.2.2.2.2.2.1
theorem dX9_putTogether_9 : decode cX9_putTogether 9 = .ok (.ifCond .ne 5, 3) := db_cX9_putTogether_dX9_putTogether_0_0.2.2.2.2.2.2.1
theorem dX9_putTogether_12 : decode cX9_putTogether 12 = .ok (.iconst 0, 1) := db_cX9_putTogether_dX9_putTogether_0_0.2.2.2.2.2.2.2.1
theorem dX9_putTogether_13 : decode cX9_putTogether 13 = .ok (.ireturn, 1) := db_cX9_putTogether_dX9_putTogether_0_0.2.2.2.2.2.2.2.2.1
theorem dX9_putTogether_14 : decode cX9_putTogether 14 = .ok (.aload_n 0, 1) := db_cX9_putTogether_dX9_putTogether_0_0.2.2.2.2.2.2.2.2.2.1
theorem dX9_putTogether_15 : decode cX9_putTogether 15 = .ok (.getfield 63, 3) := db_cX9_putTogether_dX9_putTogether_0_0.2.2.2.2.2.2.2.2.2.2.1
theorem dX9_putTogether_18 : decode cX9_putTogether 18 = .ok (.aload_n 0, 1) := db_cX9_putTogether_dX9_putTogether_0_0.2.2.2.2.2.2.2.2.2.2.2
set_option maxRecDepth 100000 in
theorem db_cX9_putTogether_dX9_putTogether_19_1 : (decode cX9_putTogether 19 = .ok (.getfield 42, 3)) ∧ (decode cX9_putTogether 22 = .ok (.iload_n 3, 1)) ∧ (decode cX9_putTogether 23 = .ok (.invokevirtual 296, 3)) ∧ (decode cX9_putTogether 26 = .ok (.aload_n 0, 1)) ∧ (decode cX9_putTogether 27 = .ok (.getfield 35, 3)) ∧ (decode cX9_putTogether 30 = .ok (.aload_n 0, 1)) ∧ (decode cX9_putTogether 31 = .ok (.getfield 63, 3)) ∧ (decode cX9_putTogether 34 = .ok (.aload_n 0, 1)) ∧ (decode cX9_putTogether 35 = .ok (.getfield 66, 3)) ∧ (decode cX9_putTogether 38 = .ok (.invokevirtual 300, 3)) ∧ (decode cX9_putTogether 41 = .ok (.iconst 1, 1)) ∧ (decode cX9_putTogether 42 = .ok (.ireturn, 1)) := by decide +kernel
theorem dX9_putTogether_19 : decode cX9_putTogether 19 = .ok (.getfield 42, 3) := db_cX9_putTogether_dX9_putTogether_19_1.1
theorem dX9_putTogether_22 : decode cX9_putTogether 22 = .ok (.iload_n 3, 1) := db_cX9_putTogether_dX9_putTogether_19_1.2.1
theorem dX9_putTogether_23 : decode cX9_putTogether 23 = .ok (.invokevirtual 296, 3) := db_cX9_putTogether_dX9_putTogether_19_1.2.2.1
theorem dX9_putTogether_26 : decode cX9_putTogether 26 = .ok (.aload_n 0, 1) := db_cX9_putTogether_dX9_putTogether_19_1.2.2.2.1
theorem dX9_putTogether_27 : decode cX9_putTogether 27 = .ok (.getfield 35, 3) := db_cX9_putTogether_dX9_putTogether_19_1.2.2.2.2.1
theorem dX9_putTogether_30 : decode cX9_putTogether 30 = .ok (.aload_n 0, 1) := db_cX9_putTogether_dX9_putTogether_19_1.2.2.2.2.2.1
theorem dX9_putTogether_31 : decode cX9_putTogether 31 = .ok (.getfield 63, 3) := db_cX9_putTogether_dX9_putTogether_19_1.2.2.2.2.2.2.1
theorem dX9_putTogether_34 : decode cX9_putTogether 34 = .ok (.aload_n 0, 1) := db_cX9_putTogether_dX9_putTogether_19_1.2.2.2.2.2.2.2.1
theorem dX9_putTogether_35 : decode cX9_putTogether 35 = .ok (.getfield 66, 3) := db_cX9_putTogether_dX9_putTogether_19_1.2.2.2.2.2.2.2.2.1
theorem dX9_putTogether_38 : decode cX9_putTogether 38 = .ok (.invokevirtual 300, 3) := db_cX9_putTogether_dX9_putTogether_19_1.2.2.2.2.2.2.2.2.2.1
theorem dX9_putTogether_41 : decode cX9_putTogether 41 = .ok (.iconst 1, 1) := db_cX9_putTogether_dX9_putTogether_19_1.2.2.2.2.2.2.2.2.2.2.1
theorem dX9_putTogether_42 : decode cX9_putTogether 42 = .ok (.ireturn, 1) := db_cX9_putTogether_dX9_putTogether_19_1.2.2.2.2.2.2.2.2.2.2.2
set_option maxRecDepth 100000 in
theorem db_cX5_stateAfter_dX5_stateAfter_0_0 : (decode cX5_stateAfter 0 = .ok (.iconst 0, 1)) ∧ (decode cX5_stateAfter 1 = .ok (.istore_n 3, 1)) ∧ (decode cX5_stateAfter 2 = .ok (.iload_n 2, 1)) ∧ (decode cX5_stateAfter 3 = .ok (.istore 4, 2)) ∧ (decode cX5_stateAfter 5 = .ok (.iconst 0, 1)) ∧ (decode cX5_stateAfter 6 = .ok (.istore 5, 2)) ∧ (decode cX5_stateAfter 8 = .ok (.iload 5, 2)) ∧ (decode cX5_stateAfter 10 = .ok (.iload_n 1, 1)) ∧ (decode cX5_stateAfter 11 = .ok (.if_icmp .ge 25, 3)) ∧ (decode cX5_stateAfter 14 = .ok (.aload_n 0, 1)) ∧ (decode cX5_stateAfter 15 = .ok (.iload_n 3, 1)) ∧ (decode cX5_stateAfter 16 = .ok (.iload 4, 2)) := by decide +kernel
theorem dX5_stateAfter_0 : decode cX5_stateAfter 0 = .ok (.iconst 0, 1) := db_cX5_stateAfter_dX5_stateAfter_0_0.1
theorem dX5_stateAfter_1 : decode cX5_stateAfter 1 = .ok (.istore_n 3, 1) := db_cX5_stateAfter_dX5_stateAfter_0_0.2.1
theorem dX5_stateAfter_2 : decode cX5_stateAfter 2 = .ok (.iload_n 2, 1) := db_cX5_stateAfter_dX5_stateAfter_0_0.2.2.1
theorem dX5_stateAfter_3 : decode cX5_stateAfter 3 = .ok (.istore 4, 2) := db_cX5_stateAfter_dX5_stateAfter_0_0.2.2.2.1
theorem dX5_stateAfter_5 : decode cX5_stateAfter 5 = .ok (.iconst 0, 1) := db_cX5_stateAfter_dX5_stateAfter_0_0.2.2.2.2.1
theorem dX5_stateAfter_6 : decode cX5_stateAfter 6 = .ok (.istore 5, 2) := db_cX5_stateAfter_dX5_stateAfter_0_0.2.2.2.2.2.1
theorem dX5_stateAfter_8 : decode cX5_stateAfter 8 = .ok (.iload 5, 2) := db_cX5_stateAfter_dX5_stateAfter_0_0.2.2.2.2.2.2.1
theorem dX5_stateAfter_10 : decode cX5_stateAfter 10 = .ok (.iload_n 1, 1) := db_cX5_stateAfter_dX5_stateAfter_0_0.2.2.2.2.2.2.2.1
theorem dX5_stateAfter_11 : decode cX5_stateAfter 11 = .ok (.if_icmp .ge 25, 3) := db_cX5_stateAfter_dX5_stateAfter_0_0.2.2.2.2.2.2.2.2.1
theorem dX5_stateAfter_14 : decode cX5_stateAfter 14 = .ok (.aload_n 0, 1) := db_cX5_stateAfter_dX5_stateAfter_0_0.2.2.2.2.2.2.2.2.2.1
theorem dX5_stateAfter_15 : decode cX5_stateAfter 15 = .ok (.iload_n 3, 1) := db_cX5_stateAfter_dX5_stateAfter_0_0.2.2.2.2.2.2.2.2.2.2.1
theorem dX5_stateAfter_16 : decode cX5_stateAfter 16 = .ok (.iload 4, 2) := db_cX5_stateAfter_dX5_stateAfter_0_0.2.2.2.2.2.2.2.2.2.2.2
set_option maxRecDepth 100000 in
theorem db_cX5_stateAfter_dX5_stateAfter_18_1 : (decode cX5_stateAfter 18 = .ok (.iconst 3, 1)) ∧ (decode cX5_stateAfter 19 = .ok (.irem, 1)) ∧ (decode cX5_stateAfter 20 = .ok (.invokevirtual 46, 3)) ∧ (decode cX5_stateAfter 23 = .ok (.istore_n 3, 1)) ∧ (decode cX5_stateAfter 24 = .ok (.iload 4, 2)) ∧ (decode cX5_stateAfter 26 = .ok (.iconst 3, 1)) ∧ (decode cX5_stateAfter 27 = .ok (.idiv, 1)) ∧ (decode cX5_stateAfter 28 = .ok (.istore 4, 2)) ∧ (decode cX5_stateAfter 30 = .ok (.iinc 5 1, 3)) ∧ (decode cX5_stateAfter 33 = .ok (.goto (-25), 3)) ∧ (decode cX5_stateAfter 36 = .ok (.iload_n 3, 1)) ∧ (decode cX5_stateAfter 37 = .ok (.ireturn, 1)) := by decide +kernel
theorem dX5_stateAfter_18 : decode cX5_stateAfter 18 = .ok (.iconst 3, 1) := db_cX5_stateAfter_dX5_stateAfter_18_1.1
theorem dX5_stateAfter_19 : decode cX5_stateAfter 19 = .ok (.irem, 1) := db_cX5_stateAfter_dX5_stateAfter_18_1.2.1
theorem dX5_stateAfter_20 : decode cX5_stateAfter 20 = .ok (.invokevirtual 46, 3) := db_cX5_stateAfter_dX5_stateAfter_18_1.2.2.1
theorem dX5_stateAfter_23 : decode cX5_stateAfter 23 = .ok (.istore_n 3, 1) := db_cX5_stateAfter_dX5_stateAfter_18_1.2.2.2.1
theorem dX5_stateAfter_24 : decode cX5_stateAfter 24 = .ok (.iload 4, 2) := db_cX5_stateAfter_dX5_stateAfter_18_1.2.2.2.2.1
theorem dX5_stateAfter_26 : decode cX5_stateAfter 26 = .ok (.iconst 3, 1) := db_cX5_stateAfter_dX5_stateAfter_18_1.2.2.2.2.2.1
theorem dX5_stateAfter_27 : decode cX5_stateAfter 27 = .ok (.idiv, 1) := db_cX5_stateAfter_dX5_stateAfter_18_1.2.2.2.2.2.2.1
theorem dX5_stateAfter_28 : decode cX5_stateAfter 28 = .ok (.istore 4, 2) := db_cX5_stateAfter_dX5_stateAfter_18_1.2.2.2.2.2.2.2.1
theorem dX5_stateAfter_30 : decode cX5_stateAfter 30 = .ok (.iinc 5 1, 3) := db_cX5_stateAfter_dX5_stateAfter_18_1.2.2.2.2.2.2.2.2.1
theorem dX5_stateAfter_33 : decode cX5_stateAfter 33 = .ok (.goto (-25), 3) := db_cX5_stateAfter_dX5_stateAfter_18_1.2.2.2.2.2.2.2.2.2.1
theorem dX5_stateAfter_36 : decode cX5_stateAfter 36 = .ok (.iload_n 3, 1) := db_cX5_stateAfter_dX5_stateAfter_18_1.2.2.2.2.2.2.2.2.2.2.1
theorem dX5_stateAfter_37 : decode cX5_stateAfter 37 = .ok (.ireturn, 1) := db_cX5_stateAfter_dX5_stateAfter_18_1.2.2.2.2.2.2.2.2.2.2.2
set_option maxRecDepth 100000 in
theorem db_cX2_statesAfter_dX2_statesAfter_0_0 : (decode cX2_statesAfter 0 = .ok (.aload_n 0, 1)) ∧ (decode cX2_statesAfter 1 = .ok (.getfield 9, 3)) ∧ (decode cX2_statesAfter 4 = .ok (.istore_n 3, 1)) ∧ (decode cX2_statesAfter 5 = .ok (.iload_n 2, 1)) ∧ (decode cX2_statesAfter 6 = .ok (.istore 4, 2)) ∧ (decode cX2_statesAfter 8 = .ok (.iconst 0, 1)) ∧ (decode cX2_statesAfter 9 = .ok (.istore 5, 2)) ∧ (decode cX2_statesAfter 11 = .ok (.iload 5, 2)) ∧ (decode cX2_statesAfter 13 = .ok (.iload_n 1, 1)) ∧ (decode cX2_statesAfter 14 = .ok (.if_icmp .ge 25, 3)) ∧ (decode cX2_statesAfter 17 = .ok (.aload_n 0, 1)) ∧ (decode cX2_statesAfter 18 = .ok (.iload_n 3, 1)) := by decide +kernel
theorem dX2_statesAfter_0 : decode cX2_statesAfter 0 = .ok (.aload_n 0, 1) := db_cX2_statesAfter_dX2_statesAfter_0_0.1
theorem dX2_statesAfter_1 : decode cX2_statesAfter 1 = .ok (.getfield 9, 3) := db_cX2_statesAfter_dX2_statesAfter_0_0.2.1
theorem dX2_statesAfter_4 : decode cX2_statesAfter 4 = .ok (.istore_n 3, 1) := db_cX2_statesAfter_dX2_statesAfter_0_0.2.2.1
theorem dX2_statesAfter_5 : decode cX2_statesAfter 5 = .ok (.iload_n 2, 1) := db_cX2_statesAfter_dX2_statesAfter_0_0.2.2.2.1
theorem dX2_statesAfter_6 : decode cX2_statesAfter 6 = .ok (.istore 4, 2) := db_cX2_statesAfter_dX2_statesAfter_0_0.2.2.2.2.1
theorem dX2_statesAfter_8 : decode cX2_statesAfter 8 = .ok (.iconst 0, 1) := db_cX2_statesAfter_dX2_statesAfter_0_0.2.2.2.2.2.1
theorem dX2_statesAfter_9 : decode cX2_statesAfter 9 = .ok (.istore 5, 2) := db_cX2_statesAfter_dX2_statesAfter_0_0.2.2.2.2.2.2.1
theorem dX2_statesAfter_11 : decode cX2_statesAfter 11 = .ok (.iload 5, 2) := db_cX2_statesAfter_dX2_statesAfter_0_0.2.2.2.2.2.2.2.1
theorem dX2_statesAfter_13 : decode cX2_statesAfter 13 = .ok (.iload_n 1, 1) := db_cX2_statesAfter_dX2_statesAfter_0_0.2.2.2.2.2.2.2.2.1
theorem dX2_statesAfter_14 : decode cX2_statesAfter 14 = .ok (.if_icmp .ge 25, 3) := db_cX2_statesAfter_dX2_statesAfter_0_0.2.2.2.2.2.2.2.2.2.1
theorem dX2_statesAfter_17 : decode cX2_statesAfter 17 = .ok (.aload_n 0, 1) := db_cX2_statesAfter_dX2_statesAfter_0_0.2.2.2.2.2.2.2.2.2.2.1
theorem dX2_statesAfter_18 : decode cX2_statesAfter 18 = .ok (.iload_n 3, 1) := db_cX2_statesAfter_dX2_statesAfter_0_0.2.2.2.2.2.2.2.2.2.2.2
set_option maxRecDepth 100000 in
theorem db_cX2_statesAfter_dX2_statesAfter_19_1 : (decode cX2_statesAfter 19 = .ok (.iload 4, 2)) ∧ (decode cX2_statesAfter 21 = .ok (.iconst 3, 1)) ∧ (decode cX2_statesAfter 22 = .ok (.irem, 1)) ∧ (decode cX2_statesAfter 23 = .ok (.invokevirtual 72, 3)) ∧ (decode cX2_statesAfter 26 = .ok (.istore_n 3, 1)) ∧ (decode cX2_statesAfter 27 = .ok (.iload 4, 2)) ∧ (decode cX2_statesAfter 29 = .ok (.iconst 3, 1)) ∧ (decode cX2_statesAfter 30 = .ok (.idiv, 1)) ∧ (decode cX2_statesAfter 31 = .ok (.istore 4, 2)) ∧ (decode cX2_statesAfter 33 = .ok (.iinc 5 1, 3)) ∧ (decode cX2_statesAfter 36 = .ok (.goto (-25), 3)) ∧ (decode cX2_statesAfter 39 = .ok (.iload_n 3, 1)) := by decide +kernel
theorem dX2_statesAfter_19 : decode cX2_statesAfter 19 = .ok (.iload 4, 2) := db_cX2_statesAfter_dX2_statesAfter_19_1.1
theorem dX2_statesAfter_21 : decode cX2_statesAfter 21 = .ok (.iconst 3, 1) := db_cX2_statesAfter_dX2_statesAfter_19_1.2.1
theorem dX2_statesAfter_22 : decode cX2_statesAfter 22 = .ok (.irem, 1) := db_cX2_statesAfter_dX2_statesAfter_19_1.2.2.1
theorem dX2_statesAfter_23 : decode cX2_statesAfter 23 = .ok (.invokevirtual 72, 3) := db_cX2_statesAfter_dX2_statesAfter_19_1.2.2.2.1
theorem dX2_statesAfter_26 : decode cX2_statesAfter 26 = .ok (.istore_n 3, 1) := db_cX2_statesAfter_dX2_statesAfter_19_1.2.2.2.2.1
theorem dX2_statesAfter_27 : decode cX2_statesAfter 27 = .ok (.iload 4, 2) := db_cX2_statesAfter_dX2_statesAfter_19_1.2.2.2.2.2.1
theorem dX2_statesAfter_29 : decode cX2_statesAfter 29 = .ok (.iconst 3, 1) := db_cX2_statesAfter_dX2_statesAfter_19_1.2.2.2.2.2.2.1
theorem dX2_statesAfter_30 : decode cX2_statesAfter 30 = .ok (.idiv, 1) := db_cX2_statesAfter_dX2_statesAfter_19_1.2.2.2.2.2.2.2.1
theorem dX2_statesAfter_31 : decode cX2_statesAfter 31 = .ok (.istore 4, 2) := db_cX2_statesAfter_dX2_statesAfter_19_1.2.2.2.2.2.2.2.2.1
theorem dX2_statesAfter_33 : decode cX2_statesAfter 33 = .ok (.iinc 5 1, 3) := db_cX2_statesAfter_dX2_statesAfter_19_1.2.2.2.2.2.2.2.2.2.1
theorem dX2_statesAfter_36 : decode cX2_statesAfter 36 = .ok (.goto (-25), 3) := db_cX2_statesAfter_dX2_statesAfter_19_1.2.2.2.2.2.2.2.2.2.2.1
theorem dX2_statesAfter_39 : decode cX2_statesAfter 39 = .ok (.iload_n 3, 1) := db_cX2_statesAfter_dX2_statesAfter_19_1.2.2.2.2.2.2.2.2.2.2.2
theorem dX2_statesAfter_40 : decode cX2_statesAfter 40 = .ok (.ireturn, 1) := by decide +kernel
set_option maxRecDepth 100000 in
theorem db_cX2_isTaking_dX2_isTaking_0_0 : (decode cX2_isTaking 0 = .ok (.aload_n 0, 1)) ∧ (decode cX2_isTaking 1 = .ok (.iload_n 1, 1)) ∧ (decode cX2_isTaking 2 = .ok (.iload_n 2, 1)) ∧ (decode cX2_isTaking 3 = .ok (.invokevirtual 75, 3)) ∧ (decode cX2_isTaking 6 = .ok (.aload_n 0, 1)) ∧ (decode cX2_isTaking 7 = .ok (.getfield 18, 3)) ∧ (decode cX2_isTaking 10 = .ok (.iand, 1)) ∧ (decode cX2_isTaking 11 = .ok (.ifCond .eq 7, 3)) ∧ (decode cX2_isTaking 14 = .ok (.iconst 1, 1)) ∧ (decode cX2_isTaking 15 = .ok (.goto 4, 3)) ∧ (decode cX2_isTaking 18 = .ok (.iconst 0, 1)) ∧ (decode cX2_isTaking 19 = .ok (.ireturn, 1)) := by decide +kernel
theorem dX2_isTaking_0 : decode cX2_isTaking 0 = .ok (.aload_n 0, 1) := db_cX2_isTaking_dX2_isTaking_0_0.1
theorem dX2_isTaking_1 : decode cX2_isTaking 1 = .ok (.iload_n 1, 1) := db_cX2_isTaking_dX2_isTaking_0_0.2.1
theorem dX2_isTaking_2 : decode cX2_isTaking 2 = .ok (.iload_n 2, 1) := db_cX2_isTaking_dX2_isTaking_0_0.2.2.1
theorem dX2_isTaking_3 : decode cX2_isTaking 3 = .ok (.invokevirtual 75, 3) := db_cX2_isTaking_dX2_isTaking_0_0.2.2.2.1
theorem dX2_isTaking_6 : decode cX2_isTaking 6 = .ok (.aload_n 0, 1) := db_cX2_isTaking_dX2_isTaking_0_0.2.2.2.2.1
theorem dX2_isTaking_7 : decode cX2_isTaking 7 = .ok (.getfield 18, 3) := db_cX2_isTaking_dX2_isTaking_0_0.2.2.2.2.2.1
theorem dX2_isTaking_10 : decode cX2_isTaking 10 = .ok (.iand, 1) := db_cX2_isTaking_dX2_isTaking_0_0.2.2.2.2.2.2.1
theorem dX2_isTaking_11 : decode cX2_isTaking 11 = .ok (.ifCond .eq 7, 3) := db_cX2_isTaking_dX2_isTaking_0_0.2.2.2.2.2.2.2.1
theorem dX2_isTaking_14 : decode cX2_isTaking 14 = .ok (.iconst 1, 1) := db_cX2_isTaking_dX2_isTaking_0_0.2.2.2.2.2.2.2.2.1
theorem dX2_isTaking_15 : decode cX2_isTaking 15 = .ok (.goto 4, 3) := db_cX2_isTaking_dX2_isTaking_0_0.2.2.2.2.2.2.2.2.2.1
theorem dX2_isTaking_18 : decode cX2_isTaking 18 = .ok (.iconst 0, 1) := db_cX2_isTaking_dX2_isTaking_0_0.2.2.2.2.2.2.2.2.2.2.1
theorem dX2_isTaking_19 : decode cX2_isTaking 19 = .ok (.ireturn, 1) := db_cX2_isTaking_dX2_isTaking_0_0.2.2.2.2.2.2.2.2.2.2.2
set_option maxRecDepth 100000 in
theorem db_cX9_isTakingTheSame_dX9_isTakingTheSame_0_0 : (decode cX9_isTakingTheSame 0 = .ok (.iconst 0, 1)) ∧ (decode cX9_isTakingTheSame 1 = .ok (.istore_n 2, 1)) ∧ (decode cX9_isTakingTheSame 2 = .ok (.iload_n 2, 1)) ∧ (decode cX9_isTakingTheSame 3 = .ok (.iconst 2, 1)) ∧ (decode cX9_isTakingTheSame 4 = .ok (.if_icmp .gt 58, 3)) ∧ (decode cX9_isTakingTheSame 7 = .ok (.iload_n 2, 1)) ∧ (decode cX9_isTakingTheSame 8 = .ok (.invokestatic 279, 3)) ∧ (decode cX9_isTakingTheSame 11 = .ok (.istore_n 3, 1)) ∧ (decode cX9_isTakingTheSame 12 = .ok (.iconst 0, 1)) ∧ (decode cX9_isTakingTheSame 13 = .ok (.istore 4, 2)) ∧ (decode cX9_isTakingTheSame 15 = .ok (.iload 4, 2)) ∧ (decode cX9_isTakingTheSame 17 = .ok (.iload_n 3, 1)) := by decide +kernel
theorem dX9_isTakingTheSame_0 : decode cX9_isTakingTheSame 0 = .ok (.iconst 0, 1) := db_cX9_isTakingTheSame_dX9_isTakingTheSame_0_0.1
theorem dX9_isTakingTheSame_1 : decode cX9_isTakingTheSame 1 = .ok (.istore_n 2, 1) := db_cX9_isTakingTheSame_dX9_isTakingTheSame_0_0.2.1
theorem dX9_isTakingTheSame_2 : decode cX9_isTakingTheSame 2 = .ok (.iload_n 2, 1) := db_cX9_isTakingTheSame_dX9_isTakingTheSame_0_0.2.2.1
theorem dX9_isTakingTheSame_3 : decode cX9_isTakingTheSame 3 = .ok (.iconst 2, 1) := db_cX9_isTakingTheSame_dX9_isTakingTheSame_0_0.2.2.2.1
theorem dX9_isTakingTheSame_4 : decode cX9_isTakingTheSame 4 = .ok (.if_icmp .gt 58, 3) := db_cX9_isTakingTheSame_dX9_isTakingTheSame_0_0.2.2.2.2.1
theorem dX9_isTakingTheSame_7 : decode cX9_isTakingTheSame 7 = .ok (.iload_n 2, 1) := db_cX9_isTakingTheSame_dX9_isTakingTheSame_0_0.2.2.2.2.2.1
theorem dX9_isTakingTheSame_8 : decode cX9_isTakingTheSame 8 = .ok (.invokestatic 279, 3) := db_cX9_isTakingTheSame_dX9_isTakingTheSame_0_0.2.2.2.2.2.2.1
theorem dX9_isTakingTheSame_11 : decode cX9_isTakingTheSame 11 = .ok (.istore_n 3, 1) := db_cX9_isTakingTheSame_dX9_isTakingTheSame_0_0.2.2.2.2.2.2.2.1
theorem dX9_isTakingTheSame_12 : decode cX9_isTakingTheSame 12 = .ok (.iconst 0, 1) := db_cX9_isTakingTheSame_dX9_isTakingTheSame_0_0.2.2.2.2.2.2.2.2.1
theorem dX9_isTakingTheSame_13 : decode cX9_isTakingTheSame 13 = .ok (.istore 4, 2) := db_cX9_isTakingTheSame_dX9_isTakingTheSame_0_0.2.2.2.2.2.2.2.2.2.1
theorem dX9_isTakingTheSame_15 : decode cX9_isTakingTheSame 15 = .ok (.iload 4, 2) := db_cX9_isTakingTheSame_dX9_isTakingTheSame_0_0.2.2.2.2.2.2.2.2.2.2.1
theorem dX9_isTakingTheSame_17 : decode cX9_isTakingTheSame 17 = .ok (.iload_n 3, 1) := db_cX9_isTakingTheSame_dX9_isTakingTheSame_0_0.2.2.2.2.2.2.2.2.2.2.2
set_option maxRecDepth 100000 in
theorem db_cX9_isTakingTheSame_dX9_isTakingTheSame_18_1 : (decode cX9_isTakingTheSame 18 = .ok (.if_icmp .ge 38, 3)) ∧ (decode cX9_isTakingTheSame 21 = .ok (.aload_n 0, 1)) ∧ (decode cX9_isTakingTheSame 22 = .ok (.getfield 66, 3)) ∧ (decode cX9_isTakingTheSame 25 = .ok (.aload_n 0, 1)) ∧ (decode cX9_isTakingTheSame 26 = .ok (.getfield 66, 3)) ∧ (decode cX9_isTakingTheSame 29 = .ok (.iload_n 2, 1)) ∧ (decode cX9_isTakingTheSame 30 = .ok (.iload 4, 2)) ∧ (decode cX9_isTakingTheSame 32 = .ok (.invokevirtual 187, 3)) ∧ (decode cX9_isTakingTheSame 35 = .ok (.invokevirtual 195, 3)) ∧ (decode cX9_isTakingTheSame 38 = .ok (.aload_n 1, 1)) ∧ (decode cX9_isTakingTheSame 39 = .ok (.iload_n 2, 1)) ∧ (decode cX9_isTakingTheSame 40 = .ok (.iload 4, 2)) := by decide +kernel
theorem dX9_isTakingTheSame_18 : decode cX9_isTakingTheSame 18 = .ok (.if_icmp .ge 38, 3) := db_cX9_isTakingTheSame_dX9_isTakingTheSame_18_1.1
theorem dX9_isTakingTheSame_21 : decode cX9_isTakingTheSame 21 = .ok (.aload_n 0, 1) := db_cX9_isTakingTheSame_dX9_isTakingTheSame_18_1.2.1
theorem dX9_isTakingTheSame_22 : decode cX9_isTakingTheSame 22 = .ok (.getfield 66, 3) := db_cX9_isTakingTheSame_dX9_isTakingTheSame_18_1.2.2.1
theorem dX9_isTakingTheSame_25 : decode cX9_isTakingTheSame 25 = .ok (.aload_n 0, 1) := db_cX9_isTakingTheSame_dX9_isTakingTheSame_18_1.2.2.2.1
theorem dX9_isTakingTheSame_26 : decode cX9_isTakingTheSame 26 = .ok (.getfield 66, 3) := db_cX9_isTakingTheSame_dX9_isTakingTheSame_18_1.2.2.2.2.1
theorem dX9_isTakingTheSame_29 : decode cX9_isTakingTheSame 29 = .ok (.iload_n 2, 1) := db_cX9_isTakingTheSame_dX9_isTakingTheSame_18_1.2.2.2.2.2.1
theorem dX9_isTakingTheSame_30 : decode cX9_isTakingTheSame 30 = .ok (.iload 4, 2) := db_cX9_isTakingTheSame_dX9_isTakingTheSame_18_1.2.2.2.2.2.2.1
theorem dX9_isTakingTheSame_32 : decode cX9_isTakingTheSame 32 = .ok (.invokevirtual 187, 3) := db_cX9_isTakingTheSame_dX9_isTakingTheSame_18_1.2.2.2.2.2.2.2.1
theorem dX9_isTakingTheSame_35 : decode cX9_isTakingTheSame 35 = .ok (.invokevirtual 195, 3) := db_cX9_isTakingTheSame_dX9_isTakingTheSame_18_1.2.2.2.2.2.2.2.2.1
theorem dX9_isTakingTheSame_38 : decode cX9_isTakingTheSame 38 = .ok (.aload_n 1, 1) := db_cX9_isTakingTheSame_dX9_isTakingTheSame_18_1.2.2.2.2.2.2.2.2.2.1
theorem dX9_isTakingTheSame_39 : decode cX9_isTakingTheSame 39 = .ok (.iload_n 2, 1) := db_cX9_isTakingTheSame_dX9_isTakingTheSame_18_1.2.2.2.2.2.2.2.2.2.2.1
theorem dX9_isTakingTheSame_40 : decode cX9_isTakingTheSame 40 = .ok (.iload 4, 2) := db_cX9_isTakingTheSame_dX9_isTakingTheSame_18_1.2.2.2.2.2.2.2.2.2.2.2
set_option maxRecDepth 100000 in
theorem db_cX9_isTakingTheSame_dX9_isTakingTheSame_42_2 : (decode cX9_isTakingTheSame 42 = .ok (.invokevirtual 176, 3)) ∧ (decode cX9_isTakingTheSame 45 = .ok (.if_icmp .eq 5, 3)) ∧ (decode cX9_isTakingTheSame 48 = .ok (.iconst 0, 1)) ∧ (decode cX9_isTakingTheSame 49 = .ok (.ireturn, 1)) ∧ (decode cX9_isTakingTheSame 50 = .ok (.iinc 4 1, 3)) ∧ (decode cX9_isTakingTheSame 53 = .ok (.goto (-38), 3)) ∧ (decode cX9_isTakingTheSame 56 = .ok (.iinc 2 1, 3)) ∧ (decode cX9_isTakingTheSame 59 = .ok (.goto (-57), 3)) ∧ (decode cX9_isTakingTheSame 62 = .ok (.iconst 1, 1)) ∧ (decode cX9_isTakingTheSame 63 = .ok (.ireturn, 1)) := by decide +kernel
theorem dX9_isTakingTheSame_42 : decode cX9_isTakingTheSame 42 = .ok (.invokevirtual 176, 3) := db_cX9_isTakingTheSame_dX9_isTakingTheSame_42_2.1
theorem dX9_isTakingTheSame_45 : decode cX9_isTakingTheSame 45 = .ok (.if_icmp .eq 5, 3) := db_cX9_isTakingTheSame_dX9_isTakingTheSame_42_2.2.1
theorem dX9_isTakingTheSame_48 : decode cX9_isTakingTheSame 48 = .ok (.iconst 0, 1) := db_cX9_isTakingTheSame_dX9_isTakingTheSame_42_2.2.2.1
theorem dX9_isTakingTheSame_49 : decode cX9_isTakingTheSame 49 = .ok (.ireturn, 1) := db_cX9_isTakingTheSame_dX9_isTakingTheSame_42_2.2.2.2.1
theorem dX9_isTakingTheSame_50 : decode cX9_isTakingTheSame 50 = .ok (.iinc 4 1, 3) := db_cX9_isTakingTheSame_dX9_isTakingTheSame_42_2.2.2.2.2.1
theorem dX9_isTakingTheSame_53 : decode cX9_isTakingTheSame 53 = .ok (.goto (-38), 3) := db_cX9_isTakingTheSame_dX9_isTakingTheSame_42_2.2.2.2.2.2.1
theorem dX9_isTakingTheSame_56 : decode cX9_isTakingTheSame 56 = .ok (.iinc 2 1, 3) := db_cX9_isTakingTheSame_dX9_isTakingTheSame_42_2.2.2.2.2.2.2.1
theorem dX9_isTakingTheSame_59 : decode cX9_isTakingTheSame 59 = .ok (.goto (-57), 3) := db_cX9_isTakingTheSame_dX9_isTakingTheSame_42_2.2.2.2.2.2.2.2.1
theorem dX9_isTakingTheSame_62 : decode cX9_isTakingTheSame 62 = .ok (.iconst 1, 1) := db_cX9_isTakingTheSame_dX9_isTakingTheSame_42_2.2.2.2.2.2.2.2.2.1
theorem dX9_isTakingTheSame_63 : decode cX9_isTakingTheSame 63 = .ok (.ireturn, 1) := db_cX9_isTakingTheSame_dX9_isTakingTheSame_42_2.2.2.2.2.2.2.2.2.2
set_option maxRecDepth 100000 in
theorem db_cJ6_bitCount_0f7a4_dJ6_bitCount_0f7a4_0_0 : (decode cJ6_bitCount_0f7a4 0 = .ok (.iload_n 0, 1)) ∧ (decode cJ6_bitCount_0f7a4 1 = .ok (.iload_n 0, 1)) ∧ (decode cJ6_bitCount_0f7a4 2 = .ok (.iconst 1, 1)) ∧ (decode cJ6_bitCount_0f7a4 3 = .ok (.iushr, 1)) ∧ (decode cJ6_bitCount_0f7a4 4 = .ok (.ldc_w 265, 3)) ∧ (decode cJ6_bitCount_0f7a4 7 = .ok (.iand, 1)) ∧ (decode cJ6_bitCount_0f7a4 8 = .ok (.isub, 1)) ∧ (decode cJ6_bitCount_0f7a4 9 = .ok (.istore_n 0, 1)) ∧ (decode cJ6_bitCount_0f7a4 10 = .ok (.iload_n 0, 1)) ∧ (decode cJ6_bitCount_0f7a4 11 = .ok (.ldc_w 266, 3)) ∧ (decode cJ6_bitCount_0f7a4 14 = .ok (.iand, 1)) ∧ (decode cJ6_bitCount_0f7a4 15 = .ok (.iload_n 0, 1)) := by decide +kernel
theorem dJ6_bitCount_0f7a4_0 : decode cJ6_bitCount_0f7a4 0 = .ok (.iload_n 0, 1) := db_cJ6_bitCount_0f7a4_dJ6_bitCount_0f7a4_0_0.1
theorem dJ6_bitCount_0f7a4_1 : decode cJ6_bitCount_0f7a4 1 = .ok (.iload_n 0, 1) := db_cJ6_bitCount_0f7a4_dJ6_bitCount_0f7a4_0_0.2.1
theorem dJ6_bitCount_0f7a4_2 : decode cJ6_bitCount_0f7a4 2 = .ok (.iconst 1, 1) := db_cJ6_bitCount_0f7a4_dJ6_bitCount_0f7a4_0_0.2.2.1
theorem dJ6_bitCount_0f7a4_3 : decode cJ6_bitCount_0f7a4 3 = .ok (.iushr, 1) := db_cJ6_bitCount_0f7a4_dJ6_bitCount_0f7a4_0_0.2.2.2.1
theorem dJ6_bitCount_0f7a4_4 : decode cJ6_bitCount_0f7a4 4 = .ok (.ldc_w 265, 3) := db_cJ6_bitCount_0f7a4_dJ6_bitCount_0f7a4_0_0.2.2.2.2.1
theorem dJ6_bitCount_0f7a4_7 : decode cJ6_bitCount_0f7a4 7 = .ok (.iand, 1) := db_cJ6_bitCount_0f7a4_dJ6_bitCount_0f7a4_0_0.2.2.2.2.2.1
theorem dJ6_bitCount_0f7a4_8 : decode cJ6_bitCount_0f7a4 8 = .ok (.isub, 1) := db_cJ6_bitCount_0f7a4_dJ6_bitCount_0f7a4_0_0.2.2.2.2.2.2.1
theorem dJ6_bitCount_0f7a4_9 : decode cJ6_bitCount_0f7a4 9 = .ok (.istore_n 0, 1) := db_cJ6_bitCount_0f7a4_dJ6_bitCount_0f7a4_0_0.2.2.2.2.2.2.2.1
theorem dJ6_bitCount_0f7a4_10 : decode cJ6_bitCount_0f7a4 10 = .ok (.iload_n 0, 1) := db_cJ6_bitCount_0f7a4_dJ6_bitCount_0f7a4_0_0.2.2.2.2.2.2.2.2.1
theorem dJ6_bitCount_0f7a4_11 : decode cJ6_bitCount_0f7a4 11 = .ok (.ldc_w 266, 3) := db_cJ6_bitCount_0f7a4_dJ6_bitCount_0f7a4_0_0.2.2.2.2.2.2.2.2.2.1
theorem dJ6_bitCount_0f7a4_14 : decode cJ6_bitCount_0f7a4 14 = .ok (.iand, 1) := db_cJ6_bitCount_0f7a4_dJ6_bitCount_0f7a4_0_0.2.2.2.2.2.2.2.2.2.2.1
theorem dJ6_bitCount_0f7a4_15 : decode cJ6_bitCount_0f7a4 15 = .ok (.iload_n 0, 1) := db_cJ6_bitCount_0f7a4_dJ6_bitCount_0f7a4_0_0.2.2.2.2.2.2.2.2.2.2.2
set_option maxRecDepth 100000 in
theorem db_cJ6_bitCount_0f7a4_dJ6_bitCount_0f7a4_16_1 : (decode cJ6_bitCount_0f7a4 16 = .ok (.iconst 2, 1)) ∧ (decode cJ6_bitCount_0f7a4 17 = .ok (.iushr, 1)) ∧ (decode cJ6_bitCount_0f7a4 18 = .ok (.ldc_w 266, 3)) ∧ (decode cJ6_bitCount_0f7a4 21 = .ok (.iand, 1)) ∧ (decode cJ6_bitCount_0f7a4 22 = .ok (.iadd, 1)) ∧ (decode cJ6_bitCount_0f7a4 23 = .ok (.istore_n 0, 1)) ∧ (decode cJ6_bitCount_0f7a4 24 = .ok (.iload_n 0, 1)) ∧ (decode cJ6_bitCount_0f7a4 25 = .ok (.iload_n 0, 1)) ∧ (decode cJ6_bitCount_0f7a4 26 = .ok (.iconst 4, 1)) ∧ (decode cJ6_bitCount_0f7a4 27 = .ok (.iushr, 1)) ∧ (decode cJ6_bitCount_0f7a4 28 = .ok (.iadd, 1)) ∧ (decode cJ6_bitCount_0f7a4 29 = .ok (.ldc_w 267, 3)) := by decide +kernel
theorem dJ6_bitCount_0f7a4_16 : decode cJ6_bitCount_0f7a4 16 = .ok (.iconst 2, 1) := db_cJ6_bitCount_0f7a4_dJ6_bitCount_0f7a4_16_1.1
theorem dJ6_bitCount_0f7a4_17 : decode cJ6_bitCount_0f7a4 17 = .ok (.iushr, 1) := db_cJ6_bitCount_0f7a4_dJ6_bitCount_0f7a4_16_1.2.1
theorem dJ6_bitCount_0f7a4_18 : decode cJ6_bitCount_0f7a4 18 = .ok (.ldc_w 266, 3) := db_cJ6_bitCount_0f7a4_dJ6_bitCount_0f7a4_16_1.2.2.1
theorem dJ6_bitCount_0f7a4_21 : decode cJ6_bitCount_0f7a4 21 = .ok (.iand, 1) := db_cJ6_bitCount_0f7a4_dJ6_bitCount_0f7a4_16_1.2.2.2.1
theorem dJ6_bitCount_0f7a4_22 : decode cJ6_bitCount_0f7a4 22 = .ok (.iadd, 1) := db_cJ6_bitCount_0f7a4_dJ6_bitCount_0f7a4_16_1.2.2.2.2.1
theorem dJ6_bitCount_0f7a4_23 : decode cJ6_bitCount_0f7a4 23 = .ok (.istore_n 0, 1) := db_cJ6_bitCount_0f7a4_dJ6_bitCount_0f7a4_16_1.2.2.2.2.2.1
theorem dJ6_bitCount_0f7a4_24 : decode cJ6_bitCount_0f7a4 24 = .ok (.iload_n 0, 1) := db_cJ6_bitCount_0f7a4_dJ6_bitCount_0f7a4_16_1.2.2.2.2.2.2.1
theorem dJ6_bitCount_0f7a4_25 : decode cJ6_bitCount_0f7a4 25 = .ok (.iload_n 0, 1) := db_cJ6_bitCount_0f7a4_dJ6_bitCount_0f7a4_16_1.2.2.2.2.2.2.2.1
theorem dJ6_bitCount_0f7a4_26 : decode cJ6_bitCount_0f7a4 26 = .ok (.iconst 4, 1) := db_cJ6_bitCount_0f7a4_dJ6_bitCount_0f7a4_16_1.2.2.2.2.2.2.2.2.1
theorem dJ6_bitCount_0f7a4_27 : decode cJ6_bitCount_0f7a4 27 = .ok (.iushr, 1) := db_cJ6_bitCount_0f7a4_dJ6_bitCount_0f7a4_16_1.2.2.2.2.2.2.2.2.2.1
theorem dJ6_bitCount_0f7a4_28 : decode cJ6_bitCount_0f7a4 28 = .ok (.iadd, 1) := db_cJ6_bitCount_0f7a4_dJ6_bitCount_0f7a4_16_1.2.2.2.2.2.2.2.2.2.2.1
theorem dJ6_bitCount_0f7a4_29 : decode cJ6_bitCount_0f7a4 29 = .ok (.ldc_w 267, 3) := db_cJ6_bitCount_0f7a4_dJ6_bitCount_0f7a4_16_1.2.2.2.2.2.2.2.2.2.2.2
set_option maxRecDepth 100000 in
theorem db_cJ6_bitCount_0f7a4_dJ6_bitCount_0f7a4_32_2 : (decode cJ6_bitCount_0f7a4 32 = .ok (.iand, 1)) ∧ (decode cJ6_bitCount_0f7a4 33 = .ok (.istore_n 0, 1)) ∧ (decode cJ6_bitCount_0f7a4 34 = .ok (.iload_n 0, 1)) ∧ (decode cJ6_bitCount_0f7a4 35 = .ok (.iload_n 0, 1)) ∧ (decode cJ6_bitCount_0f7a4 36 = .ok (.bipush 8, 2)) ∧ (decode cJ6_bitCount_0f7a4 38 = .ok (.iushr, 1)) ∧ (decode cJ6_bitCount_0f7a4 39 = .ok (.iadd, 1)) ∧ (decode cJ6_bitCount_0f7a4 40 = .ok (.istore_n 0, 1)) ∧ (decode cJ6_bitCount_0f7a4 41 = .ok (.iload_n 0, 1)) ∧ (decode cJ6_bitCount_0f7a4 42 = .ok (.iload_n 0, 1)) ∧ (decode cJ6_bitCount_0f7a4 43 = .ok (.bipush 16, 2)) ∧ (decode cJ6_bitCount_0f7a4 45 = .ok (.iushr, 1)) := by decide +kernel
theorem dJ6_bitCount_0f7a4_32 : decode cJ6_bitCount_0f7a4 32 = .ok (.iand, 1) := db_cJ6_bitCount_0f7a4_dJ6_bitCount_0f7a4_32_2.1
theorem dJ6_bitCount_0f7a4_33 : decode cJ6_bitCount_0f7a4 33 = .ok (.istore_n 0, 1) := db_cJ6_bitCount_0f7a4_dJ6_bitCount_0f7a4_32_2.2.1
theorem dJ6_bitCount_0f7a4_34 : decode cJ6_bitCount_0f7a4 34 = .ok (.iload_n 0, 1) := db_cJ6_bitCount_0f7a4_dJ6_bitCount_0f7a4_32_2.2.2.1
theorem dJ6_bitCount_0f7a4_35 : decode cJ6_bitCount_0f7a4 35 = .ok (.iload_n 0, 1) := db_cJ6_bitCount_0f7a4_dJ6_bitCount_0f7a4_32_2.2.2.2.1
theorem dJ6_bitCount_0f7a4_36 : decode cJ6_bitCount_0f7a4 36 = .ok (.bipush 8, 2) := db_cJ6_bitCount_0f7a4_dJ6_bitCount_0f7a4_32_2.2.2.2.2.1
theorem dJ6_bitCount_0f7a4_38 : decode cJ6_bitCount_0f7a4 38 = .ok (.iushr, 1) := db_cJ6_bitCount_0f7a4_dJ6_bitCount_0f7a4_32_2.2.2.2.2.2.1
theorem dJ6_bitCount_0f7a4_39 : decode cJ6_bitCount_0f7a4 39 = .ok (.iadd, 1) := db_cJ6_bitCount_0f7a4_dJ6_bitCount_0f7a4_32_2.2.2.2.2.2.2.1
theorem dJ6_bitCount_0f7a4_40 : decode cJ6_bitCount_0f7a4 40 = .ok (.istore_n 0, 1) := db_cJ6_bitCount_0f7a4_dJ6_bitCount_0f7a4_32_2.2.2.2.2.2.2.2.1
theorem dJ6_bitCount_0f7a4_41 : decode cJ6_bitCount_0f7a4 41 = .ok (.iload_n 0, 1) := db_cJ6_bitCount_0f7a4_dJ6_bitCount_0f7a4_32_2.2.2.2.2.2.2.2.2.1
theorem dJ6_bitCount_0f7a4_42 : decode cJ6_bitCount_0f7a4 42 = .ok (.iload_n 0, 1) := db_cJ6_bitCount_0f7a4_dJ6_bitCount_0f7a4_32_2.2.2.2.2.2.2.2.2.2.1
theorem dJ6_bitCount_0f7a4_43 : decode cJ6_bitCount_0f7a4 43 = .ok (.bipush 16, 2) := db_cJ6_bitCount_0f7a4_dJ6_bitCount_0f7a4_32_2.2.2.2.2.2.2.2.2.2.2.1
theorem dJ6_bitCount_0f7a4_45 : decode cJ6_bitCount_0f7a4 45 = .ok (.iushr, 1) := db_cJ6_bitCount_0f7a4_dJ6_bitCount_0f7a4_32_2.2.2.2.2.2.2.2.2.2.2.2
set_option maxRecDepth 100000 in
theorem db_cJ6_bitCount_0f7a4_dJ6_bitCount_0f7a4_46_3 : (decode cJ6_bitCount_0f7a4 46 = .ok (.iadd, 1)) ∧ (decode cJ6_bitCount_0f7a4 47 = .ok (.istore_n 0, 1)) ∧ (decode cJ6_bitCount_0f7a4 48 = .ok (.iload_n 0, 1)) ∧ (decode cJ6_bitCount_0f7a4 49 = .ok (.bipush 63, 2)) ∧ (decode cJ6_bitCount_0f7a4 51 = .ok (.iand, 1)) ∧ (decode cJ6_bitCount_0f7a4 52 = .ok (.ireturn, 1)) := by decide +kernel
theorem dJ6_bitCount_0f7a4_46 : decode cJ6_bitCount_0f7a4 46 = .ok (.iadd, 1) := db_cJ6_bitCount_0f7a4_dJ6_bitCount_0f7a4_46_3.1
theorem dJ6_bitCount_0f7a4_47 : decode cJ6_bitCount_0f7a4 47 = .ok (.istore_n 0, 1) := db_cJ6_bitCount_0f7a4_dJ6_bitCount_0f7a4_46_3.2.1
theorem dJ6_bitCount_0f7a4_48 : decode cJ6_bitCount_0f7a4 48 = .ok (.iload_n 0, 1) := db_cJ6_bitCount_0f7a4_dJ6_bitCount_0f7a4_46_3.2.2.1
theorem dJ6_bitCount_0f7a4_49 : decode cJ6_bitCount_0f7a4 49 = .ok (.bipush 63, 2) := db_cJ6_bitCount_0f7a4_dJ6_bitCount_0f7a4_46_3.2.2.2.1
theorem dJ6_bitCount_0f7a4_51 : decode cJ6_bitCount_0f7a4 51 = .ok (.iand, 1) := db_cJ6_bitCount_0f7a4_dJ6_bitCount_0f7a4_46_3.2.2.2.2.1
theorem dJ6_bitCount_0f7a4_52 : decode cJ6_bitCount_0f7a4 52 = .ok (.ireturn, 1) := db_cJ6_bitCount_0f7a4_dJ6_bitCount_0f7a4_46_3.2.2.2.2.2
set_option maxRecDepth 100000 in
theorem db_cX2_countArrows_dX2_countArrows_0_0 : (decode cX2_countArrows 0 = .ok (.iconst 0, 1)) ∧ (decode cX2_countArrows 1 = .ok (.istore_n 1, 1)) ∧ (decode cX2_countArrows 2 = .ok (.iconst 0, 1)) ∧ (decode cX2_countArrows 3 = .ok (.istore_n 2, 1)) ∧ (decode cX2_countArrows 4 = .ok (.iload_n 2, 1)) ∧ (decode cX2_countArrows 5 = .ok (.aload_n 0, 1)) ∧ (decode cX2_countArrows 6 = .ok (.getfield 15, 3)) ∧ (decode cX2_countArrows 9 = .ok (.if_icmp .ge 34, 3)) ∧ (decode cX2_countArrows 12 = .ok (.iconst 0, 1)) ∧ (decode cX2_countArrows 13 = .ok (.istore_n 3, 1)) ∧ (decode cX2_countArrows 14 = .ok (.iload_n 3, 1)) ∧ (decode cX2_countArrows 15 = .ok (.iconst 3, 1)) := by decide +kernel
theorem dX2_countArrows_0 : decode cX2_countArrows 0 = .ok (.iconst 0, 1) := db_cX2_countArrows_dX2_countArrows_0_0.1
theorem dX2_countArrows_1 : decode cX2_countArrows 1 = .ok (.istore_n 1, 1) := db_cX2_countArrows_dX2_countArrows_0_0.2.1
theorem dX2_countArrows_2 : decode cX2_countArrows 2 = .ok (.iconst 0, 1) := db_cX2_countArrows_dX2_countArrows_0_0.2.2.1
theorem dX2_countArrows_3 : decode cX2_countArrows 3 = .ok (.istore_n 2, 1) := db_cX2_countArrows_dX2_countArrows_0_0.2.2.2.1
theorem dX2_countArrows_4 : decode cX2_countArrows 4 = .ok (.iload_n 2, 1) := db_cX2_countArrows_dX2_countArrows_0_0.2.2.2.2.1
theorem dX2_countArrows_5 : decode cX2_countArrows 5 = .ok (.aload_n 0, 1) := db_cX2_countArrows_dX2_countArrows_0_0.2.2.2.2.2.1
theorem dX2_countArrows_6 : decode cX2_countArrows 6 = .ok (.getfield 15, 3) := db_cX2_countArrows_dX2_countArrows_0_0.2.2.2.2.2.2.1
theorem dX2_countArrows_9 : decode cX2_countArrows 9 = .ok (.if_icmp .ge 34, 3) := db_cX2_countArrows_dX2_countArrows_0_0.2.2.2.2.2.2.2.1
theorem dX2_countArrows_12 : decode cX2_countArrows 12 = .ok (.iconst 0, 1) := db_cX2_countArrows_dX2_countArrows_0_0.2.2.2.2.2.2.2.2.1
theorem dX2_countArrows_13 : decode cX2_countArrows 13 = .ok (.istore_n 3, 1) := db_cX2_countArrows_dX2_countArrows_0_0.2.2.2.2.2.2.2.2.2.1
theorem dX2_countArrows_14 : decode cX2_countArrows 14 = .ok (.iload_n 3, 1) := db_cX2_countArrows_dX2_countArrows_0_0.2.2.2.2.2.2.2.2.2.2.1
theorem dX2_countArrows_15 : decode cX2_countArrows 15 = .ok (.iconst 3, 1) := db_cX2_countArrows_dX2_countArrows_0_0.2.2.2.2.2.2.2.2.2.2.2
set_option maxRecDepth 100000 in
theorem db_cX2_countArrows_dX2_countArrows_16_1 : (decode cX2_countArrows 16 = .ok (.if_icmp .ge 21, 3)) ∧ (decode cX2_countArrows 19 = .ok (.iload_n 1, 1)) ∧ (decode cX2_countArrows 20 = .ok (.aload_n 0, 1)) ∧ (decode cX2_countArrows 21 = .ok (.iload_n 2, 1)) ∧ (decode cX2_countArrows 22 = .ok (.iload_n 3, 1)) ∧ (decode cX2_countArrows 23 = .ok (.invokevirtual 25, 3)) ∧ (decode cX2_countArrows 26 = .ok (.invokestatic 29, 3)) ∧ (decode cX2_countArrows 29 = .ok (.iadd, 1)) ∧ (decode cX2_countArrows 30 = .ok (.istore_n 1, 1)) ∧ (decode cX2_countArrows 31 = .ok (.iinc 3 1, 3)) ∧ (decode cX2_countArrows 34 = .ok (.goto (-20), 3)) ∧ (decode cX2_countArrows 37 = .ok (.iinc 2 1, 3)) := by decide +kernel
theorem dX2_countArrows_16 : decode cX2_countArrows 16 = .ok (.if_icmp .ge 21, 3) := db_cX2_countArrows_dX2_countArrows_16_1.1
theorem dX2_countArrows_19 : decode cX2_countArrows 19 = .ok (.iload_n 1, 1) := db_cX2_countArrows_dX2_countArrows_16_1.2.1
theorem dX2_countArrows_20 : decode cX2_countArrows 20 = .ok (.aload_n 0, 1) := db_cX2_countArrows_dX2_countArrows_16_1.2.2.1
theorem dX2_countArrows_21 : decode cX2_countArrows 21 = .ok (.iload_n 2, 1) := db_cX2_countArrows_dX2_countArrows_16_1.2.2.2.1
theorem dX2_countArrows_22 : decode cX2_countArrows 22 = .ok (.iload_n 3, 1) := db_cX2_countArrows_dX2_countArrows_16_1.2.2.2.2.1
theorem dX2_countArrows_23 : decode cX2_countArrows 23 = .ok (.invokevirtual 25, 3) := db_cX2_countArrows_dX2_countArrows_16_1.2.2.2.2.2.1
theorem dX2_countArrows_26 : decode cX2_countArrows 26 = .ok (.invokestatic 29, 3) := db_cX2_countArrows_dX2_countArrows_16_1.2.2.2.2.2.2.1
theorem dX2_countArrows_29 : decode cX2_countArrows 29 = .ok (.iadd, 1) := db_cX2_countArrows_dX2_countArrows_16_1.2.2.2.2.2.2.2.1
theorem dX2_countArrows_30 : decode cX2_countArrows 30 = .ok (.istore_n 1, 1) := db_cX2_countArrows_dX2_countArrows_16_1.2.2.2.2.2.2.2.2.1
theorem dX2_countArrows_31 : decode cX2_countArrows 31 = .ok (.iinc 3 1, 3) := db_cX2_countArrows_dX2_countArrows_16_1.2.2.2.2.2.2.2.2.2.1
theorem dX2_countArrows_34 : decode cX2_countArrows 34 = .ok (.goto (-20), 3) := db_cX2_countArrows_dX2_countArrows_16_1.2.2.2.2.2.2.2.2.2.2.1
theorem dX2_countArrows_37 : decode cX2_countArrows 37 = .ok (.iinc 2 1, 3) := db_cX2_countArrows_dX2_countArrows_16_1.2.2.2.2.2.2.2.2.2.2.2
set_option maxRecDepth 100000 in
theorem db_cX2_countArrows_dX2_countArrows_40_2 : (decode cX2_countArrows 40 = .ok (.goto (-36), 3)) ∧ (decode cX2_countArrows 43 = .ok (.iload_n 1, 1)) ∧ (decode cX2_countArrows 44 = .ok (.ireturn, 1)) := by decide +kernel
theorem dX2_countArrows_40 : decode cX2_countArrows 40 = .ok (.goto (-36), 3) := db_cX2_countArrows_dX2_countArrows_40_2.1
theorem dX2_countArrows_43 : decode cX2_countArrows 43 = .ok (.iload_n 1, 1) := db_cX2_countArrows_dX2_countArrows_40_2.2.1
theorem dX2_countArrows_44 : decode cX2_countArrows 44 = .ok (.ireturn, 1) := db_cX2_countArrows_dX2_countArrows_40_2.2.2
set_option maxRecDepth 100000 in
theorem db_cX2_isPlain_dX2_isPlain_0_0 : (decode cX2_isPlain 0 = .ok (.iconst 0, 1)) ∧ (decode cX2_isPlain 1 = .ok (.istore_n 1, 1)) ∧ (decode cX2_isPlain 2 = .ok (.iload_n 1, 1)) ∧ (decode cX2_isPlain 3 = .ok (.aload_n 0, 1)) ∧ (decode cX2_isPlain 4 = .ok (.getfield 15, 3)) ∧ (decode cX2_isPlain 7 = .ok (.if_icmp .ge 37, 3)) ∧ (decode cX2_isPlain 10 = .ok (.iconst 0, 1)) ∧ (decode cX2_isPlain 11 = .ok (.istore_n 2, 1)) ∧ (decode cX2_isPlain 12 = .ok (.iload_n 2, 1)) ∧ (decode cX2_isPlain 13 = .ok (.iconst 3, 1)) ∧ (decode cX2_isPlain 14 = .ok (.if_icmp .ge 24, 3)) ∧ (decode cX2_isPlain 17 = .ok (.aload_n 0, 1)) := by decide +kernel
theorem dX2_isPlain_0 : decode cX2_isPlain 0 = .ok (.iconst 0, 1) := db_cX2_isPlain_dX2_isPlain_0_0.1
theorem dX2_isPlain_1 : decode cX2_isPlain 1 = .ok (.istore_n 1, 1) := db_cX2_isPlain_dX2_isPlain_0_0.2.1
theorem dX2_isPlain_2 : decode cX2_isPlain 2 = .ok (.iload_n 1, 1) := db_cX2_isPlain_dX2_isPlain_0_0.2.2.1
theorem dX2_isPlain_3 : decode cX2_isPlain 3 = .ok (.aload_n 0, 1) := db_cX2_isPlain_dX2_isPlain_0_0.2.2.2.1
theorem dX2_isPlain_4 : decode cX2_isPlain 4 = .ok (.getfield 15, 3) := db_cX2_isPlain_dX2_isPlain_0_0.2.2.2.2.1
theorem dX2_isPlain_7 : decode cX2_isPlain 7 = .ok (.if_icmp .ge 37, 3) := db_cX2_isPlain_dX2_isPlain_0_0.2.2.2.2.2.1
theorem dX2_isPlain_10 : decode cX2_isPlain 10 = .ok (.iconst 0, 1) := db_cX2_isPlain_dX2_isPlain_0_0.2.2.2.2.2.2.1
theorem dX2_isPlain_11 : decode cX2_isPlain 11 = .ok (.istore_n 2, 1) := db_cX2_isPlain_dX2_isPlain_0_0.2.2.2.2.2.2.2.1
theorem dX2_isPlain_12 : decode cX2_isPlain 12 = .ok (.iload_n 2, 1) := db_cX2_isPlain_dX2_isPlain_0_0.2.2.2.2.2.2.2.2.1
theorem dX2_isPlain_13 : decode cX2_isPlain 13 = .ok (.iconst 3, 1) := db_cX2_isPlain_dX2_isPlain_0_0.2.2.2.2.2.2.2.2.2.1
theorem dX2_isPlain_14 : decode cX2_isPlain 14 = .ok (.if_icmp .ge 24, 3) := db_cX2_isPlain_dX2_isPlain_0_0.2.2.2.2.2.2.2.2.2.2.1
theorem dX2_isPlain_17 : decode cX2_isPlain 17 = .ok (.aload_n 0, 1) := db_cX2_isPlain_dX2_isPlain_0_0.2.2.2.2.2.2.2.2.2.2.2
set_option maxRecDepth 100000 in
theorem db_cX2_isPlain_dX2_isPlain_18_1 : (decode cX2_isPlain 18 = .ok (.iload_n 1, 1)) ∧ (decode cX2_isPlain 19 = .ok (.iload_n 2, 1)) ∧ (decode cX2_isPlain 20 = .ok (.invokevirtual 25, 3)) ∧ (decode cX2_isPlain 23 = .ok (.invokestatic 29, 3)) ∧ (decode cX2_isPlain 26 = .ok (.iconst 1, 1)) ∧ (decode cX2_isPlain 27 = .ok (.if_icmp .eq 5, 3)) ∧ (decode cX2_isPlain 30 = .ok (.iconst 0, 1)) ∧ (decode cX2_isPlain 31 = .ok (.ireturn, 1)) ∧ (decode cX2_isPlain 32 = .ok (.iinc 2 1, 3)) ∧ (decode cX2_isPlain 35 = .ok (.goto (-23), 3)) ∧ (decode cX2_isPlain 38 = .ok (.iinc 1 1, 3)) ∧ (decode cX2_isPlain 41 = .ok (.goto (-39), 3)) := by decide +kernel
theorem dX2_isPlain_18 : decode cX2_isPlain 18 = .ok (.iload_n 1, 1) := db_cX2_isPlain_dX2_isPlain_18_1.1
theorem dX2_isPlain_19 : decode cX2_isPlain 19 = .ok (.iload_n 2, 1) := db_cX2_isPlain_dX2_isPlain_18_1.2.1
theorem dX2_isPlain_20 : decode cX2_isPlain 20 = .ok (.invokevirtual 25, 3) := db_cX2_isPlain_dX2_isPlain_18_1.2.2.1
theorem dX2_isPlain_23 : decode cX2_isPlain 23 = .ok (.invokestatic 29, 3) := db_cX2_isPlain_dX2_isPlain_18_1.2.2.2.1
theorem dX2_isPlain_26 : decode cX2_isPlain 26 = .ok (.iconst 1, 1) := db_cX2_isPlain_dX2_isPlain_18_1.2.2.2.2.1
theorem dX2_isPlain_27 : decode cX2_isPlain 27 = .ok (.if_icmp .eq 5, 3) := db_cX2_isPlain_dX2_isPlain_18_1.2.2.2.2.2.1
theorem dX2_isPlain_30 : decode cX2_isPlain 30 = .ok (.iconst 0, 1) := db_cX2_isPlain_dX2_isPlain_18_1.2.2.2.2.2.2.1
theorem dX2_isPlain_31 : decode cX2_isPlain 31 = .ok (.ireturn, 1) := db_cX2_isPlain_dX2_isPlain_18_1.2.2.2.2.2.2.2.1
theorem dX2_isPlain_32 : decode cX2_isPlain 32 = .ok (.iinc 2 1, 3) := db_cX2_isPlain_dX2_isPlain_18_1.2.2.2.2.2.2.2.2.1
theorem dX2_isPlain_35 : decode cX2_isPlain 35 = .ok (.goto (-23), 3) := db_cX2_isPlain_dX2_isPlain_18_1.2.2.2.2.2.2.2.2.2.1
theorem dX2_isPlain_38 : decode cX2_isPlain 38 = .ok (.iinc 1 1, 3) := db_cX2_isPlain_dX2_isPlain_18_1.2.2.2.2.2.2.2.2.2.2.1
theorem dX2_isPlain_41 : decode cX2_isPlain 41 = .ok (.goto (-39), 3) := db_cX2_isPlain_dX2_isPlain_18_1.2.2.2.2.2.2.2.2.2.2.2
set_option maxRecDepth 100000 in
theorem db_cX2_isPlain_dX2_isPlain_44_2 : (decode cX2_isPlain 44 = .ok (.aload_n 0, 1)) ∧ (decode cX2_isPlain 45 = .ok (.getfield 9, 3)) ∧ (decode cX2_isPlain 48 = .ok (.invokestatic 29, 3)) ∧ (decode cX2_isPlain 51 = .ok (.iconst 1, 1)) ∧ (decode cX2_isPlain 52 = .ok (.if_icmp .ne 7, 3)) ∧ (decode cX2_isPlain 55 = .ok (.iconst 1, 1)) ∧ (decode cX2_isPlain 56 = .ok (.goto 4, 3)) ∧ (decode cX2_isPlain 59 = .ok (.iconst 0, 1)) ∧ (decode cX2_isPlain 60 = .ok (.ireturn, 1)) := by decide +kernel
theorem dX2_isPlain_44 : decode cX2_isPlain 44 = .ok (.aload_n 0, 1) := db_cX2_isPlain_dX2_isPlain_44_2.1
theorem dX2_isPlain_45 : decode cX2_isPlain 45 = .ok (.getfield 9, 3) := db_cX2_isPlain_dX2_isPlain_44_2.2.1
theorem dX2_isPlain_48 : decode cX2_isPlain 48 = .ok (.invokestatic 29, 3) := db_cX2_isPlain_dX2_isPlain_44_2.2.2.1
theorem dX2_isPlain_51 : decode cX2_isPlain 51 = .ok (.iconst 1, 1) := db_cX2_isPlain_dX2_isPlain_44_2.2.2.2.1
theorem dX2_isPlain_52 : decode cX2_isPlain 52 = .ok (.if_icmp .ne 7, 3) := db_cX2_isPlain_dX2_isPlain_44_2.2.2.2.2.1
theorem dX2_isPlain_55 : decode cX2_isPlain 55 = .ok (.iconst 1, 1) := db_cX2_isPlain_dX2_isPlain_44_2.2.2.2.2.2.1
theorem dX2_isPlain_56 : decode cX2_isPlain 56 = .ok (.goto 4, 3) := db_cX2_isPlain_dX2_isPlain_44_2.2.2.2.2.2.2.1
theorem dX2_isPlain_59 : decode cX2_isPlain 59 = .ok (.iconst 0, 1) := db_cX2_isPlain_dX2_isPlain_44_2.2.2.2.2.2.2.2.1
theorem dX2_isPlain_60 : decode cX2_isPlain 60 = .ok (.ireturn, 1) := db_cX2_isPlain_dX2_isPlain_44_2.2.2.2.2.2.2.2.2
set_option maxRecDepth 100000 in
theorem db_cX9_addMachine_dX9_addMachine_0_0 : (decode cX9_addMachine 0 = .ok (.lload_n 0, 1)) ∧ (decode cX9_addMachine 1 = .ok (.ldc2_w 267, 3)) ∧ (decode cX9_addMachine 4 = .ok (.lmul, 1)) ∧ (decode cX9_addMachine 5 = .ok (.aload_n 2, 1)) ∧ (decode cX9_addMachine 6 = .ok (.getfield 151, 3)) ∧ (decode cX9_addMachine 9 = .ok (.i2l, 1)) ∧ (decode cX9_addMachine 10 = .ok (.ladd, 1)) ∧ (decode cX9_addMachine 11 = .ok (.lstore_n 3, 1)) ∧ (decode cX9_addMachine 12 = .ok (.lload_n 3, 1)) ∧ (decode cX9_addMachine 13 = .ok (.ldc2_w 267, 3)) ∧ (decode cX9_addMachine 16 = .ok (.lmul, 1)) ∧ (decode cX9_addMachine 17 = .ok (.aload_n 2, 1)) := by decide +kernel
theorem dX9_addMachine_0 : decode cX9_addMachine 0 = .ok (.lload_n 0, 1) := db_cX9_addMachine_dX9_addMachine_0_0.1
theorem dX9_addMachine_1 : decode cX9_addMachine 1 = .ok (.ldc2_w 267, 3) := db_cX9_addMachine_dX9_addMachine_0_0.2.1
theorem dX9_addMachine_4 : decode cX9_addMachine 4 = .ok (.lmul, 1) := db_cX9_addMachine_dX9_addMachine_0_0.2.2.1
theorem dX9_addMachine_5 : decode cX9_addMachine 5 = .ok (.aload_n 2, 1) := db_cX9_addMachine_dX9_addMachine_0_0.2.2.2.1
theorem dX9_addMachine_6 : decode cX9_addMachine 6 = .ok (.getfield 151, 3) := db_cX9_addMachine_dX9_addMachine_0_0.2.2.2.2.1
theorem dX9_addMachine_9 : decode cX9_addMachine 9 = .ok (.i2l, 1) := db_cX9_addMachine_dX9_addMachine_0_0.2.2.2.2.2.1
theorem dX9_addMachine_10 : decode cX9_addMachine 10 = .ok (.ladd, 1) := db_cX9_addMachine_dX9_addMachine_0_0.2.2.2.2.2.2.1
theorem dX9_addMachine_11 : decode cX9_addMachine 11 = .ok (.lstore_n 3, 1) := db_cX9_addMachine_dX9_addMachine_0_0.2.2.2.2.2.2.2.1
theorem dX9_addMachine_12 : decode cX9_addMachine 12 = .ok (.lload_n 3, 1) := db_cX9_addMachine_dX9_addMachine_0_0.2.2.2.2.2.2.2.2.1
theorem dX9_addMachine_13 : decode cX9_addMachine 13 = .ok (.ldc2_w 267, 3) := db_cX9_addMachine_dX9_addMachine_0_0.2.2.2.2.2.2.2.2.2.1
theorem dX9_addMachine_16 : decode cX9_addMachine 16 = .ok (.lmul, 1) := db_cX9_addMachine_dX9_addMachine_0_0.2.2.2.2.2.2.2.2.2.2.1
theorem dX9_addMachine_17 : decode cX9_addMachine 17 = .ok (.aload_n 2, 1) := db_cX9_addMachine_dX9_addMachine_0_0.2.2.2.2.2.2.2.2.2.2.2
set_option maxRecDepth 100000 in
theorem db_cX9_addMachine_dX9_addMachine_18_1 : (decode cX9_addMachine 18 = .ok (.invokevirtual 77, 3)) ∧ (decode cX9_addMachine 21 = .ok (.i2l, 1)) ∧ (decode cX9_addMachine 22 = .ok (.ladd, 1)) ∧ (decode cX9_addMachine 23 = .ok (.lstore_n 3, 1)) ∧ (decode cX9_addMachine 24 = .ok (.lload_n 3, 1)) ∧ (decode cX9_addMachine 25 = .ok (.ldc2_w 267, 3)) ∧ (decode cX9_addMachine 28 = .ok (.lmul, 1)) ∧ (decode cX9_addMachine 29 = .ok (.aload_n 2, 1)) ∧ (decode cX9_addMachine 30 = .ok (.getfield 115, 3)) ∧ (decode cX9_addMachine 33 = .ok (.i2l, 1)) ∧ (decode cX9_addMachine 34 = .ok (.ladd, 1)) ∧ (decode cX9_addMachine 35 = .ok (.lstore_n 3, 1)) := by decide +kernel
theorem dX9_addMachine_18 : decode cX9_addMachine 18 = .ok (.invokevirtual 77, 3) := db_cX9_addMachine_dX9_addMachine_18_1.1
theorem dX9_addMachine_21 : decode cX9_addMachine 21 = .ok (.i2l, 1) := db_cX9_addMachine_dX9_addMachine_18_1.2.1
theorem dX9_addMachine_22 : decode cX9_addMachine 22 = .ok (.ladd, 1) := db_cX9_addMachine_dX9_addMachine_18_1.2.2.1
theorem dX9_addMachine_23 : decode cX9_addMachine 23 = .ok (.lstore_n 3, 1) := db_cX9_addMachine_dX9_addMachine_18_1.2.2.2.1
theorem dX9_addMachine_24 : decode cX9_addMachine 24 = .ok (.lload_n 3, 1) := db_cX9_addMachine_dX9_addMachine_18_1.2.2.2.2.1
theorem dX9_addMachine_25 : decode cX9_addMachine 25 = .ok (.ldc2_w 267, 3) := db_cX9_addMachine_dX9_addMachine_18_1.2.2.2.2.2.1
theorem dX9_addMachine_28 : decode cX9_addMachine 28 = .ok (.lmul, 1) := db_cX9_addMachine_dX9_addMachine_18_1.2.2.2.2.2.2.1
theorem dX9_addMachine_29 : decode cX9_addMachine 29 = .ok (.aload_n 2, 1) := db_cX9_addMachine_dX9_addMachine_18_1.2.2.2.2.2.2.2.1
theorem dX9_addMachine_30 : decode cX9_addMachine 30 = .ok (.getfield 115, 3) := db_cX9_addMachine_dX9_addMachine_18_1.2.2.2.2.2.2.2.2.1
theorem dX9_addMachine_33 : decode cX9_addMachine 33 = .ok (.i2l, 1) := db_cX9_addMachine_dX9_addMachine_18_1.2.2.2.2.2.2.2.2.2.1
theorem dX9_addMachine_34 : decode cX9_addMachine 34 = .ok (.ladd, 1) := db_cX9_addMachine_dX9_addMachine_18_1.2.2.2.2.2.2.2.2.2.2.1
theorem dX9_addMachine_35 : decode cX9_addMachine 35 = .ok (.lstore_n 3, 1) := db_cX9_addMachine_dX9_addMachine_18_1.2.2.2.2.2.2.2.2.2.2.2
set_option maxRecDepth 100000 in
theorem db_cX9_addMachine_dX9_addMachine_36_2 : (decode cX9_addMachine 36 = .ok (.lload_n 3, 1)) ∧ (decode cX9_addMachine 37 = .ok (.ldc2_w 267, 3)) ∧ (decode cX9_addMachine 40 = .ok (.lmul, 1)) ∧ (decode cX9_addMachine 41 = .ok (.aload_n 2, 1)) ∧ (decode cX9_addMachine 42 = .ok (.getfield 111, 3)) ∧ (decode cX9_addMachine 45 = .ok (.i2l, 1)) ∧ (decode cX9_addMachine 46 = .ok (.ladd, 1)) ∧ (decode cX9_addMachine 47 = .ok (.lstore_n 3, 1)) ∧ (decode cX9_addMachine 48 = .ok (.lload_n 3, 1)) ∧ (decode cX9_addMachine 49 = .ok (.ldc2_w 267, 3)) ∧ (decode cX9_addMachine 52 = .ok (.lmul, 1)) ∧ (decode cX9_addMachine 53 = .ok (.aload_n 2, 1)) := by decide +kernel
theorem dX9_addMachine_36 : decode cX9_addMachine 36 = .ok (.lload_n 3, 1) := db_cX9_addMachine_dX9_addMachine_36_2.1
theorem dX9_addMachine_37 : decode cX9_addMachine 37 = .ok (.ldc2_w 267, 3) := db_cX9_addMachine_dX9_addMachine_36_2.2.1
theorem dX9_addMachine_40 : decode cX9_addMachine 40 = .ok (.lmul, 1) := db_cX9_addMachine_dX9_addMachine_36_2.2.2.1
theorem dX9_addMachine_41 : decode cX9_addMachine 41 = .ok (.aload_n 2, 1) := db_cX9_addMachine_dX9_addMachine_36_2.2.2.2.1
theorem dX9_addMachine_42 : decode cX9_addMachine 42 = .ok (.getfield 111, 3) := db_cX9_addMachine_dX9_addMachine_36_2.2.2.2.2.1
theorem dX9_addMachine_45 : decode cX9_addMachine 45 = .ok (.i2l, 1) := db_cX9_addMachine_dX9_addMachine_36_2.2.2.2.2.2.1
theorem dX9_addMachine_46 : decode cX9_addMachine 46 = .ok (.ladd, 1) := db_cX9_addMachine_dX9_addMachine_36_2.2.2.2.2.2.2.1
theorem dX9_addMachine_47 : decode cX9_addMachine 47 = .ok (.lstore_n 3, 1) := db_cX9_addMachine_dX9_addMachine_36_2.2.2.2.2.2.2.2.1
theorem dX9_addMachine_48 : decode cX9_addMachine 48 = .ok (.lload_n 3, 1) := db_cX9_addMachine_dX9_addMachine_36_2.2.2.2.2.2.2.2.2.1
theorem dX9_addMachine_49 : decode cX9_addMachine 49 = .ok (.ldc2_w 267, 3) := db_cX9_addMachine_dX9_addMachine_36_2.2.2.2.2.2.2.2.2.2.1
theorem dX9_addMachine_52 : decode cX9_addMachine 52 = .ok (.lmul, 1) := db_cX9_addMachine_dX9_addMachine_36_2.2.2.2.2.2.2.2.2.2.2.1
theorem dX9_addMachine_53 : decode cX9_addMachine 53 = .ok (.aload_n 2, 1) := db_cX9_addMachine_dX9_addMachine_36_2.2.2.2.2.2.2.2.2.2.2.2
set_option maxRecDepth 100000 in
theorem db_cX9_addMachine_dX9_addMachine_54_3 : (decode cX9_addMachine 54 = .ok (.invokevirtual 141, 3)) ∧ (decode cX9_addMachine 57 = .ok (.ifCond .eq 7, 3)) ∧ (decode cX9_addMachine 60 = .ok (.iconst 1, 1)) ∧ (decode cX9_addMachine 61 = .ok (.goto 4, 3)) ∧ (decode cX9_addMachine 64 = .ok (.iconst 0, 1)) ∧ (decode cX9_addMachine 65 = .ok (.i2l, 1)) ∧ (decode cX9_addMachine 66 = .ok (.ladd, 1)) ∧ (decode cX9_addMachine 67 = .ok (.lstore_n 3, 1)) ∧ (decode cX9_addMachine 68 = .ok (.iconst 0, 1)) ∧ (decode cX9_addMachine 69 = .ok (.istore 5, 2)) ∧ (decode cX9_addMachine 71 = .ok (.iload 5, 2)) ∧ (decode cX9_addMachine 73 = .ok (.aload_n 2, 1)) := by decide +kernel
theorem dX9_addMachine_54 : decode cX9_addMachine 54 = .ok (.invokevirtual 141, 3) := db_cX9_addMachine_dX9_addMachine_54_3.1
theorem dX9_addMachine_57 : decode cX9_addMachine 57 = .ok (.ifCond .eq 7, 3) := db_cX9_addMachine_dX9_addMachine_54_3.2.1
theorem dX9_addMachine_60 : decode cX9_addMachine 60 = .ok (.iconst 1, 1) := db_cX9_addMachine_dX9_addMachine_54_3.2.2.1
theorem dX9_addMachine_61 : decode cX9_addMachine 61 = .ok (.goto 4, 3) := db_cX9_addMachine_dX9_addMachine_54_3.2.2.2.1
theorem dX9_addMachine_64 : decode cX9_addMachine 64 = .ok (.iconst 0, 1) := db_cX9_addMachine_dX9_addMachine_54_3.2.2.2.2.1
theorem dX9_addMachine_65 : decode cX9_addMachine 65 = .ok (.i2l, 1) := db_cX9_addMachine_dX9_addMachine_54_3.2.2.2.2.2.1
theorem dX9_addMachine_66 : decode cX9_addMachine 66 = .ok (.ladd, 1) := db_cX9_addMachine_dX9_addMachine_54_3.2.2.2.2.2.2.1
theorem dX9_addMachine_67 : decode cX9_addMachine 67 = .ok (.lstore_n 3, 1) := db_cX9_addMachine_dX9_addMachine_54_3.2.2.2.2.2.2.2.1
theorem dX9_addMachine_68 : decode cX9_addMachine 68 = .ok (.iconst 0, 1) := db_cX9_addMachine_dX9_addMachine_54_3.2.2.2.2.2.2.2.2.1
theorem dX9_addMachine_69 : decode cX9_addMachine 69 = .ok (.istore 5, 2) := db_cX9_addMachine_dX9_addMachine_54_3.2.2.2.2.2.2.2.2.2.1
theorem dX9_addMachine_71 : decode cX9_addMachine 71 = .ok (.iload 5, 2) := db_cX9_addMachine_dX9_addMachine_54_3.2.2.2.2.2.2.2.2.2.2.1
theorem dX9_addMachine_73 : decode cX9_addMachine 73 = .ok (.aload_n 2, 1) := db_cX9_addMachine_dX9_addMachine_54_3.2.2.2.2.2.2.2.2.2.2.2
set_option maxRecDepth 100000 in
theorem db_cX9_addMachine_dX9_addMachine_74_4 : (decode cX9_addMachine 74 = .ok (.getfield 151, 3)) ∧ (decode cX9_addMachine 77 = .ok (.if_icmp .ge 40, 3)) ∧ (decode cX9_addMachine 80 = .ok (.iconst 0, 1)) ∧ (decode cX9_addMachine 81 = .ok (.istore 6, 2)) ∧ (decode cX9_addMachine 83 = .ok (.iload 6, 2)) ∧ (decode cX9_addMachine 85 = .ok (.iconst 3, 1)) ∧ (decode cX9_addMachine 86 = .ok (.if_icmp .ge 25, 3)) ∧ (decode cX9_addMachine 89 = .ok (.lload_n 3, 1)) ∧ (decode cX9_addMachine 90 = .ok (.ldc2_w 267, 3)) ∧ (decode cX9_addMachine 93 = .ok (.lmul, 1)) ∧ (decode cX9_addMachine 94 = .ok (.aload_n 2, 1)) ∧ (decode cX9_addMachine 95 = .ok (.iload 5, 2)) := by decide +kernel
theorem dX9_addMachine_74 : decode cX9_addMachine 74 = .ok (.getfield 151, 3) := db_cX9_addMachine_dX9_addMachine_74_4.1
theorem dX9_addMachine_77 : decode cX9_addMachine 77 = .ok (.if_icmp .ge 40, 3) := db_cX9_addMachine_dX9_addMachine_74_4.2.1
theorem dX9_addMachine_80 : decode cX9_addMachine 80 = .ok (.iconst 0, 1) := db_cX9_addMachine_dX9_addMachine_74_4.2.2.1
theorem dX9_addMachine_81 : decode cX9_addMachine 81 = .ok (.istore 6, 2) := db_cX9_addMachine_dX9_addMachine_74_4.2.2.2.1
theorem dX9_addMachine_83 : decode cX9_addMachine 83 = .ok (.iload 6, 2) := db_cX9_addMachine_dX9_addMachine_74_4.2.2.2.2.1
theorem dX9_addMachine_85 : decode cX9_addMachine 85 = .ok (.iconst 3, 1) := db_cX9_addMachine_dX9_addMachine_74_4.2.2.2.2.2.1
theorem dX9_addMachine_86 : decode cX9_addMachine 86 = .ok (.if_icmp .ge 25, 3) := db_cX9_addMachine_dX9_addMachine_74_4.2.2.2.2.2.2.1
theorem dX9_addMachine_89 : decode cX9_addMachine 89 = .ok (.lload_n 3, 1) := db_cX9_addMachine_dX9_addMachine_74_4.2.2.2.2.2.2.2.1
theorem dX9_addMachine_90 : decode cX9_addMachine 90 = .ok (.ldc2_w 267, 3) := db_cX9_addMachine_dX9_addMachine_74_4.2.2.2.2.2.2.2.2.1
theorem dX9_addMachine_93 : decode cX9_addMachine 93 = .ok (.lmul, 1) := db_cX9_addMachine_dX9_addMachine_74_4.2.2.2.2.2.2.2.2.2.1
theorem dX9_addMachine_94 : decode cX9_addMachine 94 = .ok (.aload_n 2, 1) := db_cX9_addMachine_dX9_addMachine_74_4.2.2.2.2.2.2.2.2.2.2.1
theorem dX9_addMachine_95 : decode cX9_addMachine 95 = .ok (.iload 5, 2) := db_cX9_addMachine_dX9_addMachine_74_4.2.2.2.2.2.2.2.2.2.2.2
set_option maxRecDepth 100000 in
theorem db_cX9_addMachine_dX9_addMachine_97_5 : (decode cX9_addMachine 97 = .ok (.iload 6, 2)) ∧ (decode cX9_addMachine 99 = .ok (.invokevirtual 95, 3)) ∧ (decode cX9_addMachine 102 = .ok (.i2l, 1)) ∧ (decode cX9_addMachine 103 = .ok (.ladd, 1)) ∧ (decode cX9_addMachine 104 = .ok (.lstore_n 3, 1)) ∧ (decode cX9_addMachine 105 = .ok (.iinc 6 1, 3)) ∧ (decode cX9_addMachine 108 = .ok (.goto (-25), 3)) ∧ (decode cX9_addMachine 111 = .ok (.iinc 5 1, 3)) ∧ (decode cX9_addMachine 114 = .ok (.goto (-43), 3)) ∧ (decode cX9_addMachine 117 = .ok (.lload_n 3, 1)) ∧ (decode cX9_addMachine 118 = .ok (.lreturn, 1)) := by decide +kernel
theorem dX9_addMachine_97 : decode cX9_addMachine 97 = .ok (.iload 6, 2) := db_cX9_addMachine_dX9_addMachine_97_5.1
theorem dX9_addMachine_99 : decode cX9_addMachine 99 = .ok (.invokevirtual 95, 3) := db_cX9_addMachine_dX9_addMachine_97_5.2.1
theorem dX9_addMachine_102 : decode cX9_addMachine 102 = .ok (.i2l, 1) := db_cX9_addMachine_dX9_addMachine_97_5.2.2.1
theorem dX9_addMachine_103 : decode cX9_addMachine 103 = .ok (.ladd, 1) := db_cX9_addMachine_dX9_addMachine_97_5.2.2.2.1
theorem dX9_addMachine_104 : decode cX9_addMachine 104 = .ok (.lstore_n 3, 1) := db_cX9_addMachine_dX9_addMachine_97_5.2.2.2.2.1
theorem dX9_addMachine_105 : decode cX9_addMachine 105 = .ok (.iinc 6 1, 3) := db_cX9_addMachine_dX9_addMachine_97_5.2.2.2.2.2.1
theorem dX9_addMachine_108 : decode cX9_addMachine 108 = .ok (.goto (-25), 3) := db_cX9_addMachine_dX9_addMachine_97_5.2.2.2.2.2.2.1
theorem dX9_addMachine_111 : decode cX9_addMachine 111 = .ok (.iinc 5 1, 3) := db_cX9_addMachine_dX9_addMachine_97_5.2.2.2.2.2.2.2.1
theorem dX9_addMachine_114 : decode cX9_addMachine 114 = .ok (.goto (-43), 3) := db_cX9_addMachine_dX9_addMachine_97_5.2.2.2.2.2.2.2.2.1
theorem dX9_addMachine_117 : decode cX9_addMachine 117 = .ok (.lload_n 3, 1) := db_cX9_addMachine_dX9_addMachine_97_5.2.2.2.2.2.2.2.2.2.1
theorem dX9_addMachine_118 : decode cX9_addMachine 118 = .ok (.lreturn, 1) := db_cX9_addMachine_dX9_addMachine_97_5.2.2.2.2.2.2.2.2.2.2
set_option maxRecDepth 100000 in
theorem db_cX0_restart_dX0_restart_0_0 : (decode cX0_restart 0 = .ok (.aload_n 0, 1)) ∧ (decode cX0_restart 1 = .ok (.iload_n 1, 1)) ∧ (decode cX0_restart 2 = .ok (.putfield 7, 3)) ∧ (decode cX0_restart 5 = .ok (.return_, 1)) := by decide +kernel
theorem dX0_restart_0 : decode cX0_restart 0 = .ok (.aload_n 0, 1) := db_cX0_restart_dX0_restart_0_0.1
theorem dX0_restart_1 : decode cX0_restart 1 = .ok (.iload_n 1, 1) := db_cX0_restart_dX0_restart_0_0.2.1
theorem dX0_restart_2 : decode cX0_restart 2 = .ok (.putfield 7, 3) := db_cX0_restart_dX0_restart_0_0.2.2.1
theorem dX0_restart_5 : decode cX0_restart 5 = .ok (.return_, 1) := db_cX0_restart_dX0_restart_0_0.2.2.2
set_option maxRecDepth 100000 in
theorem db_cX0_draw_dX0_draw_0_0 : (decode cX0_draw 0 = .ok (.aload_n 0, 1)) ∧ (decode cX0_draw 1 = .ok (.aload_n 0, 1)) ∧ (decode cX0_draw 2 = .ok (.getfield 7, 3)) ∧ (decode cX0_draw 5 = .ok (.sipush 25173, 3)) ∧ (decode cX0_draw 8 = .ok (.imul, 1)) ∧ (decode cX0_draw 9 = .ok (.sipush 13849, 3)) ∧ (decode cX0_draw 12 = .ok (.iadd, 1)) ∧ (decode cX0_draw 13 = .ok (.ldc 13, 2)) ∧ (decode cX0_draw 15 = .ok (.irem, 1)) ∧ (decode cX0_draw 16 = .ok (.putfield 7, 3)) ∧ (decode cX0_draw 19 = .ok (.aload_n 0, 1)) ∧ (decode cX0_draw 20 = .ok (.getfield 7, 3)) := by decide +kernel
theorem dX0_draw_0 : decode cX0_draw 0 = .ok (.aload_n 0, 1) := db_cX0_draw_dX0_draw_0_0.1
theorem dX0_draw_1 : decode cX0_draw 1 = .ok (.aload_n 0, 1) := db_cX0_draw_dX0_draw_0_0.2.1
theorem dX0_draw_2 : decode cX0_draw 2 = .ok (.getfield 7, 3) := db_cX0_draw_dX0_draw_0_0.2.2.1
theorem dX0_draw_5 : decode cX0_draw 5 = .ok (.sipush 25173, 3) := db_cX0_draw_dX0_draw_0_0.2.2.2.1
theorem dX0_draw_8 : decode cX0_draw 8 = .ok (.imul, 1) := db_cX0_draw_dX0_draw_0_0.2.2.2.2.1
theorem dX0_draw_9 : decode cX0_draw 9 = .ok (.sipush 13849, 3) := db_cX0_draw_dX0_draw_0_0.2.2.2.2.2.1
theorem dX0_draw_12 : decode cX0_draw 12 = .ok (.iadd, 1) := db_cX0_draw_dX0_draw_0_0.2.2.2.2.2.2.1
theorem dX0_draw_13 : decode cX0_draw 13 = .ok (.ldc 13, 2) := db_cX0_draw_dX0_draw_0_0.2.2.2.2.2.2.2.1
theorem dX0_draw_15 : decode cX0_draw 15 = .ok (.irem, 1) := db_cX0_draw_dX0_draw_0_0.2.2.2.2.2.2.2.2.1
theorem dX0_draw_16 : decode cX0_draw 16 = .ok (.putfield 7, 3) := db_cX0_draw_dX0_draw_0_0.2.2.2.2.2.2.2.2.2.1
theorem dX0_draw_19 : decode cX0_draw 19 = .ok (.aload_n 0, 1) := db_cX0_draw_dX0_draw_0_0.2.2.2.2.2.2.2.2.2.2.1
theorem dX0_draw_20 : decode cX0_draw 20 = .ok (.getfield 7, 3) := db_cX0_draw_dX0_draw_0_0.2.2.2.2.2.2.2.2.2.2.2
set_option maxRecDepth 100000 in
theorem db_cX0_draw_dX0_draw_23_1 : (decode cX0_draw 23 = .ok (.bipush 64, 2)) ∧ (decode cX0_draw 25 = .ok (.idiv, 1)) ∧ (decode cX0_draw 26 = .ok (.ireturn, 1)) := by decide +kernel
theorem dX0_draw_23 : decode cX0_draw 23 = .ok (.bipush 64, 2) := db_cX0_draw_dX0_draw_23_1.1
theorem dX0_draw_25 : decode cX0_draw 25 = .ok (.idiv, 1) := db_cX0_draw_dX0_draw_23_1.2.1
theorem dX0_draw_26 : decode cX0_draw 26 = .ok (.ireturn, 1) := db_cX0_draw_dX0_draw_23_1.2.2
set_option maxRecDepth 100000 in
theorem db_cX1_ofOtherGoalness_dX1_ofOtherGoalness_0_0 : (decode cX1_ofOtherGoalness 0 = .ok (.iconst 0, 1)) ∧ (decode cX1_ofOtherGoalness 1 = .ok (.istore_n 2, 1)) ∧ (decode cX1_ofOtherGoalness 2 = .ok (.iconst 0, 1)) ∧ (decode cX1_ofOtherGoalness 3 = .ok (.istore_n 3, 1)) ∧ (decode cX1_ofOtherGoalness 4 = .ok (.iload_n 3, 1)) ∧ (decode cX1_ofOtherGoalness 5 = .ok (.aload_n 0, 1)) ∧ (decode cX1_ofOtherGoalness 6 = .ok (.getfield 30, 3)) ∧ (decode cX1_ofOtherGoalness 9 = .ok (.if_icmp .ge 28, 3)) ∧ (decode cX1_ofOtherGoalness 12 = .ok (.aload_n 0, 1)) ∧ (decode cX1_ofOtherGoalness 13 = .ok (.iload_n 3, 1)) ∧ (decode cX1_ofOtherGoalness 14 = .ok (.invokevirtual 48, 3)) ∧ (decode cX1_ofOtherGoalness 17 = .ok (.aload_n 0, 1)) := by decide +kernel
theorem dX1_ofOtherGoalness_0 : decode cX1_ofOtherGoalness 0 = .ok (.iconst 0, 1) := db_cX1_ofOtherGoalness_dX1_ofOtherGoalness_0_0.1
theorem dX1_ofOtherGoalness_1 : decode cX1_ofOtherGoalness 1 = .ok (.istore_n 2, 1) := db_cX1_ofOtherGoalness_dX1_ofOtherGoalness_0_0.2.1
theorem dX1_ofOtherGoalness_2 : decode cX1_ofOtherGoalness 2 = .ok (.iconst 0, 1) := db_cX1_ofOtherGoalness_dX1_ofOtherGoalness_0_0.2.2.1
theorem dX1_ofOtherGoalness_3 : decode cX1_ofOtherGoalness 3 = .ok (.istore_n 3, 1) := db_cX1_ofOtherGoalness_dX1_ofOtherGoalness_0_0.2.2.2.1
theorem dX1_ofOtherGoalness_4 : decode cX1_ofOtherGoalness 4 = .ok (.iload_n 3, 1) := db_cX1_ofOtherGoalness_dX1_ofOtherGoalness_0_0.2.2.2.2.1
theorem dX1_ofOtherGoalness_5 : decode cX1_ofOtherGoalness 5 = .ok (.aload_n 0, 1) := db_cX1_ofOtherGoalness_dX1_ofOtherGoalness_0_0.2.2.2.2.2.1
theorem dX1_ofOtherGoalness_6 : decode cX1_ofOtherGoalness 6 = .ok (.getfield 30, 3) := db_cX1_ofOtherGoalness_dX1_ofOtherGoalness_0_0.2.2.2.2.2.2.1
theorem dX1_ofOtherGoalness_9 : decode cX1_ofOtherGoalness 9 = .ok (.if_icmp .ge 28, 3) := db_cX1_ofOtherGoalness_dX1_ofOtherGoalness_0_0.2.2.2.2.2.2.2.1
theorem dX1_ofOtherGoalness_12 : decode cX1_ofOtherGoalness 12 = .ok (.aload_n 0, 1) := db_cX1_ofOtherGoalness_dX1_ofOtherGoalness_0_0.2.2.2.2.2.2.2.2.1
theorem dX1_ofOtherGoalness_13 : decode cX1_ofOtherGoalness 13 = .ok (.iload_n 3, 1) := db_cX1_ofOtherGoalness_dX1_ofOtherGoalness_0_0.2.2.2.2.2.2.2.2.2.1
theorem dX1_ofOtherGoalness_14 : decode cX1_ofOtherGoalness 14 = .ok (.invokevirtual 48, 3) := db_cX1_ofOtherGoalness_dX1_ofOtherGoalness_0_0.2.2.2.2.2.2.2.2.2.2.1
theorem dX1_ofOtherGoalness_17 : decode cX1_ofOtherGoalness 17 = .ok (.aload_n 0, 1) := db_cX1_ofOtherGoalness_dX1_ofOtherGoalness_0_0.2.2.2.2.2.2.2.2.2.2.2
set_option maxRecDepth 100000 in
theorem db_cX1_ofOtherGoalness_dX1_ofOtherGoalness_18_1 : (decode cX1_ofOtherGoalness 18 = .ok (.iload_n 1, 1)) ∧ (decode cX1_ofOtherGoalness 19 = .ok (.invokevirtual 48, 3)) ∧ (decode cX1_ofOtherGoalness 22 = .ok (.if_icmp .eq 9, 3)) ∧ (decode cX1_ofOtherGoalness 25 = .ok (.iload_n 2, 1)) ∧ (decode cX1_ofOtherGoalness 26 = .ok (.iconst 1, 1)) ∧ (decode cX1_ofOtherGoalness 27 = .ok (.iload_n 3, 1)) ∧ (decode cX1_ofOtherGoalness 28 = .ok (.ishl, 1)) ∧ (decode cX1_ofOtherGoalness 29 = .ok (.ior, 1)) ∧ (decode cX1_ofOtherGoalness 30 = .ok (.istore_n 2, 1)) ∧ (decode cX1_ofOtherGoalness 31 = .ok (.iinc 3 1, 3)) ∧ (decode cX1_ofOtherGoalness 34 = .ok (.goto (-30), 3)) ∧ (decode cX1_ofOtherGoalness 37 = .ok (.iload_n 2, 1)) := by decide +kernel
theorem dX1_ofOtherGoalness_18 : decode cX1_ofOtherGoalness 18 = .ok (.iload_n 1, 1) := db_cX1_ofOtherGoalness_dX1_ofOtherGoalness_18_1.1
theorem dX1_ofOtherGoalness_19 : decode cX1_ofOtherGoalness 19 = .ok (.invokevirtual 48, 3) := db_cX1_ofOtherGoalness_dX1_ofOtherGoalness_18_1.2.1
theorem dX1_ofOtherGoalness_22 : decode cX1_ofOtherGoalness 22 = .ok (.if_icmp .eq 9, 3) := db_cX1_ofOtherGoalness_dX1_ofOtherGoalness_18_1.2.2.1
theorem dX1_ofOtherGoalness_25 : decode cX1_ofOtherGoalness 25 = .ok (.iload_n 2, 1) := db_cX1_ofOtherGoalness_dX1_ofOtherGoalness_18_1.2.2.2.1
theorem dX1_ofOtherGoalness_26 : decode cX1_ofOtherGoalness 26 = .ok (.iconst 1, 1) := db_cX1_ofOtherGoalness_dX1_ofOtherGoalness_18_1.2.2.2.2.1
theorem dX1_ofOtherGoalness_27 : decode cX1_ofOtherGoalness 27 = .ok (.iload_n 3, 1) := db_cX1_ofOtherGoalness_dX1_ofOtherGoalness_18_1.2.2.2.2.2.1
theorem dX1_ofOtherGoalness_28 : decode cX1_ofOtherGoalness 28 = .ok (.ishl, 1) := db_cX1_ofOtherGoalness_dX1_ofOtherGoalness_18_1.2.2.2.2.2.2.1
theorem dX1_ofOtherGoalness_29 : decode cX1_ofOtherGoalness 29 = .ok (.ior, 1) := db_cX1_ofOtherGoalness_dX1_ofOtherGoalness_18_1.2.2.2.2.2.2.2.1
theorem dX1_ofOtherGoalness_30 : decode cX1_ofOtherGoalness 30 = .ok (.istore_n 2, 1) := db_cX1_ofOtherGoalness_dX1_ofOtherGoalness_18_1.2.2.2.2.2.2.2.2.1
theorem dX1_ofOtherGoalness_31 : decode cX1_ofOtherGoalness 31 = .ok (.iinc 3 1, 3) := db_cX1_ofOtherGoalness_dX1_ofOtherGoalness_18_1.2.2.2.2.2.2.2.2.2.1
theorem dX1_ofOtherGoalness_34 : decode cX1_ofOtherGoalness 34 = .ok (.goto (-30), 3) := db_cX1_ofOtherGoalness_dX1_ofOtherGoalness_18_1.2.2.2.2.2.2.2.2.2.2.1
theorem dX1_ofOtherGoalness_37 : decode cX1_ofOtherGoalness 37 = .ok (.iload_n 2, 1) := db_cX1_ofOtherGoalness_dX1_ofOtherGoalness_18_1.2.2.2.2.2.2.2.2.2.2.2
theorem dX1_ofOtherGoalness_38 : decode cX1_ofOtherGoalness 38 = .ok (.ireturn, 1) := by decide +kernel
set_option maxRecDepth 100000 in
theorem db_cX1_isLeadingToUnlike_dX1_isLeadingToUnlike_0_0 : (decode cX1_isLeadingToUnlike 0 = .ok (.iconst 0, 1)) ∧ (decode cX1_isLeadingToUnlike 1 = .ok (.istore 4, 2)) ∧ (decode cX1_isLeadingToUnlike 3 = .ok (.iload 4, 2)) ∧ (decode cX1_isLeadingToUnlike 5 = .ok (.iconst 3, 1)) ∧ (decode cX1_isLeadingToUnlike 6 = .ok (.if_icmp .ge 38, 3)) ∧ (decode cX1_isLeadingToUnlike 9 = .ok (.aload_n 0, 1)) ∧ (decode cX1_isLeadingToUnlike 10 = .ok (.getfield 23, 3)) ∧ (decode cX1_isLeadingToUnlike 13 = .ok (.aload_n 1, 1)) ∧ (decode cX1_isLeadingToUnlike 14 = .ok (.iload_n 2, 1)) ∧ (decode cX1_isLeadingToUnlike 15 = .ok (.iload 4, 2)) ∧ (decode cX1_isLeadingToUnlike 17 = .ok (.invokevirtual 59, 3)) ∧ (decode cX1_isLeadingToUnlike 20 = .ok (.invokevirtual 26, 3)) := by decide +kernel
theorem dX1_isLeadingToUnlike_0 : decode cX1_isLeadingToUnlike 0 = .ok (.iconst 0, 1) := db_cX1_isLeadingToUnlike_dX1_isLeadingToUnlike_0_0.1
theorem dX1_isLeadingToUnlike_1 : decode cX1_isLeadingToUnlike 1 = .ok (.istore 4, 2) := db_cX1_isLeadingToUnlike_dX1_isLeadingToUnlike_0_0.2.1
theorem dX1_isLeadingToUnlike_3 : decode cX1_isLeadingToUnlike 3 = .ok (.iload 4, 2) := db_cX1_isLeadingToUnlike_dX1_isLeadingToUnlike_0_0.2.2.1
theorem dX1_isLeadingToUnlike_5 : decode cX1_isLeadingToUnlike 5 = .ok (.iconst 3, 1) := db_cX1_isLeadingToUnlike_dX1_isLeadingToUnlike_0_0.2.2.2.1
theorem dX1_isLeadingToUnlike_6 : decode cX1_isLeadingToUnlike 6 = .ok (.if_icmp .ge 38, 3) := db_cX1_isLeadingToUnlike_dX1_isLeadingToUnlike_0_0.2.2.2.2.1
theorem dX1_isLeadingToUnlike_9 : decode cX1_isLeadingToUnlike 9 = .ok (.aload_n 0, 1) := db_cX1_isLeadingToUnlike_dX1_isLeadingToUnlike_0_0.2.2.2.2.2.1
theorem dX1_isLeadingToUnlike_10 : decode cX1_isLeadingToUnlike 10 = .ok (.getfield 23, 3) := db_cX1_isLeadingToUnlike_dX1_isLeadingToUnlike_0_0.2.2.2.2.2.2.1
theorem dX1_isLeadingToUnlike_13 : decode cX1_isLeadingToUnlike 13 = .ok (.aload_n 1, 1) := db_cX1_isLeadingToUnlike_dX1_isLeadingToUnlike_0_0.2.2.2.2.2.2.2.1
theorem dX1_isLeadingToUnlike_14 : decode cX1_isLeadingToUnlike 14 = .ok (.iload_n 2, 1) := db_cX1_isLeadingToUnlike_dX1_isLeadingToUnlike_0_0.2.2.2.2.2.2.2.2.1
theorem dX1_isLeadingToUnlike_15 : decode cX1_isLeadingToUnlike 15 = .ok (.iload 4, 2) := db_cX1_isLeadingToUnlike_dX1_isLeadingToUnlike_0_0.2.2.2.2.2.2.2.2.2.1
theorem dX1_isLeadingToUnlike_17 : decode cX1_isLeadingToUnlike 17 = .ok (.invokevirtual 59, 3) := db_cX1_isLeadingToUnlike_dX1_isLeadingToUnlike_0_0.2.2.2.2.2.2.2.2.2.2.1
theorem dX1_isLeadingToUnlike_20 : decode cX1_isLeadingToUnlike 20 = .ok (.invokevirtual 26, 3) := db_cX1_isLeadingToUnlike_dX1_isLeadingToUnlike_0_0.2.2.2.2.2.2.2.2.2.2.2
set_option maxRecDepth 100000 in
theorem db_cX1_isLeadingToUnlike_dX1_isLeadingToUnlike_23_1 : (decode cX1_isLeadingToUnlike 23 = .ok (.aload_n 1, 1)) ∧ (decode cX1_isLeadingToUnlike 24 = .ok (.iload_n 3, 1)) ∧ (decode cX1_isLeadingToUnlike 25 = .ok (.iload 4, 2)) ∧ (decode cX1_isLeadingToUnlike 27 = .ok (.invokevirtual 59, 3)) ∧ (decode cX1_isLeadingToUnlike 30 = .ok (.invokestatic 70, 3)) ∧ (decode cX1_isLeadingToUnlike 33 = .ok (.ifCond .eq 5, 3)) ∧ (decode cX1_isLeadingToUnlike 36 = .ok (.iconst 1, 1)) ∧ (decode cX1_isLeadingToUnlike 37 = .ok (.ireturn, 1)) ∧ (decode cX1_isLeadingToUnlike 38 = .ok (.iinc 4 1, 3)) ∧ (decode cX1_isLeadingToUnlike 41 = .ok (.goto (-38), 3)) ∧ (decode cX1_isLeadingToUnlike 44 = .ok (.iconst 0, 1)) ∧ (decode cX1_isLeadingToUnlike 45 = .ok (.ireturn, 1)) := by decide +kernel
theorem dX1_isLeadingToUnlike_23 : decode cX1_isLeadingToUnlike 23 = .ok (.aload_n 1, 1) := db_cX1_isLeadingToUnlike_dX1_isLeadingToUnlike_23_1.1
theorem dX1_isLeadingToUnlike_24 : decode cX1_isLeadingToUnlike 24 = .ok (.iload_n 3, 1) := db_cX1_isLeadingToUnlike_dX1_isLeadingToUnlike_23_1.2.1
theorem dX1_isLeadingToUnlike_25 : decode cX1_isLeadingToUnlike 25 = .ok (.iload 4, 2) := db_cX1_isLeadingToUnlike_dX1_isLeadingToUnlike_23_1.2.2.1
theorem dX1_isLeadingToUnlike_27 : decode cX1_isLeadingToUnlike 27 = .ok (.invokevirtual 59, 3) := db_cX1_isLeadingToUnlike_dX1_isLeadingToUnlike_23_1.2.2.2.1
theorem dX1_isLeadingToUnlike_30 : decode cX1_isLeadingToUnlike 30 = .ok (.invokestatic 70, 3) := db_cX1_isLeadingToUnlike_dX1_isLeadingToUnlike_23_1.2.2.2.2.1
theorem dX1_isLeadingToUnlike_33 : decode cX1_isLeadingToUnlike 33 = .ok (.ifCond .eq 5, 3) := db_cX1_isLeadingToUnlike_dX1_isLeadingToUnlike_23_1.2.2.2.2.2.1
theorem dX1_isLeadingToUnlike_36 : decode cX1_isLeadingToUnlike 36 = .ok (.iconst 1, 1) := db_cX1_isLeadingToUnlike_dX1_isLeadingToUnlike_23_1.2.2.2.2.2.2.1
theorem dX1_isLeadingToUnlike_37 : decode cX1_isLeadingToUnlike 37 = .ok (.ireturn, 1) := db_cX1_isLeadingToUnlike_dX1_isLeadingToUnlike_23_1.2.2.2.2.2.2.2.1
theorem dX1_isLeadingToUnlike_38 : decode cX1_isLeadingToUnlike 38 = .ok (.iinc 4 1, 3) := db_cX1_isLeadingToUnlike_dX1_isLeadingToUnlike_23_1.2.2.2.2.2.2.2.2.1
theorem dX1_isLeadingToUnlike_41 : decode cX1_isLeadingToUnlike 41 = .ok (.goto (-38), 3) := db_cX1_isLeadingToUnlike_dX1_isLeadingToUnlike_23_1.2.2.2.2.2.2.2.2.2.1
theorem dX1_isLeadingToUnlike_44 : decode cX1_isLeadingToUnlike 44 = .ok (.iconst 0, 1) := db_cX1_isLeadingToUnlike_dX1_isLeadingToUnlike_23_1.2.2.2.2.2.2.2.2.2.2.1
theorem dX1_isLeadingToUnlike_45 : decode cX1_isLeadingToUnlike 45 = .ok (.ireturn, 1) := db_cX1_isLeadingToUnlike_dX1_isLeadingToUnlike_23_1.2.2.2.2.2.2.2.2.2.2.2
set_option maxRecDepth 100000 in
theorem db_cX1_tellFurther_dX1_tellFurther_0_0 : (decode cX1_tellFurther 0 = .ok (.iconst 0, 1)) ∧ (decode cX1_tellFurther 1 = .ok (.istore_n 2, 1)) ∧ (decode cX1_tellFurther 2 = .ok (.iconst 0, 1)) ∧ (decode cX1_tellFurther 3 = .ok (.istore_n 3, 1)) ∧ (decode cX1_tellFurther 4 = .ok (.iload_n 3, 1)) ∧ (decode cX1_tellFurther 5 = .ok (.aload_n 1, 1)) ∧ (decode cX1_tellFurther 6 = .ok (.getfield 30, 3)) ∧ (decode cX1_tellFurther 9 = .ok (.if_icmp .ge 96, 3)) ∧ (decode cX1_tellFurther 12 = .ok (.iconst 0, 1)) ∧ (decode cX1_tellFurther 13 = .ok (.istore 4, 2)) ∧ (decode cX1_tellFurther 15 = .ok (.iload 4, 2)) ∧ (decode cX1_tellFurther 17 = .ok (.iload_n 3, 1)) := by decide +kernel
theorem dX1_tellFurther_0 : decode cX1_tellFurther 0 = .ok (.iconst 0, 1) := db_cX1_tellFurther_dX1_tellFurther_0_0.1
theorem dX1_tellFurther_1 : decode cX1_tellFurther 1 = .ok (.istore_n 2, 1) := db_cX1_tellFurther_dX1_tellFurther_0_0.2.1
theorem dX1_tellFurther_2 : decode cX1_tellFurther 2 = .ok (.iconst 0, 1) := db_cX1_tellFurther_dX1_tellFurther_0_0.2.2.1
theorem dX1_tellFurther_3 : decode cX1_tellFurther 3 = .ok (.istore_n 3, 1) := db_cX1_tellFurther_dX1_tellFurther_0_0.2.2.2.1
theorem dX1_tellFurther_4 : decode cX1_tellFurther 4 = .ok (.iload_n 3, 1) := db_cX1_tellFurther_dX1_tellFurther_0_0.2.2.2.2.1
theorem dX1_tellFurther_5 : decode cX1_tellFurther 5 = .ok (.aload_n 1, 1) := db_cX1_tellFurther_dX1_tellFurther_0_0.2.2.2.2.2.1
theorem dX1_tellFurther_6 : decode cX1_tellFurther 6 = .ok (.getfield 30, 3) := db_cX1_tellFurther_dX1_tellFurther_0_0.2.2.2.2.2.2.1
theorem dX1_tellFurther_9 : decode cX1_tellFurther 9 = .ok (.if_icmp .ge 96, 3) := db_cX1_tellFurther_dX1_tellFurther_0_0.2.2.2.2.2.2.2.1
theorem dX1_tellFurther_12 : decode cX1_tellFurther 12 = .ok (.iconst 0, 1) := db_cX1_tellFurther_dX1_tellFurther_0_0.2.2.2.2.2.2.2.2.1
theorem dX1_tellFurther_13 : decode cX1_tellFurther 13 = .ok (.istore 4, 2) := db_cX1_tellFurther_dX1_tellFurther_0_0.2.2.2.2.2.2.2.2.2.1
theorem dX1_tellFurther_15 : decode cX1_tellFurther 15 = .ok (.iload 4, 2) := db_cX1_tellFurther_dX1_tellFurther_0_0.2.2.2.2.2.2.2.2.2.2.1
theorem dX1_tellFurther_17 : decode cX1_tellFurther 17 = .ok (.iload_n 3, 1) := db_cX1_tellFurther_dX1_tellFurther_0_0.2.2.2.2.2.2.2.2.2.2.2
set_option maxRecDepth 100000 in
theorem db_cX1_tellFurther_dX1_tellFurther_18_1 : (decode cX1_tellFurther 18 = .ok (.if_icmp .ge 81, 3)) ∧ (decode cX1_tellFurther 21 = .ok (.aload_n 0, 1)) ∧ (decode cX1_tellFurther 22 = .ok (.getfield 23, 3)) ∧ (decode cX1_tellFurther 25 = .ok (.iload_n 3, 1)) ∧ (decode cX1_tellFurther 26 = .ok (.invokevirtual 26, 3)) ∧ (decode cX1_tellFurther 29 = .ok (.iload 4, 2)) ∧ (decode cX1_tellFurther 31 = .ok (.invokestatic 70, 3)) ∧ (decode cX1_tellFurther 34 = .ok (.ifCond .ne 59, 3)) ∧ (decode cX1_tellFurther 37 = .ok (.aload_n 0, 1)) ∧ (decode cX1_tellFurther 38 = .ok (.aload_n 1, 1)) ∧ (decode cX1_tellFurther 39 = .ok (.iload_n 3, 1)) ∧ (decode cX1_tellFurther 40 = .ok (.iload 4, 2)) := by decide +kernel
theorem dX1_tellFurther_18 : decode cX1_tellFurther 18 = .ok (.if_icmp .ge 81, 3) := db_cX1_tellFurther_dX1_tellFurther_18_1.1
theorem dX1_tellFurther_21 : decode cX1_tellFurther 21 = .ok (.aload_n 0, 1) := db_cX1_tellFurther_dX1_tellFurther_18_1.2.1
theorem dX1_tellFurther_22 : decode cX1_tellFurther 22 = .ok (.getfield 23, 3) := db_cX1_tellFurther_dX1_tellFurther_18_1.2.2.1
theorem dX1_tellFurther_25 : decode cX1_tellFurther 25 = .ok (.iload_n 3, 1) := db_cX1_tellFurther_dX1_tellFurther_18_1.2.2.2.1
theorem dX1_tellFurther_26 : decode cX1_tellFurther 26 = .ok (.invokevirtual 26, 3) := db_cX1_tellFurther_dX1_tellFurther_18_1.2.2.2.2.1
theorem dX1_tellFurther_29 : decode cX1_tellFurther 29 = .ok (.iload 4, 2) := db_cX1_tellFurther_dX1_tellFurther_18_1.2.2.2.2.2.1
theorem dX1_tellFurther_31 : decode cX1_tellFurther 31 = .ok (.invokestatic 70, 3) := db_cX1_tellFurther_dX1_tellFurther_18_1.2.2.2.2.2.2.1
theorem dX1_tellFurther_34 : decode cX1_tellFurther 34 = .ok (.ifCond .ne 59, 3) := db_cX1_tellFurther_dX1_tellFurther_18_1.2.2.2.2.2.2.2.1
theorem dX1_tellFurther_37 : decode cX1_tellFurther 37 = .ok (.aload_n 0, 1) := db_cX1_tellFurther_dX1_tellFurther_18_1.2.2.2.2.2.2.2.2.1
theorem dX1_tellFurther_38 : decode cX1_tellFurther 38 = .ok (.aload_n 1, 1) := db_cX1_tellFurther_dX1_tellFurther_18_1.2.2.2.2.2.2.2.2.2.1
theorem dX1_tellFurther_39 : decode cX1_tellFurther 39 = .ok (.iload_n 3, 1) := db_cX1_tellFurther_dX1_tellFurther_18_1.2.2.2.2.2.2.2.2.2.2.1
theorem dX1_tellFurther_40 : decode cX1_tellFurther 40 = .ok (.iload 4, 2) := db_cX1_tellFurther_dX1_tellFurther_18_1.2.2.2.2.2.2.2.2.2.2.2
set_option maxRecDepth 100000 in
theorem db_cX1_tellFurther_dX1_tellFurther_42_2 : (decode cX1_tellFurther 42 = .ok (.invokevirtual 74, 3)) ∧ (decode cX1_tellFurther 45 = .ok (.ifCond .eq 48, 3)) ∧ (decode cX1_tellFurther 48 = .ok (.aload_n 0, 1)) ∧ (decode cX1_tellFurther 49 = .ok (.getfield 23, 3)) ∧ (decode cX1_tellFurther 52 = .ok (.iload_n 3, 1)) ∧ (decode cX1_tellFurther 53 = .ok (.aload_n 0, 1)) ∧ (decode cX1_tellFurther 54 = .ok (.getfield 23, 3)) ∧ (decode cX1_tellFurther 57 = .ok (.iload_n 3, 1)) ∧ (decode cX1_tellFurther 58 = .ok (.invokevirtual 26, 3)) ∧ (decode cX1_tellFurther 61 = .ok (.iconst 1, 1)) ∧ (decode cX1_tellFurther 62 = .ok (.iload 4, 2)) ∧ (decode cX1_tellFurther 64 = .ok (.ishl, 1)) := by decide +kernel
theorem dX1_tellFurther_42 : decode cX1_tellFurther 42 = .ok (.invokevirtual 74, 3) := db_cX1_tellFurther_dX1_tellFurther_42_2.1
theorem dX1_tellFurther_45 : decode cX1_tellFurther 45 = .ok (.ifCond .eq 48, 3) := db_cX1_tellFurther_dX1_tellFurther_42_2.2.1
theorem dX1_tellFurther_48 : decode cX1_tellFurther 48 = .ok (.aload_n 0, 1) := db_cX1_tellFurther_dX1_tellFurther_42_2.2.2.1
theorem dX1_tellFurther_49 : decode cX1_tellFurther 49 = .ok (.getfield 23, 3) := db_cX1_tellFurther_dX1_tellFurther_42_2.2.2.2.1
theorem dX1_tellFurther_52 : decode cX1_tellFurther 52 = .ok (.iload_n 3, 1) := db_cX1_tellFurther_dX1_tellFurther_42_2.2.2.2.2.1
theorem dX1_tellFurther_53 : decode cX1_tellFurther 53 = .ok (.aload_n 0, 1) := db_cX1_tellFurther_dX1_tellFurther_42_2.2.2.2.2.2.1
theorem dX1_tellFurther_54 : decode cX1_tellFurther 54 = .ok (.getfield 23, 3) := db_cX1_tellFurther_dX1_tellFurther_42_2.2.2.2.2.2.2.1
theorem dX1_tellFurther_57 : decode cX1_tellFurther 57 = .ok (.iload_n 3, 1) := db_cX1_tellFurther_dX1_tellFurther_42_2.2.2.2.2.2.2.2.1
theorem dX1_tellFurther_58 : decode cX1_tellFurther 58 = .ok (.invokevirtual 26, 3) := db_cX1_tellFurther_dX1_tellFurther_42_2.2.2.2.2.2.2.2.2.1
theorem dX1_tellFurther_61 : decode cX1_tellFurther 61 = .ok (.iconst 1, 1) := db_cX1_tellFurther_dX1_tellFurther_42_2.2.2.2.2.2.2.2.2.2.1
theorem dX1_tellFurther_62 : decode cX1_tellFurther 62 = .ok (.iload 4, 2) := db_cX1_tellFurther_dX1_tellFurther_42_2.2.2.2.2.2.2.2.2.2.2.1
theorem dX1_tellFurther_64 : decode cX1_tellFurther 64 = .ok (.ishl, 1) := db_cX1_tellFurther_dX1_tellFurther_42_2.2.2.2.2.2.2.2.2.2.2.2
set_option maxRecDepth 100000 in
theorem db_cX1_tellFurther_dX1_tellFurther_65_3 : (decode cX1_tellFurther 65 = .ok (.ior, 1)) ∧ (decode cX1_tellFurther 66 = .ok (.invokevirtual 40, 3)) ∧ (decode cX1_tellFurther 69 = .ok (.aload_n 0, 1)) ∧ (decode cX1_tellFurther 70 = .ok (.getfield 23, 3)) ∧ (decode cX1_tellFurther 73 = .ok (.iload 4, 2)) ∧ (decode cX1_tellFurther 75 = .ok (.aload_n 0, 1)) ∧ (decode cX1_tellFurther 76 = .ok (.getfield 23, 3)) ∧ (decode cX1_tellFurther 79 = .ok (.iload 4, 2)) ∧ (decode cX1_tellFurther 81 = .ok (.invokevirtual 26, 3)) ∧ (decode cX1_tellFurther 84 = .ok (.iconst 1, 1)) ∧ (decode cX1_tellFurther 85 = .ok (.iload_n 3, 1)) ∧ (decode cX1_tellFurther 86 = .ok (.ishl, 1)) := by decide +kernel
theorem dX1_tellFurther_65 : decode cX1_tellFurther 65 = .ok (.ior, 1) := db_cX1_tellFurther_dX1_tellFurther_65_3.1
theorem dX1_tellFurther_66 : decode cX1_tellFurther 66 = .ok (.invokevirtual 40, 3) := db_cX1_tellFurther_dX1_tellFurther_65_3.2.1
theorem dX1_tellFurther_69 : decode cX1_tellFurther 69 = .ok (.aload_n 0, 1) := db_cX1_tellFurther_dX1_tellFurther_65_3.2.2.1
theorem dX1_tellFurther_70 : decode cX1_tellFurther 70 = .ok (.getfield 23, 3) := db_cX1_tellFurther_dX1_tellFurther_65_3.2.2.2.1
theorem dX1_tellFurther_73 : decode cX1_tellFurther 73 = .ok (.iload 4, 2) := db_cX1_tellFurther_dX1_tellFurther_65_3.2.2.2.2.1
theorem dX1_tellFurther_75 : decode cX1_tellFurther 75 = .ok (.aload_n 0, 1) := db_cX1_tellFurther_dX1_tellFurther_65_3.2.2.2.2.2.1
theorem dX1_tellFurther_76 : decode cX1_tellFurther 76 = .ok (.getfield 23, 3) := db_cX1_tellFurther_dX1_tellFurther_65_3.2.2.2.2.2.2.1
theorem dX1_tellFurther_79 : decode cX1_tellFurther 79 = .ok (.iload 4, 2) := db_cX1_tellFurther_dX1_tellFurther_65_3.2.2.2.2.2.2.2.1
theorem dX1_tellFurther_81 : decode cX1_tellFurther 81 = .ok (.invokevirtual 26, 3) := db_cX1_tellFurther_dX1_tellFurther_65_3.2.2.2.2.2.2.2.2.1
theorem dX1_tellFurther_84 : decode cX1_tellFurther 84 = .ok (.iconst 1, 1) := db_cX1_tellFurther_dX1_tellFurther_65_3.2.2.2.2.2.2.2.2.2.1
theorem dX1_tellFurther_85 : decode cX1_tellFurther 85 = .ok (.iload_n 3, 1) := db_cX1_tellFurther_dX1_tellFurther_65_3.2.2.2.2.2.2.2.2.2.2.1
theorem dX1_tellFurther_86 : decode cX1_tellFurther 86 = .ok (.ishl, 1) := db_cX1_tellFurther_dX1_tellFurther_65_3.2.2.2.2.2.2.2.2.2.2.2
set_option maxRecDepth 100000 in
theorem db_cX1_tellFurther_dX1_tellFurther_87_4 : (decode cX1_tellFurther 87 = .ok (.ior, 1)) ∧ (decode cX1_tellFurther 88 = .ok (.invokevirtual 40, 3)) ∧ (decode cX1_tellFurther 91 = .ok (.iconst 1, 1)) ∧ (decode cX1_tellFurther 92 = .ok (.istore_n 2, 1)) ∧ (decode cX1_tellFurther 93 = .ok (.iinc 4 1, 3)) ∧ (decode cX1_tellFurther 96 = .ok (.goto (-81), 3)) ∧ (decode cX1_tellFurther 99 = .ok (.iinc 3 1, 3)) ∧ (decode cX1_tellFurther 102 = .ok (.goto (-98), 3)) ∧ (decode cX1_tellFurther 105 = .ok (.iload_n 2, 1)) ∧ (decode cX1_tellFurther 106 = .ok (.ireturn, 1)) := by decide +kernel
theorem dX1_tellFurther_87 : decode cX1_tellFurther 87 = .ok (.ior, 1) := db_cX1_tellFurther_dX1_tellFurther_87_4.1
theorem dX1_tellFurther_88 : decode cX1_tellFurther 88 = .ok (.invokevirtual 40, 3) := db_cX1_tellFurther_dX1_tellFurther_87_4.2.1
theorem dX1_tellFurther_91 : decode cX1_tellFurther 91 = .ok (.iconst 1, 1) := db_cX1_tellFurther_dX1_tellFurther_87_4.2.2.1
theorem dX1_tellFurther_92 : decode cX1_tellFurther 92 = .ok (.istore_n 2, 1) := db_cX1_tellFurther_dX1_tellFurther_87_4.2.2.2.1
theorem dX1_tellFurther_93 : decode cX1_tellFurther 93 = .ok (.iinc 4 1, 3) := db_cX1_tellFurther_dX1_tellFurther_87_4.2.2.2.2.1
theorem dX1_tellFurther_96 : decode cX1_tellFurther 96 = .ok (.goto (-81), 3) := db_cX1_tellFurther_dX1_tellFurther_87_4.2.2.2.2.2.1
theorem dX1_tellFurther_99 : decode cX1_tellFurther 99 = .ok (.iinc 3 1, 3) := db_cX1_tellFurther_dX1_tellFurther_87_4.2.2.2.2.2.2.1
theorem dX1_tellFurther_102 : decode cX1_tellFurther 102 = .ok (.goto (-98), 3) := db_cX1_tellFurther_dX1_tellFurther_87_4.2.2.2.2.2.2.2.1
theorem dX1_tellFurther_105 : decode cX1_tellFurther 105 = .ok (.iload_n 2, 1) := db_cX1_tellFurther_dX1_tellFurther_87_4.2.2.2.2.2.2.2.2.1
theorem dX1_tellFurther_106 : decode cX1_tellFurther 106 = .ok (.ireturn, 1) := db_cX1_tellFurther_dX1_tellFurther_87_4.2.2.2.2.2.2.2.2.2
set_option maxRecDepth 100000 in
theorem db_cX1_firstNotUnlike_dX1_firstNotUnlike_0_0 : (decode cX1_firstNotUnlike 0 = .ok (.iconst 0, 1)) ∧ (decode cX1_firstNotUnlike 1 = .ok (.istore_n 2, 1)) ∧ (decode cX1_firstNotUnlike 2 = .ok (.iload_n 2, 1)) ∧ (decode cX1_firstNotUnlike 3 = .ok (.iload_n 1, 1)) ∧ (decode cX1_firstNotUnlike 4 = .ok (.if_icmp .ge 26, 3)) ∧ (decode cX1_firstNotUnlike 7 = .ok (.aload_n 0, 1)) ∧ (decode cX1_firstNotUnlike 8 = .ok (.getfield 23, 3)) ∧ (decode cX1_firstNotUnlike 11 = .ok (.iload_n 1, 1)) ∧ (decode cX1_firstNotUnlike 12 = .ok (.invokevirtual 26, 3)) ∧ (decode cX1_firstNotUnlike 15 = .ok (.iload_n 2, 1)) ∧ (decode cX1_firstNotUnlike 16 = .ok (.invokestatic 70, 3)) ∧ (decode cX1_firstNotUnlike 19 = .ok (.ifCond .ne 5, 3)) := by decide +kernel
theorem dX1_firstNotUnlike_0 : decode cX1_firstNotUnlike 0 = .ok (.iconst 0, 1) := db_cX1_firstNotUnlike_dX1_firstNotUnlike_0_0.1
theorem dX1_firstNotUnlike_1 : decode cX1_firstNotUnlike 1 = .ok (.istore_n 2, 1) := db_cX1_firstNotUnlike_dX1_firstNotUnlike_0_0.2.1
theorem dX1_firstNotUnlike_2 : decode cX1_firstNotUnlike 2 = .ok (.iload_n 2, 1) := db_cX1_firstNotUnlike_dX1_firstNotUnlike_0_0.2.2.1
theorem dX1_firstNotUnlike_3 : decode cX1_firstNotUnlike 3 = .ok (.iload_n 1, 1) := db_cX1_firstNotUnlike_dX1_firstNotUnlike_0_0.2.2.2.1
theorem dX1_firstNotUnlike_4 : decode cX1_firstNotUnlike 4 = .ok (.if_icmp .ge 26, 3) := db_cX1_firstNotUnlike_dX1_firstNotUnlike_0_0.2.2.2.2.1
theorem dX1_firstNotUnlike_7 : decode cX1_firstNotUnlike 7 = .ok (.aload_n 0, 1) := db_cX1_firstNotUnlike_dX1_firstNotUnlike_0_0.2.2.2.2.2.1
theorem dX1_firstNotUnlike_8 : decode cX1_firstNotUnlike 8 = .ok (.getfield 23, 3) := db_cX1_firstNotUnlike_dX1_firstNotUnlike_0_0.2.2.2.2.2.2.1
theorem dX1_firstNotUnlike_11 : decode cX1_firstNotUnlike 11 = .ok (.iload_n 1, 1) := db_cX1_firstNotUnlike_dX1_firstNotUnlike_0_0.2.2.2.2.2.2.2.1
theorem dX1_firstNotUnlike_12 : decode cX1_firstNotUnlike 12 = .ok (.invokevirtual 26, 3) := db_cX1_firstNotUnlike_dX1_firstNotUnlike_0_0.2.2.2.2.2.2.2.2.1
theorem dX1_firstNotUnlike_15 : decode cX1_firstNotUnlike 15 = .ok (.iload_n 2, 1) := db_cX1_firstNotUnlike_dX1_firstNotUnlike_0_0.2.2.2.2.2.2.2.2.2.1
theorem dX1_firstNotUnlike_16 : decode cX1_firstNotUnlike 16 = .ok (.invokestatic 70, 3) := db_cX1_firstNotUnlike_dX1_firstNotUnlike_0_0.2.2.2.2.2.2.2.2.2.2.1
theorem dX1_firstNotUnlike_19 : decode cX1_firstNotUnlike 19 = .ok (.ifCond .ne 5, 3) := db_cX1_firstNotUnlike_dX1_firstNotUnlike_0_0.2.2.2.2.2.2.2.2.2.2.2
set_option maxRecDepth 100000 in
theorem db_cX1_firstNotUnlike_dX1_firstNotUnlike_22_1 : (decode cX1_firstNotUnlike 22 = .ok (.iload_n 2, 1)) ∧ (decode cX1_firstNotUnlike 23 = .ok (.ireturn, 1)) ∧ (decode cX1_firstNotUnlike 24 = .ok (.iinc 2 1, 3)) ∧ (decode cX1_firstNotUnlike 27 = .ok (.goto (-25), 3)) ∧ (decode cX1_firstNotUnlike 30 = .ok (.iload_n 1, 1)) ∧ (decode cX1_firstNotUnlike 31 = .ok (.ireturn, 1)) := by decide +kernel
theorem dX1_firstNotUnlike_22 : decode cX1_firstNotUnlike 22 = .ok (.iload_n 2, 1) := db_cX1_firstNotUnlike_dX1_firstNotUnlike_22_1.1
theorem dX1_firstNotUnlike_23 : decode cX1_firstNotUnlike 23 = .ok (.ireturn, 1) := db_cX1_firstNotUnlike_dX1_firstNotUnlike_22_1.2.1
theorem dX1_firstNotUnlike_24 : decode cX1_firstNotUnlike 24 = .ok (.iinc 2 1, 3) := db_cX1_firstNotUnlike_dX1_firstNotUnlike_22_1.2.2.1
theorem dX1_firstNotUnlike_27 : decode cX1_firstNotUnlike 27 = .ok (.goto (-25), 3) := db_cX1_firstNotUnlike_dX1_firstNotUnlike_22_1.2.2.2.1
theorem dX1_firstNotUnlike_30 : decode cX1_firstNotUnlike 30 = .ok (.iload_n 1, 1) := db_cX1_firstNotUnlike_dX1_firstNotUnlike_22_1.2.2.2.2.1
theorem dX1_firstNotUnlike_31 : decode cX1_firstNotUnlike 31 = .ok (.ireturn, 1) := db_cX1_firstNotUnlike_dX1_firstNotUnlike_22_1.2.2.2.2.2
set_option maxRecDepth 100000 in
theorem db_cX1_findByPairs_dX1_findByPairs_0_0 : (decode cX1_findByPairs 0 = .ok (.iconst 0, 1)) ∧ (decode cX1_findByPairs 1 = .ok (.istore_n 2, 1)) ∧ (decode cX1_findByPairs 2 = .ok (.iload_n 2, 1)) ∧ (decode cX1_findByPairs 3 = .ok (.aload_n 1, 1)) ∧ (decode cX1_findByPairs 4 = .ok (.getfield 30, 3)) ∧ (decode cX1_findByPairs 7 = .ok (.if_icmp .ge 22, 3)) ∧ (decode cX1_findByPairs 10 = .ok (.aload_n 0, 1)) ∧ (decode cX1_findByPairs 11 = .ok (.getfield 23, 3)) ∧ (decode cX1_findByPairs 14 = .ok (.iload_n 2, 1)) ∧ (decode cX1_findByPairs 15 = .ok (.aload_n 1, 1)) ∧ (decode cX1_findByPairs 16 = .ok (.iload_n 2, 1)) ∧ (decode cX1_findByPairs 17 = .ok (.invokestatic 61, 3)) := by decide +kernel
theorem dX1_findByPairs_0 : decode cX1_findByPairs 0 = .ok (.iconst 0, 1) := db_cX1_findByPairs_dX1_findByPairs_0_0.1
theorem dX1_findByPairs_1 : decode cX1_findByPairs 1 = .ok (.istore_n 2, 1) := db_cX1_findByPairs_dX1_findByPairs_0_0.2.1
theorem dX1_findByPairs_2 : decode cX1_findByPairs 2 = .ok (.iload_n 2, 1) := db_cX1_findByPairs_dX1_findByPairs_0_0.2.2.1
theorem dX1_findByPairs_3 : decode cX1_findByPairs 3 = .ok (.aload_n 1, 1) := db_cX1_findByPairs_dX1_findByPairs_0_0.2.2.2.1
theorem dX1_findByPairs_4 : decode cX1_findByPairs 4 = .ok (.getfield 30, 3) := db_cX1_findByPairs_dX1_findByPairs_0_0.2.2.2.2.1
theorem dX1_findByPairs_7 : decode cX1_findByPairs 7 = .ok (.if_icmp .ge 22, 3) := db_cX1_findByPairs_dX1_findByPairs_0_0.2.2.2.2.2.1
theorem dX1_findByPairs_10 : decode cX1_findByPairs 10 = .ok (.aload_n 0, 1) := db_cX1_findByPairs_dX1_findByPairs_0_0.2.2.2.2.2.2.1
theorem dX1_findByPairs_11 : decode cX1_findByPairs 11 = .ok (.getfield 23, 3) := db_cX1_findByPairs_dX1_findByPairs_0_0.2.2.2.2.2.2.2.1
theorem dX1_findByPairs_14 : decode cX1_findByPairs 14 = .ok (.iload_n 2, 1) := db_cX1_findByPairs_dX1_findByPairs_0_0.2.2.2.2.2.2.2.2.1
theorem dX1_findByPairs_15 : decode cX1_findByPairs 15 = .ok (.aload_n 1, 1) := db_cX1_findByPairs_dX1_findByPairs_0_0.2.2.2.2.2.2.2.2.2.1
theorem dX1_findByPairs_16 : decode cX1_findByPairs 16 = .ok (.iload_n 2, 1) := db_cX1_findByPairs_dX1_findByPairs_0_0.2.2.2.2.2.2.2.2.2.2.1
theorem dX1_findByPairs_17 : decode cX1_findByPairs 17 = .ok (.invokestatic 61, 3) := db_cX1_findByPairs_dX1_findByPairs_0_0.2.2.2.2.2.2.2.2.2.2.2
set_option maxRecDepth 100000 in
theorem db_cX1_findByPairs_dX1_findByPairs_20_1 : (decode cX1_findByPairs 20 = .ok (.invokevirtual 40, 3)) ∧ (decode cX1_findByPairs 23 = .ok (.iinc 2 1, 3)) ∧ (decode cX1_findByPairs 26 = .ok (.goto (-24), 3)) ∧ (decode cX1_findByPairs 29 = .ok (.iconst 1, 1)) ∧ (decode cX1_findByPairs 30 = .ok (.istore_n 2, 1)) ∧ (decode cX1_findByPairs 31 = .ok (.iconst 0, 1)) ∧ (decode cX1_findByPairs 32 = .ok (.istore_n 3, 1)) ∧ (decode cX1_findByPairs 33 = .ok (.iload_n 3, 1)) ∧ (decode cX1_findByPairs 34 = .ok (.sipush 1024, 3)) ∧ (decode cX1_findByPairs 37 = .ok (.if_icmp .ge 19, 3)) ∧ (decode cX1_findByPairs 40 = .ok (.iload_n 2, 1)) ∧ (decode cX1_findByPairs 41 = .ok (.ifCond .eq 15, 3)) := by decide +kernel
theorem dX1_findByPairs_20 : decode cX1_findByPairs 20 = .ok (.invokevirtual 40, 3) := db_cX1_findByPairs_dX1_findByPairs_20_1.1
theorem dX1_findByPairs_23 : decode cX1_findByPairs 23 = .ok (.iinc 2 1, 3) := db_cX1_findByPairs_dX1_findByPairs_20_1.2.1
theorem dX1_findByPairs_26 : decode cX1_findByPairs 26 = .ok (.goto (-24), 3) := db_cX1_findByPairs_dX1_findByPairs_20_1.2.2.1
theorem dX1_findByPairs_29 : decode cX1_findByPairs 29 = .ok (.iconst 1, 1) := db_cX1_findByPairs_dX1_findByPairs_20_1.2.2.2.1
theorem dX1_findByPairs_30 : decode cX1_findByPairs 30 = .ok (.istore_n 2, 1) := db_cX1_findByPairs_dX1_findByPairs_20_1.2.2.2.2.1
theorem dX1_findByPairs_31 : decode cX1_findByPairs 31 = .ok (.iconst 0, 1) := db_cX1_findByPairs_dX1_findByPairs_20_1.2.2.2.2.2.1
theorem dX1_findByPairs_32 : decode cX1_findByPairs 32 = .ok (.istore_n 3, 1) := db_cX1_findByPairs_dX1_findByPairs_20_1.2.2.2.2.2.2.1
theorem dX1_findByPairs_33 : decode cX1_findByPairs 33 = .ok (.iload_n 3, 1) := db_cX1_findByPairs_dX1_findByPairs_20_1.2.2.2.2.2.2.2.1
theorem dX1_findByPairs_34 : decode cX1_findByPairs 34 = .ok (.sipush 1024, 3) := db_cX1_findByPairs_dX1_findByPairs_20_1.2.2.2.2.2.2.2.2.1
theorem dX1_findByPairs_37 : decode cX1_findByPairs 37 = .ok (.if_icmp .ge 19, 3) := db_cX1_findByPairs_dX1_findByPairs_20_1.2.2.2.2.2.2.2.2.2.1
theorem dX1_findByPairs_40 : decode cX1_findByPairs 40 = .ok (.iload_n 2, 1) := db_cX1_findByPairs_dX1_findByPairs_20_1.2.2.2.2.2.2.2.2.2.2.1
theorem dX1_findByPairs_41 : decode cX1_findByPairs 41 = .ok (.ifCond .eq 15, 3) := db_cX1_findByPairs_dX1_findByPairs_20_1.2.2.2.2.2.2.2.2.2.2.2
set_option maxRecDepth 100000 in
theorem db_cX1_findByPairs_dX1_findByPairs_44_2 : (decode cX1_findByPairs 44 = .ok (.aload_n 0, 1)) ∧ (decode cX1_findByPairs 45 = .ok (.aload_n 1, 1)) ∧ (decode cX1_findByPairs 46 = .ok (.invokevirtual 64, 3)) ∧ (decode cX1_findByPairs 49 = .ok (.istore_n 2, 1)) ∧ (decode cX1_findByPairs 50 = .ok (.iinc 3 1, 3)) ∧ (decode cX1_findByPairs 53 = .ok (.goto (-20), 3)) ∧ (decode cX1_findByPairs 56 = .ok (.iconst 0, 1)) ∧ (decode cX1_findByPairs 57 = .ok (.istore_n 3, 1)) ∧ (decode cX1_findByPairs 58 = .ok (.iload_n 3, 1)) ∧ (decode cX1_findByPairs 59 = .ok (.aload_n 1, 1)) ∧ (decode cX1_findByPairs 60 = .ok (.getfield 30, 3)) ∧ (decode cX1_findByPairs 63 = .ok (.if_icmp .ge 22, 3)) := by decide +kernel
theorem dX1_findByPairs_44 : decode cX1_findByPairs 44 = .ok (.aload_n 0, 1) := db_cX1_findByPairs_dX1_findByPairs_44_2.1
theorem dX1_findByPairs_45 : decode cX1_findByPairs 45 = .ok (.aload_n 1, 1) := db_cX1_findByPairs_dX1_findByPairs_44_2.2.1
theorem dX1_findByPairs_46 : decode cX1_findByPairs 46 = .ok (.invokevirtual 64, 3) := db_cX1_findByPairs_dX1_findByPairs_44_2.2.2.1
theorem dX1_findByPairs_49 : decode cX1_findByPairs 49 = .ok (.istore_n 2, 1) := db_cX1_findByPairs_dX1_findByPairs_44_2.2.2.2.1
theorem dX1_findByPairs_50 : decode cX1_findByPairs 50 = .ok (.iinc 3 1, 3) := db_cX1_findByPairs_dX1_findByPairs_44_2.2.2.2.2.1
theorem dX1_findByPairs_53 : decode cX1_findByPairs 53 = .ok (.goto (-20), 3) := db_cX1_findByPairs_dX1_findByPairs_44_2.2.2.2.2.2.1
theorem dX1_findByPairs_56 : decode cX1_findByPairs 56 = .ok (.iconst 0, 1) := db_cX1_findByPairs_dX1_findByPairs_44_2.2.2.2.2.2.2.1
theorem dX1_findByPairs_57 : decode cX1_findByPairs 57 = .ok (.istore_n 3, 1) := db_cX1_findByPairs_dX1_findByPairs_44_2.2.2.2.2.2.2.2.1
theorem dX1_findByPairs_58 : decode cX1_findByPairs 58 = .ok (.iload_n 3, 1) := db_cX1_findByPairs_dX1_findByPairs_44_2.2.2.2.2.2.2.2.2.1
theorem dX1_findByPairs_59 : decode cX1_findByPairs 59 = .ok (.aload_n 1, 1) := db_cX1_findByPairs_dX1_findByPairs_44_2.2.2.2.2.2.2.2.2.2.1
theorem dX1_findByPairs_60 : decode cX1_findByPairs 60 = .ok (.getfield 30, 3) := db_cX1_findByPairs_dX1_findByPairs_44_2.2.2.2.2.2.2.2.2.2.2.1
theorem dX1_findByPairs_63 : decode cX1_findByPairs 63 = .ok (.if_icmp .ge 22, 3) := db_cX1_findByPairs_dX1_findByPairs_44_2.2.2.2.2.2.2.2.2.2.2.2
set_option maxRecDepth 100000 in
theorem db_cX1_findByPairs_dX1_findByPairs_66_3 : (decode cX1_findByPairs 66 = .ok (.aload_n 0, 1)) ∧ (decode cX1_findByPairs 67 = .ok (.getfield 14, 3)) ∧ (decode cX1_findByPairs 70 = .ok (.iload_n 3, 1)) ∧ (decode cX1_findByPairs 71 = .ok (.aload_n 0, 1)) ∧ (decode cX1_findByPairs 72 = .ok (.iload_n 3, 1)) ∧ (decode cX1_findByPairs 73 = .ok (.invokevirtual 67, 3)) ∧ (decode cX1_findByPairs 76 = .ok (.invokevirtual 40, 3)) ∧ (decode cX1_findByPairs 79 = .ok (.iinc 3 1, 3)) ∧ (decode cX1_findByPairs 82 = .ok (.goto (-24), 3)) ∧ (decode cX1_findByPairs 85 = .ok (.return_, 1)) := by decide +kernel
theorem dX1_findByPairs_66 : decode cX1_findByPairs 66 = .ok (.aload_n 0, 1) := db_cX1_findByPairs_dX1_findByPairs_66_3.1
theorem dX1_findByPairs_67 : decode cX1_findByPairs 67 = .ok (.getfield 14, 3) := db_cX1_findByPairs_dX1_findByPairs_66_3.2.1
theorem dX1_findByPairs_70 : decode cX1_findByPairs 70 = .ok (.iload_n 3, 1) := db_cX1_findByPairs_dX1_findByPairs_66_3.2.2.1
theorem dX1_findByPairs_71 : decode cX1_findByPairs 71 = .ok (.aload_n 0, 1) := db_cX1_findByPairs_dX1_findByPairs_66_3.2.2.2.1
theorem dX1_findByPairs_72 : decode cX1_findByPairs 72 = .ok (.iload_n 3, 1) := db_cX1_findByPairs_dX1_findByPairs_66_3.2.2.2.2.1
theorem dX1_findByPairs_73 : decode cX1_findByPairs 73 = .ok (.invokevirtual 67, 3) := db_cX1_findByPairs_dX1_findByPairs_66_3.2.2.2.2.2.1
theorem dX1_findByPairs_76 : decode cX1_findByPairs 76 = .ok (.invokevirtual 40, 3) := db_cX1_findByPairs_dX1_findByPairs_66_3.2.2.2.2.2.2.1
theorem dX1_findByPairs_79 : decode cX1_findByPairs 79 = .ok (.iinc 3 1, 3) := db_cX1_findByPairs_dX1_findByPairs_66_3.2.2.2.2.2.2.2.1
theorem dX1_findByPairs_82 : decode cX1_findByPairs 82 = .ok (.goto (-24), 3) := db_cX1_findByPairs_dX1_findByPairs_66_3.2.2.2.2.2.2.2.2.1
theorem dX1_findByPairs_85 : decode cX1_findByPairs 85 = .ok (.return_, 1) := db_cX1_findByPairs_dX1_findByPairs_66_3.2.2.2.2.2.2.2.2.2
set_option maxRecDepth 100000 in
theorem db_cX2_addState_dX2_addState_0_0 : (decode cX2_addState 0 = .ok (.iconst 0, 1)) ∧ (decode cX2_addState 1 = .ok (.istore_n 1, 1)) ∧ (decode cX2_addState 2 = .ok (.iload_n 1, 1)) ∧ (decode cX2_addState 3 = .ok (.iconst 3, 1)) ∧ (decode cX2_addState 4 = .ok (.if_icmp .ge 19, 3)) ∧ (decode cX2_addState 7 = .ok (.aload_n 0, 1)) ∧ (decode cX2_addState 8 = .ok (.aload_n 0, 1)) ∧ (decode cX2_addState 9 = .ok (.getfield 15, 3)) ∧ (decode cX2_addState 12 = .ok (.iload_n 1, 1)) ∧ (decode cX2_addState 13 = .ok (.iconst 0, 1)) ∧ (decode cX2_addState 14 = .ok (.invokevirtual 43, 3)) ∧ (decode cX2_addState 17 = .ok (.iinc 1 1, 3)) := by decide +kernel
theorem dX2_addState_0 : decode cX2_addState 0 = .ok (.iconst 0, 1) := db_cX2_addState_dX2_addState_0_0.1
theorem dX2_addState_1 : decode cX2_addState 1 = .ok (.istore_n 1, 1) := db_cX2_addState_dX2_addState_0_0.2.1
theorem dX2_addState_2 : decode cX2_addState 2 = .ok (.iload_n 1, 1) := db_cX2_addState_dX2_addState_0_0.2.2.1
theorem dX2_addState_3 : decode cX2_addState 3 = .ok (.iconst 3, 1) := db_cX2_addState_dX2_addState_0_0.2.2.2.1
theorem dX2_addState_4 : decode cX2_addState 4 = .ok (.if_icmp .ge 19, 3) := db_cX2_addState_dX2_addState_0_0.2.2.2.2.1
theorem dX2_addState_7 : decode cX2_addState 7 = .ok (.aload_n 0, 1) := db_cX2_addState_dX2_addState_0_0.2.2.2.2.2.1
theorem dX2_addState_8 : decode cX2_addState 8 = .ok (.aload_n 0, 1) := db_cX2_addState_dX2_addState_0_0.2.2.2.2.2.2.1
theorem dX2_addState_9 : decode cX2_addState 9 = .ok (.getfield 15, 3) := db_cX2_addState_dX2_addState_0_0.2.2.2.2.2.2.2.1
theorem dX2_addState_12 : decode cX2_addState 12 = .ok (.iload_n 1, 1) := db_cX2_addState_dX2_addState_0_0.2.2.2.2.2.2.2.2.1
theorem dX2_addState_13 : decode cX2_addState 13 = .ok (.iconst 0, 1) := db_cX2_addState_dX2_addState_0_0.2.2.2.2.2.2.2.2.2.1
theorem dX2_addState_14 : decode cX2_addState 14 = .ok (.invokevirtual 43, 3) := db_cX2_addState_dX2_addState_0_0.2.2.2.2.2.2.2.2.2.2.1
theorem dX2_addState_17 : decode cX2_addState 17 = .ok (.iinc 1 1, 3) := db_cX2_addState_dX2_addState_0_0.2.2.2.2.2.2.2.2.2.2.2
set_option maxRecDepth 100000 in
theorem db_cX2_addState_dX2_addState_20_1 : (decode cX2_addState 20 = .ok (.goto (-18), 3)) ∧ (decode cX2_addState 23 = .ok (.aload_n 0, 1)) ∧ (decode cX2_addState 24 = .ok (.dup, 1)) ∧ (decode cX2_addState 25 = .ok (.getfield 15, 3)) ∧ (decode cX2_addState 28 = .ok (.iconst 1, 1)) ∧ (decode cX2_addState 29 = .ok (.iadd, 1)) ∧ (decode cX2_addState 30 = .ok (.putfield 15, 3)) ∧ (decode cX2_addState 33 = .ok (.return_, 1)) := by decide +kernel
theorem dX2_addState_20 : decode cX2_addState 20 = .ok (.goto (-18), 3) := db_cX2_addState_dX2_addState_20_1.1
theorem dX2_addState_23 : decode cX2_addState 23 = .ok (.aload_n 0, 1) := db_cX2_addState_dX2_addState_20_1.2.1
theorem dX2_addState_24 : decode cX2_addState 24 = .ok (.dup, 1) := db_cX2_addState_dX2_addState_20_1.2.2.1
theorem dX2_addState_25 : decode cX2_addState 25 = .ok (.getfield 15, 3) := db_cX2_addState_dX2_addState_20_1.2.2.2.1
theorem dX2_addState_28 : decode cX2_addState 28 = .ok (.iconst 1, 1) := db_cX2_addState_dX2_addState_20_1.2.2.2.2.1
theorem dX2_addState_29 : decode cX2_addState 29 = .ok (.iadd, 1) := db_cX2_addState_dX2_addState_20_1.2.2.2.2.2.1
theorem dX2_addState_30 : decode cX2_addState 30 = .ok (.putfield 15, 3) := db_cX2_addState_dX2_addState_20_1.2.2.2.2.2.2.1
theorem dX2_addState_33 : decode cX2_addState 33 = .ok (.return_, 1) := db_cX2_addState_dX2_addState_20_1.2.2.2.2.2.2.2
set_option maxRecDepth 100000 in
theorem db_cX2_clear_dX2_clear_0_0 : (decode cX2_clear 0 = .ok (.aload_n 0, 1)) ∧ (decode cX2_clear 1 = .ok (.iconst 0, 1)) ∧ (decode cX2_clear 2 = .ok (.putfield 15, 3)) ∧ (decode cX2_clear 5 = .ok (.aload_n 0, 1)) ∧ (decode cX2_clear 6 = .ok (.iconst 0, 1)) ∧ (decode cX2_clear 7 = .ok (.putfield 18, 3)) ∧ (decode cX2_clear 10 = .ok (.iconst 0, 1)) ∧ (decode cX2_clear 11 = .ok (.istore_n 2, 1)) ∧ (decode cX2_clear 12 = .ok (.iload_n 2, 1)) ∧ (decode cX2_clear 13 = .ok (.iload_n 1, 1)) ∧ (decode cX2_clear 14 = .ok (.if_icmp .ge 13, 3)) ∧ (decode cX2_clear 17 = .ok (.aload_n 0, 1)) := by decide +kernel
theorem dX2_clear_0 : decode cX2_clear 0 = .ok (.aload_n 0, 1) := db_cX2_clear_dX2_clear_0_0.1
theorem dX2_clear_1 : decode cX2_clear 1 = .ok (.iconst 0, 1) := db_cX2_clear_dX2_clear_0_0.2.1
theorem dX2_clear_2 : decode cX2_clear 2 = .ok (.putfield 15, 3) := db_cX2_clear_dX2_clear_0_0.2.2.1
theorem dX2_clear_5 : decode cX2_clear 5 = .ok (.aload_n 0, 1) := db_cX2_clear_dX2_clear_0_0.2.2.2.1
theorem dX2_clear_6 : decode cX2_clear 6 = .ok (.iconst 0, 1) := db_cX2_clear_dX2_clear_0_0.2.2.2.2.1
theorem dX2_clear_7 : decode cX2_clear 7 = .ok (.putfield 18, 3) := db_cX2_clear_dX2_clear_0_0.2.2.2.2.2.1
theorem dX2_clear_10 : decode cX2_clear 10 = .ok (.iconst 0, 1) := db_cX2_clear_dX2_clear_0_0.2.2.2.2.2.2.1
theorem dX2_clear_11 : decode cX2_clear 11 = .ok (.istore_n 2, 1) := db_cX2_clear_dX2_clear_0_0.2.2.2.2.2.2.2.1
theorem dX2_clear_12 : decode cX2_clear 12 = .ok (.iload_n 2, 1) := db_cX2_clear_dX2_clear_0_0.2.2.2.2.2.2.2.2.1
theorem dX2_clear_13 : decode cX2_clear 13 = .ok (.iload_n 1, 1) := db_cX2_clear_dX2_clear_0_0.2.2.2.2.2.2.2.2.2.1
theorem dX2_clear_14 : decode cX2_clear 14 = .ok (.if_icmp .ge 13, 3) := db_cX2_clear_dX2_clear_0_0.2.2.2.2.2.2.2.2.2.2.1
theorem dX2_clear_17 : decode cX2_clear 17 = .ok (.aload_n 0, 1) := db_cX2_clear_dX2_clear_0_0.2.2.2.2.2.2.2.2.2.2.2
set_option maxRecDepth 100000 in
theorem db_cX2_clear_dX2_clear_18_1 : (decode cX2_clear 18 = .ok (.invokevirtual 21, 3)) ∧ (decode cX2_clear 21 = .ok (.iinc 2 1, 3)) ∧ (decode cX2_clear 24 = .ok (.goto (-12), 3)) ∧ (decode cX2_clear 27 = .ok (.aload_n 0, 1)) ∧ (decode cX2_clear 28 = .ok (.iconst 1, 1)) ∧ (decode cX2_clear 29 = .ok (.putfield 9, 3)) ∧ (decode cX2_clear 32 = .ok (.return_, 1)) := by decide +kernel
theorem dX2_clear_18 : decode cX2_clear 18 = .ok (.invokevirtual 21, 3) := db_cX2_clear_dX2_clear_18_1.1
theorem dX2_clear_21 : decode cX2_clear 21 = .ok (.iinc 2 1, 3) := db_cX2_clear_dX2_clear_18_1.2.1
theorem dX2_clear_24 : decode cX2_clear 24 = .ok (.goto (-12), 3) := db_cX2_clear_dX2_clear_18_1.2.2.1
theorem dX2_clear_27 : decode cX2_clear 27 = .ok (.aload_n 0, 1) := db_cX2_clear_dX2_clear_18_1.2.2.2.1
theorem dX2_clear_28 : decode cX2_clear 28 = .ok (.iconst 1, 1) := db_cX2_clear_dX2_clear_18_1.2.2.2.2.1
theorem dX2_clear_29 : decode cX2_clear 29 = .ok (.putfield 9, 3) := db_cX2_clear_dX2_clear_18_1.2.2.2.2.2.1
theorem dX2_clear_32 : decode cX2_clear 32 = .ok (.return_, 1) := db_cX2_clear_dX2_clear_18_1.2.2.2.2.2.2
set_option maxRecDepth 100000 in
theorem db_cX2_allStates_dX2_allStates_0_0 : (decode cX2_allStates 0 = .ok (.iconst 1, 1)) ∧ (decode cX2_allStates 1 = .ok (.aload_n 0, 1)) ∧ (decode cX2_allStates 2 = .ok (.getfield 15, 3)) ∧ (decode cX2_allStates 5 = .ok (.ishl, 1)) ∧ (decode cX2_allStates 6 = .ok (.iconst 1, 1)) ∧ (decode cX2_allStates 7 = .ok (.isub, 1)) ∧ (decode cX2_allStates 8 = .ok (.ireturn, 1)) := by decide +kernel
theorem dX2_allStates_0 : decode cX2_allStates 0 = .ok (.iconst 1, 1) := db_cX2_allStates_dX2_allStates_0_0.1
theorem dX2_allStates_1 : decode cX2_allStates 1 = .ok (.aload_n 0, 1) := db_cX2_allStates_dX2_allStates_0_0.2.1
theorem dX2_allStates_2 : decode cX2_allStates 2 = .ok (.getfield 15, 3) := db_cX2_allStates_dX2_allStates_0_0.2.2.1
theorem dX2_allStates_5 : decode cX2_allStates 5 = .ok (.ishl, 1) := db_cX2_allStates_dX2_allStates_0_0.2.2.2.1
theorem dX2_allStates_6 : decode cX2_allStates 6 = .ok (.iconst 1, 1) := db_cX2_allStates_dX2_allStates_0_0.2.2.2.2.1
theorem dX2_allStates_7 : decode cX2_allStates 7 = .ok (.isub, 1) := db_cX2_allStates_dX2_allStates_0_0.2.2.2.2.2.1
theorem dX2_allStates_8 : decode cX2_allStates 8 = .ok (.ireturn, 1) := db_cX2_allStates_dX2_allStates_0_0.2.2.2.2.2.2
set_option maxRecDepth 100000 in
theorem db_cX2_sowOne_dX2_sowOne_0_0 : (decode cX2_sowOne 0 = .ok (.aload_n 1, 1)) ∧ (decode cX2_sowOne 1 = .ok (.invokevirtual 47, 3)) ∧ (decode cX2_sowOne 4 = .ok (.istore_n 2, 1)) ∧ (decode cX2_sowOne 5 = .ok (.aload_n 0, 1)) ∧ (decode cX2_sowOne 6 = .ok (.getfield 15, 3)) ∧ (decode cX2_sowOne 9 = .ok (.ifCond .le 14, 3)) ∧ (decode cX2_sowOne 12 = .ok (.iconst 1, 1)) ∧ (decode cX2_sowOne 13 = .ok (.iload_n 2, 1)) ∧ (decode cX2_sowOne 14 = .ok (.aload_n 0, 1)) ∧ (decode cX2_sowOne 15 = .ok (.getfield 15, 3)) ∧ (decode cX2_sowOne 18 = .ok (.irem, 1)) ∧ (decode cX2_sowOne 19 = .ok (.ishl, 1)) := by decide +kernel
theorem dX2_sowOne_0 : decode cX2_sowOne 0 = .ok (.aload_n 1, 1) := db_cX2_sowOne_dX2_sowOne_0_0.1
theorem dX2_sowOne_1 : decode cX2_sowOne 1 = .ok (.invokevirtual 47, 3) := db_cX2_sowOne_dX2_sowOne_0_0.2.1
theorem dX2_sowOne_4 : decode cX2_sowOne 4 = .ok (.istore_n 2, 1) := db_cX2_sowOne_dX2_sowOne_0_0.2.2.1
theorem dX2_sowOne_5 : decode cX2_sowOne 5 = .ok (.aload_n 0, 1) := db_cX2_sowOne_dX2_sowOne_0_0.2.2.2.1
theorem dX2_sowOne_6 : decode cX2_sowOne 6 = .ok (.getfield 15, 3) := db_cX2_sowOne_dX2_sowOne_0_0.2.2.2.2.1
theorem dX2_sowOne_9 : decode cX2_sowOne 9 = .ok (.ifCond .le 14, 3) := db_cX2_sowOne_dX2_sowOne_0_0.2.2.2.2.2.1
theorem dX2_sowOne_12 : decode cX2_sowOne 12 = .ok (.iconst 1, 1) := db_cX2_sowOne_dX2_sowOne_0_0.2.2.2.2.2.2.1
theorem dX2_sowOne_13 : decode cX2_sowOne 13 = .ok (.iload_n 2, 1) := db_cX2_sowOne_dX2_sowOne_0_0.2.2.2.2.2.2.2.1
theorem dX2_sowOne_14 : decode cX2_sowOne 14 = .ok (.aload_n 0, 1) := db_cX2_sowOne_dX2_sowOne_0_0.2.2.2.2.2.2.2.2.1
theorem dX2_sowOne_15 : decode cX2_sowOne 15 = .ok (.getfield 15, 3) := db_cX2_sowOne_dX2_sowOne_0_0.2.2.2.2.2.2.2.2.2.1
theorem dX2_sowOne_18 : decode cX2_sowOne 18 = .ok (.irem, 1) := db_cX2_sowOne_dX2_sowOne_0_0.2.2.2.2.2.2.2.2.2.2.1
theorem dX2_sowOne_19 : decode cX2_sowOne 19 = .ok (.ishl, 1) := db_cX2_sowOne_dX2_sowOne_0_0.2.2.2.2.2.2.2.2.2.2.2
set_option maxRecDepth 100000 in
theorem db_cX2_sowOne_dX2_sowOne_20_1 : (decode cX2_sowOne 20 = .ok (.goto 4, 3)) ∧ (decode cX2_sowOne 23 = .ok (.iconst 0, 1)) ∧ (decode cX2_sowOne 24 = .ok (.ireturn, 1)) := by decide +kernel
theorem dX2_sowOne_20 : decode cX2_sowOne 20 = .ok (.goto 4, 3) := db_cX2_sowOne_dX2_sowOne_20_1.1
theorem dX2_sowOne_23 : decode cX2_sowOne 23 = .ok (.iconst 0, 1) := db_cX2_sowOne_dX2_sowOne_20_1.2.1
theorem dX2_sowOne_24 : decode cX2_sowOne 24 = .ok (.ireturn, 1) := db_cX2_sowOne_dX2_sowOne_20_1.2.2
set_option maxRecDepth 100000 in
theorem db_cX2_sowSome_dX2_sowSome_0_0 : (decode cX2_sowSome 0 = .ok (.iconst 0, 1)) ∧ (decode cX2_sowSome 1 = .ok (.istore_n 3, 1)) ∧ (decode cX2_sowSome 2 = .ok (.iconst 0, 1)) ∧ (decode cX2_sowSome 3 = .ok (.istore 4, 2)) ∧ (decode cX2_sowSome 5 = .ok (.iload 4, 2)) ∧ (decode cX2_sowSome 7 = .ok (.aload_n 0, 1)) ∧ (decode cX2_sowSome 8 = .ok (.getfield 15, 3)) ∧ (decode cX2_sowSome 11 = .ok (.if_icmp .ge 35, 3)) ∧ (decode cX2_sowSome 14 = .ok (.aload_n 1, 1)) ∧ (decode cX2_sowSome 15 = .ok (.invokevirtual 47, 3)) ∧ (decode cX2_sowSome 18 = .ok (.istore 5, 2)) ∧ (decode cX2_sowSome 20 = .ok (.iload_n 2, 1)) := by decide +kernel
theorem dX2_sowSome_0 : decode cX2_sowSome 0 = .ok (.iconst 0, 1) := db_cX2_sowSome_dX2_sowSome_0_0.1
theorem dX2_sowSome_1 : decode cX2_sowSome 1 = .ok (.istore_n 3, 1) := db_cX2_sowSome_dX2_sowSome_0_0.2.1
theorem dX2_sowSome_2 : decode cX2_sowSome 2 = .ok (.iconst 0, 1) := db_cX2_sowSome_dX2_sowSome_0_0.2.2.1
theorem dX2_sowSome_3 : decode cX2_sowSome 3 = .ok (.istore 4, 2) := db_cX2_sowSome_dX2_sowSome_0_0.2.2.2.1
theorem dX2_sowSome_5 : decode cX2_sowSome 5 = .ok (.iload 4, 2) := db_cX2_sowSome_dX2_sowSome_0_0.2.2.2.2.1
theorem dX2_sowSome_7 : decode cX2_sowSome 7 = .ok (.aload_n 0, 1) := db_cX2_sowSome_dX2_sowSome_0_0.2.2.2.2.2.1
theorem dX2_sowSome_8 : decode cX2_sowSome 8 = .ok (.getfield 15, 3) := db_cX2_sowSome_dX2_sowSome_0_0.2.2.2.2.2.2.1
theorem dX2_sowSome_11 : decode cX2_sowSome 11 = .ok (.if_icmp .ge 35, 3) := db_cX2_sowSome_dX2_sowSome_0_0.2.2.2.2.2.2.2.1
theorem dX2_sowSome_14 : decode cX2_sowSome 14 = .ok (.aload_n 1, 1) := db_cX2_sowSome_dX2_sowSome_0_0.2.2.2.2.2.2.2.2.1
theorem dX2_sowSome_15 : decode cX2_sowSome 15 = .ok (.invokevirtual 47, 3) := db_cX2_sowSome_dX2_sowSome_0_0.2.2.2.2.2.2.2.2.2.1
theorem dX2_sowSome_18 : decode cX2_sowSome 18 = .ok (.istore 5, 2) := db_cX2_sowSome_dX2_sowSome_0_0.2.2.2.2.2.2.2.2.2.2.1
theorem dX2_sowSome_20 : decode cX2_sowSome 20 = .ok (.iload_n 2, 1) := db_cX2_sowSome_dX2_sowSome_0_0.2.2.2.2.2.2.2.2.2.2.2
set_option maxRecDepth 100000 in
theorem db_cX2_sowSome_dX2_sowSome_21_1 : (decode cX2_sowSome 21 = .ok (.ifCond .lt 19, 3)) ∧ (decode cX2_sowSome 24 = .ok (.iload 5, 2)) ∧ (decode cX2_sowSome 26 = .ok (.iload_n 2, 1)) ∧ (decode cX2_sowSome 27 = .ok (.iconst 1, 1)) ∧ (decode cX2_sowSome 28 = .ok (.iadd, 1)) ∧ (decode cX2_sowSome 29 = .ok (.irem, 1)) ∧ (decode cX2_sowSome 30 = .ok (.ifCond .ne 10, 3)) ∧ (decode cX2_sowSome 33 = .ok (.iload_n 3, 1)) ∧ (decode cX2_sowSome 34 = .ok (.iconst 1, 1)) ∧ (decode cX2_sowSome 35 = .ok (.iload 4, 2)) ∧ (decode cX2_sowSome 37 = .ok (.ishl, 1)) ∧ (decode cX2_sowSome 38 = .ok (.ior, 1)) := by decide +kernel
theorem dX2_sowSome_21 : decode cX2_sowSome 21 = .ok (.ifCond .lt 19, 3) := db_cX2_sowSome_dX2_sowSome_21_1.1
theorem dX2_sowSome_24 : decode cX2_sowSome 24 = .ok (.iload 5, 2) := db_cX2_sowSome_dX2_sowSome_21_1.2.1
theorem dX2_sowSome_26 : decode cX2_sowSome 26 = .ok (.iload_n 2, 1) := db_cX2_sowSome_dX2_sowSome_21_1.2.2.1
theorem dX2_sowSome_27 : decode cX2_sowSome 27 = .ok (.iconst 1, 1) := db_cX2_sowSome_dX2_sowSome_21_1.2.2.2.1
theorem dX2_sowSome_28 : decode cX2_sowSome 28 = .ok (.iadd, 1) := db_cX2_sowSome_dX2_sowSome_21_1.2.2.2.2.1
theorem dX2_sowSome_29 : decode cX2_sowSome 29 = .ok (.irem, 1) := db_cX2_sowSome_dX2_sowSome_21_1.2.2.2.2.2.1
theorem dX2_sowSome_30 : decode cX2_sowSome 30 = .ok (.ifCond .ne 10, 3) := db_cX2_sowSome_dX2_sowSome_21_1.2.2.2.2.2.2.1
theorem dX2_sowSome_33 : decode cX2_sowSome 33 = .ok (.iload_n 3, 1) := db_cX2_sowSome_dX2_sowSome_21_1.2.2.2.2.2.2.2.1
theorem dX2_sowSome_34 : decode cX2_sowSome 34 = .ok (.iconst 1, 1) := db_cX2_sowSome_dX2_sowSome_21_1.2.2.2.2.2.2.2.2.1
theorem dX2_sowSome_35 : decode cX2_sowSome 35 = .ok (.iload 4, 2) := db_cX2_sowSome_dX2_sowSome_21_1.2.2.2.2.2.2.2.2.2.1
theorem dX2_sowSome_37 : decode cX2_sowSome 37 = .ok (.ishl, 1) := db_cX2_sowSome_dX2_sowSome_21_1.2.2.2.2.2.2.2.2.2.2.1
theorem dX2_sowSome_38 : decode cX2_sowSome 38 = .ok (.ior, 1) := db_cX2_sowSome_dX2_sowSome_21_1.2.2.2.2.2.2.2.2.2.2.2
set_option maxRecDepth 100000 in
theorem db_cX2_sowSome_dX2_sowSome_39_2 : (decode cX2_sowSome 39 = .ok (.istore_n 3, 1)) ∧ (decode cX2_sowSome 40 = .ok (.iinc 4 1, 3)) ∧ (decode cX2_sowSome 43 = .ok (.goto (-38), 3)) ∧ (decode cX2_sowSome 46 = .ok (.iload_n 3, 1)) ∧ (decode cX2_sowSome 47 = .ok (.ireturn, 1)) := by decide +kernel
theorem dX2_sowSome_39 : decode cX2_sowSome 39 = .ok (.istore_n 3, 1) := db_cX2_sowSome_dX2_sowSome_39_2.1
theorem dX2_sowSome_40 : decode cX2_sowSome 40 = .ok (.iinc 4 1, 3) := db_cX2_sowSome_dX2_sowSome_39_2.2.1
theorem dX2_sowSome_43 : decode cX2_sowSome 43 = .ok (.goto (-38), 3) := db_cX2_sowSome_dX2_sowSome_39_2.2.2.1
theorem dX2_sowSome_46 : decode cX2_sowSome 46 = .ok (.iload_n 3, 1) := db_cX2_sowSome_dX2_sowSome_39_2.2.2.2.1
theorem dX2_sowSome_47 : decode cX2_sowSome 47 = .ok (.ireturn, 1) := db_cX2_sowSome_dX2_sowSome_39_2.2.2.2.2
set_option maxRecDepth 100000 in
theorem db_cX2_sowArrows_dX2_sowArrows_0_0 : (decode cX2_sowArrows 0 = .ok (.iconst 0, 1)) ∧ (decode cX2_sowArrows 1 = .ok (.istore_n 3, 1)) ∧ (decode cX2_sowArrows 2 = .ok (.iload_n 3, 1)) ∧ (decode cX2_sowArrows 3 = .ok (.aload_n 0, 1)) ∧ (decode cX2_sowArrows 4 = .ok (.getfield 15, 3)) ∧ (decode cX2_sowArrows 7 = .ok (.if_icmp .ge 49, 3)) ∧ (decode cX2_sowArrows 10 = .ok (.iconst 0, 1)) ∧ (decode cX2_sowArrows 11 = .ok (.istore 4, 2)) ∧ (decode cX2_sowArrows 13 = .ok (.iload 4, 2)) ∧ (decode cX2_sowArrows 15 = .ok (.iconst 3, 1)) ∧ (decode cX2_sowArrows 16 = .ok (.if_icmp .ge 34, 3)) ∧ (decode cX2_sowArrows 19 = .ok (.aload_n 0, 1)) := by decide +kernel
theorem dX2_sowArrows_0 : decode cX2_sowArrows 0 = .ok (.iconst 0, 1) := db_cX2_sowArrows_dX2_sowArrows_0_0.1
theorem dX2_sowArrows_1 : decode cX2_sowArrows 1 = .ok (.istore_n 3, 1) := db_cX2_sowArrows_dX2_sowArrows_0_0.2.1
theorem dX2_sowArrows_2 : decode cX2_sowArrows 2 = .ok (.iload_n 3, 1) := db_cX2_sowArrows_dX2_sowArrows_0_0.2.2.1
theorem dX2_sowArrows_3 : decode cX2_sowArrows 3 = .ok (.aload_n 0, 1) := db_cX2_sowArrows_dX2_sowArrows_0_0.2.2.2.1
theorem dX2_sowArrows_4 : decode cX2_sowArrows 4 = .ok (.getfield 15, 3) := db_cX2_sowArrows_dX2_sowArrows_0_0.2.2.2.2.1
theorem dX2_sowArrows_7 : decode cX2_sowArrows 7 = .ok (.if_icmp .ge 49, 3) := db_cX2_sowArrows_dX2_sowArrows_0_0.2.2.2.2.2.1
theorem dX2_sowArrows_10 : decode cX2_sowArrows 10 = .ok (.iconst 0, 1) := db_cX2_sowArrows_dX2_sowArrows_0_0.2.2.2.2.2.2.1
theorem dX2_sowArrows_11 : decode cX2_sowArrows 11 = .ok (.istore 4, 2) := db_cX2_sowArrows_dX2_sowArrows_0_0.2.2.2.2.2.2.2.1
theorem dX2_sowArrows_13 : decode cX2_sowArrows 13 = .ok (.iload 4, 2) := db_cX2_sowArrows_dX2_sowArrows_0_0.2.2.2.2.2.2.2.2.1
theorem dX2_sowArrows_15 : decode cX2_sowArrows 15 = .ok (.iconst 3, 1) := db_cX2_sowArrows_dX2_sowArrows_0_0.2.2.2.2.2.2.2.2.2.1
theorem dX2_sowArrows_16 : decode cX2_sowArrows 16 = .ok (.if_icmp .ge 34, 3) := db_cX2_sowArrows_dX2_sowArrows_0_0.2.2.2.2.2.2.2.2.2.2.1
theorem dX2_sowArrows_19 : decode cX2_sowArrows 19 = .ok (.aload_n 0, 1) := db_cX2_sowArrows_dX2_sowArrows_0_0.2.2.2.2.2.2.2.2.2.2.2
set_option maxRecDepth 100000 in
theorem db_cX2_sowArrows_dX2_sowArrows_20_1 : (decode cX2_sowArrows 20 = .ok (.iload_n 3, 1)) ∧ (decode cX2_sowArrows 21 = .ok (.iload 4, 2)) ∧ (decode cX2_sowArrows 23 = .ok (.iload_n 2, 1)) ∧ (decode cX2_sowArrows 24 = .ok (.ifCond .ne 11, 3)) ∧ (decode cX2_sowArrows 27 = .ok (.aload_n 0, 1)) ∧ (decode cX2_sowArrows 28 = .ok (.aload_n 1, 1)) ∧ (decode cX2_sowArrows 29 = .ok (.invokevirtual 35, 3)) ∧ (decode cX2_sowArrows 32 = .ok (.goto 9, 3)) ∧ (decode cX2_sowArrows 35 = .ok (.aload_n 0, 1)) ∧ (decode cX2_sowArrows 36 = .ok (.aload_n 1, 1)) ∧ (decode cX2_sowArrows 37 = .ok (.iload_n 2, 1)) ∧ (decode cX2_sowArrows 38 = .ok (.invokevirtual 39, 3)) := by decide +kernel
theorem dX2_sowArrows_20 : decode cX2_sowArrows 20 = .ok (.iload_n 3, 1) := db_cX2_sowArrows_dX2_sowArrows_20_1.1
theorem dX2_sowArrows_21 : decode cX2_sowArrows 21 = .ok (.iload 4, 2) := db_cX2_sowArrows_dX2_sowArrows_20_1.2.1
theorem dX2_sowArrows_23 : decode cX2_sowArrows 23 = .ok (.iload_n 2, 1) := db_cX2_sowArrows_dX2_sowArrows_20_1.2.2.1
theorem dX2_sowArrows_24 : decode cX2_sowArrows 24 = .ok (.ifCond .ne 11, 3) := db_cX2_sowArrows_dX2_sowArrows_20_1.2.2.2.1
theorem dX2_sowArrows_27 : decode cX2_sowArrows 27 = .ok (.aload_n 0, 1) := db_cX2_sowArrows_dX2_sowArrows_20_1.2.2.2.2.1
theorem dX2_sowArrows_28 : decode cX2_sowArrows 28 = .ok (.aload_n 1, 1) := db_cX2_sowArrows_dX2_sowArrows_20_1.2.2.2.2.2.1
theorem dX2_sowArrows_29 : decode cX2_sowArrows 29 = .ok (.invokevirtual 35, 3) := db_cX2_sowArrows_dX2_sowArrows_20_1.2.2.2.2.2.2.1
theorem dX2_sowArrows_32 : decode cX2_sowArrows 32 = .ok (.goto 9, 3) := db_cX2_sowArrows_dX2_sowArrows_20_1.2.2.2.2.2.2.2.1
theorem dX2_sowArrows_35 : decode cX2_sowArrows 35 = .ok (.aload_n 0, 1) := db_cX2_sowArrows_dX2_sowArrows_20_1.2.2.2.2.2.2.2.2.1
theorem dX2_sowArrows_36 : decode cX2_sowArrows 36 = .ok (.aload_n 1, 1) := db_cX2_sowArrows_dX2_sowArrows_20_1.2.2.2.2.2.2.2.2.2.1
theorem dX2_sowArrows_37 : decode cX2_sowArrows 37 = .ok (.iload_n 2, 1) := db_cX2_sowArrows_dX2_sowArrows_20_1.2.2.2.2.2.2.2.2.2.2.1
theorem dX2_sowArrows_38 : decode cX2_sowArrows 38 = .ok (.invokevirtual 39, 3) := db_cX2_sowArrows_dX2_sowArrows_20_1.2.2.2.2.2.2.2.2.2.2.2
set_option maxRecDepth 100000 in
theorem db_cX2_sowArrows_dX2_sowArrows_41_2 : (decode cX2_sowArrows 41 = .ok (.invokevirtual 43, 3)) ∧ (decode cX2_sowArrows 44 = .ok (.iinc 4 1, 3)) ∧ (decode cX2_sowArrows 47 = .ok (.goto (-34), 3)) ∧ (decode cX2_sowArrows 50 = .ok (.iinc 3 1, 3)) ∧ (decode cX2_sowArrows 53 = .ok (.goto (-51), 3)) ∧ (decode cX2_sowArrows 56 = .ok (.return_, 1)) := by decide +kernel
theorem dX2_sowArrows_41 : decode cX2_sowArrows 41 = .ok (.invokevirtual 43, 3) := db_cX2_sowArrows_dX2_sowArrows_41_2.1
theorem dX2_sowArrows_44 : decode cX2_sowArrows 44 = .ok (.iinc 4 1, 3) := db_cX2_sowArrows_dX2_sowArrows_41_2.2.1
theorem dX2_sowArrows_47 : decode cX2_sowArrows 47 = .ok (.goto (-34), 3) := db_cX2_sowArrows_dX2_sowArrows_41_2.2.2.1
theorem dX2_sowArrows_50 : decode cX2_sowArrows 50 = .ok (.iinc 3 1, 3) := db_cX2_sowArrows_dX2_sowArrows_41_2.2.2.2.1
theorem dX2_sowArrows_53 : decode cX2_sowArrows 53 = .ok (.goto (-51), 3) := db_cX2_sowArrows_dX2_sowArrows_41_2.2.2.2.2.1
theorem dX2_sowArrows_56 : decode cX2_sowArrows 56 = .ok (.return_, 1) := db_cX2_sowArrows_dX2_sowArrows_41_2.2.2.2.2.2
set_option maxRecDepth 100000 in
theorem db_cX2_sowGoals_dX2_sowGoals_0_0 : (decode cX2_sowGoals 0 = .ok (.iconst 0, 1)) ∧ (decode cX2_sowGoals 1 = .ok (.istore_n 2, 1)) ∧ (decode cX2_sowGoals 2 = .ok (.iload_n 2, 1)) ∧ (decode cX2_sowGoals 3 = .ok (.aload_n 0, 1)) ∧ (decode cX2_sowGoals 4 = .ok (.getfield 15, 3)) ∧ (decode cX2_sowGoals 7 = .ok (.if_icmp .ge 30, 3)) ∧ (decode cX2_sowGoals 10 = .ok (.aload_n 1, 1)) ∧ (decode cX2_sowGoals 11 = .ok (.invokevirtual 47, 3)) ∧ (decode cX2_sowGoals 14 = .ok (.iconst 2, 1)) ∧ (decode cX2_sowGoals 15 = .ok (.irem, 1)) ∧ (decode cX2_sowGoals 16 = .ok (.ifCond .ne 15, 3)) ∧ (decode cX2_sowGoals 19 = .ok (.aload_n 0, 1)) := by decide +kernel
theorem dX2_sowGoals_0 : decode cX2_sowGoals 0 = .ok (.iconst 0, 1) := db_cX2_sowGoals_dX2_sowGoals_0_0.1
theorem dX2_sowGoals_1 : decode cX2_sowGoals 1 = .ok (.istore_n 2, 1) := db_cX2_sowGoals_dX2_sowGoals_0_0.2.1
theorem dX2_sowGoals_2 : decode cX2_sowGoals 2 = .ok (.iload_n 2, 1) := db_cX2_sowGoals_dX2_sowGoals_0_0.2.2.1
theorem dX2_sowGoals_3 : decode cX2_sowGoals 3 = .ok (.aload_n 0, 1) := db_cX2_sowGoals_dX2_sowGoals_0_0.2.2.2.1
theorem dX2_sowGoals_4 : decode cX2_sowGoals 4 = .ok (.getfield 15, 3) := db_cX2_sowGoals_dX2_sowGoals_0_0.2.2.2.2.1
theorem dX2_sowGoals_7 : decode cX2_sowGoals 7 = .ok (.if_icmp .ge 30, 3) := db_cX2_sowGoals_dX2_sowGoals_0_0.2.2.2.2.2.1
theorem dX2_sowGoals_10 : decode cX2_sowGoals 10 = .ok (.aload_n 1, 1) := db_cX2_sowGoals_dX2_sowGoals_0_0.2.2.2.2.2.2.1
theorem dX2_sowGoals_11 : decode cX2_sowGoals 11 = .ok (.invokevirtual 47, 3) := db_cX2_sowGoals_dX2_sowGoals_0_0.2.2.2.2.2.2.2.1
theorem dX2_sowGoals_14 : decode cX2_sowGoals 14 = .ok (.iconst 2, 1) := db_cX2_sowGoals_dX2_sowGoals_0_0.2.2.2.2.2.2.2.2.1
theorem dX2_sowGoals_15 : decode cX2_sowGoals 15 = .ok (.irem, 1) := db_cX2_sowGoals_dX2_sowGoals_0_0.2.2.2.2.2.2.2.2.2.1
theorem dX2_sowGoals_16 : decode cX2_sowGoals 16 = .ok (.ifCond .ne 15, 3) := db_cX2_sowGoals_dX2_sowGoals_0_0.2.2.2.2.2.2.2.2.2.2.1
theorem dX2_sowGoals_19 : decode cX2_sowGoals 19 = .ok (.aload_n 0, 1) := db_cX2_sowGoals_dX2_sowGoals_0_0.2.2.2.2.2.2.2.2.2.2.2
set_option maxRecDepth 100000 in
theorem db_cX2_sowGoals_dX2_sowGoals_20_1 : (decode cX2_sowGoals 20 = .ok (.dup, 1)) ∧ (decode cX2_sowGoals 21 = .ok (.getfield 18, 3)) ∧ (decode cX2_sowGoals 24 = .ok (.iconst 1, 1)) ∧ (decode cX2_sowGoals 25 = .ok (.iload_n 2, 1)) ∧ (decode cX2_sowGoals 26 = .ok (.ishl, 1)) ∧ (decode cX2_sowGoals 27 = .ok (.ior, 1)) ∧ (decode cX2_sowGoals 28 = .ok (.putfield 18, 3)) ∧ (decode cX2_sowGoals 31 = .ok (.iinc 2 1, 3)) ∧ (decode cX2_sowGoals 34 = .ok (.goto (-32), 3)) ∧ (decode cX2_sowGoals 37 = .ok (.return_, 1)) := by decide +kernel
theorem dX2_sowGoals_20 : decode cX2_sowGoals 20 = .ok (.dup, 1) := db_cX2_sowGoals_dX2_sowGoals_20_1.1
theorem dX2_sowGoals_21 : decode cX2_sowGoals 21 = .ok (.getfield 18, 3) := db_cX2_sowGoals_dX2_sowGoals_20_1.2.1
theorem dX2_sowGoals_24 : decode cX2_sowGoals 24 = .ok (.iconst 1, 1) := db_cX2_sowGoals_dX2_sowGoals_20_1.2.2.1
theorem dX2_sowGoals_25 : decode cX2_sowGoals 25 = .ok (.iload_n 2, 1) := db_cX2_sowGoals_dX2_sowGoals_20_1.2.2.2.1
theorem dX2_sowGoals_26 : decode cX2_sowGoals 26 = .ok (.ishl, 1) := db_cX2_sowGoals_dX2_sowGoals_20_1.2.2.2.2.1
theorem dX2_sowGoals_27 : decode cX2_sowGoals 27 = .ok (.ior, 1) := db_cX2_sowGoals_dX2_sowGoals_20_1.2.2.2.2.2.1
theorem dX2_sowGoals_28 : decode cX2_sowGoals 28 = .ok (.putfield 18, 3) := db_cX2_sowGoals_dX2_sowGoals_20_1.2.2.2.2.2.2.1
theorem dX2_sowGoals_31 : decode cX2_sowGoals 31 = .ok (.iinc 2 1, 3) := db_cX2_sowGoals_dX2_sowGoals_20_1.2.2.2.2.2.2.2.1
theorem dX2_sowGoals_34 : decode cX2_sowGoals 34 = .ok (.goto (-32), 3) := db_cX2_sowGoals_dX2_sowGoals_20_1.2.2.2.2.2.2.2.2.1
theorem dX2_sowGoals_37 : decode cX2_sowGoals 37 = .ok (.return_, 1) := db_cX2_sowGoals_dX2_sowGoals_20_1.2.2.2.2.2.2.2.2.2
set_option maxRecDepth 100000 in
theorem db_cX7_isSameTable_dX7_isSameTable_0_0 : (decode cX7_isSameTable 0 = .ok (.aload_n 0, 1)) ∧ (decode cX7_isSameTable 1 = .ok (.getfield 9, 3)) ∧ (decode cX7_isSameTable 4 = .ok (.aload_n 1, 1)) ∧ (decode cX7_isSameTable 5 = .ok (.getfield 9, 3)) ∧ (decode cX7_isSameTable 8 = .ok (.if_icmp .ne 14, 3)) ∧ (decode cX7_isSameTable 11 = .ok (.aload_n 0, 1)) ∧ (decode cX7_isSameTable 12 = .ok (.getfield 19, 3)) ∧ (decode cX7_isSameTable 15 = .ok (.aload_n 1, 1)) ∧ (decode cX7_isSameTable 16 = .ok (.getfield 19, 3)) ∧ (decode cX7_isSameTable 19 = .ok (.if_icmp .eq 5, 3)) ∧ (decode cX7_isSameTable 22 = .ok (.iconst 0, 1)) ∧ (decode cX7_isSameTable 23 = .ok (.ireturn, 1)) := by decide +kernel
theorem dX7_isSameTable_0 : decode cX7_isSameTable 0 = .ok (.aload_n 0, 1) := db_cX7_isSameTable_dX7_isSameTable_0_0.1
theorem dX7_isSameTable_1 : decode cX7_isSameTable 1 = .ok (.getfield 9, 3) := db_cX7_isSameTable_dX7_isSameTable_0_0.2.1
theorem dX7_isSameTable_4 : decode cX7_isSameTable 4 = .ok (.aload_n 1, 1) := db_cX7_isSameTable_dX7_isSameTable_0_0.2.2.1
theorem dX7_isSameTable_5 : decode cX7_isSameTable 5 = .ok (.getfield 9, 3) := db_cX7_isSameTable_dX7_isSameTable_0_0.2.2.2.1
theorem dX7_isSameTable_8 : decode cX7_isSameTable 8 = .ok (.if_icmp .ne 14, 3) := db_cX7_isSameTable_dX7_isSameTable_0_0.2.2.2.2.1
theorem dX7_isSameTable_11 : decode cX7_isSameTable 11 = .ok (.aload_n 0, 1) := db_cX7_isSameTable_dX7_isSameTable_0_0.2.2.2.2.2.1
theorem dX7_isSameTable_12 : decode cX7_isSameTable 12 = .ok (.getfield 19, 3) := db_cX7_isSameTable_dX7_isSameTable_0_0.2.2.2.2.2.2.1
theorem dX7_isSameTable_15 : decode cX7_isSameTable 15 = .ok (.aload_n 1, 1) := db_cX7_isSameTable_dX7_isSameTable_0_0.2.2.2.2.2.2.2.1
theorem dX7_isSameTable_16 : decode cX7_isSameTable 16 = .ok (.getfield 19, 3) := db_cX7_isSameTable_dX7_isSameTable_0_0.2.2.2.2.2.2.2.2.1
theorem dX7_isSameTable_19 : decode cX7_isSameTable 19 = .ok (.if_icmp .eq 5, 3) := db_cX7_isSameTable_dX7_isSameTable_0_0.2.2.2.2.2.2.2.2.2.1
theorem dX7_isSameTable_22 : decode cX7_isSameTable 22 = .ok (.iconst 0, 1) := db_cX7_isSameTable_dX7_isSameTable_0_0.2.2.2.2.2.2.2.2.2.2.1
theorem dX7_isSameTable_23 : decode cX7_isSameTable 23 = .ok (.ireturn, 1) := db_cX7_isSameTable_dX7_isSameTable_0_0.2.2.2.2.2.2.2.2.2.2.2
set_option maxRecDepth 100000 in
theorem db_cX7_isSameTable_dX7_isSameTable_24_1 : (decode cX7_isSameTable 24 = .ok (.iconst 0, 1)) ∧ (decode cX7_isSameTable 25 = .ok (.istore_n 2, 1)) ∧ (decode cX7_isSameTable 26 = .ok (.iload_n 2, 1)) ∧ (decode cX7_isSameTable 27 = .ok (.aload_n 0, 1)) ∧ (decode cX7_isSameTable 28 = .ok (.getfield 9, 3)) ∧ (decode cX7_isSameTable 31 = .ok (.if_icmp .ge 39, 3)) ∧ (decode cX7_isSameTable 34 = .ok (.iconst 0, 1)) ∧ (decode cX7_isSameTable 35 = .ok (.istore_n 3, 1)) ∧ (decode cX7_isSameTable 36 = .ok (.iload_n 3, 1)) ∧ (decode cX7_isSameTable 37 = .ok (.iconst 3, 1)) ∧ (decode cX7_isSameTable 38 = .ok (.if_icmp .ge 26, 3)) ∧ (decode cX7_isSameTable 41 = .ok (.aload_n 0, 1)) := by decide +kernel
theorem dX7_isSameTable_24 : decode cX7_isSameTable 24 = .ok (.iconst 0, 1) := db_cX7_isSameTable_dX7_isSameTable_24_1.1
theorem dX7_isSameTable_25 : decode cX7_isSameTable 25 = .ok (.istore_n 2, 1) := db_cX7_isSameTable_dX7_isSameTable_24_1.2.1
theorem dX7_isSameTable_26 : decode cX7_isSameTable 26 = .ok (.iload_n 2, 1) := db_cX7_isSameTable_dX7_isSameTable_24_1.2.2.1
theorem dX7_isSameTable_27 : decode cX7_isSameTable 27 = .ok (.aload_n 0, 1) := db_cX7_isSameTable_dX7_isSameTable_24_1.2.2.2.1
theorem dX7_isSameTable_28 : decode cX7_isSameTable 28 = .ok (.getfield 9, 3) := db_cX7_isSameTable_dX7_isSameTable_24_1.2.2.2.2.1
theorem dX7_isSameTable_31 : decode cX7_isSameTable 31 = .ok (.if_icmp .ge 39, 3) := db_cX7_isSameTable_dX7_isSameTable_24_1.2.2.2.2.2.1
theorem dX7_isSameTable_34 : decode cX7_isSameTable 34 = .ok (.iconst 0, 1) := db_cX7_isSameTable_dX7_isSameTable_24_1.2.2.2.2.2.2.1
theorem dX7_isSameTable_35 : decode cX7_isSameTable 35 = .ok (.istore_n 3, 1) := db_cX7_isSameTable_dX7_isSameTable_24_1.2.2.2.2.2.2.2.1
theorem dX7_isSameTable_36 : decode cX7_isSameTable 36 = .ok (.iload_n 3, 1) := db_cX7_isSameTable_dX7_isSameTable_24_1.2.2.2.2.2.2.2.2.1
theorem dX7_isSameTable_37 : decode cX7_isSameTable 37 = .ok (.iconst 3, 1) := db_cX7_isSameTable_dX7_isSameTable_24_1.2.2.2.2.2.2.2.2.2.1
theorem dX7_isSameTable_38 : decode cX7_isSameTable 38 = .ok (.if_icmp .ge 26, 3) := db_cX7_isSameTable_dX7_isSameTable_24_1.2.2.2.2.2.2.2.2.2.2.1
theorem dX7_isSameTable_41 : decode cX7_isSameTable 41 = .ok (.aload_n 0, 1) := db_cX7_isSameTable_dX7_isSameTable_24_1.2.2.2.2.2.2.2.2.2.2.2
set_option maxRecDepth 100000 in
theorem db_cX7_isSameTable_dX7_isSameTable_42_2 : (decode cX7_isSameTable 42 = .ok (.iload_n 2, 1)) ∧ (decode cX7_isSameTable 43 = .ok (.iload_n 3, 1)) ∧ (decode cX7_isSameTable 44 = .ok (.invokevirtual 22, 3)) ∧ (decode cX7_isSameTable 47 = .ok (.aload_n 1, 1)) ∧ (decode cX7_isSameTable 48 = .ok (.iload_n 2, 1)) ∧ (decode cX7_isSameTable 49 = .ok (.iload_n 3, 1)) ∧ (decode cX7_isSameTable 50 = .ok (.invokevirtual 22, 3)) ∧ (decode cX7_isSameTable 53 = .ok (.if_icmp .eq 5, 3)) ∧ (decode cX7_isSameTable 56 = .ok (.iconst 0, 1)) ∧ (decode cX7_isSameTable 57 = .ok (.ireturn, 1)) ∧ (decode cX7_isSameTable 58 = .ok (.iinc 3 1, 3)) ∧ (decode cX7_isSameTable 61 = .ok (.goto (-25), 3)) := by decide +kernel
theorem dX7_isSameTable_42 : decode cX7_isSameTable 42 = .ok (.iload_n 2, 1) := db_cX7_isSameTable_dX7_isSameTable_42_2.1
theorem dX7_isSameTable_43 : decode cX7_isSameTable 43 = .ok (.iload_n 3, 1) := db_cX7_isSameTable_dX7_isSameTable_42_2.2.1
theorem dX7_isSameTable_44 : decode cX7_isSameTable 44 = .ok (.invokevirtual 22, 3) := db_cX7_isSameTable_dX7_isSameTable_42_2.2.2.1
theorem dX7_isSameTable_47 : decode cX7_isSameTable 47 = .ok (.aload_n 1, 1) := db_cX7_isSameTable_dX7_isSameTable_42_2.2.2.2.1
theorem dX7_isSameTable_48 : decode cX7_isSameTable 48 = .ok (.iload_n 2, 1) := db_cX7_isSameTable_dX7_isSameTable_42_2.2.2.2.2.1
theorem dX7_isSameTable_49 : decode cX7_isSameTable 49 = .ok (.iload_n 3, 1) := db_cX7_isSameTable_dX7_isSameTable_42_2.2.2.2.2.2.1
theorem dX7_isSameTable_50 : decode cX7_isSameTable 50 = .ok (.invokevirtual 22, 3) := db_cX7_isSameTable_dX7_isSameTable_42_2.2.2.2.2.2.2.1
theorem dX7_isSameTable_53 : decode cX7_isSameTable 53 = .ok (.if_icmp .eq 5, 3) := db_cX7_isSameTable_dX7_isSameTable_42_2.2.2.2.2.2.2.2.1
theorem dX7_isSameTable_56 : decode cX7_isSameTable 56 = .ok (.iconst 0, 1) := db_cX7_isSameTable_dX7_isSameTable_42_2.2.2.2.2.2.2.2.2.1
theorem dX7_isSameTable_57 : decode cX7_isSameTable 57 = .ok (.ireturn, 1) := db_cX7_isSameTable_dX7_isSameTable_42_2.2.2.2.2.2.2.2.2.2.1
theorem dX7_isSameTable_58 : decode cX7_isSameTable 58 = .ok (.iinc 3 1, 3) := db_cX7_isSameTable_dX7_isSameTable_42_2.2.2.2.2.2.2.2.2.2.2.1
theorem dX7_isSameTable_61 : decode cX7_isSameTable 61 = .ok (.goto (-25), 3) := db_cX7_isSameTable_dX7_isSameTable_42_2.2.2.2.2.2.2.2.2.2.2.2
set_option maxRecDepth 100000 in
theorem db_cX7_isSameTable_dX7_isSameTable_64_3 : (decode cX7_isSameTable 64 = .ok (.iinc 2 1, 3)) ∧ (decode cX7_isSameTable 67 = .ok (.goto (-41), 3)) ∧ (decode cX7_isSameTable 70 = .ok (.iconst 1, 1)) ∧ (decode cX7_isSameTable 71 = .ok (.ireturn, 1)) := by decide +kernel
theorem dX7_isSameTable_64 : decode cX7_isSameTable 64 = .ok (.iinc 2 1, 3) := db_cX7_isSameTable_dX7_isSameTable_64_3.1
theorem dX7_isSameTable_67 : decode cX7_isSameTable 67 = .ok (.goto (-41), 3) := db_cX7_isSameTable_dX7_isSameTable_64_3.2.1
theorem dX7_isSameTable_70 : decode cX7_isSameTable 70 = .ok (.iconst 1, 1) := db_cX7_isSameTable_dX7_isSameTable_64_3.2.2.1
theorem dX7_isSameTable_71 : decode cX7_isSameTable 71 = .ok (.ireturn, 1) := db_cX7_isSameTable_dX7_isSameTable_64_3.2.2.2
set_option maxRecDepth 100000 in
theorem db_cX2_isSameAs_dX2_isSameAs_0_0 : (decode cX2_isSameAs 0 = .ok (.aload_n 0, 1)) ∧ (decode cX2_isSameAs 1 = .ok (.getfield 9, 3)) ∧ (decode cX2_isSameAs 4 = .ok (.aload_n 1, 1)) ∧ (decode cX2_isSameAs 5 = .ok (.getfield 9, 3)) ∧ (decode cX2_isSameAs 8 = .ok (.if_icmp .ne 15, 3)) ∧ (decode cX2_isSameAs 11 = .ok (.aload_n 0, 1)) ∧ (decode cX2_isSameAs 12 = .ok (.aload_n 1, 1)) ∧ (decode cX2_isSameAs 13 = .ok (.invokevirtual 53, 3)) ∧ (decode cX2_isSameAs 16 = .ok (.ifCond .eq 7, 3)) ∧ (decode cX2_isSameAs 19 = .ok (.iconst 1, 1)) ∧ (decode cX2_isSameAs 20 = .ok (.goto 4, 3)) ∧ (decode cX2_isSameAs 23 = .ok (.iconst 0, 1)) := by decide +kernel
theorem dX2_isSameAs_0 : decode cX2_isSameAs 0 = .ok (.aload_n 0, 1) := db_cX2_isSameAs_dX2_isSameAs_0_0.1
theorem dX2_isSameAs_1 : decode cX2_isSameAs 1 = .ok (.getfield 9, 3) := db_cX2_isSameAs_dX2_isSameAs_0_0.2.1
theorem dX2_isSameAs_4 : decode cX2_isSameAs 4 = .ok (.aload_n 1, 1) := db_cX2_isSameAs_dX2_isSameAs_0_0.2.2.1
theorem dX2_isSameAs_5 : decode cX2_isSameAs 5 = .ok (.getfield 9, 3) := db_cX2_isSameAs_dX2_isSameAs_0_0.2.2.2.1
theorem dX2_isSameAs_8 : decode cX2_isSameAs 8 = .ok (.if_icmp .ne 15, 3) := db_cX2_isSameAs_dX2_isSameAs_0_0.2.2.2.2.1
theorem dX2_isSameAs_11 : decode cX2_isSameAs 11 = .ok (.aload_n 0, 1) := db_cX2_isSameAs_dX2_isSameAs_0_0.2.2.2.2.2.1
theorem dX2_isSameAs_12 : decode cX2_isSameAs 12 = .ok (.aload_n 1, 1) := db_cX2_isSameAs_dX2_isSameAs_0_0.2.2.2.2.2.2.1
theorem dX2_isSameAs_13 : decode cX2_isSameAs 13 = .ok (.invokevirtual 53, 3) := db_cX2_isSameAs_dX2_isSameAs_0_0.2.2.2.2.2.2.2.1
theorem dX2_isSameAs_16 : decode cX2_isSameAs 16 = .ok (.ifCond .eq 7, 3) := db_cX2_isSameAs_dX2_isSameAs_0_0.2.2.2.2.2.2.2.2.1
theorem dX2_isSameAs_19 : decode cX2_isSameAs 19 = .ok (.iconst 1, 1) := db_cX2_isSameAs_dX2_isSameAs_0_0.2.2.2.2.2.2.2.2.2.1
theorem dX2_isSameAs_20 : decode cX2_isSameAs 20 = .ok (.goto 4, 3) := db_cX2_isSameAs_dX2_isSameAs_0_0.2.2.2.2.2.2.2.2.2.2.1
theorem dX2_isSameAs_23 : decode cX2_isSameAs 23 = .ok (.iconst 0, 1) := db_cX2_isSameAs_dX2_isSameAs_0_0.2.2.2.2.2.2.2.2.2.2.2
theorem dX2_isSameAs_24 : decode cX2_isSameAs 24 = .ok (.ireturn, 1) := by decide +kernel
set_option maxRecDepth 100000 in
theorem db_cX2_become_dX2_become_0_0 : (decode cX2_become 0 = .ok (.aload_n 0, 1)) ∧ (decode cX2_become 1 = .ok (.aload_n 1, 1)) ∧ (decode cX2_become 2 = .ok (.getfield 15, 3)) ∧ (decode cX2_become 5 = .ok (.putfield 15, 3)) ∧ (decode cX2_become 8 = .ok (.aload_n 0, 1)) ∧ (decode cX2_become 9 = .ok (.aload_n 1, 1)) ∧ (decode cX2_become 10 = .ok (.getfield 9, 3)) ∧ (decode cX2_become 13 = .ok (.putfield 9, 3)) ∧ (decode cX2_become 16 = .ok (.aload_n 0, 1)) ∧ (decode cX2_become 17 = .ok (.aload_n 1, 1)) ∧ (decode cX2_become 18 = .ok (.getfield 18, 3)) ∧ (decode cX2_become 21 = .ok (.putfield 18, 3)) := by decide +kernel
theorem dX2_become_0 : decode cX2_become 0 = .ok (.aload_n 0, 1) := db_cX2_become_dX2_become_0_0.1
theorem dX2_become_1 : decode cX2_become 1 = .ok (.aload_n 1, 1) := db_cX2_become_dX2_become_0_0.2.1
theorem dX2_become_2 : decode cX2_become 2 = .ok (.getfield 15, 3) := db_cX2_become_dX2_become_0_0.2.2.1
theorem dX2_become_5 : decode cX2_become 5 = .ok (.putfield 15, 3) := db_cX2_become_dX2_become_0_0.2.2.2.1
theorem dX2_become_8 : decode cX2_become 8 = .ok (.aload_n 0, 1) := db_cX2_become_dX2_become_0_0.2.2.2.2.1
theorem dX2_become_9 : decode cX2_become 9 = .ok (.aload_n 1, 1) := db_cX2_become_dX2_become_0_0.2.2.2.2.2.1
theorem dX2_become_10 : decode cX2_become 10 = .ok (.getfield 9, 3) := db_cX2_become_dX2_become_0_0.2.2.2.2.2.2.1
theorem dX2_become_13 : decode cX2_become 13 = .ok (.putfield 9, 3) := db_cX2_become_dX2_become_0_0.2.2.2.2.2.2.2.1
theorem dX2_become_16 : decode cX2_become 16 = .ok (.aload_n 0, 1) := db_cX2_become_dX2_become_0_0.2.2.2.2.2.2.2.2.1
theorem dX2_become_17 : decode cX2_become 17 = .ok (.aload_n 1, 1) := db_cX2_become_dX2_become_0_0.2.2.2.2.2.2.2.2.2.1
theorem dX2_become_18 : decode cX2_become 18 = .ok (.getfield 18, 3) := db_cX2_become_dX2_become_0_0.2.2.2.2.2.2.2.2.2.2.1
theorem dX2_become_21 : decode cX2_become 21 = .ok (.putfield 18, 3) := db_cX2_become_dX2_become_0_0.2.2.2.2.2.2.2.2.2.2.2
set_option maxRecDepth 100000 in
theorem db_cX2_become_dX2_become_24_1 : (decode cX2_become 24 = .ok (.iconst 0, 1)) ∧ (decode cX2_become 25 = .ok (.istore_n 2, 1)) ∧ (decode cX2_become 26 = .ok (.iload_n 2, 1)) ∧ (decode cX2_become 27 = .ok (.aload_n 0, 1)) ∧ (decode cX2_become 28 = .ok (.getfield 15, 3)) ∧ (decode cX2_become 31 = .ok (.if_icmp .ge 34, 3)) ∧ (decode cX2_become 34 = .ok (.iconst 0, 1)) ∧ (decode cX2_become 35 = .ok (.istore_n 3, 1)) ∧ (decode cX2_become 36 = .ok (.iload_n 3, 1)) ∧ (decode cX2_become 37 = .ok (.iconst 3, 1)) ∧ (decode cX2_become 38 = .ok (.if_icmp .ge 21, 3)) ∧ (decode cX2_become 41 = .ok (.aload_n 0, 1)) := by decide +kernel
theorem dX2_become_24 : decode cX2_become 24 = .ok (.iconst 0, 1) := db_cX2_become_dX2_become_24_1.1
theorem dX2_become_25 : decode cX2_become 25 = .ok (.istore_n 2, 1) := db_cX2_become_dX2_become_24_1.2.1
theorem dX2_become_26 : decode cX2_become 26 = .ok (.iload_n 2, 1) := db_cX2_become_dX2_become_24_1.2.2.1
theorem dX2_become_27 : decode cX2_become 27 = .ok (.aload_n 0, 1) := db_cX2_become_dX2_become_24_1.2.2.2.1
theorem dX2_become_28 : decode cX2_become 28 = .ok (.getfield 15, 3) := db_cX2_become_dX2_become_24_1.2.2.2.2.1
theorem dX2_become_31 : decode cX2_become 31 = .ok (.if_icmp .ge 34, 3) := db_cX2_become_dX2_become_24_1.2.2.2.2.2.1
theorem dX2_become_34 : decode cX2_become 34 = .ok (.iconst 0, 1) := db_cX2_become_dX2_become_24_1.2.2.2.2.2.2.1
theorem dX2_become_35 : decode cX2_become 35 = .ok (.istore_n 3, 1) := db_cX2_become_dX2_become_24_1.2.2.2.2.2.2.2.1
theorem dX2_become_36 : decode cX2_become 36 = .ok (.iload_n 3, 1) := db_cX2_become_dX2_become_24_1.2.2.2.2.2.2.2.2.1
theorem dX2_become_37 : decode cX2_become 37 = .ok (.iconst 3, 1) := db_cX2_become_dX2_become_24_1.2.2.2.2.2.2.2.2.2.1
theorem dX2_become_38 : decode cX2_become 38 = .ok (.if_icmp .ge 21, 3) := db_cX2_become_dX2_become_24_1.2.2.2.2.2.2.2.2.2.2.1
theorem dX2_become_41 : decode cX2_become 41 = .ok (.aload_n 0, 1) := db_cX2_become_dX2_become_24_1.2.2.2.2.2.2.2.2.2.2.2
set_option maxRecDepth 100000 in
theorem db_cX2_become_dX2_become_42_2 : (decode cX2_become 42 = .ok (.iload_n 2, 1)) ∧ (decode cX2_become 43 = .ok (.iload_n 3, 1)) ∧ (decode cX2_become 44 = .ok (.aload_n 1, 1)) ∧ (decode cX2_become 45 = .ok (.iload_n 2, 1)) ∧ (decode cX2_become 46 = .ok (.iload_n 3, 1)) ∧ (decode cX2_become 47 = .ok (.invokevirtual 25, 3)) ∧ (decode cX2_become 50 = .ok (.invokevirtual 43, 3)) ∧ (decode cX2_become 53 = .ok (.iinc 3 1, 3)) ∧ (decode cX2_become 56 = .ok (.goto (-20), 3)) ∧ (decode cX2_become 59 = .ok (.iinc 2 1, 3)) ∧ (decode cX2_become 62 = .ok (.goto (-36), 3)) ∧ (decode cX2_become 65 = .ok (.return_, 1)) := by decide +kernel
theorem dX2_become_42 : decode cX2_become 42 = .ok (.iload_n 2, 1) := db_cX2_become_dX2_become_42_2.1
theorem dX2_become_43 : decode cX2_become 43 = .ok (.iload_n 3, 1) := db_cX2_become_dX2_become_42_2.2.1
theorem dX2_become_44 : decode cX2_become 44 = .ok (.aload_n 1, 1) := db_cX2_become_dX2_become_42_2.2.2.1
theorem dX2_become_45 : decode cX2_become 45 = .ok (.iload_n 2, 1) := db_cX2_become_dX2_become_42_2.2.2.2.1
theorem dX2_become_46 : decode cX2_become 46 = .ok (.iload_n 3, 1) := db_cX2_become_dX2_become_42_2.2.2.2.2.1
theorem dX2_become_47 : decode cX2_become 47 = .ok (.invokevirtual 25, 3) := db_cX2_become_dX2_become_42_2.2.2.2.2.2.1
theorem dX2_become_50 : decode cX2_become 50 = .ok (.invokevirtual 43, 3) := db_cX2_become_dX2_become_42_2.2.2.2.2.2.2.1
theorem dX2_become_53 : decode cX2_become 53 = .ok (.iinc 3 1, 3) := db_cX2_become_dX2_become_42_2.2.2.2.2.2.2.2.1
theorem dX2_become_56 : decode cX2_become 56 = .ok (.goto (-20), 3) := db_cX2_become_dX2_become_42_2.2.2.2.2.2.2.2.2.1
theorem dX2_become_59 : decode cX2_become 59 = .ok (.iinc 2 1, 3) := db_cX2_become_dX2_become_42_2.2.2.2.2.2.2.2.2.2.1
theorem dX2_become_62 : decode cX2_become 62 = .ok (.goto (-36), 3) := db_cX2_become_dX2_become_42_2.2.2.2.2.2.2.2.2.2.2.1
theorem dX2_become_65 : decode cX2_become 65 = .ok (.return_, 1) := db_cX2_become_dX2_become_42_2.2.2.2.2.2.2.2.2.2.2.2
set_option maxRecDepth 100000 in
theorem db_cX2_sources_dX2_sources_0_0 : (decode cX2_sources 0 = .ok (.iconst 0, 1)) ∧ (decode cX2_sources 1 = .ok (.istore_n 3, 1)) ∧ (decode cX2_sources 2 = .ok (.iconst 0, 1)) ∧ (decode cX2_sources 3 = .ok (.istore 4, 2)) ∧ (decode cX2_sources 5 = .ok (.iload 4, 2)) ∧ (decode cX2_sources 7 = .ok (.aload_n 0, 1)) ∧ (decode cX2_sources 8 = .ok (.getfield 15, 3)) ∧ (decode cX2_sources 11 = .ok (.if_icmp .ge 30, 3)) ∧ (decode cX2_sources 14 = .ok (.aload_n 0, 1)) ∧ (decode cX2_sources 15 = .ok (.iload 4, 2)) ∧ (decode cX2_sources 17 = .ok (.iload_n 2, 1)) ∧ (decode cX2_sources 18 = .ok (.invokevirtual 25, 3)) := by decide +kernel
theorem dX2_sources_0 : decode cX2_sources 0 = .ok (.iconst 0, 1) := db_cX2_sources_dX2_sources_0_0.1
theorem dX2_sources_1 : decode cX2_sources 1 = .ok (.istore_n 3, 1) := db_cX2_sources_dX2_sources_0_0.2.1
theorem dX2_sources_2 : decode cX2_sources 2 = .ok (.iconst 0, 1) := db_cX2_sources_dX2_sources_0_0.2.2.1
theorem dX2_sources_3 : decode cX2_sources 3 = .ok (.istore 4, 2) := db_cX2_sources_dX2_sources_0_0.2.2.2.1
theorem dX2_sources_5 : decode cX2_sources 5 = .ok (.iload 4, 2) := db_cX2_sources_dX2_sources_0_0.2.2.2.2.1
theorem dX2_sources_7 : decode cX2_sources 7 = .ok (.aload_n 0, 1) := db_cX2_sources_dX2_sources_0_0.2.2.2.2.2.1
theorem dX2_sources_8 : decode cX2_sources 8 = .ok (.getfield 15, 3) := db_cX2_sources_dX2_sources_0_0.2.2.2.2.2.2.1
theorem dX2_sources_11 : decode cX2_sources 11 = .ok (.if_icmp .ge 30, 3) := db_cX2_sources_dX2_sources_0_0.2.2.2.2.2.2.2.1
theorem dX2_sources_14 : decode cX2_sources 14 = .ok (.aload_n 0, 1) := db_cX2_sources_dX2_sources_0_0.2.2.2.2.2.2.2.2.1
theorem dX2_sources_15 : decode cX2_sources 15 = .ok (.iload 4, 2) := db_cX2_sources_dX2_sources_0_0.2.2.2.2.2.2.2.2.2.1
theorem dX2_sources_17 : decode cX2_sources 17 = .ok (.iload_n 2, 1) := db_cX2_sources_dX2_sources_0_0.2.2.2.2.2.2.2.2.2.2.1
theorem dX2_sources_18 : decode cX2_sources 18 = .ok (.invokevirtual 25, 3) := db_cX2_sources_dX2_sources_0_0.2.2.2.2.2.2.2.2.2.2.2
set_option maxRecDepth 100000 in
theorem db_cX2_sources_dX2_sources_21_1 : (decode cX2_sources 21 = .ok (.iload_n 1, 1)) ∧ (decode cX2_sources 22 = .ok (.invokestatic 65, 3)) ∧ (decode cX2_sources 25 = .ok (.ifCond .eq 10, 3)) ∧ (decode cX2_sources 28 = .ok (.iload_n 3, 1)) ∧ (decode cX2_sources 29 = .ok (.iconst 1, 1)) ∧ (decode cX2_sources 30 = .ok (.iload 4, 2)) ∧ (decode cX2_sources 32 = .ok (.ishl, 1)) ∧ (decode cX2_sources 33 = .ok (.ior, 1)) ∧ (decode cX2_sources 34 = .ok (.istore_n 3, 1)) ∧ (decode cX2_sources 35 = .ok (.iinc 4 1, 3)) ∧ (decode cX2_sources 38 = .ok (.goto (-33), 3)) ∧ (decode cX2_sources 41 = .ok (.iload_n 3, 1)) := by decide +kernel
theorem dX2_sources_21 : decode cX2_sources 21 = .ok (.iload_n 1, 1) := db_cX2_sources_dX2_sources_21_1.1
theorem dX2_sources_22 : decode cX2_sources 22 = .ok (.invokestatic 65, 3) := db_cX2_sources_dX2_sources_21_1.2.1
theorem dX2_sources_25 : decode cX2_sources 25 = .ok (.ifCond .eq 10, 3) := db_cX2_sources_dX2_sources_21_1.2.2.1
theorem dX2_sources_28 : decode cX2_sources 28 = .ok (.iload_n 3, 1) := db_cX2_sources_dX2_sources_21_1.2.2.2.1
theorem dX2_sources_29 : decode cX2_sources 29 = .ok (.iconst 1, 1) := db_cX2_sources_dX2_sources_21_1.2.2.2.2.1
theorem dX2_sources_30 : decode cX2_sources 30 = .ok (.iload 4, 2) := db_cX2_sources_dX2_sources_21_1.2.2.2.2.2.1
theorem dX2_sources_32 : decode cX2_sources 32 = .ok (.ishl, 1) := db_cX2_sources_dX2_sources_21_1.2.2.2.2.2.2.1
theorem dX2_sources_33 : decode cX2_sources 33 = .ok (.ior, 1) := db_cX2_sources_dX2_sources_21_1.2.2.2.2.2.2.2.1
theorem dX2_sources_34 : decode cX2_sources 34 = .ok (.istore_n 3, 1) := db_cX2_sources_dX2_sources_21_1.2.2.2.2.2.2.2.2.1
theorem dX2_sources_35 : decode cX2_sources 35 = .ok (.iinc 4 1, 3) := db_cX2_sources_dX2_sources_21_1.2.2.2.2.2.2.2.2.2.1
theorem dX2_sources_38 : decode cX2_sources 38 = .ok (.goto (-33), 3) := db_cX2_sources_dX2_sources_21_1.2.2.2.2.2.2.2.2.2.2.1
theorem dX2_sources_41 : decode cX2_sources 41 = .ok (.iload_n 3, 1) := db_cX2_sources_dX2_sources_21_1.2.2.2.2.2.2.2.2.2.2.2
theorem dX2_sources_42 : decode cX2_sources 42 = .ok (.ireturn, 1) := by decide +kernel
set_option maxRecDepth 100000 in
theorem db_cX2_becomeRound_dX2_becomeRound_0_0 : (decode cX2_becomeRound 0 = .ok (.aload_n 0, 1)) ∧ (decode cX2_becomeRound 1 = .ok (.aload_n 1, 1)) ∧ (decode cX2_becomeRound 2 = .ok (.getfield 15, 3)) ∧ (decode cX2_becomeRound 5 = .ok (.putfield 15, 3)) ∧ (decode cX2_becomeRound 8 = .ok (.aload_n 0, 1)) ∧ (decode cX2_becomeRound 9 = .ok (.aload_n 1, 1)) ∧ (decode cX2_becomeRound 10 = .ok (.getfield 18, 3)) ∧ (decode cX2_becomeRound 13 = .ok (.putfield 9, 3)) ∧ (decode cX2_becomeRound 16 = .ok (.aload_n 0, 1)) ∧ (decode cX2_becomeRound 17 = .ok (.aload_n 1, 1)) ∧ (decode cX2_becomeRound 18 = .ok (.getfield 9, 3)) ∧ (decode cX2_becomeRound 21 = .ok (.putfield 18, 3)) := by decide +kernel
theorem dX2_becomeRound_0 : decode cX2_becomeRound 0 = .ok (.aload_n 0, 1) := db_cX2_becomeRound_dX2_becomeRound_0_0.1
theorem dX2_becomeRound_1 : decode cX2_becomeRound 1 = .ok (.aload_n 1, 1) := db_cX2_becomeRound_dX2_becomeRound_0_0.2.1
theorem dX2_becomeRound_2 : decode cX2_becomeRound 2 = .ok (.getfield 15, 3) := db_cX2_becomeRound_dX2_becomeRound_0_0.2.2.1
theorem dX2_becomeRound_5 : decode cX2_becomeRound 5 = .ok (.putfield 15, 3) := db_cX2_becomeRound_dX2_becomeRound_0_0.2.2.2.1
theorem dX2_becomeRound_8 : decode cX2_becomeRound 8 = .ok (.aload_n 0, 1) := db_cX2_becomeRound_dX2_becomeRound_0_0.2.2.2.2.1
theorem dX2_becomeRound_9 : decode cX2_becomeRound 9 = .ok (.aload_n 1, 1) := db_cX2_becomeRound_dX2_becomeRound_0_0.2.2.2.2.2.1
theorem dX2_becomeRound_10 : decode cX2_becomeRound 10 = .ok (.getfield 18, 3) := db_cX2_becomeRound_dX2_becomeRound_0_0.2.2.2.2.2.2.1
theorem dX2_becomeRound_13 : decode cX2_becomeRound 13 = .ok (.putfield 9, 3) := db_cX2_becomeRound_dX2_becomeRound_0_0.2.2.2.2.2.2.2.1
theorem dX2_becomeRound_16 : decode cX2_becomeRound 16 = .ok (.aload_n 0, 1) := db_cX2_becomeRound_dX2_becomeRound_0_0.2.2.2.2.2.2.2.2.1
theorem dX2_becomeRound_17 : decode cX2_becomeRound 17 = .ok (.aload_n 1, 1) := db_cX2_becomeRound_dX2_becomeRound_0_0.2.2.2.2.2.2.2.2.2.1
theorem dX2_becomeRound_18 : decode cX2_becomeRound 18 = .ok (.getfield 9, 3) := db_cX2_becomeRound_dX2_becomeRound_0_0.2.2.2.2.2.2.2.2.2.2.1
theorem dX2_becomeRound_21 : decode cX2_becomeRound 21 = .ok (.putfield 18, 3) := db_cX2_becomeRound_dX2_becomeRound_0_0.2.2.2.2.2.2.2.2.2.2.2
set_option maxRecDepth 100000 in
theorem db_cX2_becomeRound_dX2_becomeRound_24_1 : (decode cX2_becomeRound 24 = .ok (.iconst 0, 1)) ∧ (decode cX2_becomeRound 25 = .ok (.istore_n 2, 1)) ∧ (decode cX2_becomeRound 26 = .ok (.iload_n 2, 1)) ∧ (decode cX2_becomeRound 27 = .ok (.aload_n 0, 1)) ∧ (decode cX2_becomeRound 28 = .ok (.getfield 15, 3)) ∧ (decode cX2_becomeRound 31 = .ok (.if_icmp .ge 34, 3)) ∧ (decode cX2_becomeRound 34 = .ok (.iconst 0, 1)) ∧ (decode cX2_becomeRound 35 = .ok (.istore_n 3, 1)) ∧ (decode cX2_becomeRound 36 = .ok (.iload_n 3, 1)) ∧ (decode cX2_becomeRound 37 = .ok (.iconst 3, 1)) ∧ (decode cX2_becomeRound 38 = .ok (.if_icmp .ge 21, 3)) ∧ (decode cX2_becomeRound 41 = .ok (.aload_n 0, 1)) := by decide +kernel
theorem dX2_becomeRound_24 : decode cX2_becomeRound 24 = .ok (.iconst 0, 1) := db_cX2_becomeRound_dX2_becomeRound_24_1.1
theorem dX2_becomeRound_25 : decode cX2_becomeRound 25 = .ok (.istore_n 2, 1) := db_cX2_becomeRound_dX2_becomeRound_24_1.2.1
theorem dX2_becomeRound_26 : decode cX2_becomeRound 26 = .ok (.iload_n 2, 1) := db_cX2_becomeRound_dX2_becomeRound_24_1.2.2.1
theorem dX2_becomeRound_27 : decode cX2_becomeRound 27 = .ok (.aload_n 0, 1) := db_cX2_becomeRound_dX2_becomeRound_24_1.2.2.2.1
theorem dX2_becomeRound_28 : decode cX2_becomeRound 28 = .ok (.getfield 15, 3) := db_cX2_becomeRound_dX2_becomeRound_24_1.2.2.2.2.1
theorem dX2_becomeRound_31 : decode cX2_becomeRound 31 = .ok (.if_icmp .ge 34, 3) := db_cX2_becomeRound_dX2_becomeRound_24_1.2.2.2.2.2.1
theorem dX2_becomeRound_34 : decode cX2_becomeRound 34 = .ok (.iconst 0, 1) := db_cX2_becomeRound_dX2_becomeRound_24_1.2.2.2.2.2.2.1
theorem dX2_becomeRound_35 : decode cX2_becomeRound 35 = .ok (.istore_n 3, 1) := db_cX2_becomeRound_dX2_becomeRound_24_1.2.2.2.2.2.2.2.1
theorem dX2_becomeRound_36 : decode cX2_becomeRound 36 = .ok (.iload_n 3, 1) := db_cX2_becomeRound_dX2_becomeRound_24_1.2.2.2.2.2.2.2.2.1
theorem dX2_becomeRound_37 : decode cX2_becomeRound 37 = .ok (.iconst 3, 1) := db_cX2_becomeRound_dX2_becomeRound_24_1.2.2.2.2.2.2.2.2.2.1
theorem dX2_becomeRound_38 : decode cX2_becomeRound 38 = .ok (.if_icmp .ge 21, 3) := db_cX2_becomeRound_dX2_becomeRound_24_1.2.2.2.2.2.2.2.2.2.2.1
theorem dX2_becomeRound_41 : decode cX2_becomeRound 41 = .ok (.aload_n 0, 1) := db_cX2_becomeRound_dX2_becomeRound_24_1.2.2.2.2.2.2.2.2.2.2.2
set_option maxRecDepth 100000 in
theorem db_cX2_becomeRound_dX2_becomeRound_42_2 : (decode cX2_becomeRound 42 = .ok (.iload_n 2, 1)) ∧ (decode cX2_becomeRound 43 = .ok (.iload_n 3, 1)) ∧ (decode cX2_becomeRound 44 = .ok (.aload_n 1, 1)) ∧ (decode cX2_becomeRound 45 = .ok (.iload_n 2, 1)) ∧ (decode cX2_becomeRound 46 = .ok (.iload_n 3, 1)) ∧ (decode cX2_becomeRound 47 = .ok (.invokevirtual 62, 3)) ∧ (decode cX2_becomeRound 50 = .ok (.invokevirtual 43, 3)) ∧ (decode cX2_becomeRound 53 = .ok (.iinc 3 1, 3)) ∧ (decode cX2_becomeRound 56 = .ok (.goto (-20), 3)) ∧ (decode cX2_becomeRound 59 = .ok (.iinc 2 1, 3)) ∧ (decode cX2_becomeRound 62 = .ok (.goto (-36), 3)) ∧ (decode cX2_becomeRound 65 = .ok (.return_, 1)) := by decide +kernel
theorem dX2_becomeRound_42 : decode cX2_becomeRound 42 = .ok (.iload_n 2, 1) := db_cX2_becomeRound_dX2_becomeRound_42_2.1
theorem dX2_becomeRound_43 : decode cX2_becomeRound 43 = .ok (.iload_n 3, 1) := db_cX2_becomeRound_dX2_becomeRound_42_2.2.1
theorem dX2_becomeRound_44 : decode cX2_becomeRound 44 = .ok (.aload_n 1, 1) := db_cX2_becomeRound_dX2_becomeRound_42_2.2.2.1
theorem dX2_becomeRound_45 : decode cX2_becomeRound 45 = .ok (.iload_n 2, 1) := db_cX2_becomeRound_dX2_becomeRound_42_2.2.2.2.1
theorem dX2_becomeRound_46 : decode cX2_becomeRound 46 = .ok (.iload_n 3, 1) := db_cX2_becomeRound_dX2_becomeRound_42_2.2.2.2.2.1
theorem dX2_becomeRound_47 : decode cX2_becomeRound 47 = .ok (.invokevirtual 62, 3) := db_cX2_becomeRound_dX2_becomeRound_42_2.2.2.2.2.2.1
theorem dX2_becomeRound_50 : decode cX2_becomeRound 50 = .ok (.invokevirtual 43, 3) := db_cX2_becomeRound_dX2_becomeRound_42_2.2.2.2.2.2.2.1
theorem dX2_becomeRound_53 : decode cX2_becomeRound 53 = .ok (.iinc 3 1, 3) := db_cX2_becomeRound_dX2_becomeRound_42_2.2.2.2.2.2.2.2.1
theorem dX2_becomeRound_56 : decode cX2_becomeRound 56 = .ok (.goto (-20), 3) := db_cX2_becomeRound_dX2_becomeRound_42_2.2.2.2.2.2.2.2.2.1
theorem dX2_becomeRound_59 : decode cX2_becomeRound 59 = .ok (.iinc 2 1, 3) := db_cX2_becomeRound_dX2_becomeRound_42_2.2.2.2.2.2.2.2.2.2.1
theorem dX2_becomeRound_62 : decode cX2_becomeRound 62 = .ok (.goto (-36), 3) := db_cX2_becomeRound_dX2_becomeRound_42_2.2.2.2.2.2.2.2.2.2.2.1
theorem dX2_becomeRound_65 : decode cX2_becomeRound 65 = .ok (.return_, 1) := db_cX2_becomeRound_dX2_becomeRound_42_2.2.2.2.2.2.2.2.2.2.2.2
set_option maxRecDepth 100000 in
theorem db_cX2_closeUp_dX2_closeUp_0_0 : (decode cX2_closeUp 0 = .ok (.iload_n 0, 1)) ∧ (decode cX2_closeUp 1 = .ok (.iconst 1, 1)) ∧ (decode cX2_closeUp 2 = .ok (.iload_n 1, 1)) ∧ (decode cX2_closeUp 3 = .ok (.ishl, 1)) ∧ (decode cX2_closeUp 4 = .ok (.iconst 1, 1)) ∧ (decode cX2_closeUp 5 = .ok (.isub, 1)) ∧ (decode cX2_closeUp 6 = .ok (.iand, 1)) ∧ (decode cX2_closeUp 7 = .ok (.istore_n 2, 1)) ∧ (decode cX2_closeUp 8 = .ok (.iload_n 0, 1)) ∧ (decode cX2_closeUp 9 = .ok (.iload_n 1, 1)) ∧ (decode cX2_closeUp 10 = .ok (.iconst 1, 1)) ∧ (decode cX2_closeUp 11 = .ok (.iadd, 1)) := by decide +kernel
theorem dX2_closeUp_0 : decode cX2_closeUp 0 = .ok (.iload_n 0, 1) := db_cX2_closeUp_dX2_closeUp_0_0.1
theorem dX2_closeUp_1 : decode cX2_closeUp 1 = .ok (.iconst 1, 1) := db_cX2_closeUp_dX2_closeUp_0_0.2.1
theorem dX2_closeUp_2 : decode cX2_closeUp 2 = .ok (.iload_n 1, 1) := db_cX2_closeUp_dX2_closeUp_0_0.2.2.1
theorem dX2_closeUp_3 : decode cX2_closeUp 3 = .ok (.ishl, 1) := db_cX2_closeUp_dX2_closeUp_0_0.2.2.2.1
theorem dX2_closeUp_4 : decode cX2_closeUp 4 = .ok (.iconst 1, 1) := db_cX2_closeUp_dX2_closeUp_0_0.2.2.2.2.1
theorem dX2_closeUp_5 : decode cX2_closeUp 5 = .ok (.isub, 1) := db_cX2_closeUp_dX2_closeUp_0_0.2.2.2.2.2.1
theorem dX2_closeUp_6 : decode cX2_closeUp 6 = .ok (.iand, 1) := db_cX2_closeUp_dX2_closeUp_0_0.2.2.2.2.2.2.1
theorem dX2_closeUp_7 : decode cX2_closeUp 7 = .ok (.istore_n 2, 1) := db_cX2_closeUp_dX2_closeUp_0_0.2.2.2.2.2.2.2.1
theorem dX2_closeUp_8 : decode cX2_closeUp 8 = .ok (.iload_n 0, 1) := db_cX2_closeUp_dX2_closeUp_0_0.2.2.2.2.2.2.2.2.1
theorem dX2_closeUp_9 : decode cX2_closeUp 9 = .ok (.iload_n 1, 1) := db_cX2_closeUp_dX2_closeUp_0_0.2.2.2.2.2.2.2.2.2.1
theorem dX2_closeUp_10 : decode cX2_closeUp 10 = .ok (.iconst 1, 1) := db_cX2_closeUp_dX2_closeUp_0_0.2.2.2.2.2.2.2.2.2.2.1
theorem dX2_closeUp_11 : decode cX2_closeUp 11 = .ok (.iadd, 1) := db_cX2_closeUp_dX2_closeUp_0_0.2.2.2.2.2.2.2.2.2.2.2
set_option maxRecDepth 100000 in
theorem db_cX2_closeUp_dX2_closeUp_12_1 : (decode cX2_closeUp 12 = .ok (.ishr, 1)) ∧ (decode cX2_closeUp 13 = .ok (.istore_n 3, 1)) ∧ (decode cX2_closeUp 14 = .ok (.iload_n 2, 1)) ∧ (decode cX2_closeUp 15 = .ok (.iload_n 3, 1)) ∧ (decode cX2_closeUp 16 = .ok (.iload_n 1, 1)) ∧ (decode cX2_closeUp 17 = .ok (.ishl, 1)) ∧ (decode cX2_closeUp 18 = .ok (.ior, 1)) ∧ (decode cX2_closeUp 19 = .ok (.ireturn, 1)) := by decide +kernel
theorem dX2_closeUp_12 : decode cX2_closeUp 12 = .ok (.ishr, 1) := db_cX2_closeUp_dX2_closeUp_12_1.1
theorem dX2_closeUp_13 : decode cX2_closeUp 13 = .ok (.istore_n 3, 1) := db_cX2_closeUp_dX2_closeUp_12_1.2.1
theorem dX2_closeUp_14 : decode cX2_closeUp 14 = .ok (.iload_n 2, 1) := db_cX2_closeUp_dX2_closeUp_12_1.2.2.1
theorem dX2_closeUp_15 : decode cX2_closeUp 15 = .ok (.iload_n 3, 1) := db_cX2_closeUp_dX2_closeUp_12_1.2.2.2.1
theorem dX2_closeUp_16 : decode cX2_closeUp 16 = .ok (.iload_n 1, 1) := db_cX2_closeUp_dX2_closeUp_12_1.2.2.2.2.1
theorem dX2_closeUp_17 : decode cX2_closeUp 17 = .ok (.ishl, 1) := db_cX2_closeUp_dX2_closeUp_12_1.2.2.2.2.2.1
theorem dX2_closeUp_18 : decode cX2_closeUp 18 = .ok (.ior, 1) := db_cX2_closeUp_dX2_closeUp_12_1.2.2.2.2.2.2.1
theorem dX2_closeUp_19 : decode cX2_closeUp 19 = .ok (.ireturn, 1) := db_cX2_closeUp_dX2_closeUp_12_1.2.2.2.2.2.2.2
set_option maxRecDepth 100000 in
theorem db_cX2_removeState_dX2_removeState_0_0 : (decode cX2_removeState 0 = .ok (.iconst 0, 1)) ∧ (decode cX2_removeState 1 = .ok (.istore_n 2, 1)) ∧ (decode cX2_removeState 2 = .ok (.iload_n 2, 1)) ∧ (decode cX2_removeState 3 = .ok (.aload_n 0, 1)) ∧ (decode cX2_removeState 4 = .ok (.getfield 15, 3)) ∧ (decode cX2_removeState 7 = .ok (.iconst 1, 1)) ∧ (decode cX2_removeState 8 = .ok (.isub, 1)) ∧ (decode cX2_removeState 9 = .ok (.if_icmp .ge 55, 3)) ∧ (decode cX2_removeState 12 = .ok (.iload_n 2, 1)) ∧ (decode cX2_removeState 13 = .ok (.iload_n 1, 1)) ∧ (decode cX2_removeState 14 = .ok (.if_icmp .ge 7, 3)) ∧ (decode cX2_removeState 17 = .ok (.iload_n 2, 1)) := by decide +kernel
theorem dX2_removeState_0 : decode cX2_removeState 0 = .ok (.iconst 0, 1) := db_cX2_removeState_dX2_removeState_0_0.1
theorem dX2_removeState_1 : decode cX2_removeState 1 = .ok (.istore_n 2, 1) := db_cX2_removeState_dX2_removeState_0_0.2.1
theorem dX2_removeState_2 : decode cX2_removeState 2 = .ok (.iload_n 2, 1) := db_cX2_removeState_dX2_removeState_0_0.2.2.1
theorem dX2_removeState_3 : decode cX2_removeState 3 = .ok (.aload_n 0, 1) := db_cX2_removeState_dX2_removeState_0_0.2.2.2.1
theorem dX2_removeState_4 : decode cX2_removeState 4 = .ok (.getfield 15, 3) := db_cX2_removeState_dX2_removeState_0_0.2.2.2.2.1
theorem dX2_removeState_7 : decode cX2_removeState 7 = .ok (.iconst 1, 1) := db_cX2_removeState_dX2_removeState_0_0.2.2.2.2.2.1
theorem dX2_removeState_8 : decode cX2_removeState 8 = .ok (.isub, 1) := db_cX2_removeState_dX2_removeState_0_0.2.2.2.2.2.2.1
theorem dX2_removeState_9 : decode cX2_removeState 9 = .ok (.if_icmp .ge 55, 3) := db_cX2_removeState_dX2_removeState_0_0.2.2.2.2.2.2.2.1
theorem dX2_removeState_12 : decode cX2_removeState 12 = .ok (.iload_n 2, 1) := db_cX2_removeState_dX2_removeState_0_0.2.2.2.2.2.2.2.2.1
theorem dX2_removeState_13 : decode cX2_removeState 13 = .ok (.iload_n 1, 1) := db_cX2_removeState_dX2_removeState_0_0.2.2.2.2.2.2.2.2.2.1
theorem dX2_removeState_14 : decode cX2_removeState 14 = .ok (.if_icmp .ge 7, 3) := db_cX2_removeState_dX2_removeState_0_0.2.2.2.2.2.2.2.2.2.2.1
theorem dX2_removeState_17 : decode cX2_removeState 17 = .ok (.iload_n 2, 1) := db_cX2_removeState_dX2_removeState_0_0.2.2.2.2.2.2.2.2.2.2.2
set_option maxRecDepth 100000 in
theorem db_cX2_removeState_dX2_removeState_18_1 : (decode cX2_removeState 18 = .ok (.goto 6, 3)) ∧ (decode cX2_removeState 21 = .ok (.iload_n 2, 1)) ∧ (decode cX2_removeState 22 = .ok (.iconst 1, 1)) ∧ (decode cX2_removeState 23 = .ok (.iadd, 1)) ∧ (decode cX2_removeState 24 = .ok (.istore_n 3, 1)) ∧ (decode cX2_removeState 25 = .ok (.iconst 0, 1)) ∧ (decode cX2_removeState 26 = .ok (.istore 4, 2)) ∧ (decode cX2_removeState 28 = .ok (.iload 4, 2)) ∧ (decode cX2_removeState 30 = .ok (.iconst 3, 1)) ∧ (decode cX2_removeState 31 = .ok (.if_icmp .ge 27, 3)) ∧ (decode cX2_removeState 34 = .ok (.aload_n 0, 1)) ∧ (decode cX2_removeState 35 = .ok (.iload_n 2, 1)) := by decide +kernel
theorem dX2_removeState_18 : decode cX2_removeState 18 = .ok (.goto 6, 3) := db_cX2_removeState_dX2_removeState_18_1.1
theorem dX2_removeState_21 : decode cX2_removeState 21 = .ok (.iload_n 2, 1) := db_cX2_removeState_dX2_removeState_18_1.2.1
theorem dX2_removeState_22 : decode cX2_removeState 22 = .ok (.iconst 1, 1) := db_cX2_removeState_dX2_removeState_18_1.2.2.1
theorem dX2_removeState_23 : decode cX2_removeState 23 = .ok (.iadd, 1) := db_cX2_removeState_dX2_removeState_18_1.2.2.2.1
theorem dX2_removeState_24 : decode cX2_removeState 24 = .ok (.istore_n 3, 1) := db_cX2_removeState_dX2_removeState_18_1.2.2.2.2.1
theorem dX2_removeState_25 : decode cX2_removeState 25 = .ok (.iconst 0, 1) := db_cX2_removeState_dX2_removeState_18_1.2.2.2.2.2.1
theorem dX2_removeState_26 : decode cX2_removeState 26 = .ok (.istore 4, 2) := db_cX2_removeState_dX2_removeState_18_1.2.2.2.2.2.2.1
theorem dX2_removeState_28 : decode cX2_removeState 28 = .ok (.iload 4, 2) := db_cX2_removeState_dX2_removeState_18_1.2.2.2.2.2.2.2.1
theorem dX2_removeState_30 : decode cX2_removeState 30 = .ok (.iconst 3, 1) := db_cX2_removeState_dX2_removeState_18_1.2.2.2.2.2.2.2.2.1
theorem dX2_removeState_31 : decode cX2_removeState 31 = .ok (.if_icmp .ge 27, 3) := db_cX2_removeState_dX2_removeState_18_1.2.2.2.2.2.2.2.2.2.1
theorem dX2_removeState_34 : decode cX2_removeState 34 = .ok (.aload_n 0, 1) := db_cX2_removeState_dX2_removeState_18_1.2.2.2.2.2.2.2.2.2.2.1
theorem dX2_removeState_35 : decode cX2_removeState 35 = .ok (.iload_n 2, 1) := db_cX2_removeState_dX2_removeState_18_1.2.2.2.2.2.2.2.2.2.2.2
set_option maxRecDepth 100000 in
theorem db_cX2_removeState_dX2_removeState_36_2 : (decode cX2_removeState 36 = .ok (.iload 4, 2)) ∧ (decode cX2_removeState 38 = .ok (.aload_n 0, 1)) ∧ (decode cX2_removeState 39 = .ok (.iload_n 3, 1)) ∧ (decode cX2_removeState 40 = .ok (.iload 4, 2)) ∧ (decode cX2_removeState 42 = .ok (.invokevirtual 25, 3)) ∧ (decode cX2_removeState 45 = .ok (.iload_n 1, 1)) ∧ (decode cX2_removeState 46 = .ok (.invokestatic 69, 3)) ∧ (decode cX2_removeState 49 = .ok (.invokevirtual 43, 3)) ∧ (decode cX2_removeState 52 = .ok (.iinc 4 1, 3)) ∧ (decode cX2_removeState 55 = .ok (.goto (-27), 3)) ∧ (decode cX2_removeState 58 = .ok (.iinc 2 1, 3)) ∧ (decode cX2_removeState 61 = .ok (.goto (-59), 3)) := by decide +kernel
theorem dX2_removeState_36 : decode cX2_removeState 36 = .ok (.iload 4, 2) := db_cX2_removeState_dX2_removeState_36_2.1
theorem dX2_removeState_38 : decode cX2_removeState 38 = .ok (.aload_n 0, 1) := db_cX2_removeState_dX2_removeState_36_2.2.1
theorem dX2_removeState_39 : decode cX2_removeState 39 = .ok (.iload_n 3, 1) := db_cX2_removeState_dX2_removeState_36_2.2.2.1
theorem dX2_removeState_40 : decode cX2_removeState 40 = .ok (.iload 4, 2) := db_cX2_removeState_dX2_removeState_36_2.2.2.2.1
theorem dX2_removeState_42 : decode cX2_removeState 42 = .ok (.invokevirtual 25, 3) := db_cX2_removeState_dX2_removeState_36_2.2.2.2.2.1
theorem dX2_removeState_45 : decode cX2_removeState 45 = .ok (.iload_n 1, 1) := db_cX2_removeState_dX2_removeState_36_2.2.2.2.2.2.1
theorem dX2_removeState_46 : decode cX2_removeState 46 = .ok (.invokestatic 69, 3) := db_cX2_removeState_dX2_removeState_36_2.2.2.2.2.2.2.1
theorem dX2_removeState_49 : decode cX2_removeState 49 = .ok (.invokevirtual 43, 3) := db_cX2_removeState_dX2_removeState_36_2.2.2.2.2.2.2.2.1
theorem dX2_removeState_52 : decode cX2_removeState 52 = .ok (.iinc 4 1, 3) := db_cX2_removeState_dX2_removeState_36_2.2.2.2.2.2.2.2.2.1
theorem dX2_removeState_55 : decode cX2_removeState 55 = .ok (.goto (-27), 3) := db_cX2_removeState_dX2_removeState_36_2.2.2.2.2.2.2.2.2.2.1
theorem dX2_removeState_58 : decode cX2_removeState 58 = .ok (.iinc 2 1, 3) := db_cX2_removeState_dX2_removeState_36_2.2.2.2.2.2.2.2.2.2.2.1
theorem dX2_removeState_61 : decode cX2_removeState 61 = .ok (.goto (-59), 3) := db_cX2_removeState_dX2_removeState_36_2.2.2.2.2.2.2.2.2.2.2.2
set_option maxRecDepth 100000 in
theorem db_cX2_removeState_dX2_removeState_64_3 : (decode cX2_removeState 64 = .ok (.aload_n 0, 1)) ∧ (decode cX2_removeState 65 = .ok (.aload_n 0, 1)) ∧ (decode cX2_removeState 66 = .ok (.getfield 9, 3)) ∧ (decode cX2_removeState 69 = .ok (.iload_n 1, 1)) ∧ (decode cX2_removeState 70 = .ok (.invokestatic 69, 3)) ∧ (decode cX2_removeState 73 = .ok (.putfield 9, 3)) ∧ (decode cX2_removeState 76 = .ok (.aload_n 0, 1)) ∧ (decode cX2_removeState 77 = .ok (.aload_n 0, 1)) ∧ (decode cX2_removeState 78 = .ok (.getfield 18, 3)) ∧ (decode cX2_removeState 81 = .ok (.iload_n 1, 1)) ∧ (decode cX2_removeState 82 = .ok (.invokestatic 69, 3)) ∧ (decode cX2_removeState 85 = .ok (.putfield 18, 3)) := by decide +kernel
theorem dX2_removeState_64 : decode cX2_removeState 64 = .ok (.aload_n 0, 1) := db_cX2_removeState_dX2_removeState_64_3.1
theorem dX2_removeState_65 : decode cX2_removeState 65 = .ok (.aload_n 0, 1) := db_cX2_removeState_dX2_removeState_64_3.2.1
theorem dX2_removeState_66 : decode cX2_removeState 66 = .ok (.getfield 9, 3) := db_cX2_removeState_dX2_removeState_64_3.2.2.1
theorem dX2_removeState_69 : decode cX2_removeState 69 = .ok (.iload_n 1, 1) := db_cX2_removeState_dX2_removeState_64_3.2.2.2.1
theorem dX2_removeState_70 : decode cX2_removeState 70 = .ok (.invokestatic 69, 3) := db_cX2_removeState_dX2_removeState_64_3.2.2.2.2.1
theorem dX2_removeState_73 : decode cX2_removeState 73 = .ok (.putfield 9, 3) := db_cX2_removeState_dX2_removeState_64_3.2.2.2.2.2.1
theorem dX2_removeState_76 : decode cX2_removeState 76 = .ok (.aload_n 0, 1) := db_cX2_removeState_dX2_removeState_64_3.2.2.2.2.2.2.1
theorem dX2_removeState_77 : decode cX2_removeState 77 = .ok (.aload_n 0, 1) := db_cX2_removeState_dX2_removeState_64_3.2.2.2.2.2.2.2.1
theorem dX2_removeState_78 : decode cX2_removeState 78 = .ok (.getfield 18, 3) := db_cX2_removeState_dX2_removeState_64_3.2.2.2.2.2.2.2.2.1
theorem dX2_removeState_81 : decode cX2_removeState 81 = .ok (.iload_n 1, 1) := db_cX2_removeState_dX2_removeState_64_3.2.2.2.2.2.2.2.2.2.1
theorem dX2_removeState_82 : decode cX2_removeState 82 = .ok (.invokestatic 69, 3) := db_cX2_removeState_dX2_removeState_64_3.2.2.2.2.2.2.2.2.2.2.1
theorem dX2_removeState_85 : decode cX2_removeState 85 = .ok (.putfield 18, 3) := db_cX2_removeState_dX2_removeState_64_3.2.2.2.2.2.2.2.2.2.2.2
set_option maxRecDepth 100000 in
theorem db_cX2_removeState_dX2_removeState_88_4 : (decode cX2_removeState 88 = .ok (.aload_n 0, 1)) ∧ (decode cX2_removeState 89 = .ok (.dup, 1)) ∧ (decode cX2_removeState 90 = .ok (.getfield 15, 3)) ∧ (decode cX2_removeState 93 = .ok (.iconst 1, 1)) ∧ (decode cX2_removeState 94 = .ok (.isub, 1)) ∧ (decode cX2_removeState 95 = .ok (.putfield 15, 3)) ∧ (decode cX2_removeState 98 = .ok (.return_, 1)) := by decide +kernel
theorem dX2_removeState_88 : decode cX2_removeState 88 = .ok (.aload_n 0, 1) := db_cX2_removeState_dX2_removeState_88_4.1
theorem dX2_removeState_89 : decode cX2_removeState 89 = .ok (.dup, 1) := db_cX2_removeState_dX2_removeState_88_4.2.1
theorem dX2_removeState_90 : decode cX2_removeState 90 = .ok (.getfield 15, 3) := db_cX2_removeState_dX2_removeState_88_4.2.2.1
theorem dX2_removeState_93 : decode cX2_removeState 93 = .ok (.iconst 1, 1) := db_cX2_removeState_dX2_removeState_88_4.2.2.2.1
theorem dX2_removeState_94 : decode cX2_removeState 94 = .ok (.isub, 1) := db_cX2_removeState_dX2_removeState_88_4.2.2.2.2.1
theorem dX2_removeState_95 : decode cX2_removeState 95 = .ok (.putfield 15, 3) := db_cX2_removeState_dX2_removeState_88_4.2.2.2.2.2.1
theorem dX2_removeState_98 : decode cX2_removeState 98 = .ok (.return_, 1) := db_cX2_removeState_dX2_removeState_88_4.2.2.2.2.2.2
set_option maxRecDepth 100000 in
theorem db_cX2_countOneByOne_dX2_countOneByOne_0_0 : (decode cX2_countOneByOne 0 = .ok (.iload_n 1, 1)) ∧ (decode cX2_countOneByOne 1 = .ok (.invokestatic 78, 3)) ∧ (decode cX2_countOneByOne 4 = .ok (.istore_n 2, 1)) ∧ (decode cX2_countOneByOne 5 = .ok (.iconst 0, 1)) ∧ (decode cX2_countOneByOne 6 = .ok (.istore_n 3, 1)) ∧ (decode cX2_countOneByOne 7 = .ok (.iconst 0, 1)) ∧ (decode cX2_countOneByOne 8 = .ok (.istore 4, 2)) ∧ (decode cX2_countOneByOne 10 = .ok (.iload 4, 2)) ∧ (decode cX2_countOneByOne 12 = .ok (.iload_n 2, 1)) ∧ (decode cX2_countOneByOne 13 = .ok (.if_icmp .ge 22, 3)) ∧ (decode cX2_countOneByOne 16 = .ok (.aload_n 0, 1)) ∧ (decode cX2_countOneByOne 17 = .ok (.iload_n 1, 1)) := by decide +kernel
theorem dX2_countOneByOne_0 : decode cX2_countOneByOne 0 = .ok (.iload_n 1, 1) := db_cX2_countOneByOne_dX2_countOneByOne_0_0.1
theorem dX2_countOneByOne_1 : decode cX2_countOneByOne 1 = .ok (.invokestatic 78, 3) := db_cX2_countOneByOne_dX2_countOneByOne_0_0.2.1
theorem dX2_countOneByOne_4 : decode cX2_countOneByOne 4 = .ok (.istore_n 2, 1) := db_cX2_countOneByOne_dX2_countOneByOne_0_0.2.2.1
theorem dX2_countOneByOne_5 : decode cX2_countOneByOne 5 = .ok (.iconst 0, 1) := db_cX2_countOneByOne_dX2_countOneByOne_0_0.2.2.2.1
theorem dX2_countOneByOne_6 : decode cX2_countOneByOne 6 = .ok (.istore_n 3, 1) := db_cX2_countOneByOne_dX2_countOneByOne_0_0.2.2.2.2.1
theorem dX2_countOneByOne_7 : decode cX2_countOneByOne 7 = .ok (.iconst 0, 1) := db_cX2_countOneByOne_dX2_countOneByOne_0_0.2.2.2.2.2.1
theorem dX2_countOneByOne_8 : decode cX2_countOneByOne 8 = .ok (.istore 4, 2) := db_cX2_countOneByOne_dX2_countOneByOne_0_0.2.2.2.2.2.2.1
theorem dX2_countOneByOne_10 : decode cX2_countOneByOne 10 = .ok (.iload 4, 2) := db_cX2_countOneByOne_dX2_countOneByOne_0_0.2.2.2.2.2.2.2.1
theorem dX2_countOneByOne_12 : decode cX2_countOneByOne 12 = .ok (.iload_n 2, 1) := db_cX2_countOneByOne_dX2_countOneByOne_0_0.2.2.2.2.2.2.2.2.1
theorem dX2_countOneByOne_13 : decode cX2_countOneByOne 13 = .ok (.if_icmp .ge 22, 3) := db_cX2_countOneByOne_dX2_countOneByOne_0_0.2.2.2.2.2.2.2.2.2.1
theorem dX2_countOneByOne_16 : decode cX2_countOneByOne 16 = .ok (.aload_n 0, 1) := db_cX2_countOneByOne_dX2_countOneByOne_0_0.2.2.2.2.2.2.2.2.2.2.1
theorem dX2_countOneByOne_17 : decode cX2_countOneByOne 17 = .ok (.iload_n 1, 1) := db_cX2_countOneByOne_dX2_countOneByOne_0_0.2.2.2.2.2.2.2.2.2.2.2
set_option maxRecDepth 100000 in
theorem db_cX2_countOneByOne_dX2_countOneByOne_18_1 : (decode cX2_countOneByOne 18 = .ok (.iload 4, 2)) ∧ (decode cX2_countOneByOne 20 = .ok (.invokevirtual 81, 3)) ∧ (decode cX2_countOneByOne 23 = .ok (.ifCond .eq 6, 3)) ∧ (decode cX2_countOneByOne 26 = .ok (.iinc 3 1, 3)) ∧ (decode cX2_countOneByOne 29 = .ok (.iinc 4 1, 3)) ∧ (decode cX2_countOneByOne 32 = .ok (.goto (-22), 3)) ∧ (decode cX2_countOneByOne 35 = .ok (.iload_n 3, 1)) ∧ (decode cX2_countOneByOne 36 = .ok (.ireturn, 1)) := by decide +kernel
theorem dX2_countOneByOne_18 : decode cX2_countOneByOne 18 = .ok (.iload 4, 2) := db_cX2_countOneByOne_dX2_countOneByOne_18_1.1
theorem dX2_countOneByOne_20 : decode cX2_countOneByOne 20 = .ok (.invokevirtual 81, 3) := db_cX2_countOneByOne_dX2_countOneByOne_18_1.2.1
theorem dX2_countOneByOne_23 : decode cX2_countOneByOne 23 = .ok (.ifCond .eq 6, 3) := db_cX2_countOneByOne_dX2_countOneByOne_18_1.2.2.1
theorem dX2_countOneByOne_26 : decode cX2_countOneByOne 26 = .ok (.iinc 3 1, 3) := db_cX2_countOneByOne_dX2_countOneByOne_18_1.2.2.2.1
theorem dX2_countOneByOne_29 : decode cX2_countOneByOne 29 = .ok (.iinc 4 1, 3) := db_cX2_countOneByOne_dX2_countOneByOne_18_1.2.2.2.2.1
theorem dX2_countOneByOne_32 : decode cX2_countOneByOne 32 = .ok (.goto (-22), 3) := db_cX2_countOneByOne_dX2_countOneByOne_18_1.2.2.2.2.2.1
theorem dX2_countOneByOne_35 : decode cX2_countOneByOne 35 = .ok (.iload_n 3, 1) := db_cX2_countOneByOne_dX2_countOneByOne_18_1.2.2.2.2.2.2.1
theorem dX2_countOneByOne_36 : decode cX2_countOneByOne 36 = .ok (.ireturn, 1) := db_cX2_countOneByOne_dX2_countOneByOne_18_1.2.2.2.2.2.2.2
set_option maxRecDepth 100000 in
theorem db_cX3_makeByTurning_dX3_makeByTurning_0_0 : (decode cX3_makeByTurning 0 = .ok (.aload_n 0, 1)) ∧ (decode cX3_makeByTurning 1 = .ok (.getfield 40, 3)) ∧ (decode cX3_makeByTurning 4 = .ok (.aload_n 1, 1)) ∧ (decode cX3_makeByTurning 5 = .ok (.invokevirtual 68, 3)) ∧ (decode cX3_makeByTurning 8 = .ok (.aload_n 0, 1)) ∧ (decode cX3_makeByTurning 9 = .ok (.aload_n 0, 1)) ∧ (decode cX3_makeByTurning 10 = .ok (.getfield 40, 3)) ∧ (decode cX3_makeByTurning 13 = .ok (.aload_n 0, 1)) ∧ (decode cX3_makeByTurning 14 = .ok (.getfield 46, 3)) ∧ (decode cX3_makeByTurning 17 = .ok (.invokevirtual 50, 3)) ∧ (decode cX3_makeByTurning 20 = .ok (.ifCond .ne 5, 3)) ∧ (decode cX3_makeByTurning 23 = .ok (.iconst 0, 1)) := by decide +kernel
theorem dX3_makeByTurning_0 : decode cX3_makeByTurning 0 = .ok (.aload_n 0, 1) := db_cX3_makeByTurning_dX3_makeByTurning_0_0.1
theorem dX3_makeByTurning_1 : decode cX3_makeByTurning 1 = .ok (.getfield 40, 3) := db_cX3_makeByTurning_dX3_makeByTurning_0_0.2.1
theorem dX3_makeByTurning_4 : decode cX3_makeByTurning 4 = .ok (.aload_n 1, 1) := db_cX3_makeByTurning_dX3_makeByTurning_0_0.2.2.1
theorem dX3_makeByTurning_5 : decode cX3_makeByTurning 5 = .ok (.invokevirtual 68, 3) := db_cX3_makeByTurning_dX3_makeByTurning_0_0.2.2.2.1
theorem dX3_makeByTurning_8 : decode cX3_makeByTurning 8 = .ok (.aload_n 0, 1) := db_cX3_makeByTurning_dX3_makeByTurning_0_0.2.2.2.2.1
theorem dX3_makeByTurning_9 : decode cX3_makeByTurning 9 = .ok (.aload_n 0, 1) := db_cX3_makeByTurning_dX3_makeByTurning_0_0.2.2.2.2.2.1
theorem dX3_makeByTurning_10 : decode cX3_makeByTurning 10 = .ok (.getfield 40, 3) := db_cX3_makeByTurning_dX3_makeByTurning_0_0.2.2.2.2.2.2.1
theorem dX3_makeByTurning_13 : decode cX3_makeByTurning 13 = .ok (.aload_n 0, 1) := db_cX3_makeByTurning_dX3_makeByTurning_0_0.2.2.2.2.2.2.2.1
theorem dX3_makeByTurning_14 : decode cX3_makeByTurning 14 = .ok (.getfield 46, 3) := db_cX3_makeByTurning_dX3_makeByTurning_0_0.2.2.2.2.2.2.2.2.1
theorem dX3_makeByTurning_17 : decode cX3_makeByTurning 17 = .ok (.invokevirtual 50, 3) := db_cX3_makeByTurning_dX3_makeByTurning_0_0.2.2.2.2.2.2.2.2.2.1
theorem dX3_makeByTurning_20 : decode cX3_makeByTurning 20 = .ok (.ifCond .ne 5, 3) := db_cX3_makeByTurning_dX3_makeByTurning_0_0.2.2.2.2.2.2.2.2.2.2.1
theorem dX3_makeByTurning_23 : decode cX3_makeByTurning 23 = .ok (.iconst 0, 1) := db_cX3_makeByTurning_dX3_makeByTurning_0_0.2.2.2.2.2.2.2.2.2.2.2
set_option maxRecDepth 100000 in
theorem db_cX3_makeByTurning_dX3_makeByTurning_24_1 : (decode cX3_makeByTurning 24 = .ok (.ireturn, 1)) ∧ (decode cX3_makeByTurning 25 = .ok (.aload_n 0, 1)) ∧ (decode cX3_makeByTurning 26 = .ok (.getfield 36, 3)) ∧ (decode cX3_makeByTurning 29 = .ok (.aload_n 0, 1)) ∧ (decode cX3_makeByTurning 30 = .ok (.getfield 46, 3)) ∧ (decode cX3_makeByTurning 33 = .ok (.invokevirtual 72, 3)) ∧ (decode cX3_makeByTurning 36 = .ok (.aload_n 0, 1)) ∧ (decode cX3_makeByTurning 37 = .ok (.getfield 40, 3)) ∧ (decode cX3_makeByTurning 40 = .ok (.aload_n 0, 1)) ∧ (decode cX3_makeByTurning 41 = .ok (.getfield 36, 3)) ∧ (decode cX3_makeByTurning 44 = .ok (.invokevirtual 68, 3)) ∧ (decode cX3_makeByTurning 47 = .ok (.aload_n 0, 1)) := by decide +kernel
theorem dX3_makeByTurning_24 : decode cX3_makeByTurning 24 = .ok (.ireturn, 1) := db_cX3_makeByTurning_dX3_makeByTurning_24_1.1
theorem dX3_makeByTurning_25 : decode cX3_makeByTurning 25 = .ok (.aload_n 0, 1) := db_cX3_makeByTurning_dX3_makeByTurning_24_1.2.1
theorem dX3_makeByTurning_26 : decode cX3_makeByTurning 26 = .ok (.getfield 36, 3) := db_cX3_makeByTurning_dX3_makeByTurning_24_1.2.2.1
theorem dX3_makeByTurning_29 : decode cX3_makeByTurning 29 = .ok (.aload_n 0, 1) := db_cX3_makeByTurning_dX3_makeByTurning_24_1.2.2.2.1
theorem dX3_makeByTurning_30 : decode cX3_makeByTurning 30 = .ok (.getfield 46, 3) := db_cX3_makeByTurning_dX3_makeByTurning_24_1.2.2.2.2.1
theorem dX3_makeByTurning_33 : decode cX3_makeByTurning 33 = .ok (.invokevirtual 72, 3) := db_cX3_makeByTurning_dX3_makeByTurning_24_1.2.2.2.2.2.1
theorem dX3_makeByTurning_36 : decode cX3_makeByTurning 36 = .ok (.aload_n 0, 1) := db_cX3_makeByTurning_dX3_makeByTurning_24_1.2.2.2.2.2.2.1
theorem dX3_makeByTurning_37 : decode cX3_makeByTurning 37 = .ok (.getfield 40, 3) := db_cX3_makeByTurning_dX3_makeByTurning_24_1.2.2.2.2.2.2.2.1
theorem dX3_makeByTurning_40 : decode cX3_makeByTurning 40 = .ok (.aload_n 0, 1) := db_cX3_makeByTurning_dX3_makeByTurning_24_1.2.2.2.2.2.2.2.2.1
theorem dX3_makeByTurning_41 : decode cX3_makeByTurning 41 = .ok (.getfield 36, 3) := db_cX3_makeByTurning_dX3_makeByTurning_24_1.2.2.2.2.2.2.2.2.2.1
theorem dX3_makeByTurning_44 : decode cX3_makeByTurning 44 = .ok (.invokevirtual 68, 3) := db_cX3_makeByTurning_dX3_makeByTurning_24_1.2.2.2.2.2.2.2.2.2.2.1
theorem dX3_makeByTurning_47 : decode cX3_makeByTurning 47 = .ok (.aload_n 0, 1) := db_cX3_makeByTurning_dX3_makeByTurning_24_1.2.2.2.2.2.2.2.2.2.2.2
set_option maxRecDepth 100000 in
theorem db_cX3_makeByTurning_dX3_makeByTurning_48_2 : (decode cX3_makeByTurning 48 = .ok (.aload_n 0, 1)) ∧ (decode cX3_makeByTurning 49 = .ok (.getfield 40, 3)) ∧ (decode cX3_makeByTurning 52 = .ok (.aload_n 2, 1)) ∧ (decode cX3_makeByTurning 53 = .ok (.invokevirtual 50, 3)) ∧ (decode cX3_makeByTurning 56 = .ok (.ireturn, 1)) := by decide +kernel
theorem dX3_makeByTurning_48 : decode cX3_makeByTurning 48 = .ok (.aload_n 0, 1) := db_cX3_makeByTurning_dX3_makeByTurning_48_2.1
theorem dX3_makeByTurning_49 : decode cX3_makeByTurning 49 = .ok (.getfield 40, 3) := db_cX3_makeByTurning_dX3_makeByTurning_48_2.2.1
theorem dX3_makeByTurning_52 : decode cX3_makeByTurning 52 = .ok (.aload_n 2, 1) := db_cX3_makeByTurning_dX3_makeByTurning_48_2.2.2.1
theorem dX3_makeByTurning_53 : decode cX3_makeByTurning 53 = .ok (.invokevirtual 50, 3) := db_cX3_makeByTurning_dX3_makeByTurning_48_2.2.2.2.1
theorem dX3_makeByTurning_56 : decode cX3_makeByTurning 56 = .ok (.ireturn, 1) := db_cX3_makeByTurning_dX3_makeByTurning_48_2.2.2.2.2
set_option maxRecDepth 100000 in
theorem db_cX3_makeBy_dX3_makeBy_0_0 : (decode cX3_makeBy 0 = .ok (.iload_n 1, 1)) ∧ (decode cX3_makeBy 1 = .ok (.iconst 3, 1)) ∧ (decode cX3_makeBy 2 = .ok (.if_icmp .ne 10, 3)) ∧ (decode cX3_makeBy 5 = .ok (.aload_n 0, 1)) ∧ (decode cX3_makeBy 6 = .ok (.aload_n 2, 1)) ∧ (decode cX3_makeBy 7 = .ok (.aload_n 3, 1)) ∧ (decode cX3_makeBy 8 = .ok (.invokevirtual 50, 3)) ∧ (decode cX3_makeBy 11 = .ok (.ireturn, 1)) ∧ (decode cX3_makeBy 12 = .ok (.iload_n 1, 1)) ∧ (decode cX3_makeBy 13 = .ok (.iconst 2, 1)) ∧ (decode cX3_makeBy 14 = .ok (.if_icmp .ne 10, 3)) ∧ (decode cX3_makeBy 17 = .ok (.aload_n 0, 1)) := by decide +kernel
theorem dX3_makeBy_0 : decode cX3_makeBy 0 = .ok (.iload_n 1, 1) := db_cX3_makeBy_dX3_makeBy_0_0.1
theorem dX3_makeBy_1 : decode cX3_makeBy 1 = .ok (.iconst 3, 1) := db_cX3_makeBy_dX3_makeBy_0_0.2.1
theorem dX3_makeBy_2 : decode cX3_makeBy 2 = .ok (.if_icmp .ne 10, 3) := db_cX3_makeBy_dX3_makeBy_0_0.2.2.1
theorem dX3_makeBy_5 : decode cX3_makeBy 5 = .ok (.aload_n 0, 1) := db_cX3_makeBy_dX3_makeBy_0_0.2.2.2.1
theorem dX3_makeBy_6 : decode cX3_makeBy 6 = .ok (.aload_n 2, 1) := db_cX3_makeBy_dX3_makeBy_0_0.2.2.2.2.1
theorem dX3_makeBy_7 : decode cX3_makeBy 7 = .ok (.aload_n 3, 1) := db_cX3_makeBy_dX3_makeBy_0_0.2.2.2.2.2.1
theorem dX3_makeBy_8 : decode cX3_makeBy 8 = .ok (.invokevirtual 50, 3) := db_cX3_makeBy_dX3_makeBy_0_0.2.2.2.2.2.2.1
theorem dX3_makeBy_11 : decode cX3_makeBy 11 = .ok (.ireturn, 1) := db_cX3_makeBy_dX3_makeBy_0_0.2.2.2.2.2.2.2.1
theorem dX3_makeBy_12 : decode cX3_makeBy 12 = .ok (.iload_n 1, 1) := db_cX3_makeBy_dX3_makeBy_0_0.2.2.2.2.2.2.2.2.1
theorem dX3_makeBy_13 : decode cX3_makeBy 13 = .ok (.iconst 2, 1) := db_cX3_makeBy_dX3_makeBy_0_0.2.2.2.2.2.2.2.2.2.1
theorem dX3_makeBy_14 : decode cX3_makeBy 14 = .ok (.if_icmp .ne 10, 3) := db_cX3_makeBy_dX3_makeBy_0_0.2.2.2.2.2.2.2.2.2.2.1
theorem dX3_makeBy_17 : decode cX3_makeBy 17 = .ok (.aload_n 0, 1) := db_cX3_makeBy_dX3_makeBy_0_0.2.2.2.2.2.2.2.2.2.2.2
set_option maxRecDepth 100000 in
theorem db_cX3_makeBy_dX3_makeBy_18_1 : (decode cX3_makeBy 18 = .ok (.aload_n 2, 1)) ∧ (decode cX3_makeBy 19 = .ok (.aload_n 3, 1)) ∧ (decode cX3_makeBy 20 = .ok (.invokevirtual 54, 3)) ∧ (decode cX3_makeBy 23 = .ok (.ireturn, 1)) ∧ (decode cX3_makeBy 24 = .ok (.aload_n 0, 1)) ∧ (decode cX3_makeBy 25 = .ok (.aload_n 2, 1)) ∧ (decode cX3_makeBy 26 = .ok (.aload_n 0, 1)) ∧ (decode cX3_makeBy 27 = .ok (.getfield 46, 3)) ∧ (decode cX3_makeBy 30 = .ok (.invokevirtual 50, 3)) ∧ (decode cX3_makeBy 33 = .ok (.ifCond .ne 5, 3)) ∧ (decode cX3_makeBy 36 = .ok (.iconst 0, 1)) ∧ (decode cX3_makeBy 37 = .ok (.ireturn, 1)) := by decide +kernel
theorem dX3_makeBy_18 : decode cX3_makeBy 18 = .ok (.aload_n 2, 1) := db_cX3_makeBy_dX3_makeBy_18_1.1
theorem dX3_makeBy_19 : decode cX3_makeBy 19 = .ok (.aload_n 3, 1) := db_cX3_makeBy_dX3_makeBy_18_1.2.1
theorem dX3_makeBy_20 : decode cX3_makeBy 20 = .ok (.invokevirtual 54, 3) := db_cX3_makeBy_dX3_makeBy_18_1.2.2.1
theorem dX3_makeBy_23 : decode cX3_makeBy 23 = .ok (.ireturn, 1) := db_cX3_makeBy_dX3_makeBy_18_1.2.2.2.1
theorem dX3_makeBy_24 : decode cX3_makeBy 24 = .ok (.aload_n 0, 1) := db_cX3_makeBy_dX3_makeBy_18_1.2.2.2.2.1
theorem dX3_makeBy_25 : decode cX3_makeBy 25 = .ok (.aload_n 2, 1) := db_cX3_makeBy_dX3_makeBy_18_1.2.2.2.2.2.1
theorem dX3_makeBy_26 : decode cX3_makeBy 26 = .ok (.aload_n 0, 1) := db_cX3_makeBy_dX3_makeBy_18_1.2.2.2.2.2.2.1
theorem dX3_makeBy_27 : decode cX3_makeBy 27 = .ok (.getfield 46, 3) := db_cX3_makeBy_dX3_makeBy_18_1.2.2.2.2.2.2.2.1
theorem dX3_makeBy_30 : decode cX3_makeBy 30 = .ok (.invokevirtual 50, 3) := db_cX3_makeBy_dX3_makeBy_18_1.2.2.2.2.2.2.2.2.1
theorem dX3_makeBy_33 : decode cX3_makeBy 33 = .ok (.ifCond .ne 5, 3) := db_cX3_makeBy_dX3_makeBy_18_1.2.2.2.2.2.2.2.2.2.1
theorem dX3_makeBy_36 : decode cX3_makeBy 36 = .ok (.iconst 0, 1) := db_cX3_makeBy_dX3_makeBy_18_1.2.2.2.2.2.2.2.2.2.2.1
theorem dX3_makeBy_37 : decode cX3_makeBy 37 = .ok (.ireturn, 1) := db_cX3_makeBy_dX3_makeBy_18_1.2.2.2.2.2.2.2.2.2.2.2
set_option maxRecDepth 100000 in
theorem db_cX3_makeBy_dX3_makeBy_38_2 : (decode cX3_makeBy 38 = .ok (.iload_n 1, 1)) ∧ (decode cX3_makeBy 39 = .ok (.iconst 1, 1)) ∧ (decode cX3_makeBy 40 = .ok (.if_icmp .ne 17, 3)) ∧ (decode cX3_makeBy 43 = .ok (.aload_n 0, 1)) ∧ (decode cX3_makeBy 44 = .ok (.getfield 29, 3)) ∧ (decode cX3_makeBy 47 = .ok (.aload_n 0, 1)) ∧ (decode cX3_makeBy 48 = .ok (.getfield 46, 3)) ∧ (decode cX3_makeBy 51 = .ok (.invokevirtual 57, 3)) ∧ (decode cX3_makeBy 54 = .ok (.goto 14, 3)) ∧ (decode cX3_makeBy 57 = .ok (.aload_n 0, 1)) ∧ (decode cX3_makeBy 58 = .ok (.getfield 29, 3)) ∧ (decode cX3_makeBy 61 = .ok (.aload_n 0, 1)) := by decide +kernel
theorem dX3_makeBy_38 : decode cX3_makeBy 38 = .ok (.iload_n 1, 1) := db_cX3_makeBy_dX3_makeBy_38_2.1
theorem dX3_makeBy_39 : decode cX3_makeBy 39 = .ok (.iconst 1, 1) := db_cX3_makeBy_dX3_makeBy_38_2.2.1
theorem dX3_makeBy_40 : decode cX3_makeBy 40 = .ok (.if_icmp .ne 17, 3) := db_cX3_makeBy_dX3_makeBy_38_2.2.2.1
theorem dX3_makeBy_43 : decode cX3_makeBy 43 = .ok (.aload_n 0, 1) := db_cX3_makeBy_dX3_makeBy_38_2.2.2.2.1
theorem dX3_makeBy_44 : decode cX3_makeBy 44 = .ok (.getfield 29, 3) := db_cX3_makeBy_dX3_makeBy_38_2.2.2.2.2.1
theorem dX3_makeBy_47 : decode cX3_makeBy 47 = .ok (.aload_n 0, 1) := db_cX3_makeBy_dX3_makeBy_38_2.2.2.2.2.2.1
theorem dX3_makeBy_48 : decode cX3_makeBy 48 = .ok (.getfield 46, 3) := db_cX3_makeBy_dX3_makeBy_38_2.2.2.2.2.2.2.1
theorem dX3_makeBy_51 : decode cX3_makeBy 51 = .ok (.invokevirtual 57, 3) := db_cX3_makeBy_dX3_makeBy_38_2.2.2.2.2.2.2.2.1
theorem dX3_makeBy_54 : decode cX3_makeBy 54 = .ok (.goto 14, 3) := db_cX3_makeBy_dX3_makeBy_38_2.2.2.2.2.2.2.2.2.1
theorem dX3_makeBy_57 : decode cX3_makeBy 57 = .ok (.aload_n 0, 1) := db_cX3_makeBy_dX3_makeBy_38_2.2.2.2.2.2.2.2.2.2.1
theorem dX3_makeBy_58 : decode cX3_makeBy 58 = .ok (.getfield 29, 3) := db_cX3_makeBy_dX3_makeBy_38_2.2.2.2.2.2.2.2.2.2.2.1
theorem dX3_makeBy_61 : decode cX3_makeBy 61 = .ok (.aload_n 0, 1) := db_cX3_makeBy_dX3_makeBy_38_2.2.2.2.2.2.2.2.2.2.2.2
set_option maxRecDepth 100000 in
theorem db_cX3_makeBy_dX3_makeBy_62_3 : (decode cX3_makeBy 62 = .ok (.getfield 46, 3)) ∧ (decode cX3_makeBy 65 = .ok (.invokevirtual 61, 3)) ∧ (decode cX3_makeBy 68 = .ok (.aload_n 0, 1)) ∧ (decode cX3_makeBy 69 = .ok (.aload_n 0, 1)) ∧ (decode cX3_makeBy 70 = .ok (.getfield 46, 3)) ∧ (decode cX3_makeBy 73 = .ok (.aload_n 3, 1)) ∧ (decode cX3_makeBy 74 = .ok (.invokevirtual 64, 3)) ∧ (decode cX3_makeBy 77 = .ok (.iconst 1, 1)) ∧ (decode cX3_makeBy 78 = .ok (.ireturn, 1)) := by decide +kernel
theorem dX3_makeBy_62 : decode cX3_makeBy 62 = .ok (.getfield 46, 3) := db_cX3_makeBy_dX3_makeBy_62_3.1
theorem dX3_makeBy_65 : decode cX3_makeBy 65 = .ok (.invokevirtual 61, 3) := db_cX3_makeBy_dX3_makeBy_62_3.2.1
theorem dX3_makeBy_68 : decode cX3_makeBy 68 = .ok (.aload_n 0, 1) := db_cX3_makeBy_dX3_makeBy_62_3.2.2.1
theorem dX3_makeBy_69 : decode cX3_makeBy 69 = .ok (.aload_n 0, 1) := db_cX3_makeBy_dX3_makeBy_62_3.2.2.2.1
theorem dX3_makeBy_70 : decode cX3_makeBy 70 = .ok (.getfield 46, 3) := db_cX3_makeBy_dX3_makeBy_62_3.2.2.2.2.1
theorem dX3_makeBy_73 : decode cX3_makeBy 73 = .ok (.aload_n 3, 1) := db_cX3_makeBy_dX3_makeBy_62_3.2.2.2.2.2.1
theorem dX3_makeBy_74 : decode cX3_makeBy 74 = .ok (.invokevirtual 64, 3) := db_cX3_makeBy_dX3_makeBy_62_3.2.2.2.2.2.2.1
theorem dX3_makeBy_77 : decode cX3_makeBy 77 = .ok (.iconst 1, 1) := db_cX3_makeBy_dX3_makeBy_62_3.2.2.2.2.2.2.2.1
theorem dX3_makeBy_78 : decode cX3_makeBy 78 = .ok (.ireturn, 1) := db_cX3_makeBy_dX3_makeBy_62_3.2.2.2.2.2.2.2.2
set_option maxRecDepth 100000 in
theorem db_cX5_isSameAs_dX5_isSameAs_0_0 : (decode cX5_isSameAs 0 = .ok (.aload_n 0, 1)) ∧ (decode cX5_isSameAs 1 = .ok (.aload_n 1, 1)) ∧ (decode cX5_isSameAs 2 = .ok (.invokevirtual 19, 3)) ∧ (decode cX5_isSameAs 5 = .ok (.ireturn, 1)) := by decide +kernel
theorem dX5_isSameAs_0 : decode cX5_isSameAs 0 = .ok (.aload_n 0, 1) := db_cX5_isSameAs_dX5_isSameAs_0_0.1
theorem dX5_isSameAs_1 : decode cX5_isSameAs 1 = .ok (.aload_n 1, 1) := db_cX5_isSameAs_dX5_isSameAs_0_0.2.1
theorem dX5_isSameAs_2 : decode cX5_isSameAs 2 = .ok (.invokevirtual 19, 3) := db_cX5_isSameAs_dX5_isSameAs_0_0.2.2.1
theorem dX5_isSameAs_5 : decode cX5_isSameAs 5 = .ok (.ireturn, 1) := db_cX5_isSameAs_dX5_isSameAs_0_0.2.2.2
set_option maxRecDepth 100000 in
theorem db_cX5_ledInto_dX5_ledInto_0_0 : (decode cX5_ledInto 0 = .ok (.iconst 0, 1)) ∧ (decode cX5_ledInto 1 = .ok (.istore_n 2, 1)) ∧ (decode cX5_ledInto 2 = .ok (.iconst 0, 1)) ∧ (decode cX5_ledInto 3 = .ok (.istore_n 3, 1)) ∧ (decode cX5_ledInto 4 = .ok (.iload_n 3, 1)) ∧ (decode cX5_ledInto 5 = .ok (.aload_n 0, 1)) ∧ (decode cX5_ledInto 6 = .ok (.getfield 28, 3)) ∧ (decode cX5_ledInto 9 = .ok (.if_icmp .ge 44, 3)) ∧ (decode cX5_ledInto 12 = .ok (.iconst 0, 1)) ∧ (decode cX5_ledInto 13 = .ok (.istore 4, 2)) ∧ (decode cX5_ledInto 15 = .ok (.iload 4, 2)) ∧ (decode cX5_ledInto 17 = .ok (.iconst 3, 1)) := by decide +kernel
theorem dX5_ledInto_0 : decode cX5_ledInto 0 = .ok (.iconst 0, 1) := db_cX5_ledInto_dX5_ledInto_0_0.1
theorem dX5_ledInto_1 : decode cX5_ledInto 1 = .ok (.istore_n 2, 1) := db_cX5_ledInto_dX5_ledInto_0_0.2.1
theorem dX5_ledInto_2 : decode cX5_ledInto 2 = .ok (.iconst 0, 1) := db_cX5_ledInto_dX5_ledInto_0_0.2.2.1
theorem dX5_ledInto_3 : decode cX5_ledInto 3 = .ok (.istore_n 3, 1) := db_cX5_ledInto_dX5_ledInto_0_0.2.2.2.1
theorem dX5_ledInto_4 : decode cX5_ledInto 4 = .ok (.iload_n 3, 1) := db_cX5_ledInto_dX5_ledInto_0_0.2.2.2.2.1
theorem dX5_ledInto_5 : decode cX5_ledInto 5 = .ok (.aload_n 0, 1) := db_cX5_ledInto_dX5_ledInto_0_0.2.2.2.2.2.1
theorem dX5_ledInto_6 : decode cX5_ledInto 6 = .ok (.getfield 28, 3) := db_cX5_ledInto_dX5_ledInto_0_0.2.2.2.2.2.2.1
theorem dX5_ledInto_9 : decode cX5_ledInto 9 = .ok (.if_icmp .ge 44, 3) := db_cX5_ledInto_dX5_ledInto_0_0.2.2.2.2.2.2.2.1
theorem dX5_ledInto_12 : decode cX5_ledInto 12 = .ok (.iconst 0, 1) := db_cX5_ledInto_dX5_ledInto_0_0.2.2.2.2.2.2.2.2.1
theorem dX5_ledInto_13 : decode cX5_ledInto 13 = .ok (.istore 4, 2) := db_cX5_ledInto_dX5_ledInto_0_0.2.2.2.2.2.2.2.2.2.1
theorem dX5_ledInto_15 : decode cX5_ledInto 15 = .ok (.iload 4, 2) := db_cX5_ledInto_dX5_ledInto_0_0.2.2.2.2.2.2.2.2.2.2.1
theorem dX5_ledInto_17 : decode cX5_ledInto 17 = .ok (.iconst 3, 1) := db_cX5_ledInto_dX5_ledInto_0_0.2.2.2.2.2.2.2.2.2.2.2
set_option maxRecDepth 100000 in
theorem db_cX5_ledInto_dX5_ledInto_18_1 : (decode cX5_ledInto 18 = .ok (.if_icmp .ge 29, 3)) ∧ (decode cX5_ledInto 21 = .ok (.iload_n 1, 1)) ∧ (decode cX5_ledInto 22 = .ok (.aload_n 0, 1)) ∧ (decode cX5_ledInto 23 = .ok (.iload_n 3, 1)) ∧ (decode cX5_ledInto 24 = .ok (.iload 4, 2)) ∧ (decode cX5_ledInto 26 = .ok (.invokevirtual 46, 3)) ∧ (decode cX5_ledInto 29 = .ok (.invokestatic 15, 3)) ∧ (decode cX5_ledInto 32 = .ok (.ifCond .eq 9, 3)) ∧ (decode cX5_ledInto 35 = .ok (.iload_n 2, 1)) ∧ (decode cX5_ledInto 36 = .ok (.iconst 1, 1)) ∧ (decode cX5_ledInto 37 = .ok (.iload_n 3, 1)) ∧ (decode cX5_ledInto 38 = .ok (.ishl, 1)) := by decide +kernel
theorem dX5_ledInto_18 : decode cX5_ledInto 18 = .ok (.if_icmp .ge 29, 3) := db_cX5_ledInto_dX5_ledInto_18_1.1
theorem dX5_ledInto_21 : decode cX5_ledInto 21 = .ok (.iload_n 1, 1) := db_cX5_ledInto_dX5_ledInto_18_1.2.1
theorem dX5_ledInto_22 : decode cX5_ledInto 22 = .ok (.aload_n 0, 1) := db_cX5_ledInto_dX5_ledInto_18_1.2.2.1
theorem dX5_ledInto_23 : decode cX5_ledInto 23 = .ok (.iload_n 3, 1) := db_cX5_ledInto_dX5_ledInto_18_1.2.2.2.1
theorem dX5_ledInto_24 : decode cX5_ledInto 24 = .ok (.iload 4, 2) := db_cX5_ledInto_dX5_ledInto_18_1.2.2.2.2.1
theorem dX5_ledInto_26 : decode cX5_ledInto 26 = .ok (.invokevirtual 46, 3) := db_cX5_ledInto_dX5_ledInto_18_1.2.2.2.2.2.1
theorem dX5_ledInto_29 : decode cX5_ledInto 29 = .ok (.invokestatic 15, 3) := db_cX5_ledInto_dX5_ledInto_18_1.2.2.2.2.2.2.1
theorem dX5_ledInto_32 : decode cX5_ledInto 32 = .ok (.ifCond .eq 9, 3) := db_cX5_ledInto_dX5_ledInto_18_1.2.2.2.2.2.2.2.1
theorem dX5_ledInto_35 : decode cX5_ledInto 35 = .ok (.iload_n 2, 1) := db_cX5_ledInto_dX5_ledInto_18_1.2.2.2.2.2.2.2.2.1
theorem dX5_ledInto_36 : decode cX5_ledInto 36 = .ok (.iconst 1, 1) := db_cX5_ledInto_dX5_ledInto_18_1.2.2.2.2.2.2.2.2.2.1
theorem dX5_ledInto_37 : decode cX5_ledInto 37 = .ok (.iload_n 3, 1) := db_cX5_ledInto_dX5_ledInto_18_1.2.2.2.2.2.2.2.2.2.2.1
theorem dX5_ledInto_38 : decode cX5_ledInto 38 = .ok (.ishl, 1) := db_cX5_ledInto_dX5_ledInto_18_1.2.2.2.2.2.2.2.2.2.2.2
set_option maxRecDepth 100000 in
theorem db_cX5_ledInto_dX5_ledInto_39_2 : (decode cX5_ledInto 39 = .ok (.ior, 1)) ∧ (decode cX5_ledInto 40 = .ok (.istore_n 2, 1)) ∧ (decode cX5_ledInto 41 = .ok (.iinc 4 1, 3)) ∧ (decode cX5_ledInto 44 = .ok (.goto (-29), 3)) ∧ (decode cX5_ledInto 47 = .ok (.iinc 3 1, 3)) ∧ (decode cX5_ledInto 50 = .ok (.goto (-46), 3)) ∧ (decode cX5_ledInto 53 = .ok (.iload_n 2, 1)) ∧ (decode cX5_ledInto 54 = .ok (.ireturn, 1)) := by decide +kernel
theorem dX5_ledInto_39 : decode cX5_ledInto 39 = .ok (.ior, 1) := db_cX5_ledInto_dX5_ledInto_39_2.1
theorem dX5_ledInto_40 : decode cX5_ledInto 40 = .ok (.istore_n 2, 1) := db_cX5_ledInto_dX5_ledInto_39_2.2.1
theorem dX5_ledInto_41 : decode cX5_ledInto 41 = .ok (.iinc 4 1, 3) := db_cX5_ledInto_dX5_ledInto_39_2.2.2.1
theorem dX5_ledInto_44 : decode cX5_ledInto 44 = .ok (.goto (-29), 3) := db_cX5_ledInto_dX5_ledInto_39_2.2.2.2.1
theorem dX5_ledInto_47 : decode cX5_ledInto 47 = .ok (.iinc 3 1, 3) := db_cX5_ledInto_dX5_ledInto_39_2.2.2.2.2.1
theorem dX5_ledInto_50 : decode cX5_ledInto 50 = .ok (.goto (-46), 3) := db_cX5_ledInto_dX5_ledInto_39_2.2.2.2.2.2.1
theorem dX5_ledInto_53 : decode cX5_ledInto 53 = .ok (.iload_n 2, 1) := db_cX5_ledInto_dX5_ledInto_39_2.2.2.2.2.2.2.1
theorem dX5_ledInto_54 : decode cX5_ledInto 54 = .ok (.ireturn, 1) := db_cX5_ledInto_dX5_ledInto_39_2.2.2.2.2.2.2.2
set_option maxRecDepth 100000 in
theorem db_cX5_isTakingLongOnes_dX5_isTakingLongOnes_0_0 : (decode cX5_isTakingLongOnes 0 = .ok (.aload_n 0, 1)) ∧ (decode cX5_isTakingLongOnes 1 = .ok (.getfield 9, 3)) ∧ (decode cX5_isTakingLongOnes 4 = .ok (.istore_n 1, 1)) ∧ (decode cX5_isTakingLongOnes 5 = .ok (.iconst 1, 1)) ∧ (decode cX5_isTakingLongOnes 6 = .ok (.istore_n 2, 1)) ∧ (decode cX5_isTakingLongOnes 7 = .ok (.iload_n 2, 1)) ∧ (decode cX5_isTakingLongOnes 8 = .ok (.iconst 2, 1)) ∧ (decode cX5_isTakingLongOnes 9 = .ok (.aload_n 0, 1)) ∧ (decode cX5_isTakingLongOnes 10 = .ok (.getfield 28, 3)) ∧ (decode cX5_isTakingLongOnes 13 = .ok (.imul, 1)) ∧ (decode cX5_isTakingLongOnes 14 = .ok (.if_icmp .ge 33, 3)) ∧ (decode cX5_isTakingLongOnes 17 = .ok (.aload_n 0, 1)) := by decide +kernel
theorem dX5_isTakingLongOnes_0 : decode cX5_isTakingLongOnes 0 = .ok (.aload_n 0, 1) := db_cX5_isTakingLongOnes_dX5_isTakingLongOnes_0_0.1
theorem dX5_isTakingLongOnes_1 : decode cX5_isTakingLongOnes 1 = .ok (.getfield 9, 3) := db_cX5_isTakingLongOnes_dX5_isTakingLongOnes_0_0.2.1
theorem dX5_isTakingLongOnes_4 : decode cX5_isTakingLongOnes 4 = .ok (.istore_n 1, 1) := db_cX5_isTakingLongOnes_dX5_isTakingLongOnes_0_0.2.2.1
theorem dX5_isTakingLongOnes_5 : decode cX5_isTakingLongOnes 5 = .ok (.iconst 1, 1) := db_cX5_isTakingLongOnes_dX5_isTakingLongOnes_0_0.2.2.2.1
theorem dX5_isTakingLongOnes_6 : decode cX5_isTakingLongOnes 6 = .ok (.istore_n 2, 1) := db_cX5_isTakingLongOnes_dX5_isTakingLongOnes_0_0.2.2.2.2.1
theorem dX5_isTakingLongOnes_7 : decode cX5_isTakingLongOnes 7 = .ok (.iload_n 2, 1) := db_cX5_isTakingLongOnes_dX5_isTakingLongOnes_0_0.2.2.2.2.2.1
theorem dX5_isTakingLongOnes_8 : decode cX5_isTakingLongOnes 8 = .ok (.iconst 2, 1) := db_cX5_isTakingLongOnes_dX5_isTakingLongOnes_0_0.2.2.2.2.2.2.1
theorem dX5_isTakingLongOnes_9 : decode cX5_isTakingLongOnes 9 = .ok (.aload_n 0, 1) := db_cX5_isTakingLongOnes_dX5_isTakingLongOnes_0_0.2.2.2.2.2.2.2.1
theorem dX5_isTakingLongOnes_10 : decode cX5_isTakingLongOnes 10 = .ok (.getfield 28, 3) := db_cX5_isTakingLongOnes_dX5_isTakingLongOnes_0_0.2.2.2.2.2.2.2.2.1
theorem dX5_isTakingLongOnes_13 : decode cX5_isTakingLongOnes 13 = .ok (.imul, 1) := db_cX5_isTakingLongOnes_dX5_isTakingLongOnes_0_0.2.2.2.2.2.2.2.2.2.1
theorem dX5_isTakingLongOnes_14 : decode cX5_isTakingLongOnes 14 = .ok (.if_icmp .ge 33, 3) := db_cX5_isTakingLongOnes_dX5_isTakingLongOnes_0_0.2.2.2.2.2.2.2.2.2.2.1
theorem dX5_isTakingLongOnes_17 : decode cX5_isTakingLongOnes 17 = .ok (.aload_n 0, 1) := db_cX5_isTakingLongOnes_dX5_isTakingLongOnes_0_0.2.2.2.2.2.2.2.2.2.2.2
set_option maxRecDepth 100000 in
theorem db_cX5_isTakingLongOnes_dX5_isTakingLongOnes_18_1 : (decode cX5_isTakingLongOnes 18 = .ok (.iload_n 1, 1)) ∧ (decode cX5_isTakingLongOnes 19 = .ok (.invokevirtual 49, 3)) ∧ (decode cX5_isTakingLongOnes 22 = .ok (.istore_n 1, 1)) ∧ (decode cX5_isTakingLongOnes 23 = .ok (.iload_n 2, 1)) ∧ (decode cX5_isTakingLongOnes 24 = .ok (.aload_n 0, 1)) ∧ (decode cX5_isTakingLongOnes 25 = .ok (.getfield 28, 3)) ∧ (decode cX5_isTakingLongOnes 28 = .ok (.if_icmp .lt 13, 3)) ∧ (decode cX5_isTakingLongOnes 31 = .ok (.iload_n 1, 1)) ∧ (decode cX5_isTakingLongOnes 32 = .ok (.iconst 0, 1)) ∧ (decode cX5_isTakingLongOnes 33 = .ok (.invokestatic 15, 3)) ∧ (decode cX5_isTakingLongOnes 36 = .ok (.ifCond .eq 5, 3)) ∧ (decode cX5_isTakingLongOnes 39 = .ok (.iconst 1, 1)) := by decide +kernel
theorem dX5_isTakingLongOnes_18 : decode cX5_isTakingLongOnes 18 = .ok (.iload_n 1, 1) := db_cX5_isTakingLongOnes_dX5_isTakingLongOnes_18_1.1
theorem dX5_isTakingLongOnes_19 : decode cX5_isTakingLongOnes 19 = .ok (.invokevirtual 49, 3) := db_cX5_isTakingLongOnes_dX5_isTakingLongOnes_18_1.2.1
theorem dX5_isTakingLongOnes_22 : decode cX5_isTakingLongOnes 22 = .ok (.istore_n 1, 1) := db_cX5_isTakingLongOnes_dX5_isTakingLongOnes_18_1.2.2.1
theorem dX5_isTakingLongOnes_23 : decode cX5_isTakingLongOnes 23 = .ok (.iload_n 2, 1) := db_cX5_isTakingLongOnes_dX5_isTakingLongOnes_18_1.2.2.2.1
theorem dX5_isTakingLongOnes_24 : decode cX5_isTakingLongOnes 24 = .ok (.aload_n 0, 1) := db_cX5_isTakingLongOnes_dX5_isTakingLongOnes_18_1.2.2.2.2.1
theorem dX5_isTakingLongOnes_25 : decode cX5_isTakingLongOnes 25 = .ok (.getfield 28, 3) := db_cX5_isTakingLongOnes_dX5_isTakingLongOnes_18_1.2.2.2.2.2.1
theorem dX5_isTakingLongOnes_28 : decode cX5_isTakingLongOnes 28 = .ok (.if_icmp .lt 13, 3) := db_cX5_isTakingLongOnes_dX5_isTakingLongOnes_18_1.2.2.2.2.2.2.1
theorem dX5_isTakingLongOnes_31 : decode cX5_isTakingLongOnes 31 = .ok (.iload_n 1, 1) := db_cX5_isTakingLongOnes_dX5_isTakingLongOnes_18_1.2.2.2.2.2.2.2.1
theorem dX5_isTakingLongOnes_32 : decode cX5_isTakingLongOnes 32 = .ok (.iconst 0, 1) := db_cX5_isTakingLongOnes_dX5_isTakingLongOnes_18_1.2.2.2.2.2.2.2.2.1
theorem dX5_isTakingLongOnes_33 : decode cX5_isTakingLongOnes 33 = .ok (.invokestatic 15, 3) := db_cX5_isTakingLongOnes_dX5_isTakingLongOnes_18_1.2.2.2.2.2.2.2.2.2.1
theorem dX5_isTakingLongOnes_36 : decode cX5_isTakingLongOnes 36 = .ok (.ifCond .eq 5, 3) := db_cX5_isTakingLongOnes_dX5_isTakingLongOnes_18_1.2.2.2.2.2.2.2.2.2.2.1
theorem dX5_isTakingLongOnes_39 : decode cX5_isTakingLongOnes 39 = .ok (.iconst 1, 1) := db_cX5_isTakingLongOnes_dX5_isTakingLongOnes_18_1.2.2.2.2.2.2.2.2.2.2.2
set_option maxRecDepth 100000 in
theorem db_cX5_isTakingLongOnes_dX5_isTakingLongOnes_40_2 : (decode cX5_isTakingLongOnes 40 = .ok (.ireturn, 1)) ∧ (decode cX5_isTakingLongOnes 41 = .ok (.iinc 2 1, 3)) ∧ (decode cX5_isTakingLongOnes 44 = .ok (.goto (-37), 3)) ∧ (decode cX5_isTakingLongOnes 47 = .ok (.iconst 0, 1)) ∧ (decode cX5_isTakingLongOnes 48 = .ok (.ireturn, 1)) := by decide +kernel
theorem dX5_isTakingLongOnes_40 : decode cX5_isTakingLongOnes 40 = .ok (.ireturn, 1) := db_cX5_isTakingLongOnes_dX5_isTakingLongOnes_40_2.1
theorem dX5_isTakingLongOnes_41 : decode cX5_isTakingLongOnes 41 = .ok (.iinc 2 1, 3) := db_cX5_isTakingLongOnes_dX5_isTakingLongOnes_40_2.2.1
theorem dX5_isTakingLongOnes_44 : decode cX5_isTakingLongOnes 44 = .ok (.goto (-37), 3) := db_cX5_isTakingLongOnes_dX5_isTakingLongOnes_40_2.2.2.1
theorem dX5_isTakingLongOnes_47 : decode cX5_isTakingLongOnes 47 = .ok (.iconst 0, 1) := db_cX5_isTakingLongOnes_dX5_isTakingLongOnes_40_2.2.2.2.1
theorem dX5_isTakingLongOnes_48 : decode cX5_isTakingLongOnes 48 = .ok (.ireturn, 1) := db_cX5_isTakingLongOnes_dX5_isTakingLongOnes_40_2.2.2.2.2
set_option maxRecDepth 100000 in
theorem db_cX8_from_dX8_from_0_0 : (decode cX8_from 0 = .ok (.aload_n 0, 1)) ∧ (decode cX8_from 1 = .ok (.getfield 14, 3)) ∧ (decode cX8_from 4 = .ok (.iload_n 2, 1)) ∧ (decode cX8_from 5 = .ok (.bipush 32, 2)) ∧ (decode cX8_from 7 = .ok (.imul, 1)) ∧ (decode cX8_from 8 = .ok (.iload_n 1, 1)) ∧ (decode cX8_from 9 = .ok (.iadd, 1)) ∧ (decode cX8_from 10 = .ok (.invokevirtual 20, 3)) ∧ (decode cX8_from 13 = .ok (.ireturn, 1)) := by decide +kernel
theorem dX8_from_0 : decode cX8_from 0 = .ok (.aload_n 0, 1) := db_cX8_from_dX8_from_0_0.1
theorem dX8_from_1 : decode cX8_from 1 = .ok (.getfield 14, 3) := db_cX8_from_dX8_from_0_0.2.1
theorem dX8_from_4 : decode cX8_from 4 = .ok (.iload_n 2, 1) := db_cX8_from_dX8_from_0_0.2.2.1
theorem dX8_from_5 : decode cX8_from 5 = .ok (.bipush 32, 2) := db_cX8_from_dX8_from_0_0.2.2.2.1
theorem dX8_from_7 : decode cX8_from 7 = .ok (.imul, 1) := db_cX8_from_dX8_from_0_0.2.2.2.2.1
theorem dX8_from_8 : decode cX8_from 8 = .ok (.iload_n 1, 1) := db_cX8_from_dX8_from_0_0.2.2.2.2.2.1
theorem dX8_from_9 : decode cX8_from 9 = .ok (.iadd, 1) := db_cX8_from_dX8_from_0_0.2.2.2.2.2.2.1
theorem dX8_from_10 : decode cX8_from 10 = .ok (.invokevirtual 20, 3) := db_cX8_from_dX8_from_0_0.2.2.2.2.2.2.2.1
theorem dX8_from_13 : decode cX8_from 13 = .ok (.ireturn, 1) := db_cX8_from_dX8_from_0_0.2.2.2.2.2.2.2.2
set_option maxRecDepth 100000 in
theorem db_cX8_sumOver_dX8_sumOver_0_0 : (decode cX8_sumOver 0 = .ok (.iconst 0, 1)) ∧ (decode cX8_sumOver 1 = .ok (.istore 4, 2)) ∧ (decode cX8_sumOver 3 = .ok (.iconst 0, 1)) ∧ (decode cX8_sumOver 4 = .ok (.istore 5, 2)) ∧ (decode cX8_sumOver 6 = .ok (.iload 5, 2)) ∧ (decode cX8_sumOver 8 = .ok (.iconst 3, 1)) ∧ (decode cX8_sumOver 9 = .ok (.if_icmp .ge 26, 3)) ∧ (decode cX8_sumOver 12 = .ok (.iload 4, 2)) ∧ (decode cX8_sumOver 14 = .ok (.aload_n 0, 1)) ∧ (decode cX8_sumOver 15 = .ok (.aload_n 1, 1)) ∧ (decode cX8_sumOver 16 = .ok (.iload_n 2, 1)) ∧ (decode cX8_sumOver 17 = .ok (.iload 5, 2)) := by decide +kernel
theorem dX8_sumOver_0 : decode cX8_sumOver 0 = .ok (.iconst 0, 1) := db_cX8_sumOver_dX8_sumOver_0_0.1
theorem dX8_sumOver_1 : decode cX8_sumOver 1 = .ok (.istore 4, 2) := db_cX8_sumOver_dX8_sumOver_0_0.2.1
theorem dX8_sumOver_3 : decode cX8_sumOver 3 = .ok (.iconst 0, 1) := db_cX8_sumOver_dX8_sumOver_0_0.2.2.1
theorem dX8_sumOver_4 : decode cX8_sumOver 4 = .ok (.istore 5, 2) := db_cX8_sumOver_dX8_sumOver_0_0.2.2.2.1
theorem dX8_sumOver_6 : decode cX8_sumOver 6 = .ok (.iload 5, 2) := db_cX8_sumOver_dX8_sumOver_0_0.2.2.2.2.1
theorem dX8_sumOver_8 : decode cX8_sumOver 8 = .ok (.iconst 3, 1) := db_cX8_sumOver_dX8_sumOver_0_0.2.2.2.2.2.1
theorem dX8_sumOver_9 : decode cX8_sumOver 9 = .ok (.if_icmp .ge 26, 3) := db_cX8_sumOver_dX8_sumOver_0_0.2.2.2.2.2.2.1
theorem dX8_sumOver_12 : decode cX8_sumOver 12 = .ok (.iload 4, 2) := db_cX8_sumOver_dX8_sumOver_0_0.2.2.2.2.2.2.2.1
theorem dX8_sumOver_14 : decode cX8_sumOver 14 = .ok (.aload_n 0, 1) := db_cX8_sumOver_dX8_sumOver_0_0.2.2.2.2.2.2.2.2.1
theorem dX8_sumOver_15 : decode cX8_sumOver 15 = .ok (.aload_n 1, 1) := db_cX8_sumOver_dX8_sumOver_0_0.2.2.2.2.2.2.2.2.2.1
theorem dX8_sumOver_16 : decode cX8_sumOver 16 = .ok (.iload_n 2, 1) := db_cX8_sumOver_dX8_sumOver_0_0.2.2.2.2.2.2.2.2.2.2.1
theorem dX8_sumOver_17 : decode cX8_sumOver 17 = .ok (.iload 5, 2) := db_cX8_sumOver_dX8_sumOver_0_0.2.2.2.2.2.2.2.2.2.2.2
set_option maxRecDepth 100000 in
theorem db_cX8_sumOver_dX8_sumOver_19_1 : (decode cX8_sumOver 19 = .ok (.invokevirtual 42, 3)) ∧ (decode cX8_sumOver 22 = .ok (.iload_n 3, 1)) ∧ (decode cX8_sumOver 23 = .ok (.invokevirtual 45, 3)) ∧ (decode cX8_sumOver 26 = .ok (.iadd, 1)) ∧ (decode cX8_sumOver 27 = .ok (.istore 4, 2)) ∧ (decode cX8_sumOver 29 = .ok (.iinc 5 1, 3)) ∧ (decode cX8_sumOver 32 = .ok (.goto (-26), 3)) ∧ (decode cX8_sumOver 35 = .ok (.iload 4, 2)) ∧ (decode cX8_sumOver 37 = .ok (.ireturn, 1)) := by decide +kernel
theorem dX8_sumOver_19 : decode cX8_sumOver 19 = .ok (.invokevirtual 42, 3) := db_cX8_sumOver_dX8_sumOver_19_1.1
theorem dX8_sumOver_22 : decode cX8_sumOver 22 = .ok (.iload_n 3, 1) := db_cX8_sumOver_dX8_sumOver_19_1.2.1
theorem dX8_sumOver_23 : decode cX8_sumOver 23 = .ok (.invokevirtual 45, 3) := db_cX8_sumOver_dX8_sumOver_19_1.2.2.1
theorem dX8_sumOver_26 : decode cX8_sumOver 26 = .ok (.iadd, 1) := db_cX8_sumOver_dX8_sumOver_19_1.2.2.2.1
theorem dX8_sumOver_27 : decode cX8_sumOver 27 = .ok (.istore 4, 2) := db_cX8_sumOver_dX8_sumOver_19_1.2.2.2.2.1
theorem dX8_sumOver_29 : decode cX8_sumOver 29 = .ok (.iinc 5 1, 3) := db_cX8_sumOver_dX8_sumOver_19_1.2.2.2.2.2.1
theorem dX8_sumOver_32 : decode cX8_sumOver 32 = .ok (.goto (-26), 3) := db_cX8_sumOver_dX8_sumOver_19_1.2.2.2.2.2.2.1
theorem dX8_sumOver_35 : decode cX8_sumOver 35 = .ok (.iload 4, 2) := db_cX8_sumOver_dX8_sumOver_19_1.2.2.2.2.2.2.2.1
theorem dX8_sumOver_37 : decode cX8_sumOver 37 = .ok (.ireturn, 1) := db_cX8_sumOver_dX8_sumOver_19_1.2.2.2.2.2.2.2.2
set_option maxRecDepth 100000 in
theorem db_cX8_count_dX8_count_0_0 : (decode cX8_count 0 = .ok (.iconst 0, 1)) ∧ (decode cX8_count 1 = .ok (.istore_n 2, 1)) ∧ (decode cX8_count 2 = .ok (.iload_n 2, 1)) ∧ (decode cX8_count 3 = .ok (.aload_n 1, 1)) ∧ (decode cX8_count 4 = .ok (.getfield 24, 3)) ∧ (decode cX8_count 7 = .ok (.if_icmp .ge 30, 3)) ∧ (decode cX8_count 10 = .ok (.aload_n 0, 1)) ∧ (decode cX8_count 11 = .ok (.getfield 14, 3)) ∧ (decode cX8_count 14 = .ok (.iload_n 2, 1)) ∧ (decode cX8_count 15 = .ok (.aload_n 1, 1)) ∧ (decode cX8_count 16 = .ok (.iload_n 2, 1)) ∧ (decode cX8_count 17 = .ok (.invokevirtual 30, 3)) := by decide +kernel
theorem dX8_count_0 : decode cX8_count 0 = .ok (.iconst 0, 1) := db_cX8_count_dX8_count_0_0.1
theorem dX8_count_1 : decode cX8_count 1 = .ok (.istore_n 2, 1) := db_cX8_count_dX8_count_0_0.2.1
theorem dX8_count_2 : decode cX8_count 2 = .ok (.iload_n 2, 1) := db_cX8_count_dX8_count_0_0.2.2.1
theorem dX8_count_3 : decode cX8_count 3 = .ok (.aload_n 1, 1) := db_cX8_count_dX8_count_0_0.2.2.2.1
theorem dX8_count_4 : decode cX8_count 4 = .ok (.getfield 24, 3) := db_cX8_count_dX8_count_0_0.2.2.2.2.1
theorem dX8_count_7 : decode cX8_count 7 = .ok (.if_icmp .ge 30, 3) := db_cX8_count_dX8_count_0_0.2.2.2.2.2.1
theorem dX8_count_10 : decode cX8_count 10 = .ok (.aload_n 0, 1) := db_cX8_count_dX8_count_0_0.2.2.2.2.2.2.1
theorem dX8_count_11 : decode cX8_count 11 = .ok (.getfield 14, 3) := db_cX8_count_dX8_count_0_0.2.2.2.2.2.2.2.1
theorem dX8_count_14 : decode cX8_count 14 = .ok (.iload_n 2, 1) := db_cX8_count_dX8_count_0_0.2.2.2.2.2.2.2.2.1
theorem dX8_count_15 : decode cX8_count 15 = .ok (.aload_n 1, 1) := db_cX8_count_dX8_count_0_0.2.2.2.2.2.2.2.2.2.1
theorem dX8_count_16 : decode cX8_count 16 = .ok (.iload_n 2, 1) := db_cX8_count_dX8_count_0_0.2.2.2.2.2.2.2.2.2.2.1
theorem dX8_count_17 : decode cX8_count 17 = .ok (.invokevirtual 30, 3) := db_cX8_count_dX8_count_0_0.2.2.2.2.2.2.2.2.2.2.2
set_option maxRecDepth 100000 in
theorem db_cX8_count_dX8_count_20_1 : (decode cX8_count 20 = .ok (.ifCond .eq 7, 3)) ∧ (decode cX8_count 23 = .ok (.iconst 1, 1)) ∧ (decode cX8_count 24 = .ok (.goto 4, 3)) ∧ (decode cX8_count 27 = .ok (.iconst 0, 1)) ∧ (decode cX8_count 28 = .ok (.invokevirtual 34, 3)) ∧ (decode cX8_count 31 = .ok (.iinc 2 1, 3)) ∧ (decode cX8_count 34 = .ok (.goto (-32), 3)) ∧ (decode cX8_count 37 = .ok (.iconst 1, 1)) ∧ (decode cX8_count 38 = .ok (.istore_n 2, 1)) ∧ (decode cX8_count 39 = .ok (.iload_n 2, 1)) ∧ (decode cX8_count 40 = .ok (.bipush 12, 2)) ∧ (decode cX8_count 42 = .ok (.if_icmp .gt 47, 3)) := by decide +kernel
theorem dX8_count_20 : decode cX8_count 20 = .ok (.ifCond .eq 7, 3) := db_cX8_count_dX8_count_20_1.1
theorem dX8_count_23 : decode cX8_count 23 = .ok (.iconst 1, 1) := db_cX8_count_dX8_count_20_1.2.1
theorem dX8_count_24 : decode cX8_count 24 = .ok (.goto 4, 3) := db_cX8_count_dX8_count_20_1.2.2.1
theorem dX8_count_27 : decode cX8_count 27 = .ok (.iconst 0, 1) := db_cX8_count_dX8_count_20_1.2.2.2.1
theorem dX8_count_28 : decode cX8_count 28 = .ok (.invokevirtual 34, 3) := db_cX8_count_dX8_count_20_1.2.2.2.2.1
theorem dX8_count_31 : decode cX8_count 31 = .ok (.iinc 2 1, 3) := db_cX8_count_dX8_count_20_1.2.2.2.2.2.1
theorem dX8_count_34 : decode cX8_count 34 = .ok (.goto (-32), 3) := db_cX8_count_dX8_count_20_1.2.2.2.2.2.2.1
theorem dX8_count_37 : decode cX8_count 37 = .ok (.iconst 1, 1) := db_cX8_count_dX8_count_20_1.2.2.2.2.2.2.2.1
theorem dX8_count_38 : decode cX8_count 38 = .ok (.istore_n 2, 1) := db_cX8_count_dX8_count_20_1.2.2.2.2.2.2.2.2.1
theorem dX8_count_39 : decode cX8_count 39 = .ok (.iload_n 2, 1) := db_cX8_count_dX8_count_20_1.2.2.2.2.2.2.2.2.2.1
theorem dX8_count_40 : decode cX8_count 40 = .ok (.bipush 12, 2) := db_cX8_count_dX8_count_20_1.2.2.2.2.2.2.2.2.2.2.1
theorem dX8_count_42 : decode cX8_count 42 = .ok (.if_icmp .gt 47, 3) := db_cX8_count_dX8_count_20_1.2.2.2.2.2.2.2.2.2.2.2
set_option maxRecDepth 100000 in
theorem db_cX8_count_dX8_count_45_2 : (decode cX8_count 45 = .ok (.iconst 0, 1)) ∧ (decode cX8_count 46 = .ok (.istore_n 3, 1)) ∧ (decode cX8_count 47 = .ok (.iload_n 3, 1)) ∧ (decode cX8_count 48 = .ok (.aload_n 1, 1)) ∧ (decode cX8_count 49 = .ok (.getfield 24, 3)) ∧ (decode cX8_count 52 = .ok (.if_icmp .ge 31, 3)) ∧ (decode cX8_count 55 = .ok (.aload_n 0, 1)) ∧ (decode cX8_count 56 = .ok (.getfield 14, 3)) ∧ (decode cX8_count 59 = .ok (.iload_n 2, 1)) ∧ (decode cX8_count 60 = .ok (.bipush 32, 2)) ∧ (decode cX8_count 62 = .ok (.imul, 1)) ∧ (decode cX8_count 63 = .ok (.iload_n 3, 1)) := by decide +kernel
theorem dX8_count_45 : decode cX8_count 45 = .ok (.iconst 0, 1) := db_cX8_count_dX8_count_45_2.1
theorem dX8_count_46 : decode cX8_count 46 = .ok (.istore_n 3, 1) := db_cX8_count_dX8_count_45_2.2.1
theorem dX8_count_47 : decode cX8_count 47 = .ok (.iload_n 3, 1) := db_cX8_count_dX8_count_45_2.2.2.1
theorem dX8_count_48 : decode cX8_count 48 = .ok (.aload_n 1, 1) := db_cX8_count_dX8_count_45_2.2.2.2.1
theorem dX8_count_49 : decode cX8_count 49 = .ok (.getfield 24, 3) := db_cX8_count_dX8_count_45_2.2.2.2.2.1
theorem dX8_count_52 : decode cX8_count 52 = .ok (.if_icmp .ge 31, 3) := db_cX8_count_dX8_count_45_2.2.2.2.2.2.1
theorem dX8_count_55 : decode cX8_count 55 = .ok (.aload_n 0, 1) := db_cX8_count_dX8_count_45_2.2.2.2.2.2.2.1
theorem dX8_count_56 : decode cX8_count 56 = .ok (.getfield 14, 3) := db_cX8_count_dX8_count_45_2.2.2.2.2.2.2.2.1
theorem dX8_count_59 : decode cX8_count 59 = .ok (.iload_n 2, 1) := db_cX8_count_dX8_count_45_2.2.2.2.2.2.2.2.2.1
theorem dX8_count_60 : decode cX8_count 60 = .ok (.bipush 32, 2) := db_cX8_count_dX8_count_45_2.2.2.2.2.2.2.2.2.2.1
theorem dX8_count_62 : decode cX8_count 62 = .ok (.imul, 1) := db_cX8_count_dX8_count_45_2.2.2.2.2.2.2.2.2.2.2.1
theorem dX8_count_63 : decode cX8_count 63 = .ok (.iload_n 3, 1) := db_cX8_count_dX8_count_45_2.2.2.2.2.2.2.2.2.2.2.2
set_option maxRecDepth 100000 in
theorem db_cX8_count_dX8_count_64_3 : (decode cX8_count 64 = .ok (.iadd, 1)) ∧ (decode cX8_count 65 = .ok (.aload_n 0, 1)) ∧ (decode cX8_count 66 = .ok (.aload_n 1, 1)) ∧ (decode cX8_count 67 = .ok (.iload_n 3, 1)) ∧ (decode cX8_count 68 = .ok (.iload_n 2, 1)) ∧ (decode cX8_count 69 = .ok (.iconst 1, 1)) ∧ (decode cX8_count 70 = .ok (.isub, 1)) ∧ (decode cX8_count 71 = .ok (.invokevirtual 38, 3)) ∧ (decode cX8_count 74 = .ok (.invokevirtual 34, 3)) ∧ (decode cX8_count 77 = .ok (.iinc 3 1, 3)) ∧ (decode cX8_count 80 = .ok (.goto (-33), 3)) ∧ (decode cX8_count 83 = .ok (.iinc 2 1, 3)) := by decide +kernel
theorem dX8_count_64 : decode cX8_count 64 = .ok (.iadd, 1) := db_cX8_count_dX8_count_64_3.1
theorem dX8_count_65 : decode cX8_count 65 = .ok (.aload_n 0, 1) := db_cX8_count_dX8_count_64_3.2.1
theorem dX8_count_66 : decode cX8_count 66 = .ok (.aload_n 1, 1) := db_cX8_count_dX8_count_64_3.2.2.1
theorem dX8_count_67 : decode cX8_count 67 = .ok (.iload_n 3, 1) := db_cX8_count_dX8_count_64_3.2.2.2.1
theorem dX8_count_68 : decode cX8_count 68 = .ok (.iload_n 2, 1) := db_cX8_count_dX8_count_64_3.2.2.2.2.1
theorem dX8_count_69 : decode cX8_count 69 = .ok (.iconst 1, 1) := db_cX8_count_dX8_count_64_3.2.2.2.2.2.1
theorem dX8_count_70 : decode cX8_count 70 = .ok (.isub, 1) := db_cX8_count_dX8_count_64_3.2.2.2.2.2.2.1
theorem dX8_count_71 : decode cX8_count 71 = .ok (.invokevirtual 38, 3) := db_cX8_count_dX8_count_64_3.2.2.2.2.2.2.2.1
theorem dX8_count_74 : decode cX8_count 74 = .ok (.invokevirtual 34, 3) := db_cX8_count_dX8_count_64_3.2.2.2.2.2.2.2.2.1
theorem dX8_count_77 : decode cX8_count 77 = .ok (.iinc 3 1, 3) := db_cX8_count_dX8_count_64_3.2.2.2.2.2.2.2.2.2.1
theorem dX8_count_80 : decode cX8_count 80 = .ok (.goto (-33), 3) := db_cX8_count_dX8_count_64_3.2.2.2.2.2.2.2.2.2.2.1
theorem dX8_count_83 : decode cX8_count 83 = .ok (.iinc 2 1, 3) := db_cX8_count_dX8_count_64_3.2.2.2.2.2.2.2.2.2.2.2
theorem dX8_count_86 : decode cX8_count 86 = .ok (.goto (-47), 3) := by decide +kernel
theorem dX8_count_89 : decode cX8_count 89 = .ok (.return_, 1) := by decide +kernel
