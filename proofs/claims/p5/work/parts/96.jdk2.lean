theorem dJ6_stringSize_0f7a4_0 : decode cJ6_stringSize_0f7a4 0 = .ok (.iconst 1, 1) := by decide +kernel
theorem dJ6_stringSize_0f7a4_1 : decode cJ6_stringSize_0f7a4 1 = .ok (.istore_n 1, 1) := by decide +kernel
theorem dJ6_stringSize_0f7a4_2 : decode cJ6_stringSize_0f7a4 2 = .ok (.iload_n 0, 1) := by decide +kernel
theorem dJ6_stringSize_0f7a4_3 : decode cJ6_stringSize_0f7a4 3 = .ok (.ifCond .lt 8, 3) := by decide +kernel
theorem dJ6_stringSize_0f7a4_6 : decode cJ6_stringSize_0f7a4 6 = .ok (.iconst 0, 1) := by decide +kernel
theorem dJ6_stringSize_0f7a4_7 : decode cJ6_stringSize_0f7a4 7 = .ok (.istore_n 1, 1) := by decide +kernel
theorem dJ6_stringSize_0f7a4_8 : decode cJ6_stringSize_0f7a4 8 = .ok (.iload_n 0, 1) := by decide +kernel
theorem dJ6_stringSize_0f7a4_9 : decode cJ6_stringSize_0f7a4 9 = .ok (.ineg, 1) := by decide +kernel
theorem dJ6_stringSize_0f7a4_10 : decode cJ6_stringSize_0f7a4 10 = .ok (.istore_n 0, 1) := by decide +kernel
theorem dJ6_stringSize_0f7a4_11 : decode cJ6_stringSize_0f7a4 11 = .ok (.bipush (-10), 2) := by decide +kernel
theorem dJ6_stringSize_0f7a4_13 : decode cJ6_stringSize_0f7a4 13 = .ok (.istore_n 2, 1) := by decide +kernel
theorem dJ6_stringSize_0f7a4_14 : decode cJ6_stringSize_0f7a4 14 = .ok (.iconst 1, 1) := by decide +kernel
theorem dJ6_stringSize_0f7a4_15 : decode cJ6_stringSize_0f7a4 15 = .ok (.istore_n 3, 1) := by decide +kernel
theorem dJ6_stringSize_0f7a4_16 : decode cJ6_stringSize_0f7a4 16 = .ok (.iload_n 3, 1) := by decide +kernel
theorem dJ6_stringSize_0f7a4_17 : decode cJ6_stringSize_0f7a4 17 = .ok (.bipush 10, 2) := by decide +kernel
theorem dJ6_stringSize_0f7a4_19 : decode cJ6_stringSize_0f7a4 19 = .ok (.if_icmp .ge 23, 3) := by decide +kernel
theorem dJ6_stringSize_0f7a4_22 : decode cJ6_stringSize_0f7a4 22 = .ok (.iload_n 0, 1) := by decide +kernel
theorem dJ6_stringSize_0f7a4_23 : decode cJ6_stringSize_0f7a4 23 = .ok (.iload_n 2, 1) := by decide +kernel
theorem dJ6_stringSize_0f7a4_24 : decode cJ6_stringSize_0f7a4 24 = .ok (.if_icmp .le 7, 3) := by decide +kernel
theorem dJ6_stringSize_0f7a4_27 : decode cJ6_stringSize_0f7a4 27 = .ok (.iload_n 3, 1) := by decide +kernel
theorem dJ6_stringSize_0f7a4_28 : decode cJ6_stringSize_0f7a4 28 = .ok (.iload_n 1, 1) := by decide +kernel
theorem dJ6_stringSize_0f7a4_29 : decode cJ6_stringSize_0f7a4 29 = .ok (.iadd, 1) := by decide +kernel
theorem dJ6_stringSize_0f7a4_30 : decode cJ6_stringSize_0f7a4 30 = .ok (.ireturn, 1) := by decide +kernel
theorem dJ6_stringSize_0f7a4_31 : decode cJ6_stringSize_0f7a4 31 = .ok (.bipush 10, 2) := by decide +kernel
theorem dJ6_stringSize_0f7a4_33 : decode cJ6_stringSize_0f7a4 33 = .ok (.iload_n 2, 1) := by decide +kernel
theorem dJ6_stringSize_0f7a4_34 : decode cJ6_stringSize_0f7a4 34 = .ok (.imul, 1) := by decide +kernel
theorem dJ6_stringSize_0f7a4_35 : decode cJ6_stringSize_0f7a4 35 = .ok (.istore_n 2, 1) := by decide +kernel
theorem dJ6_stringSize_0f7a4_36 : decode cJ6_stringSize_0f7a4 36 = .ok (.iinc 3 1, 3) := by decide +kernel
theorem dJ6_stringSize_0f7a4_39 : decode cJ6_stringSize_0f7a4 39 = .ok (.goto (-23), 3) := by decide +kernel
theorem dJ6_stringSize_0f7a4_42 : decode cJ6_stringSize_0f7a4 42 = .ok (.bipush 10, 2) := by decide +kernel
theorem dJ6_stringSize_0f7a4_44 : decode cJ6_stringSize_0f7a4 44 = .ok (.iload_n 1, 1) := by decide +kernel
theorem dJ6_stringSize_0f7a4_45 : decode cJ6_stringSize_0f7a4 45 = .ok (.iadd, 1) := by decide +kernel
theorem dJ6_stringSize_0f7a4_46 : decode cJ6_stringSize_0f7a4 46 = .ok (.ireturn, 1) := by decide +kernel
theorem dJ6_getChars_ba4f3_0 : decode cJ6_getChars_ba4f3 0 = .ok (.iload_n 1, 1) := by decide +kernel
theorem dJ6_getChars_ba4f3_1 : decode cJ6_getChars_ba4f3 1 = .ok (.istore 5, 2) := by decide +kernel
theorem dJ6_getChars_ba4f3_3 : decode cJ6_getChars_ba4f3 3 = .ok (.iload_n 0, 1) := by decide +kernel
theorem dJ6_getChars_ba4f3_4 : decode cJ6_getChars_ba4f3 4 = .ok (.ifCond .ge 7, 3) := by decide +kernel
theorem dJ6_getChars_ba4f3_7 : decode cJ6_getChars_ba4f3 7 = .ok (.iconst 1, 1) := by decide +kernel
theorem dJ6_getChars_ba4f3_8 : decode cJ6_getChars_ba4f3 8 = .ok (.goto 4, 3) := by decide +kernel
theorem dJ6_getChars_ba4f3_11 : decode cJ6_getChars_ba4f3 11 = .ok (.iconst 0, 1) := by decide +kernel
theorem dJ6_getChars_ba4f3_12 : decode cJ6_getChars_ba4f3 12 = .ok (.istore 6, 2) := by decide +kernel
theorem dJ6_getChars_ba4f3_14 : decode cJ6_getChars_ba4f3 14 = .ok (.iload 6, 2) := by decide +kernel
theorem dJ6_getChars_ba4f3_16 : decode cJ6_getChars_ba4f3 16 = .ok (.ifCond .ne 6, 3) := by decide +kernel
theorem dJ6_getChars_ba4f3_19 : decode cJ6_getChars_ba4f3 19 = .ok (.iload_n 0, 1) := by decide +kernel
theorem dJ6_getChars_ba4f3_20 : decode cJ6_getChars_ba4f3 20 = .ok (.ineg, 1) := by decide +kernel
theorem dJ6_getChars_ba4f3_21 : decode cJ6_getChars_ba4f3 21 = .ok (.istore_n 0, 1) := by decide +kernel
theorem dJ6_getChars_ba4f3_22 : decode cJ6_getChars_ba4f3 22 = .ok (.iload_n 0, 1) := by decide +kernel
theorem dJ6_getChars_ba4f3_23 : decode cJ6_getChars_ba4f3 23 = .ok (.bipush (-100), 2) := by decide +kernel
theorem dJ6_getChars_ba4f3_25 : decode cJ6_getChars_ba4f3 25 = .ok (.if_icmp .gt 47, 3) := by decide +kernel
theorem dJ6_getChars_ba4f3_28 : decode cJ6_getChars_ba4f3 28 = .ok (.iload_n 0, 1) := by decide +kernel
theorem dJ6_getChars_ba4f3_29 : decode cJ6_getChars_ba4f3 29 = .ok (.bipush 100, 2) := by decide +kernel
theorem dJ6_getChars_ba4f3_31 : decode cJ6_getChars_ba4f3 31 = .ok (.idiv, 1) := by decide +kernel
theorem dJ6_getChars_ba4f3_32 : decode cJ6_getChars_ba4f3 32 = .ok (.istore_n 3, 1) := by decide +kernel
theorem dJ6_getChars_ba4f3_33 : decode cJ6_getChars_ba4f3 33 = .ok (.iload_n 3, 1) := by decide +kernel
theorem dJ6_getChars_ba4f3_34 : decode cJ6_getChars_ba4f3 34 = .ok (.bipush 100, 2) := by decide +kernel
theorem dJ6_getChars_ba4f3_36 : decode cJ6_getChars_ba4f3 36 = .ok (.imul, 1) := by decide +kernel
theorem dJ6_getChars_ba4f3_37 : decode cJ6_getChars_ba4f3 37 = .ok (.iload_n 0, 1) := by decide +kernel
theorem dJ6_getChars_ba4f3_38 : decode cJ6_getChars_ba4f3 38 = .ok (.isub, 1) := by decide +kernel
theorem dJ6_getChars_ba4f3_39 : decode cJ6_getChars_ba4f3 39 = .ok (.istore 4, 2) := by decide +kernel
theorem dJ6_getChars_ba4f3_41 : decode cJ6_getChars_ba4f3 41 = .ok (.iload_n 3, 1) := by decide +kernel
theorem dJ6_getChars_ba4f3_42 : decode cJ6_getChars_ba4f3 42 = .ok (.istore_n 0, 1) := by decide +kernel
theorem dJ6_getChars_ba4f3_43 : decode cJ6_getChars_ba4f3 43 = .ok (.aload_n 2, 1) := by decide +kernel
theorem dJ6_getChars_ba4f3_44 : decode cJ6_getChars_ba4f3 44 = .ok (.iinc 5 (-1), 3) := by decide +kernel
theorem dJ6_getChars_ba4f3_47 : decode cJ6_getChars_ba4f3 47 = .ok (.iload 5, 2) := by decide +kernel
theorem dJ6_getChars_ba4f3_49 : decode cJ6_getChars_ba4f3 49 = .ok (.getstatic 83, 3) := by decide +kernel
theorem dJ6_getChars_ba4f3_52 : decode cJ6_getChars_ba4f3 52 = .ok (.iload 4, 2) := by decide +kernel
theorem dJ6_getChars_ba4f3_54 : decode cJ6_getChars_ba4f3 54 = .ok (.baload, 1) := by decide +kernel
theorem dJ6_getChars_ba4f3_55 : decode cJ6_getChars_ba4f3 55 = .ok (.bastore, 1) := by decide +kernel
theorem dJ6_getChars_ba4f3_56 : decode cJ6_getChars_ba4f3 56 = .ok (.aload_n 2, 1) := by decide +kernel
theorem dJ6_getChars_ba4f3_57 : decode cJ6_getChars_ba4f3 57 = .ok (.iinc 5 (-1), 3) := by decide +kernel
theorem dJ6_getChars_ba4f3_60 : decode cJ6_getChars_ba4f3 60 = .ok (.iload 5, 2) := by decide +kernel
theorem dJ6_getChars_ba4f3_62 : decode cJ6_getChars_ba4f3 62 = .ok (.getstatic 87, 3) := by decide +kernel
theorem dJ6_getChars_ba4f3_65 : decode cJ6_getChars_ba4f3 65 = .ok (.iload 4, 2) := by decide +kernel
theorem dJ6_getChars_ba4f3_67 : decode cJ6_getChars_ba4f3 67 = .ok (.baload, 1) := by decide +kernel
theorem dJ6_getChars_ba4f3_68 : decode cJ6_getChars_ba4f3 68 = .ok (.bastore, 1) := by decide +kernel
theorem dJ6_getChars_ba4f3_69 : decode cJ6_getChars_ba4f3 69 = .ok (.goto (-47), 3) := by decide +kernel
theorem dJ6_getChars_ba4f3_72 : decode cJ6_getChars_ba4f3 72 = .ok (.aload_n 2, 1) := by decide +kernel
theorem dJ6_getChars_ba4f3_73 : decode cJ6_getChars_ba4f3 73 = .ok (.iinc 5 (-1), 3) := by decide +kernel
theorem dJ6_getChars_ba4f3_76 : decode cJ6_getChars_ba4f3 76 = .ok (.iload 5, 2) := by decide +kernel
theorem dJ6_getChars_ba4f3_78 : decode cJ6_getChars_ba4f3 78 = .ok (.getstatic 83, 3) := by decide +kernel
theorem dJ6_getChars_ba4f3_81 : decode cJ6_getChars_ba4f3 81 = .ok (.iload_n 0, 1) := by decide +kernel
theorem dJ6_getChars_ba4f3_82 : decode cJ6_getChars_ba4f3 82 = .ok (.ineg, 1) := by decide +kernel
theorem dJ6_getChars_ba4f3_83 : decode cJ6_getChars_ba4f3 83 = .ok (.baload, 1) := by decide +kernel
theorem dJ6_getChars_ba4f3_84 : decode cJ6_getChars_ba4f3 84 = .ok (.bastore, 1) := by decide +kernel
theorem dJ6_getChars_ba4f3_85 : decode cJ6_getChars_ba4f3 85 = .ok (.iload_n 0, 1) := by decide +kernel
theorem dJ6_getChars_ba4f3_86 : decode cJ6_getChars_ba4f3 86 = .ok (.bipush (-9), 2) := by decide +kernel
theorem dJ6_getChars_ba4f3_88 : decode cJ6_getChars_ba4f3 88 = .ok (.if_icmp .ge 16, 3) := by decide +kernel
theorem dJ6_getChars_ba4f3_91 : decode cJ6_getChars_ba4f3 91 = .ok (.aload_n 2, 1) := by decide +kernel
theorem dJ6_getChars_ba4f3_92 : decode cJ6_getChars_ba4f3 92 = .ok (.iinc 5 (-1), 3) := by decide +kernel
theorem dJ6_getChars_ba4f3_95 : decode cJ6_getChars_ba4f3 95 = .ok (.iload 5, 2) := by decide +kernel
theorem dJ6_getChars_ba4f3_97 : decode cJ6_getChars_ba4f3 97 = .ok (.getstatic 87, 3) := by decide +kernel
theorem dJ6_getChars_ba4f3_100 : decode cJ6_getChars_ba4f3 100 = .ok (.iload_n 0, 1) := by decide +kernel
theorem dJ6_getChars_ba4f3_101 : decode cJ6_getChars_ba4f3 101 = .ok (.ineg, 1) := by decide +kernel
theorem dJ6_getChars_ba4f3_102 : decode cJ6_getChars_ba4f3 102 = .ok (.baload, 1) := by decide +kernel
theorem dJ6_getChars_ba4f3_103 : decode cJ6_getChars_ba4f3 103 = .ok (.bastore, 1) := by decide +kernel
theorem dJ6_getChars_ba4f3_104 : decode cJ6_getChars_ba4f3 104 = .ok (.iload 6, 2) := by decide +kernel
theorem dJ6_getChars_ba4f3_106 : decode cJ6_getChars_ba4f3 106 = .ok (.ifCond .eq 12, 3) := by decide +kernel
theorem dJ6_getChars_ba4f3_109 : decode cJ6_getChars_ba4f3 109 = .ok (.aload_n 2, 1) := by decide +kernel
theorem dJ6_getChars_ba4f3_110 : decode cJ6_getChars_ba4f3 110 = .ok (.iinc 5 (-1), 3) := by decide +kernel
theorem dJ6_getChars_ba4f3_113 : decode cJ6_getChars_ba4f3 113 = .ok (.iload 5, 2) := by decide +kernel
theorem dJ6_getChars_ba4f3_115 : decode cJ6_getChars_ba4f3 115 = .ok (.bipush 45, 2) := by decide +kernel
theorem dJ6_getChars_ba4f3_117 : decode cJ6_getChars_ba4f3 117 = .ok (.bastore, 1) := by decide +kernel
theorem dJ6_getChars_ba4f3_118 : decode cJ6_getChars_ba4f3 118 = .ok (.iload 5, 2) := by decide +kernel
theorem dJ6_getChars_ba4f3_120 : decode cJ6_getChars_ba4f3 120 = .ok (.ireturn, 1) := by decide +kernel
theorem dJ5_append_c97b9_0 : decode cJ5_append_c97b9 0 = .ok (.aload_n 0, 1) := by decide +kernel
theorem dJ5_append_c97b9_1 : decode cJ5_append_c97b9 1 = .ok (.getfield 79, 3) := by decide +kernel
theorem dJ5_append_c97b9_4 : decode cJ5_append_c97b9 4 = .ok (.istore_n 2, 1) := by decide +kernel
theorem dJ5_append_c97b9_5 : decode cJ5_append_c97b9 5 = .ok (.iload_n 2, 1) := by decide +kernel
theorem dJ5_append_c97b9_6 : decode cJ5_append_c97b9 6 = .ok (.iload_n 1, 1) := by decide +kernel
theorem dJ5_append_c97b9_7 : decode cJ5_append_c97b9 7 = .ok (.invokestatic 245, 3) := by decide +kernel
theorem dJ5_append_c97b9_10 : decode cJ5_append_c97b9 10 = .ok (.iadd, 1) := by decide +kernel
theorem dJ5_append_c97b9_11 : decode cJ5_append_c97b9 11 = .ok (.istore_n 3, 1) := by decide +kernel
theorem dJ5_append_c97b9_12 : decode cJ5_append_c97b9 12 = .ok (.aload_n 0, 1) := by decide +kernel
theorem dJ5_append_c97b9_13 : decode cJ5_append_c97b9 13 = .ok (.iload_n 3, 1) := by decide +kernel
theorem dJ5_append_c97b9_14 : decode cJ5_append_c97b9 14 = .ok (.invokevirtual 100, 3) := by decide +kernel
theorem dJ5_append_c97b9_17 : decode cJ5_append_c97b9 17 = .ok (.aload_n 0, 1) := by decide +kernel
theorem dJ5_append_c97b9_18 : decode cJ5_append_c97b9 18 = .ok (.invokevirtual 83, 3) := by decide +kernel
theorem dJ5_append_c97b9_21 : decode cJ5_append_c97b9 21 = .ok (.ifCond .eq 16, 3) := by decide +kernel
theorem dJ5_append_c97b9_24 : decode cJ5_append_c97b9 24 = .ok (.iload_n 1, 1) := by decide +kernel
theorem dJ5_append_c97b9_25 : decode cJ5_append_c97b9 25 = .ok (.iload_n 3, 1) := by decide +kernel
theorem dJ5_append_c97b9_26 : decode cJ5_append_c97b9 26 = .ok (.aload_n 0, 1) := by decide +kernel
theorem dJ5_append_c97b9_27 : decode cJ5_append_c97b9 27 = .ok (.getfield 15, 3) := by decide +kernel
theorem dJ5_append_c97b9_30 : decode cJ5_append_c97b9 30 = .ok (.invokestatic 248, 3) := by decide +kernel
theorem dJ5_append_c97b9_33 : decode cJ5_append_c97b9 33 = .ok (.pop, 1) := by decide +kernel
theorem dJ5_append_c97b9_34 : decode cJ5_append_c97b9 34 = .ok (.goto 14, 3) := by decide +kernel
theorem dJ5_append_c97b9_37 : decode cJ5_append_c97b9 37 = .ok (.iload_n 1, 1) := by decide +kernel
theorem dJ5_append_c97b9_38 : decode cJ5_append_c97b9 38 = .ok (.iload_n 2, 1) := by decide +kernel
theorem dJ5_append_c97b9_39 : decode cJ5_append_c97b9 39 = .ok (.iload_n 3, 1) := by decide +kernel
theorem dJ5_append_c97b9_40 : decode cJ5_append_c97b9 40 = .ok (.aload_n 0, 1) := by decide +kernel
theorem dJ5_append_c97b9_41 : decode cJ5_append_c97b9 41 = .ok (.getfield 15, 3) := by decide +kernel
theorem dJ5_append_c97b9_44 : decode cJ5_append_c97b9 44 = .ok (.invokestatic 251, 3) := by decide +kernel
theorem dJ5_append_c97b9_47 : decode cJ5_append_c97b9 47 = .ok (.pop, 1) := by decide +kernel
theorem dJ5_append_c97b9_48 : decode cJ5_append_c97b9 48 = .ok (.aload_n 0, 1) := by decide +kernel
theorem dJ5_append_c97b9_49 : decode cJ5_append_c97b9 49 = .ok (.iload_n 3, 1) := by decide +kernel
theorem dJ5_append_c97b9_50 : decode cJ5_append_c97b9 50 = .ok (.putfield 79, 3) := by decide +kernel
theorem dJ5_append_c97b9_53 : decode cJ5_append_c97b9 53 = .ok (.aload_n 0, 1) := by decide +kernel
theorem dJ5_append_c97b9_54 : decode cJ5_append_c97b9 54 = .ok (.areturn, 1) := by decide +kernel
theorem dJ4_append_bf812_0 : decode cJ4_append_bf812 0 = .ok (.aload_n 0, 1) := by decide +kernel
theorem dJ4_append_bf812_1 : decode cJ4_append_bf812 1 = .ok (.iload_n 1, 1) := by decide +kernel
theorem dJ4_append_bf812_2 : decode cJ4_append_bf812 2 = .ok (.invokespecial 53, 3) := by decide +kernel
theorem dJ4_append_bf812_5 : decode cJ4_append_bf812 5 = .ok (.pop, 1) := by decide +kernel
theorem dJ4_append_bf812_6 : decode cJ4_append_bf812 6 = .ok (.aload_n 0, 1) := by decide +kernel
theorem dJ4_append_bf812_7 : decode cJ4_append_bf812 7 = .ok (.areturn, 1) := by decide +kernel
theorem jd_7 : (yJ6_stringSize_0f7a4 : MethodName).cls ≠ "java/lang/invoke/MethodHandle" ∧ (yJ6_stringSize_0f7a4 : MethodName).cls ≠ "java/lang/invoke/VarHandle" ∧ (parseMethodDescriptor (yJ6_stringSize_0f7a4 : MethodName).desc).map (fun d => d.parameters.length) = some 1 := by decide +kernel
theorem jd_8 : (yJ6_getChars_ba4f3 : MethodName).cls ≠ "java/lang/invoke/MethodHandle" ∧ (yJ6_getChars_ba4f3 : MethodName).cls ≠ "java/lang/invoke/VarHandle" ∧ (parseMethodDescriptor (yJ6_getChars_ba4f3 : MethodName).desc).map (fun d => d.parameters.length) = some 3 := by decide +kernel
theorem jd_9 : (yJ5_append_c97b9 : MethodName).cls ≠ "java/lang/invoke/MethodHandle" ∧ (yJ5_append_c97b9 : MethodName).cls ≠ "java/lang/invoke/VarHandle" ∧ (parseMethodDescriptor (yJ5_append_c97b9 : MethodName).desc).map (fun d => d.parameters.length) = some 1 := by decide +kernel
/-- how many digits -/
def szj (a : Nat) : Nat := if a < 10 then 1 else if a < 100 then 2 else if a < 1000 then 3 else if a < 10000 then 4 else if a < 100000 then 5 else if a < 1000000 then 6 else if a < 10000000 then 7 else if a < 100000000 then 8 else if a < 1000000000 then 9 else 10
def szk (x : Int32) : Nat := szj x.toInt.natAbs + (if x.toInt < 0 then 1 else 0)
theorem szj_1 (a : Nat) : 1 ≤ szj a ∧ szj a ≤ 10 := by
  unfold szj
  repeat' split
  all_goals omega
theorem szj_100 {a : Nat} (h : 100 ≤ a) (hb : a < 10000000000) : szj (a / 100) + 2 ≤ szj a := by
  unfold szj
  repeat' split
  all_goals omega
theorem szj_10 {a : Nat} (h : 10 ≤ a) : 2 ≤ szj a := by
  unfold szj
  repeat' split
  all_goals omega
theorem szk_b (x : Int32) : 1 ≤ szk x ∧ szk x ≤ 11 := by
  have := szj_1 x.toInt.natAbs
  unfold szk
  split <;> omega
theorem szk_s {x : Int32} {j : Nat} (h : szj x.toInt.natAbs = j) : szk x = j + (if x.toInt < 0 then 1 else 0) := by
  unfold szk
  rw [h]
theorem neg_t {x : Int32} (h : 0 ≤ x.toInt) : (-x).toInt = -x.toInt := by
  have := x.toInt_lt
  rw [Int32.toInt_neg]
  exact Int.bmod_eq_of_le (by omega) (by omega)

set_option maxHeartbeats 4000000 in
theorem c_J6_stringSize_0f7a4 {l : Launch} (x : Int32) : PMi l yJ6_stringSize_0f7a4 (.code yJ6_stringSize_0f7a4 cJ6_stringSize_0f7a4 4 (Option.some Jvm.ClassFile.FieldType.int)) 0 [.int x] (fun r => r = nI (szk x)) := by
  refine P_meti (by decide +kernel) (Nat.le_of_ble_eq_true rfl) ?_
  intro p e s mI below meth c Z ls hx hb hml hown ht hret hl
  have hl : lv_has ls 4 [(0, .int x)] := hl
  have L11 : ∀ (X : Int32) (d : Nat) (ls : Array Slot), X.toInt = -(x.toInt.natAbs : Int) → d = (if x.toInt < 0 then 1 else 0) → lv_has ls 4 [(0, .int X), (1, .int (nI d))] → W p l e (RM 0) s mI #[.int x] below meth c s.heap [] 0 0 Z (F0 mI 11 ls []) := by
    intro X d ls hX hd hl
    have hxb := x.le_toInt
    have hxt := x.toInt_lt
    refine lv_bipush (v := (-10 : Int32)) hx hb dJ6_stringSize_0f7a4_11 (by decide) ?_
    refine lv_istore_n (lv' := [(2, .int (-10 : Int32)), (0, .int X), (1, .int (nI d))]) hx hb dJ6_stringSize_0f7a4_13 rfl hl (by decide) rfl (fun ls hl => ?_)
    refine lv_iconst (v := (1 : Int32)) hx hb dJ6_stringSize_0f7a4_14 (by decide) ?_
    refine lv_istore_n (lv' := [(3, .int (1 : Int32)), (2, .int (-10 : Int32)), (0, .int X), (1, .int (nI d))]) hx hb dJ6_stringSize_0f7a4_15 rfl hl (by decide) rfl (fun ls hl => ?_)
    refine lv_iload_n hx hb dJ6_stringSize_0f7a4_16 rfl (lv_at hl 0 rfl) ?_
    refine lv_bipush (v := (10 : Int32)) hx hb dJ6_stringSize_0f7a4_17 (by decide) ?_
    refine lv_icmp_ge (tgt := 42) hx hb dJ6_stringSize_0f7a4_19 (by decide) (fun c9 => absurd c9 (by decide)) (fun c9 => ?_)
    refine lv_iload_n hx hb dJ6_stringSize_0f7a4_22 rfl (lv_at hl 2 rfl) ?_
    refine lv_iload_n hx hb dJ6_stringSize_0f7a4_23 rfl (lv_at hl 1 rfl) ?_
    by_cases k1 : x.toInt.natAbs < 10
    · refine lv_icmp_le (tgt := 31) hx hb dJ6_stringSize_0f7a4_24 (by decide) (fun c9 => absurd c9 (by rw [Int32.le_iff_toInt_le, hX, show ((-10 : Int32)).toInt = -10 from by decide]; omega)) (fun c9 => ?_)
      refine lv_iload_n hx hb dJ6_stringSize_0f7a4_27 rfl (lv_at hl 0 rfl) ?_
      refine lv_iload_n hx hb dJ6_stringSize_0f7a4_28 rfl (lv_at hl 3 rfl) ?_
      refine lv_iadd hx hb dJ6_stringSize_0f7a4_29 ?_
      refine lv_topi (fun x1 ex1 => ?_)
      rw [show x1 = (nI (1 + d)) from ex1.trans (nI_add 1 d)]
      exact hret ls 30 _ (show nI (1 + d) = nI (szk x) by rw [szk_s (j := 1) (by unfold szj; repeat' split; all_goals omega), hd]) rfl dJ6_stringSize_0f7a4_30
    refine lv_icmp_le (tgt := 31) hx hb dJ6_stringSize_0f7a4_24 (by decide) (fun c9 => ?_) (fun c9 => absurd (by rw [Int32.le_iff_toInt_le, hX, show ((-10 : Int32)).toInt = -10 from by decide]; omega) c9)
    refine lv_bipush (v := (10 : Int32)) hx hb dJ6_stringSize_0f7a4_31 (by decide) ?_
    refine lv_iload_n hx hb dJ6_stringSize_0f7a4_33 rfl (lv_at hl 1 rfl) ?_
    refine lv_imul hx hb dJ6_stringSize_0f7a4_34 ?_
    refine lv_topi (fun x2 ex2 => ?_)
    rw [show x2 = (-100 : Int32) from ex2.trans (by decide)]
    refine lv_istore_n (lv' := [(2, .int (-100 : Int32)), (3, .int (1 : Int32)), (0, .int X), (1, .int (nI d))]) hx hb dJ6_stringSize_0f7a4_35 rfl hl (by decide) rfl (fun ls hl => ?_)
    refine lv_iinc (v := (2 : Int32)) (lv' := [(3, .int (2 : Int32)), (2, .int (-100 : Int32)), (0, .int X), (1, .int (nI d))]) hx hb dJ6_stringSize_0f7a4_36 hl (k := 1) rfl (by decide) (by decide) rfl (fun ls hl => ?_)
    refine lv_goto (tgt := 16) hx hb dJ6_stringSize_0f7a4_39 (by decide) ?_
    refine lv_iload_n hx hb dJ6_stringSize_0f7a4_16 rfl (lv_at hl 0 rfl) ?_
    refine lv_bipush (v := (10 : Int32)) hx hb dJ6_stringSize_0f7a4_17 (by decide) ?_
    refine lv_icmp_ge (tgt := 42) hx hb dJ6_stringSize_0f7a4_19 (by decide) (fun c9 => absurd c9 (by decide)) (fun c9 => ?_)
    refine lv_iload_n hx hb dJ6_stringSize_0f7a4_22 rfl (lv_at hl 2 rfl) ?_
    refine lv_iload_n hx hb dJ6_stringSize_0f7a4_23 rfl (lv_at hl 1 rfl) ?_
    by_cases k2 : x.toInt.natAbs < 100
    · refine lv_icmp_le (tgt := 31) hx hb dJ6_stringSize_0f7a4_24 (by decide) (fun c9 => absurd c9 (by rw [Int32.le_iff_toInt_le, hX, show ((-100 : Int32)).toInt = -100 from by decide]; omega)) (fun c9 => ?_)
      refine lv_iload_n hx hb dJ6_stringSize_0f7a4_27 rfl (lv_at hl 0 rfl) ?_
      refine lv_iload_n hx hb dJ6_stringSize_0f7a4_28 rfl (lv_at hl 3 rfl) ?_
      refine lv_iadd hx hb dJ6_stringSize_0f7a4_29 ?_
      refine lv_topi (fun x3 ex3 => ?_)
      rw [show x3 = (nI (2 + d)) from ex3.trans (nI_add 2 d)]
      exact hret ls 30 _ (show nI (2 + d) = nI (szk x) by rw [szk_s (j := 2) (by unfold szj; repeat' split; all_goals omega), hd]) rfl dJ6_stringSize_0f7a4_30
    refine lv_icmp_le (tgt := 31) hx hb dJ6_stringSize_0f7a4_24 (by decide) (fun c9 => ?_) (fun c9 => absurd (by rw [Int32.le_iff_toInt_le, hX, show ((-100 : Int32)).toInt = -100 from by decide]; omega) c9)
    refine lv_bipush (v := (10 : Int32)) hx hb dJ6_stringSize_0f7a4_31 (by decide) ?_
    refine lv_iload_n hx hb dJ6_stringSize_0f7a4_33 rfl (lv_at hl 1 rfl) ?_
    refine lv_imul hx hb dJ6_stringSize_0f7a4_34 ?_
    refine lv_topi (fun x4 ex4 => ?_)
    rw [show x4 = (-1000 : Int32) from ex4.trans (by decide)]
    refine lv_istore_n (lv' := [(2, .int (-1000 : Int32)), (3, .int (2 : Int32)), (0, .int X), (1, .int (nI d))]) hx hb dJ6_stringSize_0f7a4_35 rfl hl (by decide) rfl (fun ls hl => ?_)
    refine lv_iinc (v := (3 : Int32)) (lv' := [(3, .int (3 : Int32)), (2, .int (-1000 : Int32)), (0, .int X), (1, .int (nI d))]) hx hb dJ6_stringSize_0f7a4_36 hl (k := 1) rfl (by decide) (by decide) rfl (fun ls hl => ?_)
    refine lv_goto (tgt := 16) hx hb dJ6_stringSize_0f7a4_39 (by decide) ?_
    refine lv_iload_n hx hb dJ6_stringSize_0f7a4_16 rfl (lv_at hl 0 rfl) ?_
    refine lv_bipush (v := (10 : Int32)) hx hb dJ6_stringSize_0f7a4_17 (by decide) ?_
    refine lv_icmp_ge (tgt := 42) hx hb dJ6_stringSize_0f7a4_19 (by decide) (fun c9 => absurd c9 (by decide)) (fun c9 => ?_)
    refine lv_iload_n hx hb dJ6_stringSize_0f7a4_22 rfl (lv_at hl 2 rfl) ?_
    refine lv_iload_n hx hb dJ6_stringSize_0f7a4_23 rfl (lv_at hl 1 rfl) ?_
    by_cases k3 : x.toInt.natAbs < 1000
    · refine lv_icmp_le (tgt := 31) hx hb dJ6_stringSize_0f7a4_24 (by decide) (fun c9 => absurd c9 (by rw [Int32.le_iff_toInt_le, hX, show ((-1000 : Int32)).toInt = -1000 from by decide]; omega)) (fun c9 => ?_)
      refine lv_iload_n hx hb dJ6_stringSize_0f7a4_27 rfl (lv_at hl 0 rfl) ?_
      refine lv_iload_n hx hb dJ6_stringSize_0f7a4_28 rfl (lv_at hl 3 rfl) ?_
      refine lv_iadd hx hb dJ6_stringSize_0f7a4_29 ?_
      refine lv_topi (fun x5 ex5 => ?_)
      rw [show x5 = (nI (3 + d)) from ex5.trans (nI_add 3 d)]
      exact hret ls 30 _ (show nI (3 + d) = nI (szk x) by rw [szk_s (j := 3) (by unfold szj; repeat' split; all_goals omega), hd]) rfl dJ6_stringSize_0f7a4_30
    refine lv_icmp_le (tgt := 31) hx hb dJ6_stringSize_0f7a4_24 (by decide) (fun c9 => ?_) (fun c9 => absurd (by rw [Int32.le_iff_toInt_le, hX, show ((-1000 : Int32)).toInt = -1000 from by decide]; omega) c9)
    refine lv_bipush (v := (10 : Int32)) hx hb dJ6_stringSize_0f7a4_31 (by decide) ?_
    refine lv_iload_n hx hb dJ6_stringSize_0f7a4_33 rfl (lv_at hl 1 rfl) ?_
    refine lv_imul hx hb dJ6_stringSize_0f7a4_34 ?_
    refine lv_topi (fun x6 ex6 => ?_)
    rw [show x6 = (-10000 : Int32) from ex6.trans (by decide)]
    refine lv_istore_n (lv' := [(2, .int (-10000 : Int32)), (3, .int (3 : Int32)), (0, .int X), (1, .int (nI d))]) hx hb dJ6_stringSize_0f7a4_35 rfl hl (by decide) rfl (fun ls hl => ?_)
    refine lv_iinc (v := (4 : Int32)) (lv' := [(3, .int (4 : Int32)), (2, .int (-10000 : Int32)), (0, .int X), (1, .int (nI d))]) hx hb dJ6_stringSize_0f7a4_36 hl (k := 1) rfl (by decide) (by decide) rfl (fun ls hl => ?_)
    refine lv_goto (tgt := 16) hx hb dJ6_stringSize_0f7a4_39 (by decide) ?_
    refine lv_iload_n hx hb dJ6_stringSize_0f7a4_16 rfl (lv_at hl 0 rfl) ?_
    refine lv_bipush (v := (10 : Int32)) hx hb dJ6_stringSize_0f7a4_17 (by decide) ?_
    refine lv_icmp_ge (tgt := 42) hx hb dJ6_stringSize_0f7a4_19 (by decide) (fun c9 => absurd c9 (by decide)) (fun c9 => ?_)
    refine lv_iload_n hx hb dJ6_stringSize_0f7a4_22 rfl (lv_at hl 2 rfl) ?_
    refine lv_iload_n hx hb dJ6_stringSize_0f7a4_23 rfl (lv_at hl 1 rfl) ?_
    by_cases k4 : x.toInt.natAbs < 10000
    · refine lv_icmp_le (tgt := 31) hx hb dJ6_stringSize_0f7a4_24 (by decide) (fun c9 => absurd c9 (by rw [Int32.le_iff_toInt_le, hX, show ((-10000 : Int32)).toInt = -10000 from by decide]; omega)) (fun c9 => ?_)
      refine lv_iload_n hx hb dJ6_stringSize_0f7a4_27 rfl (lv_at hl 0 rfl) ?_
      refine lv_iload_n hx hb dJ6_stringSize_0f7a4_28 rfl (lv_at hl 3 rfl) ?_
      refine lv_iadd hx hb dJ6_stringSize_0f7a4_29 ?_
      refine lv_topi (fun x7 ex7 => ?_)
      rw [show x7 = (nI (4 + d)) from ex7.trans (nI_add 4 d)]
      exact hret ls 30 _ (show nI (4 + d) = nI (szk x) by rw [szk_s (j := 4) (by unfold szj; repeat' split; all_goals omega), hd]) rfl dJ6_stringSize_0f7a4_30
    refine lv_icmp_le (tgt := 31) hx hb dJ6_stringSize_0f7a4_24 (by decide) (fun c9 => ?_) (fun c9 => absurd (by rw [Int32.le_iff_toInt_le, hX, show ((-10000 : Int32)).toInt = -10000 from by decide]; omega) c9)
    refine lv_bipush (v := (10 : Int32)) hx hb dJ6_stringSize_0f7a4_31 (by decide) ?_
    refine lv_iload_n hx hb dJ6_stringSize_0f7a4_33 rfl (lv_at hl 1 rfl) ?_
    refine lv_imul hx hb dJ6_stringSize_0f7a4_34 ?_
    refine lv_topi (fun x8 ex8 => ?_)
    rw [show x8 = (-100000 : Int32) from ex8.trans (by decide)]
    refine lv_istore_n (lv' := [(2, .int (-100000 : Int32)), (3, .int (4 : Int32)), (0, .int X), (1, .int (nI d))]) hx hb dJ6_stringSize_0f7a4_35 rfl hl (by decide) rfl (fun ls hl => ?_)
    refine lv_iinc (v := (5 : Int32)) (lv' := [(3, .int (5 : Int32)), (2, .int (-100000 : Int32)), (0, .int X), (1, .int (nI d))]) hx hb dJ6_stringSize_0f7a4_36 hl (k := 1) rfl (by decide) (by decide) rfl (fun ls hl => ?_)
    refine lv_goto (tgt := 16) hx hb dJ6_stringSize_0f7a4_39 (by decide) ?_
    refine lv_iload_n hx hb dJ6_stringSize_0f7a4_16 rfl (lv_at hl 0 rfl) ?_
    refine lv_bipush (v := (10 : Int32)) hx hb dJ6_stringSize_0f7a4_17 (by decide) ?_
    refine lv_icmp_ge (tgt := 42) hx hb dJ6_stringSize_0f7a4_19 (by decide) (fun c9 => absurd c9 (by decide)) (fun c9 => ?_)
    refine lv_iload_n hx hb dJ6_stringSize_0f7a4_22 rfl (lv_at hl 2 rfl) ?_
    refine lv_iload_n hx hb dJ6_stringSize_0f7a4_23 rfl (lv_at hl 1 rfl) ?_
    by_cases k5 : x.toInt.natAbs < 100000
    · refine lv_icmp_le (tgt := 31) hx hb dJ6_stringSize_0f7a4_24 (by decide) (fun c9 => absurd c9 (by rw [Int32.le_iff_toInt_le, hX, show ((-100000 : Int32)).toInt = -100000 from by decide]; omega)) (fun c9 => ?_)
      refine lv_iload_n hx hb dJ6_stringSize_0f7a4_27 rfl (lv_at hl 0 rfl) ?_
      refine lv_iload_n hx hb dJ6_stringSize_0f7a4_28 rfl (lv_at hl 3 rfl) ?_
      refine lv_iadd hx hb dJ6_stringSize_0f7a4_29 ?_
      refine lv_topi (fun x9 ex9 => ?_)
      rw [show x9 = (nI (5 + d)) from ex9.trans (nI_add 5 d)]
      exact hret ls 30 _ (show nI (5 + d) = nI (szk x) by rw [szk_s (j := 5) (by unfold szj; repeat' split; all_goals omega), hd]) rfl dJ6_stringSize_0f7a4_30
    refine lv_icmp_le (tgt := 31) hx hb dJ6_stringSize_0f7a4_24 (by decide) (fun c9 => ?_) (fun c9 => absurd (by rw [Int32.le_iff_toInt_le, hX, show ((-100000 : Int32)).toInt = -100000 from by decide]; omega) c9)
    refine lv_bipush (v := (10 : Int32)) hx hb dJ6_stringSize_0f7a4_31 (by decide) ?_
    refine lv_iload_n hx hb dJ6_stringSize_0f7a4_33 rfl (lv_at hl 1 rfl) ?_
    refine lv_imul hx hb dJ6_stringSize_0f7a4_34 ?_
    refine lv_topi (fun x10 ex10 => ?_)
    rw [show x10 = (-1000000 : Int32) from ex10.trans (by decide)]
    refine lv_istore_n (lv' := [(2, .int (-1000000 : Int32)), (3, .int (5 : Int32)), (0, .int X), (1, .int (nI d))]) hx hb dJ6_stringSize_0f7a4_35 rfl hl (by decide) rfl (fun ls hl => ?_)
    refine lv_iinc (v := (6 : Int32)) (lv' := [(3, .int (6 : Int32)), (2, .int (-1000000 : Int32)), (0, .int X), (1, .int (nI d))]) hx hb dJ6_stringSize_0f7a4_36 hl (k := 1) rfl (by decide) (by decide) rfl (fun ls hl => ?_)
    refine lv_goto (tgt := 16) hx hb dJ6_stringSize_0f7a4_39 (by decide) ?_
    refine lv_iload_n hx hb dJ6_stringSize_0f7a4_16 rfl (lv_at hl 0 rfl) ?_
    refine lv_bipush (v := (10 : Int32)) hx hb dJ6_stringSize_0f7a4_17 (by decide) ?_
    refine lv_icmp_ge (tgt := 42) hx hb dJ6_stringSize_0f7a4_19 (by decide) (fun c9 => absurd c9 (by decide)) (fun c9 => ?_)
    refine lv_iload_n hx hb dJ6_stringSize_0f7a4_22 rfl (lv_at hl 2 rfl) ?_
    refine lv_iload_n hx hb dJ6_stringSize_0f7a4_23 rfl (lv_at hl 1 rfl) ?_
    by_cases k6 : x.toInt.natAbs < 1000000
    · refine lv_icmp_le (tgt := 31) hx hb dJ6_stringSize_0f7a4_24 (by decide) (fun c9 => absurd c9 (by rw [Int32.le_iff_toInt_le, hX, show ((-1000000 : Int32)).toInt = -1000000 from by decide]; omega)) (fun c9 => ?_)
      refine lv_iload_n hx hb dJ6_stringSize_0f7a4_27 rfl (lv_at hl 0 rfl) ?_
      refine lv_iload_n hx hb dJ6_stringSize_0f7a4_28 rfl (lv_at hl 3 rfl) ?_
      refine lv_iadd hx hb dJ6_stringSize_0f7a4_29 ?_
      refine lv_topi (fun x11 ex11 => ?_)
      rw [show x11 = (nI (6 + d)) from ex11.trans (nI_add 6 d)]
      exact hret ls 30 _ (show nI (6 + d) = nI (szk x) by rw [szk_s (j := 6) (by unfold szj; repeat' split; all_goals omega), hd]) rfl dJ6_stringSize_0f7a4_30
    refine lv_icmp_le (tgt := 31) hx hb dJ6_stringSize_0f7a4_24 (by decide) (fun c9 => ?_) (fun c9 => absurd (by rw [Int32.le_iff_toInt_le, hX, show ((-1000000 : Int32)).toInt = -1000000 from by decide]; omega) c9)
    refine lv_bipush (v := (10 : Int32)) hx hb dJ6_stringSize_0f7a4_31 (by decide) ?_
    refine lv_iload_n hx hb dJ6_stringSize_0f7a4_33 rfl (lv_at hl 1 rfl) ?_
    refine lv_imul hx hb dJ6_stringSize_0f7a4_34 ?_
    refine lv_topi (fun x12 ex12 => ?_)
    rw [show x12 = (-10000000 : Int32) from ex12.trans (by decide)]
    refine lv_istore_n (lv' := [(2, .int (-10000000 : Int32)), (3, .int (6 : Int32)), (0, .int X), (1, .int (nI d))]) hx hb dJ6_stringSize_0f7a4_35 rfl hl (by decide) rfl (fun ls hl => ?_)
    refine lv_iinc (v := (7 : Int32)) (lv' := [(3, .int (7 : Int32)), (2, .int (-10000000 : Int32)), (0, .int X), (1, .int (nI d))]) hx hb dJ6_stringSize_0f7a4_36 hl (k := 1) rfl (by decide) (by decide) rfl (fun ls hl => ?_)
    refine lv_goto (tgt := 16) hx hb dJ6_stringSize_0f7a4_39 (by decide) ?_
    refine lv_iload_n hx hb dJ6_stringSize_0f7a4_16 rfl (lv_at hl 0 rfl) ?_
    refine lv_bipush (v := (10 : Int32)) hx hb dJ6_stringSize_0f7a4_17 (by decide) ?_
    refine lv_icmp_ge (tgt := 42) hx hb dJ6_stringSize_0f7a4_19 (by decide) (fun c9 => absurd c9 (by decide)) (fun c9 => ?_)
    refine lv_iload_n hx hb dJ6_stringSize_0f7a4_22 rfl (lv_at hl 2 rfl) ?_
    refine lv_iload_n hx hb dJ6_stringSize_0f7a4_23 rfl (lv_at hl 1 rfl) ?_
    by_cases k7 : x.toInt.natAbs < 10000000
    · refine lv_icmp_le (tgt := 31) hx hb dJ6_stringSize_0f7a4_24 (by decide) (fun c9 => absurd c9 (by rw [Int32.le_iff_toInt_le, hX, show ((-10000000 : Int32)).toInt = -10000000 from by decide]; omega)) (fun c9 => ?_)
      refine lv_iload_n hx hb dJ6_stringSize_0f7a4_27 rfl (lv_at hl 0 rfl) ?_
      refine lv_iload_n hx hb dJ6_stringSize_0f7a4_28 rfl (lv_at hl 3 rfl) ?_
      refine lv_iadd hx hb dJ6_stringSize_0f7a4_29 ?_
      refine lv_topi (fun x13 ex13 => ?_)
      rw [show x13 = (nI (7 + d)) from ex13.trans (nI_add 7 d)]
      exact hret ls 30 _ (show nI (7 + d) = nI (szk x) by rw [szk_s (j := 7) (by unfold szj; repeat' split; all_goals omega), hd]) rfl dJ6_stringSize_0f7a4_30
    refine lv_icmp_le (tgt := 31) hx hb dJ6_stringSize_0f7a4_24 (by decide) (fun c9 => ?_) (fun c9 => absurd (by rw [Int32.le_iff_toInt_le, hX, show ((-10000000 : Int32)).toInt = -10000000 from by decide]; omega) c9)
    refine lv_bipush (v := (10 : Int32)) hx hb dJ6_stringSize_0f7a4_31 (by decide) ?_
    refine lv_iload_n hx hb dJ6_stringSize_0f7a4_33 rfl (lv_at hl 1 rfl) ?_
    refine lv_imul hx hb dJ6_stringSize_0f7a4_34 ?_
    refine lv_topi (fun x14 ex14 => ?_)
    rw [show x14 = (-100000000 : Int32) from ex14.trans (by decide)]
    refine lv_istore_n (lv' := [(2, .int (-100000000 : Int32)), (3, .int (7 : Int32)), (0, .int X), (1, .int (nI d))]) hx hb dJ6_stringSize_0f7a4_35 rfl hl (by decide) rfl (fun ls hl => ?_)
    refine lv_iinc (v := (8 : Int32)) (lv' := [(3, .int (8 : Int32)), (2, .int (-100000000 : Int32)), (0, .int X), (1, .int (nI d))]) hx hb dJ6_stringSize_0f7a4_36 hl (k := 1) rfl (by decide) (by decide) rfl (fun ls hl => ?_)
    refine lv_goto (tgt := 16) hx hb dJ6_stringSize_0f7a4_39 (by decide) ?_
    refine lv_iload_n hx hb dJ6_stringSize_0f7a4_16 rfl (lv_at hl 0 rfl) ?_
    refine lv_bipush (v := (10 : Int32)) hx hb dJ6_stringSize_0f7a4_17 (by decide) ?_
    refine lv_icmp_ge (tgt := 42) hx hb dJ6_stringSize_0f7a4_19 (by decide) (fun c9 => absurd c9 (by decide)) (fun c9 => ?_)
    refine lv_iload_n hx hb dJ6_stringSize_0f7a4_22 rfl (lv_at hl 2 rfl) ?_
    refine lv_iload_n hx hb dJ6_stringSize_0f7a4_23 rfl (lv_at hl 1 rfl) ?_
    by_cases k8 : x.toInt.natAbs < 100000000
    · refine lv_icmp_le (tgt := 31) hx hb dJ6_stringSize_0f7a4_24 (by decide) (fun c9 => absurd c9 (by rw [Int32.le_iff_toInt_le, hX, show ((-100000000 : Int32)).toInt = -100000000 from by decide]; omega)) (fun c9 => ?_)
      refine lv_iload_n hx hb dJ6_stringSize_0f7a4_27 rfl (lv_at hl 0 rfl) ?_
      refine lv_iload_n hx hb dJ6_stringSize_0f7a4_28 rfl (lv_at hl 3 rfl) ?_
      refine lv_iadd hx hb dJ6_stringSize_0f7a4_29 ?_
      refine lv_topi (fun x15 ex15 => ?_)
      rw [show x15 = (nI (8 + d)) from ex15.trans (nI_add 8 d)]
      exact hret ls 30 _ (show nI (8 + d) = nI (szk x) by rw [szk_s (j := 8) (by unfold szj; repeat' split; all_goals omega), hd]) rfl dJ6_stringSize_0f7a4_30
    refine lv_icmp_le (tgt := 31) hx hb dJ6_stringSize_0f7a4_24 (by decide) (fun c9 => ?_) (fun c9 => absurd (by rw [Int32.le_iff_toInt_le, hX, show ((-100000000 : Int32)).toInt = -100000000 from by decide]; omega) c9)
    refine lv_bipush (v := (10 : Int32)) hx hb dJ6_stringSize_0f7a4_31 (by decide) ?_
    refine lv_iload_n hx hb dJ6_stringSize_0f7a4_33 rfl (lv_at hl 1 rfl) ?_
    refine lv_imul hx hb dJ6_stringSize_0f7a4_34 ?_
    refine lv_topi (fun x16 ex16 => ?_)
    rw [show x16 = (-1000000000 : Int32) from ex16.trans (by decide)]
    refine lv_istore_n (lv' := [(2, .int (-1000000000 : Int32)), (3, .int (8 : Int32)), (0, .int X), (1, .int (nI d))]) hx hb dJ6_stringSize_0f7a4_35 rfl hl (by decide) rfl (fun ls hl => ?_)
    refine lv_iinc (v := (9 : Int32)) (lv' := [(3, .int (9 : Int32)), (2, .int (-1000000000 : Int32)), (0, .int X), (1, .int (nI d))]) hx hb dJ6_stringSize_0f7a4_36 hl (k := 1) rfl (by decide) (by decide) rfl (fun ls hl => ?_)
    refine lv_goto (tgt := 16) hx hb dJ6_stringSize_0f7a4_39 (by decide) ?_
    refine lv_iload_n hx hb dJ6_stringSize_0f7a4_16 rfl (lv_at hl 0 rfl) ?_
    refine lv_bipush (v := (10 : Int32)) hx hb dJ6_stringSize_0f7a4_17 (by decide) ?_
    refine lv_icmp_ge (tgt := 42) hx hb dJ6_stringSize_0f7a4_19 (by decide) (fun c9 => absurd c9 (by decide)) (fun c9 => ?_)
    refine lv_iload_n hx hb dJ6_stringSize_0f7a4_22 rfl (lv_at hl 2 rfl) ?_
    refine lv_iload_n hx hb dJ6_stringSize_0f7a4_23 rfl (lv_at hl 1 rfl) ?_
    by_cases k9 : x.toInt.natAbs < 1000000000
    · refine lv_icmp_le (tgt := 31) hx hb dJ6_stringSize_0f7a4_24 (by decide) (fun c9 => absurd c9 (by rw [Int32.le_iff_toInt_le, hX, show ((-1000000000 : Int32)).toInt = -1000000000 from by decide]; omega)) (fun c9 => ?_)
      refine lv_iload_n hx hb dJ6_stringSize_0f7a4_27 rfl (lv_at hl 0 rfl) ?_
      refine lv_iload_n hx hb dJ6_stringSize_0f7a4_28 rfl (lv_at hl 3 rfl) ?_
      refine lv_iadd hx hb dJ6_stringSize_0f7a4_29 ?_
      refine lv_topi (fun x17 ex17 => ?_)
      rw [show x17 = (nI (9 + d)) from ex17.trans (nI_add 9 d)]
      exact hret ls 30 _ (show nI (9 + d) = nI (szk x) by rw [szk_s (j := 9) (by unfold szj; repeat' split; all_goals omega), hd]) rfl dJ6_stringSize_0f7a4_30
    refine lv_icmp_le (tgt := 31) hx hb dJ6_stringSize_0f7a4_24 (by decide) (fun c9 => ?_) (fun c9 => absurd (by rw [Int32.le_iff_toInt_le, hX, show ((-1000000000 : Int32)).toInt = -1000000000 from by decide]; omega) c9)
    refine lv_bipush (v := (10 : Int32)) hx hb dJ6_stringSize_0f7a4_31 (by decide) ?_
    refine lv_iload_n hx hb dJ6_stringSize_0f7a4_33 rfl (lv_at hl 1 rfl) ?_
    refine lv_imul hx hb dJ6_stringSize_0f7a4_34 ?_
    refine lv_topi (fun x18 ex18 => ?_)
    rw [show x18 = (-1410065408 : Int32) from ex18.trans (by decide)]
    refine lv_istore_n (lv' := [(2, .int (-1410065408 : Int32)), (3, .int (9 : Int32)), (0, .int X), (1, .int (nI d))]) hx hb dJ6_stringSize_0f7a4_35 rfl hl (by decide) rfl (fun ls hl => ?_)
    refine lv_iinc (v := (10 : Int32)) (lv' := [(3, .int (10 : Int32)), (2, .int (-1410065408 : Int32)), (0, .int X), (1, .int (nI d))]) hx hb dJ6_stringSize_0f7a4_36 hl (k := 1) rfl (by decide) (by decide) rfl (fun ls hl => ?_)
    refine lv_goto (tgt := 16) hx hb dJ6_stringSize_0f7a4_39 (by decide) ?_
    refine lv_iload_n hx hb dJ6_stringSize_0f7a4_16 rfl (lv_at hl 0 rfl) ?_
    refine lv_bipush (v := (10 : Int32)) hx hb dJ6_stringSize_0f7a4_17 (by decide) ?_
    refine lv_icmp_ge (tgt := 42) hx hb dJ6_stringSize_0f7a4_19 (by decide) (fun c9 => ?_) (fun c9 => absurd (by decide) c9)
    refine lv_bipush (v := (10 : Int32)) hx hb dJ6_stringSize_0f7a4_42 (by decide) ?_
    refine lv_iload_n hx hb dJ6_stringSize_0f7a4_44 rfl (lv_at hl 3 rfl) ?_
    refine lv_iadd hx hb dJ6_stringSize_0f7a4_45 ?_
    refine lv_topi (fun x19 ex19 => ?_)
    rw [show x19 = (nI (10 + d)) from ex19.trans (nI_add 10 d)]
    exact hret ls 46 _ (show nI (10 + d) = nI (szk x) by rw [szk_s (j := 10) (by unfold szj; repeat' split; all_goals omega), hd]) rfl dJ6_stringSize_0f7a4_46
  refine lv_iconst (v := (1 : Int32)) hx hb dJ6_stringSize_0f7a4_0 (by decide) ?_
  refine lv_istore_n (lv' := [(1, .int (1 : Int32)), (0, .int x)]) hx hb dJ6_stringSize_0f7a4_1 rfl hl (by decide) rfl (fun ls hl => ?_)
  refine lv_iload_n hx hb dJ6_stringSize_0f7a4_2 rfl (lv_at hl 1 rfl) ?_
  refine lv_if_lt (tgt := 11) hx hb dJ6_stringSize_0f7a4_3 (by decide) (fun c9 => ?_) (fun c9 => ?_)
  · have hx0 : x.toInt < 0 := by rw [Int32.lt_iff_toInt_lt, Int32.toInt_zero] at c9; exact c9
    exact L11 x 1 ls (by omega) (by rw [if_pos hx0]) (lv_sub hl [1, 0] rfl)
  · have hx0 : 0 ≤ x.toInt := by rw [Int32.lt_iff_toInt_lt, Int32.toInt_zero] at c9; omega
    refine lv_iconst (v := (0 : Int32)) hx hb dJ6_stringSize_0f7a4_6 (by decide) ?_
    refine lv_istore_n (lv' := [(1, .int (0 : Int32)), (0, .int x)]) hx hb dJ6_stringSize_0f7a4_7 rfl hl (by decide) rfl (fun ls hl => ?_)
    refine lv_iload_n hx hb dJ6_stringSize_0f7a4_8 rfl (lv_at hl 1 rfl) ?_
    refine lv_ineg hx hb dJ6_stringSize_0f7a4_9 ?_
    refine lv_istore_n (lv' := [(0, .int (-x)), (1, .int (0 : Int32))]) hx hb dJ6_stringSize_0f7a4_10 rfl hl (by decide) rfl (fun ls hl => ?_)
    exact L11 (-x) 0 ls (by rw [neg_t hx0]; omega) (by rw [if_neg (by omega)]) (lv_sub hl [0, 1] rfl)

theorem vnb {x : Int32} : fits .byte (.int (vp_nar .byte x)) = true := by rw [vp_nar_byte]; exact pk_fb _
theorem nI_dec {t : Nat} (h : 1 ≤ t) : nI t + Int32.ofInt (-1) = nI (t - 1) := by
  obtain ⟨k, rfl⟩ : ∃ k, t = k + 1 := ⟨t - 1, by omega⟩
  show nI (k + 1) + Int32.ofInt (-1) = nI k
  rw [show Int32.ofInt (-1) = -1 from rfl, ← Int32.sub_eq_add_neg]
  exact nI_pred k
theorem nI_dec2 {t : Nat} (h : 2 ≤ t) : nI (t - 1) + Int32.ofInt (-1) = nI (t - 2) := nI_dec (t := t - 1) (by omega)
theorem gc_d {X : Int32} {a : Nat} (hX : X.toInt = -(a : Int)) (ha : a < 10000000000) : (X / (100 : Int32)).toInt = -((a / 100 : Nat) : Int) := by
  have h1 := X.le_toInt
  have h2 : Int.tdiv X.toInt 100 = -((a / 100 : Nat) : Int) := by
    rw [hX, Int.neg_tdiv]
    rfl
  rw [Int32.toInt_div, show (100 : Int32).toInt = 100 from rfl, h2]
  exact Int.bmod_eq_of_le (by omega) (by omega)
theorem gc_r {X q : Int32} {a : Nat} (hX : X.toInt = -(a : Int)) (hq : q.toInt = -((a / 100 : Nat) : Int)) (ha : a < 10000000000) : (q * (100 : Int32) - X).toInt = ((a % 100 : Nat) : Int) := by
  have h1 := X.le_toInt
  have : (q * (100 : Int32) - X).toInt = -((a / 100 : Nat) : Int) * 100 - -(a : Int) := ii_s (ii_m hq rfl (by omega) (by omega)) hX (by omega) (by omega)
  omega
theorem gc_n {X : Int32} {a : Nat} (hX : X.toInt = -(a : Int)) (ha : a < 1000) : (-X).toInt = (a : Int) := by
  rw [Int32.toInt_neg, hX]
  exact (Int.bmod_eq_of_le (by omega) (by omega)).trans (by omega)

set_option maxHeartbeats 4000000 in
set_option maxRecDepth 100000 in
theorem c_J6_getChars_ba4f3 {l : Launch} {D : va_G} {cB : ClassId} (x : Int32) (en v m : Nat) (f : Nat → Int32)(sz : Nat) (hk : szk x ≤ en) (hem : en ≤ m) (hm : m ≤ 100000) (hf : FT f) : JMi l yJ6_getChars_ba4f3 (.code yJ6_getChars_ba4f3 cJ6_getChars_ba4f3 7 (Option.some Jvm.ClassFile.FieldType.int)) 0 0 0 [.int x, .int (nI en), .ref v] D cB [(v, .inl (cB, m, .inl f))] [] sz (fun (r : Int32) (u : (Nat → Int32)) => FT u) (fun (u : (Nat → Int32)) => [bV cB v m u]) := by
  refine J_meti (by decide +kernel) (Nat.le_of_ble_eq_true rfl) ?_
  intro p e s mI below meth c Z ls hx hb hml hown hin ht hK hC hZ hSL hw hret hl
  have hl : lv_has ls 7 [(0, .int x), (1, .int (nI en)), (2, .ref v)] := hl
  suffices hh : ∀ (H : Heap) (locs : List Loc), MW D [] [(v, .inl (cB, m, .inl f))] (va_A [(v, .inl (cB, m, .inl f))] s.heap.size) s H locs → W p l e (RA 0 0 0) s mI #[.int x, .int (nI en), .ref v] below meth c H locs 0 0 Z (F0 mI 0 ls []) from hh _ _ hw
  intro H locs hw
  obtain ⟨az1, fz1, hz1, ht1⟩ := hZ.2.1
  obtain ⟨az2, fz2, hz2, ht2⟩ := hZ.2.2
  have L22 : ∀ (a : Nat) (X : Int32) (t d : Nat) (g : Nat → Int32) (H : Heap) (locs : List Loc) (ls : Array Slot), X.toInt = -(a : Int) → a < 10000000000 → szj a + d ≤ t → d ≤ 1 → t ≤ m → FT g → MW D [] [(v, .inl (cB, m, .inl g))] (va_A [(v, .inl (cB, m, .inl f))] s.heap.size) s H locs → lv_has ls 7 [(6, .int (nI d)), (5, .int (nI t)), (0, .int X), (2, .ref v)] → W p l e (RA 0 0 0) s mI #[.int x, .int (nI en), .ref v] below meth c H locs 0 0 Z (F0 mI 22 ls []) := by
    intro a
    induction a using Nat.strongRecOn with
    | ind a ih =>
      intro X t d g H locs ls hX ha hs hd htm hg hw hl
      have hs1 := szj_1 a
      by_cases k9 : 100 ≤ a
      · have h100 := szj_100 k9 ha
        refine lv_iload_n hx hb dJ6_getChars_ba4f3_22 rfl (lv_at hl 2 rfl) ?_
        refine lv_bipush (v := (-100 : Int32)) hx hb dJ6_getChars_ba4f3_23 (by decide) ?_
        refine lv_icmp_gt (tgt := 72) hx hb dJ6_getChars_ba4f3_25 (by decide) (fun c9 => absurd c9 (by rw [Int32.lt_iff_toInt_lt, hX, show (-100 : Int32).toInt = -100 from by decide]; omega)) (fun c9 => ?_)
        refine lv_iload_n hx hb dJ6_getChars_ba4f3_28 rfl (lv_at hl 2 rfl) ?_
        refine lv_bipush (v := (100 : Int32)) hx hb dJ6_getChars_ba4f3_29 (by decide) ?_
        refine lv_idiv hx hb dJ6_getChars_ba4f3_31 (by decide) ?_
        refine lv_topi (fun qq eq => ?_)
        have hq : qq.toInt = -((a / 100 : Nat) : Int) := by rw [eq, gc_d hX ha]
        refine lv_istore_n (lv' := [(3, .int qq), (6, .int (nI d)), (5, .int (nI t)), (0, .int X), (2, .ref v)]) hx hb dJ6_getChars_ba4f3_32 rfl hl (by decide) rfl (fun ls hl => ?_)
        refine lv_iload_n hx hb dJ6_getChars_ba4f3_33 rfl (lv_at hl 0 rfl) ?_
        refine lv_bipush (v := (100 : Int32)) hx hb dJ6_getChars_ba4f3_34 (by decide) ?_
        refine lv_imul hx hb dJ6_getChars_ba4f3_36 ?_
        refine lv_iload_n hx hb dJ6_getChars_ba4f3_37 rfl (lv_at hl 3 rfl) ?_
        refine lv_isub hx hb dJ6_getChars_ba4f3_38 ?_
        refine lv_topi (fun rr er => ?_)
        have hr : rr.toInt = ((a % 100 : Nat) : Int) := by rw [er, gc_r hX hq ha]
        refine lv_istore (lv' := [(4, .int rr), (3, .int qq), (6, .int (nI d)), (5, .int (nI t)), (0, .int X), (2, .ref v)]) hx hb dJ6_getChars_ba4f3_39 hl (by decide) rfl (fun ls hl => ?_)
        refine lv_iload_n hx hb dJ6_getChars_ba4f3_41 rfl (lv_at hl 1 rfl) ?_
        refine lv_istore_n (lv' := [(0, .int qq), (4, .int rr), (3, .int qq), (6, .int (nI d)), (5, .int (nI t)), (2, .ref v)]) hx hb dJ6_getChars_ba4f3_42 rfl hl (by decide) rfl (fun ls hl => ?_)
        refine lv_aload_n hx hb dJ6_getChars_ba4f3_43 rfl (lv_at hl 5 rfl) ?_
        refine lv_iinc (v := (nI (t - 1))) (lv' := [(5, .int (nI (t - 1))), (0, .int qq), (4, .int rr), (3, .int qq), (6, .int (nI d)), (2, .ref v)]) hx hb dJ6_getChars_ba4f3_44 hl (k := 4) rfl (nI_dec (by omega)) (by decide) rfl (fun ls hl => ?_)
        refine lv_iload hx hb dJ6_getChars_ba4f3_47 (lv_at hl 0 rfl) ?_
        refine va_gets hx hb hz1 hw.2.2.1 hown (ht _ q_1031) (fun _ h => h) dJ6_getChars_ba4f3_49 ?_
        refine lv_iload hx hb dJ6_getChars_ba4f3_52 (lv_at hl 2 rfl) ?_
        refine va_tb hx hb ht1 hw.2.2.1 (vin (by omega)) rfl dJ6_getChars_ba4f3_54 ?_
        refine va_bast hx hb hK hw.1 hw.2.1 hw.2.2.1 0 0 rfl rfl (vp_in_nI (by omega) (by omega)) dJ6_getChars_ba4f3_55 (fun H locs hP hD hS => ?_)
        have hw : MW D [] [(v, .inl (cB, m, .inl (upd g ((nI (t - 1)) : Int32).toNatClampNeg (vp_nar .byte (fz1 rr.toNatClampNeg)))))] (va_A [(v, .inl (cB, m, .inl f))] s.heap.size) s H locs := ⟨hP, hD, hS, hw.2.2.2⟩
        refine lv_aload_n hx hb dJ6_getChars_ba4f3_56 rfl (lv_at hl 5 rfl) ?_
        refine lv_iinc (v := (nI (t - 2))) (lv' := [(5, .int (nI (t - 2))), (0, .int qq), (4, .int rr), (3, .int qq), (6, .int (nI d)), (2, .ref v)]) hx hb dJ6_getChars_ba4f3_57 hl (k := 0) rfl (nI_dec2 (by omega)) (by decide) rfl (fun ls hl => ?_)
        refine lv_iload hx hb dJ6_getChars_ba4f3_60 (lv_at hl 0 rfl) ?_
        refine va_gets hx hb hz2 hw.2.2.1 hown (ht _ q_1033) (fun _ h => h) dJ6_getChars_ba4f3_62 ?_
        refine lv_iload hx hb dJ6_getChars_ba4f3_65 (lv_at hl 2 rfl) ?_
        refine va_tb hx hb ht2 hw.2.2.1 (vin (by omega)) rfl dJ6_getChars_ba4f3_67 ?_
        refine va_bast hx hb hK hw.1 hw.2.1 hw.2.2.1 0 0 rfl rfl (vp_in_nI (by omega) (by omega)) dJ6_getChars_ba4f3_68 (fun H locs hP hD hS => ?_)
        have hw : MW D [] [(v, .inl (cB, m, .inl (upd (upd g ((nI (t - 1)) : Int32).toNatClampNeg (vp_nar .byte (fz1 rr.toNatClampNeg))) ((nI (t - 2)) : Int32).toNatClampNeg (vp_nar .byte (fz2 rr.toNatClampNeg)))))] (va_A [(v, .inl (cB, m, .inl f))] s.heap.size) s H locs := ⟨hP, hD, hS, hw.2.2.2⟩
        refine lv_goto (tgt := 22) hx hb dJ6_getChars_ba4f3_69 (by decide) ?_
        exact ih (a / 100) (by omega) qq (t - 2) d _ H locs ls hq (by omega) (by omega) hd (by omega) (FT.st (FT.st hg vnb) vnb) hw (lv_sub hl [4, 0, 1, 5] rfl)
      refine lv_iload_n hx hb dJ6_getChars_ba4f3_22 rfl (lv_at hl 2 rfl) ?_
      refine lv_bipush (v := (-100 : Int32)) hx hb dJ6_getChars_ba4f3_23 (by decide) ?_
      refine lv_icmp_gt (tgt := 72) hx hb dJ6_getChars_ba4f3_25 (by decide) (fun c9 => ?_) (fun c9 => absurd (by rw [Int32.lt_iff_toInt_lt, hX, show (-100 : Int32).toInt = -100 from by decide]; omega) c9)
      have hn : (-X).toInt = (a : Int) := by rw [gc_n hX (by omega)]
      refine lv_aload_n hx hb dJ6_getChars_ba4f3_72 rfl (lv_at hl 3 rfl) ?_
      refine lv_iinc (v := (nI (t - 1))) (lv' := [(5, .int (nI (t - 1))), (6, .int (nI d)), (0, .int X), (2, .ref v)]) hx hb dJ6_getChars_ba4f3_73 hl (k := 1) rfl (nI_dec (by omega)) (by decide) rfl (fun ls hl => ?_)
      refine lv_iload hx hb dJ6_getChars_ba4f3_76 (lv_at hl 0 rfl) ?_
      refine va_gets hx hb hz1 hw.2.2.1 hown (ht _ q_1031) (fun _ h => h) dJ6_getChars_ba4f3_78 ?_
      refine lv_iload_n hx hb dJ6_getChars_ba4f3_81 rfl (lv_at hl 2 rfl) ?_
      refine lv_ineg hx hb dJ6_getChars_ba4f3_82 ?_
      refine va_tb hx hb ht1 hw.2.2.1 (vin (by omega)) rfl dJ6_getChars_ba4f3_83 ?_
      refine va_bast hx hb hK hw.1 hw.2.1 hw.2.2.1 0 0 rfl rfl (vp_in_nI (by omega) (by omega)) dJ6_getChars_ba4f3_84 (fun H locs hP hD hS => ?_)
      have hw : MW D [] [(v, .inl (cB, m, .inl (upd g ((nI (t - 1)) : Int32).toNatClampNeg (vp_nar .byte (fz1 (-X).toNatClampNeg)))))] (va_A [(v, .inl (cB, m, .inl f))] s.heap.size) s H locs := ⟨hP, hD, hS, hw.2.2.2⟩
      have L104 : ∀ (t2 : Nat) (g : Nat → Int32) (H : Heap) (locs : List Loc) (ls : Array Slot), d ≤ t2 → t2 ≤ m → FT g → MW D [] [(v, .inl (cB, m, .inl g))] (va_A [(v, .inl (cB, m, .inl f))] s.heap.size) s H locs → lv_has ls 7 [(6, .int (nI d)), (5, .int (nI t2)), (2, .ref v)] → W p l e (RA 0 0 0) s mI #[.int x, .int (nI en), .ref v] below meth c H locs 0 0 Z (F0 mI 104 ls []) := by
        intro t2 g H locs ls h1 h2 hg hw hl
        refine lv_iload hx hb dJ6_getChars_ba4f3_104 (lv_at hl 0 rfl) ?_
        refine lv_if_eq (tgt := 118) hx hb dJ6_getChars_ba4f3_106 (by decide) (fun c9 => ?_) (fun c9 => ?_)
        · refine lv_iload hx hb dJ6_getChars_ba4f3_118 (lv_at hl 1 rfl) ?_
          exact hret H locs ls 120 _ _ (nI t2) g hw hg rfl (show 0 ≤ 0 by omega) (show 0 ≤ 0 by omega) dJ6_getChars_ba4f3_120
        · have hd1 : 1 ≤ d := by
            rcases Nat.lt_or_ge d 1 with z | z
            · exact absurd (by rw [show d = 0 by omega]; rfl) c9
            · exact z
          refine lv_aload_n hx hb dJ6_getChars_ba4f3_109 rfl (lv_at hl 2 rfl) ?_
          refine lv_iinc (v := (nI (t2 - 1))) (lv' := [(5, .int (nI (t2 - 1))), (6, .int (nI d)), (2, .ref v)]) hx hb dJ6_getChars_ba4f3_110 hl (k := 1) rfl (nI_dec (by omega)) (by decide) rfl (fun ls hl => ?_)
          refine lv_iload hx hb dJ6_getChars_ba4f3_113 (lv_at hl 0 rfl) ?_
          refine lv_bipush (v := (45 : Int32)) hx hb dJ6_getChars_ba4f3_115 (by decide) ?_
          refine va_bast hx hb hK hw.1 hw.2.1 hw.2.2.1 0 0 rfl rfl (vp_in_nI (by omega) (by omega)) dJ6_getChars_ba4f3_117 (fun H locs hP hD hS => ?_)
          have hw : MW D [] [(v, .inl (cB, m, .inl (upd g ((nI (t2 - 1)) : Int32).toNatClampNeg (vp_nar .byte (45 : Int32)))))] (va_A [(v, .inl (cB, m, .inl f))] s.heap.size) s H locs := ⟨hP, hD, hS, hw.2.2.2⟩
          refine lv_iload hx hb dJ6_getChars_ba4f3_118 (lv_at hl 0 rfl) ?_
          exact hret H locs ls 120 _ _ (nI (t2 - 1)) (upd g ((nI (t2 - 1)) : Int32).toNatClampNeg (vp_nar .byte (45 : Int32))) hw (FT.st hg (by decide)) rfl (show 0 ≤ 0 by omega) (show 0 ≤ 0 by omega) dJ6_getChars_ba4f3_120
      refine lv_iload_n hx hb dJ6_getChars_ba4f3_85 rfl (lv_at hl 2 rfl) ?_
      refine lv_bipush (v := (-9 : Int32)) hx hb dJ6_getChars_ba4f3_86 (by decide) ?_
      refine lv_icmp_ge (tgt := 104) hx hb dJ6_getChars_ba4f3_88 (by decide) (fun c9 => ?_) (fun c9 => ?_)
      · exact L104 (t - 1) _ H locs ls (by omega) (by omega) (FT.st hg vnb) hw (lv_sub hl [1, 0, 3] rfl)
      · have h10 : 10 ≤ a := by
          rw [Int32.le_iff_toInt_le, hX, show (-9 : Int32).toInt = -9 from by decide] at c9
          omega
        have hs10 := szj_10 h10
        refine lv_aload_n hx hb dJ6_getChars_ba4f3_91 rfl (lv_at hl 3 rfl) ?_
        refine lv_iinc (v := (nI (t - 2))) (lv' := [(5, .int (nI (t - 2))), (6, .int (nI d)), (0, .int X), (2, .ref v)]) hx hb dJ6_getChars_ba4f3_92 hl (k := 0) rfl (nI_dec2 (by omega)) (by decide) rfl (fun ls hl => ?_)
        refine lv_iload hx hb dJ6_getChars_ba4f3_95 (lv_at hl 0 rfl) ?_
        refine va_gets hx hb hz2 hw.2.2.1 hown (ht _ q_1033) (fun _ h => h) dJ6_getChars_ba4f3_97 ?_
        refine lv_iload_n hx hb dJ6_getChars_ba4f3_100 rfl (lv_at hl 2 rfl) ?_
        refine lv_ineg hx hb dJ6_getChars_ba4f3_101 ?_
        refine va_tb hx hb ht2 hw.2.2.1 (vin (by omega)) rfl dJ6_getChars_ba4f3_102 ?_
        refine va_bast hx hb hK hw.1 hw.2.1 hw.2.2.1 0 0 rfl rfl (vp_in_nI (by omega) (by omega)) dJ6_getChars_ba4f3_103 (fun H locs hP hD hS => ?_)
        have hw : MW D [] [(v, .inl (cB, m, .inl (upd (upd g ((nI (t - 1)) : Int32).toNatClampNeg (vp_nar .byte (fz1 (-X).toNatClampNeg))) ((nI (t - 2)) : Int32).toNatClampNeg (vp_nar .byte (fz2 (-X).toNatClampNeg)))))] (va_A [(v, .inl (cB, m, .inl f))] s.heap.size) s H locs := ⟨hP, hD, hS, hw.2.2.2⟩
        exact L104 (t - 2) _ H locs ls (by omega) (by omega) (FT.st (FT.st hg vnb) vnb) hw (lv_sub hl [1, 0, 3] rfl)
  have hxb := x.le_toInt
  have hxt := x.toInt_lt
  refine lv_iload_n hx hb dJ6_getChars_ba4f3_0 rfl (lv_at hl 1 rfl) ?_
  refine lv_istore (lv' := [(5, .int (nI en)), (0, .int x), (1, .int (nI en)), (2, .ref v)]) hx hb dJ6_getChars_ba4f3_1 hl (by decide) rfl (fun ls hl => ?_)
  refine lv_iload_n hx hb dJ6_getChars_ba4f3_3 rfl (lv_at hl 1 rfl) ?_
  refine lv_if_ge (tgt := 11) hx hb dJ6_getChars_ba4f3_4 (by decide) (fun c9 => ?_) (fun c9 => ?_)
  · have hx0 : 0 ≤ x.toInt := by rw [Int32.le_iff_toInt_le, Int32.toInt_zero] at c9; exact c9
    have hz0 : szk x = szj x.toInt.natAbs + 0 := by unfold szk; rw [if_neg (by omega)]
    refine lv_iconst (v := (0 : Int32)) hx hb dJ6_getChars_ba4f3_11 (by decide) ?_
    refine lv_istore (lv' := [(6, .int (0 : Int32)), (5, .int (nI en)), (0, .int x), (1, .int (nI en)), (2, .ref v)]) hx hb dJ6_getChars_ba4f3_12 hl (by decide) rfl (fun ls hl => ?_)
    refine lv_iload hx hb dJ6_getChars_ba4f3_14 (lv_at hl 0 rfl) ?_
    refine lv_if_ne (tgt := 22) hx hb dJ6_getChars_ba4f3_16 (by decide) (fun c9 => absurd c9 (by decide)) (fun c9 => ?_)
    refine lv_iload_n hx hb dJ6_getChars_ba4f3_19 rfl (lv_at hl 2 rfl) ?_
    refine lv_ineg hx hb dJ6_getChars_ba4f3_20 ?_
    refine lv_istore_n (lv' := [(0, .int (-x)), (6, .int (0 : Int32)), (5, .int (nI en)), (1, .int (nI en)), (2, .ref v)]) hx hb dJ6_getChars_ba4f3_21 rfl hl (by decide) rfl (fun ls hl => ?_)
    exact L22 x.toInt.natAbs (-x) en 0 f H locs ls (by rw [neg_t hx0]; omega) (by omega) (by omega) (by omega) hem hf hw (lv_sub hl [1, 2, 0, 4] rfl)
  · have hx0 : x.toInt < 0 := by rw [Int32.le_iff_toInt_le, Int32.toInt_zero] at c9; omega
    have hz0 : szk x = szj x.toInt.natAbs + 1 := by unfold szk; rw [if_pos hx0]
    refine lv_iconst (v := (1 : Int32)) hx hb dJ6_getChars_ba4f3_7 (by decide) ?_
    refine lv_goto (tgt := 12) hx hb dJ6_getChars_ba4f3_8 (by decide) ?_
    refine lv_istore (lv' := [(6, .int (1 : Int32)), (5, .int (nI en)), (0, .int x), (1, .int (nI en)), (2, .ref v)]) hx hb dJ6_getChars_ba4f3_12 hl (by decide) rfl (fun ls hl => ?_)
    refine lv_iload hx hb dJ6_getChars_ba4f3_14 (lv_at hl 0 rfl) ?_
    refine lv_if_ne (tgt := 22) hx hb dJ6_getChars_ba4f3_16 (by decide) (fun c9 => ?_) (fun c9 => absurd c9 (by decide))
    exact L22 x.toInt.natAbs x en 1 f H locs ls (by omega) (by omega) (by omega) (by omega) hem hf hw (lv_sub hl [0, 1, 2, 4] rfl)

set_option maxHeartbeats 4000000 in
set_option maxRecDepth 100000 in
theorem c_J5_append_c97b9 {l : Launch} {D : va_G} {cB : ClassId} (b v m n : Nat) (f : Nat → Int32) (x : Int32)(sz : Nat) (hnm : n ≤ m) (hm : m ≤ 20000) (hn : n < 10000) (hf : FT f) : JMr l yJ5_append_c97b9 (.code yJ5_append_c97b9 cJ5_append_c97b9 4 (Option.some (Jvm.ClassFile.FieldType.object "java/lang/AbstractStringBuilder"))) 4 (gr (n + szk x) m) (gs (n + szk x) m) [.ref b, .int x] D cB [(b, .inr (11, [.ref v, .int 0, .int 0, .int (nI n)])), (v, .inl (cB, m, .inl f))] [] sz (fun (u : Nat × (Nat → Int32)) => FT u.2) (fun (u : Nat × (Nat → Int32)) => b) (fun (u : Nat × (Nat → Int32)) => [bC b u.1 (n + szk x), bV cB u.1 (cap (n + szk x) m) u.2]) := by
  refine J_metr (by decide +kernel) (Nat.le_of_ble_eq_true rfl) (Or.inl ⟨_, rfl⟩) ?_
  intro p e s mI below meth c Z ls hx hb hml hown hin ht hK hC hZ hSL hw hret hl
  have hl : lv_has ls 4 [(0, .ref b), (1, .int x)] := hl
  suffices hh : ∀ (H : Heap) (locs : List Loc), MW D [] [(b, .inr (11, [.ref v, .int 0, .int 0, .int (nI n)])), (v, .inl (cB, m, .inl f))] (va_A [(b, .inr (11, [.ref v, .int 0, .int 0, .int (nI n)])), (v, .inl (cB, m, .inl f))] s.heap.size) s H locs → W p l e (RA 4 (gr (n + szk x) m) (gs (n + szk x) m)) s mI #[.ref b, .int x] below meth c H locs 0 0 Z (F0 mI 0 ls []) from hh _ _ hw
  intro H locs hw
  have hsk := szk_b x
  refine lv_aload_n hx hb dJ5_append_c97b9_0 rfl (lv_at hl 0 rfl) ?_
  refine va_get hx hb ht in_11 hown hK hw.1 0 rfl cl_11 3 (by decide) (ht _ q_913) (fun _ h => h) rfl dJ5_append_c97b9_1 ?_
  refine lv_istore_n (lv' := [(2, .int (nI n)), (0, .ref b), (1, .int x)]) hx hb dJ5_append_c97b9_4 rfl hl (by decide) rfl (fun ls hl => ?_)
  refine lv_iload_n hx hb dJ5_append_c97b9_5 rfl (lv_at hl 0 rfl) ?_
  refine lv_iload_n hx hb dJ5_append_c97b9_6 rfl (lv_at hl 2 rfl) ?_
  refine P_calli (va_runS (own := "java/lang/AbstractStringBuilder") (As := [.int x]) (rest := [.int (nI n)]) ⟨hx, hb, hml, hown, ht⟩ (c_J6_stringSize_0f7a4 x) (va_cwS 1 ht (G_S q_1025 q_1026 q_63 q_1027) rfl rfl rfl jd_7 ⟨Nat.le_of_ble_eq_true rfl, Nat.le_of_ble_eq_true rfl⟩) ⟨PM_blind, PM_pre⟩ rfl rfl hl.1 rfl (lv_room (Nat.le_of_ble_eq_true rfl)) dJ5_append_c97b9_7 ⟨show 0 + 0 ≤ gr (n + szk x) m by omega, show 0 + 0 ≤ gs (n + szk x) m by omega⟩) (fun r1 hr1 => ?_)
  rw [hr1]
  refine lv_iadd hx hb dJ5_append_c97b9_10 ?_
  refine lv_topi (fun x2 ex2 => ?_)
  rw [show x2 = (nI (n + szk x)) from ex2.trans (nI_add n (szk x))]
  refine lv_istore_n (lv' := [(3, .int (nI (n + szk x))), (2, .int (nI n)), (0, .ref b), (1, .int x)]) hx hb dJ5_append_c97b9_11 rfl hl (by decide) rfl (fun ls hl => ?_)
  refine lv_aload_n hx hb dJ5_append_c97b9_12 rfl (lv_at hl 2 rfl) ?_
  refine lv_iload_n hx hb dJ5_append_c97b9_13 rfl (lv_at hl 0 rfl) ?_
  refine J_callv (N0 := []) (ws := [(b, .inr (11, [.ref v, .int 0, .int 0, .int (nI n)])), (v, .inl (cB, m, .inl f))]) hw (va_runU (own := "java/lang/AbstractStringBuilder") (As := [.int (nI (n + szk x))]) (rest := []) ⟨hx, hb, hml, hown, ht⟩ (c_J5_ensureCapacityInternal_d00df b v m n (n + szk x) f H.size hm (by omega) hf) (cwUP (C0 := "java/lang/StringBuilder") 1 ht q_930 q_1612 q_932 q_66 q_933 (va_any rfl (hC.2 _ (List.mem_of_getElem? (i := 0) rfl))) rfl rfl jd_3 ⟨Nat.le_of_ble_eq_true rfl, Nat.le_of_ble_eq_true rfl⟩) ⟨JB.blind, J_recv hK hw (j := 0) rfl cl_11, JB.pre (N0 := []) (ws := [(b, .inr (11, [.ref v, .int 0, .int 0, .int (nI n)])), (v, .inl (cB, m, .inl f))]) hK hC hZ hw SL0⟩ rfl rfl hl.1 rfl (lv_room (Nat.le_of_ble_eq_true rfl)) dJ5_append_c97b9_14 ⟨show 0 + (gr (n + szk x) m) ≤ gr (n + szk x) m by omega, show 0 + (gs (n + szk x) m) ≤ gs (n + szk x) m by omega⟩) (fun u3 H locs hp4 hw => ?_)
  obtain ⟨v1, f1⟩ := u3
  have hw : MW D [] [(b, .inr (11, [.ref v1, .int 0, .int 0, .int (nI n)])), (v1, .inl (cB, (cap (n + szk x) m), .inl f1))] (va_A [(b, .inr (11, [.ref v, .int 0, .int 0, .int (nI n)])), (v, .inl (cB, m, .inl f))] s.heap.size) s H locs := hw
  refine lv_aload_n hx hb dJ5_append_c97b9_17 rfl (lv_at hl 2 rfl) ?_
  refine J_calli (N0 := []) (ws := [(b, .inr (11, [.ref v1, .int 0, .int 0, .int (nI n)])), (v1, .inl (cB, (cap (n + szk x) m), .inl f1))]) hw (va_runU (own := "java/lang/AbstractStringBuilder") (As := []) (rest := []) ⟨hx, hb, hml, hown, ht⟩ (c_J5_isLatin1_aae02 b v1 (cap (n + szk x) m) n f1 H.size) (va_cwU (C := "java/lang/StringBuilder") (owner := "java/lang/AbstractStringBuilder") 0 ht (G_U q_965 q_967 q_968 q_966 q_66 q_969) rfl rfl rfl rfl jd_4 ⟨Nat.le_of_ble_eq_true rfl, Nat.le_of_ble_eq_true rfl⟩) ⟨JB.blind, J_recv hK hw (j := 0) rfl cl_11, JB.pre (N0 := []) (ws := [(b, .inr (11, [.ref v1, .int 0, .int 0, .int (nI n)])), (v1, .inl (cB, (cap (n + szk x) m), .inl f1))]) hK hC hZ hw SL0⟩ rfl rfl hl.1 rfl (lv_room (Nat.le_of_ble_eq_true rfl)) dJ5_append_c97b9_18 ⟨show 0 + (gr (n + szk x) m) + 0 ≤ gr (n + szk x) m by omega, show 0 + (gs (n + szk x) m) + 0 ≤ gs (n + szk x) m by omega⟩) (fun r8 u6 H locs hp7 hw => ?_)
  have hw : MW D [] [(b, .inr (11, [.ref v1, .int 0, .int 0, .int (nI n)])), (v1, .inl (cB, (cap (n + szk x) m), .inl f1))] (va_A [(b, .inr (11, [.ref v, .int 0, .int 0, .int (nI n)])), (v, .inl (cB, m, .inl f))] s.heap.size) s H locs := hw
  rw [hp7]
  refine lv_if_eq (tgt := 37) hx hb dJ5_append_c97b9_21 (by decide) (fun c9 => absurd c9 (by decide)) (fun c9 => ?_)
  refine lv_iload_n hx hb dJ5_append_c97b9_24 rfl (lv_at hl 3 rfl) ?_
  refine lv_iload_n hx hb dJ5_append_c97b9_25 rfl (lv_at hl 0 rfl) ?_
  refine lv_aload_n hx hb dJ5_append_c97b9_26 rfl (lv_at hl 2 rfl) ?_
  refine va_get hx hb ht in_11 hown hK hw.1 0 rfl cl_11 0 (by decide) (ht _ q_910) (fun _ h => h) rfl dJ5_append_c97b9_27 ?_
  refine J_calli (N0 := [(b, .inr (11, [.ref v1, .int 0, .int 0, .int (nI n)]))]) (ws := [(v1, .inl (cB, (cap (n + szk x) m), .inl f1))]) hw (va_runS (own := "java/lang/AbstractStringBuilder") (As := [.int x, .int (nI (n + szk x)), .ref v1]) (rest := []) ⟨hx, hb, hml, hown, ht⟩ (c_J6_getChars_ba4f3 x (n + szk x) v1 (cap (n + szk x) m) f1 H.size (by omega) (cap_ge _ _).1 (by have := cap_b hm (show (n + szk x) ≤ 20000 by omega); omega) hp4) (va_cwS 3 ht (G_S q_1028 q_1029 q_63 q_1030) rfl rfl rfl jd_8 ⟨Nat.le_of_ble_eq_true rfl, Nat.le_of_ble_eq_true rfl⟩) ⟨JB.blind, JB.pre (N0 := [(b, .inr (11, [.ref v1, .int 0, .int 0, .int (nI n)]))]) (ws := [(v1, .inl (cB, (cap (n + szk x) m), .inl f1))]) hK hC hZ hw SL0⟩ rfl rfl hl.1 rfl (lv_room (Nat.le_of_ble_eq_true rfl)) dJ5_append_c97b9_30 ⟨show 0 + (gr (n + szk x) m) + 0 + 0 ≤ gr (n + szk x) m by omega, show 0 + (gs (n + szk x) m) + 0 + 0 ≤ gs (n + szk x) m by omega⟩) (fun r11 u9 H locs hp10 hw => ?_)
  have hw : MW D [] [(b, .inr (11, [.ref v1, .int 0, .int 0, .int (nI n)])), (v1, .inl (cB, (cap (n + szk x) m), .inl u9))] (va_A [(b, .inr (11, [.ref v, .int 0, .int 0, .int (nI n)])), (v, .inl (cB, m, .inl f))] s.heap.size) s H locs := hw
  refine lv_pop hx hb dJ5_append_c97b9_33 rfl ?_
  refine lv_goto (tgt := 48) hx hb dJ5_append_c97b9_34 (by decide) ?_
  refine lv_aload_n hx hb dJ5_append_c97b9_48 rfl (lv_at hl 2 rfl) ?_
  refine lv_iload_n hx hb dJ5_append_c97b9_49 rfl (lv_at hl 0 rfl) ?_
  refine va_put (ty := .int) hx hb ht in_11 tyJ4 tyJ4_ok nmJ4 hown hK hw.1 hw.2.1 hw.2.2.1 0 rfl cl_11 3 (by decide) (ht _ q_913) (fun _ h => h) rfl (by decide +kernel) rfl rfl (Nat.le_of_ble_eq_true rfl) dJ5_append_c97b9_50 (fun H locs hP hD hS => ?_)
  have hw : MW D [] [(b, .inr (11, [.ref v1, .int 0, .int 0, .int (nI (n + szk x))])), (v1, .inl (cB, (cap (n + szk x) m), .inl u9))] (va_A [(b, .inr (11, [.ref v, .int 0, .int 0, .int (nI n)])), (v, .inl (cB, m, .inl f))] s.heap.size) s H locs := ⟨hP, hD, hS, hw.2.2.2⟩
  refine lv_aload_n hx hb dJ5_append_c97b9_53 rfl (lv_at hl 2 rfl) ?_
  exact hret H locs ls 54 _ _ (v1, u9) b hw hp10 rfl (show 0 + (gr (n + szk x) m) + 0 + 0 ≤ gr (n + szk x) m by omega) (show 0 + (gs (n + szk x) m) + 0 + 0 ≤ gs (n + szk x) m by omega) dJ5_append_c97b9_54

set_option maxHeartbeats 4000000 in
set_option maxRecDepth 100000 in
theorem c_J4_append_bf812 {l : Launch} {D : va_G} {cB : ClassId} (b v m n : Nat) (f : Nat → Int32) (x : Int32)(sz : Nat) (hnm : n ≤ m) (hm : m ≤ 20000) (hn : n < 10000) (hf : FT f) : JMr l yJ4_append_bf812 (.code yJ4_append_bf812 cJ4_append_bf812 2 (Option.some (Jvm.ClassFile.FieldType.object "java/lang/StringBuilder"))) 5 (gr (n + szk x) m) (gs (n + szk x) m) [.ref b, .int x] D cB [(b, .inr (11, [.ref v, .int 0, .int 0, .int (nI n)])), (v, .inl (cB, m, .inl f))] [] sz (fun (u : Nat × (Nat → Int32)) => FT u.2) (fun (u : Nat × (Nat → Int32)) => b) (fun (u : Nat × (Nat → Int32)) => [bC b u.1 (n + szk x), bV cB u.1 (cap (n + szk x) m) u.2]) := by
  refine J_metr (by decide +kernel) (Nat.le_of_ble_eq_true rfl) (Or.inl ⟨_, rfl⟩) ?_
  intro p e s mI below meth c Z ls hx hb hml hown hin ht hK hC hZ hSL hw hret hl
  have hl : lv_has ls 2 [(0, .ref b), (1, .int x)] := hl
  suffices hh : ∀ (H : Heap) (locs : List Loc), MW D [] [(b, .inr (11, [.ref v, .int 0, .int 0, .int (nI n)])), (v, .inl (cB, m, .inl f))] (va_A [(b, .inr (11, [.ref v, .int 0, .int 0, .int (nI n)])), (v, .inl (cB, m, .inl f))] s.heap.size) s H locs → W p l e (RA 5 (gr (n + szk x) m) (gs (n + szk x) m)) s mI #[.ref b, .int x] below meth c H locs 0 0 Z (F0 mI 0 ls []) from hh _ _ hw
  intro H locs hw
  refine lv_aload_n hx hb dJ4_append_bf812_0 rfl (lv_at hl 0 rfl) ?_
  refine lv_iload_n hx hb dJ4_append_bf812_1 rfl (lv_at hl 1 rfl) ?_
  obtain ⟨cS, hat⟩ := classAt_of (ht _ q_893)
  refine J_callr (N0 := []) (ws := [(b, .inr (11, [.ref v, .int 0, .int 0, .int (nI n)])), (v, .inl (cB, m, .inl f))]) hw (va_runSU hat (own := "java/lang/StringBuilder") (As := [.int x]) (rest := []) ⟨hx, hb, hml, hown, ht⟩ (c_J5_append_c97b9 b v m n f x H.size hnm hm hn hf) (va_cwSU 1 ht (G_SU q_1022 q_1615 q_922 q_1023 q_66 q_1024) rfl rfl rfl ⟨by decide, by decide +kernel⟩ ⟨Nat.le_of_ble_eq_true rfl, Nat.le_of_ble_eq_true rfl⟩) ⟨JB.blind, J_recv hK hw (j := 0) rfl cl_11, JB.pre (N0 := []) (ws := [(b, .inr (11, [.ref v, .int 0, .int 0, .int (nI n)])), (v, .inl (cB, m, .inl f))]) hK hC hZ hw SL0⟩ rfl rfl hl.1 rfl (lv_room (Nat.le_of_ble_eq_true rfl)) dJ4_append_bf812_2 ⟨show 0 + (gr (n + szk x) m) ≤ gr (n + szk x) m by omega, show 0 + (gs (n + szk x) m) ≤ gs (n + szk x) m by omega⟩) (fun u1 H locs hp2 hw => ?_)
  obtain ⟨v1, f1⟩ := u1
  have hw : MW D [] [(b, .inr (11, [.ref v1, .int 0, .int 0, .int (nI (n + szk x))])), (v1, .inl (cB, (cap (n + szk x) m), .inl f1))] (va_A [(b, .inr (11, [.ref v, .int 0, .int 0, .int (nI n)])), (v, .inl (cB, m, .inl f))] s.heap.size) s H locs := hw
  refine lv_pop hx hb dJ4_append_bf812_5 rfl ?_
  refine lv_aload_n hx hb dJ4_append_bf812_6 rfl (lv_at hl 0 rfl) ?_
  exact hret H locs ls 7 _ _ (v1, f1) b hw hp2 rfl (show 0 + (gr (n + szk x) m) ≤ gr (n + szk x) m by omega) (show 0 + (gs (n + szk x) m) ≤ gs (n + szk x) m by omega) dJ4_append_bf812_7
