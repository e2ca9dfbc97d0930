theorem dJ4_length_8abf5_0 : decode cJ4_length_8abf5 0 = .ok (.aload_n 0, 1) := by decide +kernel
theorem dJ4_length_8abf5_1 : decode cJ4_length_8abf5 1 = .ok (.invokespecial 343, 3) := by decide +kernel
theorem dJ4_length_8abf5_4 : decode cJ4_length_8abf5 4 = .ok (.ireturn, 1) := by decide +kernel
theorem dJ0_init_db425_0 : decode cJ0_init_db425 0 = .ok (.aload_n 0, 1) := by decide +kernel
theorem dJ0_init_db425_1 : decode cJ0_init_db425 1 = .ok (.invokespecial 1, 3) := by decide +kernel
theorem dJ0_init_db425_4 : decode cJ0_init_db425 4 = .ok (.aload_n 1, 1) := by decide +kernel
theorem dJ0_init_db425_5 : decode cJ0_init_db425 5 = .ok (.invokevirtual 552, 3) := by decide +kernel
theorem dJ0_init_db425_8 : decode cJ0_init_db425 8 = .ok (.astore_n 3, 1) := by decide +kernel
theorem dJ0_init_db425_9 : decode cJ0_init_db425 9 = .ok (.aload_n 1, 1) := by decide +kernel
theorem dJ0_init_db425_10 : decode cJ0_init_db425 10 = .ok (.invokevirtual 549, 3) := by decide +kernel
theorem dJ0_init_db425_13 : decode cJ0_init_db425 13 = .ok (.istore 4, 2) := by decide +kernel
theorem dJ0_init_db425_15 : decode cJ0_init_db425 15 = .ok (.aload_n 1, 1) := by decide +kernel
theorem dJ0_init_db425_16 : decode cJ0_init_db425 16 = .ok (.invokevirtual 1047, 3) := by decide +kernel
theorem dJ0_init_db425_19 : decode cJ0_init_db425 19 = .ok (.ifCond .eq 22, 3) := by decide +kernel
theorem dJ0_init_db425_22 : decode cJ0_init_db425 22 = .ok (.aload_n 0, 1) := by decide +kernel
theorem dJ0_init_db425_23 : decode cJ0_init_db425 23 = .ok (.iconst 0, 1) := by decide +kernel
theorem dJ0_init_db425_24 : decode cJ0_init_db425 24 = .ok (.putfield 15, 3) := by decide +kernel
theorem dJ0_init_db425_27 : decode cJ0_init_db425 27 = .ok (.aload_n 0, 1) := by decide +kernel
theorem dJ0_init_db425_28 : decode cJ0_init_db425 28 = .ok (.aload_n 3, 1) := by decide +kernel
theorem dJ0_init_db425_29 : decode cJ0_init_db425 29 = .ok (.iconst 0, 1) := by decide +kernel
theorem dJ0_init_db425_30 : decode cJ0_init_db425 30 = .ok (.iload 4, 2) := by decide +kernel
theorem dJ0_init_db425_32 : decode cJ0_init_db425 32 = .ok (.invokestatic 54, 3) := by decide +kernel
theorem dJ0_init_db425_35 : decode cJ0_init_db425 35 = .ok (.putfield 9, 3) := by decide +kernel
theorem dJ0_init_db425_38 : decode cJ0_init_db425 38 = .ok (.goto 59, 3) := by decide +kernel
theorem dJ0_init_db425_41 : decode cJ0_init_db425 41 = .ok (.getstatic 38, 3) := by decide +kernel
theorem dJ0_init_db425_44 : decode cJ0_init_db425 44 = .ok (.ifCond .eq 35, 3) := by decide +kernel
theorem dJ0_init_db425_47 : decode cJ0_init_db425 47 = .ok (.aload_n 1, 1) := by decide +kernel
theorem dJ0_init_db425_48 : decode cJ0_init_db425 48 = .ok (.getfield 1048, 3) := by decide +kernel
theorem dJ0_init_db425_51 : decode cJ0_init_db425 51 = .ok (.ifCond .eq 28, 3) := by decide +kernel
theorem dJ0_init_db425_54 : decode cJ0_init_db425 54 = .ok (.aload_n 0, 1) := by decide +kernel
theorem dJ0_init_db425_55 : decode cJ0_init_db425 55 = .ok (.aload_n 3, 1) := by decide +kernel
theorem dJ0_init_db425_56 : decode cJ0_init_db425 56 = .ok (.iconst 0, 1) := by decide +kernel
theorem dJ0_init_db425_57 : decode cJ0_init_db425 57 = .ok (.iload 4, 2) := by decide +kernel
theorem dJ0_init_db425_59 : decode cJ0_init_db425 59 = .ok (.invokestatic 1051, 3) := by decide +kernel
theorem dJ0_init_db425_62 : decode cJ0_init_db425 62 = .ok (.putfield 9, 3) := by decide +kernel
theorem dJ0_init_db425_65 : decode cJ0_init_db425 65 = .ok (.aload_n 0, 1) := by decide +kernel
theorem dJ0_init_db425_66 : decode cJ0_init_db425 66 = .ok (.aload_n 0, 1) := by decide +kernel
theorem dJ0_init_db425_67 : decode cJ0_init_db425 67 = .ok (.getfield 9, 3) := by decide +kernel
theorem dJ0_init_db425_70 : decode cJ0_init_db425 70 = .ok (.iload 4, 2) := by decide +kernel
theorem dJ0_init_db425_72 : decode cJ0_init_db425 72 = .ok (.invokestatic 47, 3) := by decide +kernel
theorem dJ0_init_db425_75 : decode cJ0_init_db425 75 = .ok (.putfield 15, 3) := by decide +kernel
theorem dJ0_init_db425_78 : decode cJ0_init_db425 78 = .ok (.return_, 1) := by decide +kernel
theorem dJ0_init_db425_79 : decode cJ0_init_db425 79 = .ok (.aload_n 0, 1) := by decide +kernel
theorem dJ0_init_db425_80 : decode cJ0_init_db425 80 = .ok (.iconst 1, 1) := by decide +kernel
theorem dJ0_init_db425_81 : decode cJ0_init_db425 81 = .ok (.putfield 15, 3) := by decide +kernel
theorem dJ0_init_db425_84 : decode cJ0_init_db425 84 = .ok (.aload_n 0, 1) := by decide +kernel
theorem dJ0_init_db425_85 : decode cJ0_init_db425 85 = .ok (.aload_n 3, 1) := by decide +kernel
theorem dJ0_init_db425_86 : decode cJ0_init_db425 86 = .ok (.iconst 0, 1) := by decide +kernel
theorem dJ0_init_db425_87 : decode cJ0_init_db425 87 = .ok (.iload 4, 2) := by decide +kernel
theorem dJ0_init_db425_89 : decode cJ0_init_db425 89 = .ok (.iconst 1, 1) := by decide +kernel
theorem dJ0_init_db425_90 : decode cJ0_init_db425 90 = .ok (.ishl, 1) := by decide +kernel
theorem dJ0_init_db425_91 : decode cJ0_init_db425 91 = .ok (.invokestatic 54, 3) := by decide +kernel
theorem dJ0_init_db425_94 : decode cJ0_init_db425 94 = .ok (.putfield 9, 3) := by decide +kernel
theorem dJ0_init_db425_97 : decode cJ0_init_db425 97 = .ok (.return_, 1) := by decide +kernel
theorem dJ0_init_81219_0 : decode cJ0_init_81219 0 = .ok (.aload_n 0, 1) := by decide +kernel
theorem dJ0_init_81219_1 : decode cJ0_init_81219 1 = .ok (.aload_n 1, 1) := by decide +kernel
theorem dJ0_init_81219_2 : decode cJ0_init_81219 2 = .ok (.aconst_null, 1) := by decide +kernel
theorem dJ0_init_81219_3 : decode cJ0_init_81219 3 = .ok (.invokespecial 489, 3) := by decide +kernel
theorem dJ0_init_81219_6 : decode cJ0_init_81219 6 = .ok (.return_, 1) := by decide +kernel
theorem dJ4_toString_0e30d_0 : decode cJ4_toString_0e30d 0 = .ok (.new 18, 3) := by decide +kernel
theorem dJ4_toString_0e30d_3 : decode cJ4_toString_0e30d 3 = .ok (.dup, 1) := by decide +kernel
theorem dJ4_toString_0e30d_4 : decode cJ4_toString_0e30d 4 = .ok (.aload_n 0, 1) := by decide +kernel
theorem dJ4_toString_0e30d_5 : decode cJ4_toString_0e30d 5 = .ok (.invokespecial 137, 3) := by decide +kernel
theorem dJ4_toString_0e30d_8 : decode cJ4_toString_0e30d 8 = .ok (.areturn, 1) := by decide +kernel
theorem dJ5_init_d00df_0 : decode cJ5_init_d00df 0 = .ok (.aload_n 0, 1) := by decide +kernel
theorem dJ5_init_d00df_1 : decode cJ5_init_d00df 1 = .ok (.invokespecial 3, 3) := by decide +kernel
theorem dJ5_init_d00df_4 : decode cJ5_init_d00df 4 = .ok (.getstatic 18, 3) := by decide +kernel
theorem dJ5_init_d00df_7 : decode cJ5_init_d00df 7 = .ok (.ifCond .eq 18, 3) := by decide +kernel
theorem dJ5_init_d00df_10 : decode cJ5_init_d00df 10 = .ok (.aload_n 0, 1) := by decide +kernel
theorem dJ5_init_d00df_11 : decode cJ5_init_d00df 11 = .ok (.iload_n 1, 1) := by decide +kernel
theorem dJ5_init_d00df_12 : decode cJ5_init_d00df 12 = .ok (.newarray .byte, 2) := by decide +kernel
theorem dJ5_init_d00df_14 : decode cJ5_init_d00df 14 = .ok (.putfield 15, 3) := by decide +kernel
theorem dJ5_init_d00df_17 : decode cJ5_init_d00df 17 = .ok (.aload_n 0, 1) := by decide +kernel
theorem dJ5_init_d00df_18 : decode cJ5_init_d00df 18 = .ok (.iconst 0, 1) := by decide +kernel
theorem dJ5_init_d00df_19 : decode cJ5_init_d00df 19 = .ok (.putfield 22, 3) := by decide +kernel
theorem dJ5_init_d00df_22 : decode cJ5_init_d00df 22 = .ok (.goto 16, 3) := by decide +kernel
theorem dJ5_init_d00df_25 : decode cJ5_init_d00df 25 = .ok (.aload_n 0, 1) := by decide +kernel
theorem dJ5_init_d00df_26 : decode cJ5_init_d00df 26 = .ok (.iload_n 1, 1) := by decide +kernel
theorem dJ5_init_d00df_27 : decode cJ5_init_d00df 27 = .ok (.invokestatic 26, 3) := by decide +kernel
theorem dJ5_init_d00df_30 : decode cJ5_init_d00df 30 = .ok (.putfield 15, 3) := by decide +kernel
theorem dJ5_init_d00df_33 : decode cJ5_init_d00df 33 = .ok (.aload_n 0, 1) := by decide +kernel
theorem dJ5_init_d00df_34 : decode cJ5_init_d00df 34 = .ok (.iconst 1, 1) := by decide +kernel
theorem dJ5_init_d00df_35 : decode cJ5_init_d00df 35 = .ok (.putfield 22, 3) := by decide +kernel
theorem dJ5_init_d00df_38 : decode cJ5_init_d00df 38 = .ok (.return_, 1) := by decide +kernel
theorem dJ4_init_da8c8_0 : decode cJ4_init_da8c8 0 = .ok (.aload_n 0, 1) := by decide +kernel
theorem dJ4_init_da8c8_1 : decode cJ4_init_da8c8 1 = .ok (.bipush 16, 2) := by decide +kernel
theorem dJ4_init_da8c8_3 : decode cJ4_init_da8c8 3 = .ok (.invokespecial 1, 3) := by decide +kernel
theorem dJ4_init_da8c8_6 : decode cJ4_init_da8c8 6 = .ok (.return_, 1) := by decide +kernel
theorem jd_19 : (yJ5_length_8abf5 : MethodName).cls ≠ "java/lang/invoke/MethodHandle" ∧ (yJ5_length_8abf5 : MethodName).cls ≠ "java/lang/invoke/VarHandle" ∧ (parseMethodDescriptor (yJ5_length_8abf5 : MethodName).desc).map (fun d => d.parameters.length) = some 0 := by decide +kernel
theorem jd_20 : (yJ5_getValue_6d5f1 : MethodName).cls ≠ "java/lang/invoke/MethodHandle" ∧ (yJ5_getValue_6d5f1 : MethodName).cls ≠ "java/lang/invoke/VarHandle" ∧ (parseMethodDescriptor (yJ5_getValue_6d5f1 : MethodName).desc).map (fun d => d.parameters.length) = some 0 := by decide +kernel
theorem jd_21 : (yJ4_length_8abf5 : MethodName).cls ≠ "java/lang/invoke/MethodHandle" ∧ (yJ4_length_8abf5 : MethodName).cls ≠ "java/lang/invoke/VarHandle" ∧ (parseMethodDescriptor (yJ4_length_8abf5 : MethodName).desc).map (fun d => d.parameters.length) = some 0 := by decide +kernel
theorem jd_22 : (yJ7_copyOfRange_39247 : MethodName).cls ≠ "java/lang/invoke/MethodHandle" ∧ (yJ7_copyOfRange_39247 : MethodName).cls ≠ "java/lang/invoke/VarHandle" ∧ (parseMethodDescriptor (yJ7_copyOfRange_39247 : MethodName).desc).map (fun d => d.parameters.length) = some 3 := by decide +kernel
theorem jd_23 : (yJ0_init_db425 : MethodName).cls ≠ "java/lang/invoke/MethodHandle" ∧ (yJ0_init_db425 : MethodName).cls ≠ "java/lang/invoke/VarHandle" ∧ (parseMethodDescriptor (yJ0_init_db425 : MethodName).desc).map (fun d => d.parameters.length) = some 2 := by decide +kernel
theorem jd_24 : (yJ0_init_81219 : MethodName).cls ≠ "java/lang/invoke/MethodHandle" ∧ (yJ0_init_81219 : MethodName).cls ≠ "java/lang/invoke/VarHandle" ∧ (parseMethodDescriptor (yJ0_init_81219 : MethodName).desc).map (fun d => d.parameters.length) = some 1 := by decide +kernel
theorem jd_25 : (yJ5_init_d00df : MethodName).cls ≠ "java/lang/invoke/MethodHandle" ∧ (yJ5_init_d00df : MethodName).cls ≠ "java/lang/invoke/VarHandle" ∧ (parseMethodDescriptor (yJ5_init_d00df : MethodName).desc).map (fun d => d.parameters.length) = some 1 := by decide +kernel
set_option maxHeartbeats 4000000 in
set_option maxRecDepth 100000 in
theorem c_J4_length_8abf5 {l : Launch} {D : va_G} {cB : ClassId} (b v m n : Nat) (f : Nat → Int32)(sz : Nat)  : JMi l yJ4_length_8abf5 (.code yJ4_length_8abf5 cJ4_length_8abf5 1 (Option.some Jvm.ClassFile.FieldType.int)) 1 0 0 [.ref b] D cB [(b, .inr (11, [.ref v, .int 0, .int 0, .int (nI n)])), (v, .inl (cB, m, .inl f))] [] sz (fun (r : Int32) (u : Unit) => r = nI n) (fun (u : Unit) => [bC b v n, bV cB v m f]) := by
  refine J_meti (by decide +kernel) (Nat.le_of_ble_eq_true rfl) ?_
  intro p e s mI below meth c Z ls hx hb hml hown hin ht hK hC hZ hSL hw hret hl
  have hl : lv_has ls 1 [(0, .ref b)] := hl
  suffices hh : ∀ (H : Heap) (locs : List Loc), MW D [] [(b, .inr (11, [.ref v, .int 0, .int 0, .int (nI n)])), (v, .inl (cB, m, .inl f))] (va_A [(b, .inr (11, [.ref v, .int 0, .int 0, .int (nI n)])), (v, .inl (cB, m, .inl f))] s.heap.size) s H locs → W p l e (RA 1 0 0) s mI #[.ref b] below meth c H locs 0 0 Z (F0 mI 0 ls []) from hh _ _ hw
  intro H locs hw
  refine lv_aload_n hx hb dJ4_length_8abf5_0 rfl (lv_at hl 0 rfl) ?_
  obtain ⟨cS, hat⟩ := classAt_of (ht _ q_893)
  refine J_calli (N0 := []) (ws := [(b, .inr (11, [.ref v, .int 0, .int 0, .int (nI n)])), (v, .inl (cB, m, .inl f))]) hw (va_runSU hat (own := "java/lang/StringBuilder") (As := []) (rest := []) ⟨hx, hb, hml, hown, ht⟩ (c_J5_length_8abf5 b v m n f H.size) (va_cwSU 0 ht (G_SU q_1077 q_1073 q_922 q_1072 q_66 q_1078) rfl rfl rfl ⟨by decide, by decide +kernel⟩ ⟨Nat.le_of_ble_eq_true rfl, Nat.le_of_ble_eq_true rfl⟩) ⟨JB.blind, J_recv hK hw (j := 0) rfl cl_11, JB.pre (N0 := []) (ws := [(b, .inr (11, [.ref v, .int 0, .int 0, .int (nI n)])), (v, .inl (cB, m, .inl f))]) hK hC hZ hw SL0⟩ rfl rfl hl.1 rfl (lv_room (Nat.le_of_ble_eq_true rfl)) dJ4_length_8abf5_1 ⟨show 0 + 0 ≤ 0 by omega, show 0 + 0 ≤ 0 by omega⟩) (fun r3 u1 H locs hp2 hw => ?_)
  have hw : MW D [] [(b, .inr (11, [.ref v, .int 0, .int 0, .int (nI n)])), (v, .inl (cB, m, .inl f))] (va_A [(b, .inr (11, [.ref v, .int 0, .int 0, .int (nI n)])), (v, .inl (cB, m, .inl f))] s.heap.size) s H locs := hw
  rw [hp2]
  exact hret H locs ls 4 _ _ (nI n) () hw rfl rfl (show 0 + 0 ≤ 0 by omega) (show 0 + 0 ≤ 0 by omega) dJ4_length_8abf5_4

set_option maxHeartbeats 4000000 in
set_option maxRecDepth 100000 in
theorem c_J0_init_db425 {l : Launch} {D : va_G} {cB : ClassId} (a b v m n : Nat) (f : Nat → Int32)(sz : Nat) (hnm : n ≤ m) (hm : m ≤ 100000) (hf : FT f) : JMv l yJ0_init_db425 (.code yJ0_init_db425 cJ0_init_db425 5 (Option.none : Option Jvm.ClassFile.FieldType)) 3 1 n [.ref a, .ref b, .null] D cB [(a, .inr (12, [.null, .int 0, .int 0, .int 0])), (b, .inr (11, [.ref v, .int 0, .int 0, .int (nI n)])), (v, .inl (cB, m, .inl f))] [] sz (fun (u : Nat × (Nat → Int32)) => FT u.2) (fun (u : Nat × (Nat → Int32)) => [sC a u.1, bC b v n, bV cB v m f, bV cB u.1 n u.2]) := by
  refine J_metv (by decide +kernel) (Nat.le_of_ble_eq_true rfl) ?_
  intro p e s mI below meth c Z ls hx hb hml hown hin ht hK hC hZ hSL hw hret hl
  have hl : lv_has ls 5 [(0, .ref a), (1, .ref b), (2, .null)] := hl
  suffices hh : ∀ (H : Heap) (locs : List Loc), MW D [] [(a, .inr (12, [.null, .int 0, .int 0, .int 0])), (b, .inr (11, [.ref v, .int 0, .int 0, .int (nI n)])), (v, .inl (cB, m, .inl f))] (va_A [(a, .inr (12, [.null, .int 0, .int 0, .int 0])), (b, .inr (11, [.ref v, .int 0, .int 0, .int (nI n)])), (v, .inl (cB, m, .inl f))] s.heap.size) s H locs → W p l e (RA 3 1 n) s mI #[.ref a, .ref b, .null] below meth c H locs 0 0 Z (F0 mI 0 ls []) from hh _ _ hw
  intro H locs hw
  refine lv_aload_n hx hb dJ0_init_db425_0 rfl (lv_at hl 0 rfl) ?_
  refine W.objInit hx hb hown (ht _ q_1065) (ht _ q_82) (ht _ q_83) rfl (by rw [hml]; exact hl.1) rfl dJ0_init_db425_1 (Nat.le_of_ble_eq_true rfl) (Nat.le_of_ble_eq_true rfl) ?_
  refine W.eq (g2 := F0 mI 4 ls []) rfl ?_
  refine lv_aload_n hx hb dJ0_init_db425_4 rfl (lv_at hl 1 rfl) ?_
  refine J_callr (N0 := [(a, .inr (12, [.null, .int 0, .int 0, .int 0]))]) (ws := [(b, .inr (11, [.ref v, .int 0, .int 0, .int (nI n)])), (v, .inl (cB, m, .inl f))]) hw (va_runU (own := "java/lang/String") (As := []) (rest := []) ⟨hx, hb, hml, hown, ht⟩ (c_J5_getValue_6d5f1 b v m n f H.size) (va_cwU (C := "java/lang/StringBuilder") (owner := "java/lang/AbstractStringBuilder") 0 ht (G_U q_1066 q_1068 q_1069 q_1067 q_66 q_1070) rfl rfl rfl rfl jd_20 ⟨Nat.le_of_ble_eq_true rfl, Nat.le_of_ble_eq_true rfl⟩) ⟨JB.blind, J_recv hK hw (j := 1) rfl cl_11, JB.pre (N0 := [(a, .inr (12, [.null, .int 0, .int 0, .int 0]))]) (ws := [(b, .inr (11, [.ref v, .int 0, .int 0, .int (nI n)])), (v, .inl (cB, m, .inl f))]) hK hC hZ hw SL0⟩ rfl rfl hl.1 rfl (lv_room (Nat.le_of_ble_eq_true rfl)) dJ0_init_db425_5 ⟨show 0 + 0 ≤ 1 by omega, show 0 + 0 ≤ n by omega⟩) (fun u1 H locs hp2 hw => ?_)
  have hw : MW D [] [(a, .inr (12, [.null, .int 0, .int 0, .int 0])), (b, .inr (11, [.ref v, .int 0, .int 0, .int (nI n)])), (v, .inl (cB, m, .inl f))] (va_A [(a, .inr (12, [.null, .int 0, .int 0, .int 0])), (b, .inr (11, [.ref v, .int 0, .int 0, .int (nI n)])), (v, .inl (cB, m, .inl f))] s.heap.size) s H locs := hw
  refine lv_astore_n (lv' := [(3, .ref v), (0, .ref a), (1, .ref b), (2, .null)]) hx hb dJ0_init_db425_8 rfl hl (by decide) rfl (fun ls hl => ?_)
  refine lv_aload_n hx hb dJ0_init_db425_9 rfl (lv_at hl 2 rfl) ?_
  refine J_calli (N0 := [(a, .inr (12, [.null, .int 0, .int 0, .int 0]))]) (ws := [(b, .inr (11, [.ref v, .int 0, .int 0, .int (nI n)])), (v, .inl (cB, m, .inl f))]) hw (va_runU (own := "java/lang/String") (As := []) (rest := []) ⟨hx, hb, hml, hown, ht⟩ (c_J4_length_8abf5 b v m n f H.size) (va_cwO (C := "java/lang/StringBuilder") (owner := "java/lang/AbstractStringBuilder") 0 ht (G_O q_1071 q_1073 q_1072 q_1074 q_1075 q_67 q_1076) rfl rfl rfl q_1078 ⟨by decide, by decide, by decide +kernel⟩ ⟨Nat.le_of_ble_eq_true rfl, Nat.le_of_ble_eq_true rfl⟩) ⟨JB.blind, J_recv hK hw (j := 1) rfl cl_11, JB.pre (N0 := [(a, .inr (12, [.null, .int 0, .int 0, .int 0]))]) (ws := [(b, .inr (11, [.ref v, .int 0, .int 0, .int (nI n)])), (v, .inl (cB, m, .inl f))]) hK hC hZ hw SL0⟩ rfl rfl hl.1 rfl (lv_room (Nat.le_of_ble_eq_true rfl)) dJ0_init_db425_10 ⟨show 0 + 0 + 0 ≤ 1 by omega, show 0 + 0 + 0 ≤ n by omega⟩) (fun r6 u4 H locs hp5 hw => ?_)
  have hw : MW D [] [(a, .inr (12, [.null, .int 0, .int 0, .int 0])), (b, .inr (11, [.ref v, .int 0, .int 0, .int (nI n)])), (v, .inl (cB, m, .inl f))] (va_A [(a, .inr (12, [.null, .int 0, .int 0, .int 0])), (b, .inr (11, [.ref v, .int 0, .int 0, .int (nI n)])), (v, .inl (cB, m, .inl f))] s.heap.size) s H locs := hw
  rw [hp5]
  refine lv_istore (lv' := [(4, .int (nI n)), (3, .ref v), (0, .ref a), (1, .ref b), (2, .null)]) hx hb dJ0_init_db425_13 hl (by decide) rfl (fun ls hl => ?_)
  refine lv_aload_n hx hb dJ0_init_db425_15 rfl (lv_at hl 3 rfl) ?_
  refine J_calli (N0 := [(a, .inr (12, [.null, .int 0, .int 0, .int 0]))]) (ws := [(b, .inr (11, [.ref v, .int 0, .int 0, .int (nI n)])), (v, .inl (cB, m, .inl f))]) hw (va_runU (own := "java/lang/String") (As := []) (rest := []) ⟨hx, hb, hml, hown, ht⟩ (c_J5_isLatin1_aae02 b v m n f H.size) (va_cwU (C := "java/lang/StringBuilder") (owner := "java/lang/AbstractStringBuilder") 0 ht (G_U q_1079 q_967 q_968 q_966 q_66 q_969) rfl rfl rfl rfl jd_4 ⟨Nat.le_of_ble_eq_true rfl, Nat.le_of_ble_eq_true rfl⟩) ⟨JB.blind, J_recv hK hw (j := 1) rfl cl_11, JB.pre (N0 := [(a, .inr (12, [.null, .int 0, .int 0, .int 0]))]) (ws := [(b, .inr (11, [.ref v, .int 0, .int 0, .int (nI n)])), (v, .inl (cB, m, .inl f))]) hK hC hZ hw SL0⟩ rfl rfl hl.1 rfl (lv_room (Nat.le_of_ble_eq_true rfl)) dJ0_init_db425_16 ⟨show 0 + 0 + 0 + 0 ≤ 1 by omega, show 0 + 0 + 0 + 0 ≤ n by omega⟩) (fun r9 u7 H locs hp8 hw => ?_)
  have hw : MW D [] [(a, .inr (12, [.null, .int 0, .int 0, .int 0])), (b, .inr (11, [.ref v, .int 0, .int 0, .int (nI n)])), (v, .inl (cB, m, .inl f))] (va_A [(a, .inr (12, [.null, .int 0, .int 0, .int 0])), (b, .inr (11, [.ref v, .int 0, .int 0, .int (nI n)])), (v, .inl (cB, m, .inl f))] s.heap.size) s H locs := hw
  rw [hp8]
  refine lv_if_eq (tgt := 41) hx hb dJ0_init_db425_19 (by decide) (fun c9 => absurd c9 (by decide)) (fun c9 => ?_)
  refine lv_aload_n hx hb dJ0_init_db425_22 rfl (lv_at hl 2 rfl) ?_
  refine lv_iconst (v := (0 : Int32)) hx hb dJ0_init_db425_23 (by decide) ?_
  refine va_putF (ty := .byte) hx hb ht in_12 tyJ0 tyJ0_ok nmJ0 hown hK hw.1 hw.2.1 hw.2.2.1 0 rfl cl_12 1 (by decide) (ht _ q_1148) (fun _ h => h) rfl hin rfl (by decide +kernel) rfl rfl (Nat.le_of_ble_eq_true rfl) dJ0_init_db425_24 (fun H locs hP hD hS => ?_)
  have hw : MW D [] [(a, .inr (12, [.null, .int (0 : Int32), .int 0, .int 0])), (b, .inr (11, [.ref v, .int 0, .int 0, .int (nI n)])), (v, .inl (cB, m, .inl f))] (va_A [(a, .inr (12, [.null, .int 0, .int 0, .int 0])), (b, .inr (11, [.ref v, .int 0, .int 0, .int (nI n)])), (v, .inl (cB, m, .inl f))] s.heap.size) s H locs := ⟨hP, hD, hS, hw.2.2.2⟩
  refine lv_aload_n hx hb dJ0_init_db425_27 rfl (lv_at hl 2 rfl) ?_
  refine lv_aload_n hx hb dJ0_init_db425_28 rfl (lv_at hl 1 rfl) ?_
  refine lv_iconst (v := (0 : Int32)) hx hb dJ0_init_db425_29 (by decide) ?_
  refine lv_iload hx hb dJ0_init_db425_30 (lv_at hl 0 rfl) ?_
  refine J_callr (N0 := [(a, .inr (12, [.null, .int (0 : Int32), .int 0, .int 0])), (b, .inr (11, [.ref v, .int 0, .int 0, .int (nI n)]))]) (ws := [(v, .inl (cB, m, .inl f))]) hw (va_runS (own := "java/lang/String") (As := [.ref v, .int (0 : Int32), .int (nI n)]) (rest := [.ref a]) ⟨hx, hb, hml, hown, ht⟩ (c_J7_copyOfRange_39247 v m n f H.size hnm hm hf) (va_cwS 3 ht (G_S q_1080 q_1081 q_71 q_1082) rfl rfl rfl jd_22 ⟨Nat.le_of_ble_eq_true rfl, Nat.le_of_ble_eq_true rfl⟩) ⟨JB.blind, JB.pre (N0 := [(a, .inr (12, [.null, .int (0 : Int32), .int 0, .int 0])), (b, .inr (11, [.ref v, .int 0, .int 0, .int (nI n)]))]) (ws := [(v, .inl (cB, m, .inl f))]) hK hC hZ hw SL0⟩ rfl rfl hl.1 rfl (lv_room (Nat.le_of_ble_eq_true rfl)) dJ0_init_db425_32 ⟨show 0 + 0 + 0 + 0 + 1 ≤ 1 by omega, show 0 + 0 + 0 + 0 + n ≤ n by omega⟩) (fun u10 H locs hp11 hw => ?_)
  obtain ⟨v1, f1⟩ := u10
  have hw : MW D [] [(a, .inr (12, [.null, .int (0 : Int32), .int 0, .int 0])), (b, .inr (11, [.ref v, .int 0, .int 0, .int (nI n)])), (v, .inl (cB, m, .inl f)), (v1, .inl (cB, n, .inl f1))] (va_A [(a, .inr (12, [.null, .int 0, .int 0, .int 0])), (b, .inr (11, [.ref v, .int 0, .int 0, .int (nI n)])), (v, .inl (cB, m, .inl f))] s.heap.size) s H locs := hw
  refine va_putF (ty := (.array .byte)) hx hb ht in_12 tyJ0 tyJ0_ok nmJ0 hown hK hw.1 hw.2.1 hw.2.2.1 0 rfl cl_12 0 (by decide) (ht _ q_1147) (fun _ h => h) rfl hin rfl (by decide +kernel) rfl rfl (Nat.le_of_ble_eq_true rfl) dJ0_init_db425_35 (fun H locs hP hD hS => ?_)
  have hw : MW D [] [(a, .inr (12, [.ref v1, .int (0 : Int32), .int 0, .int 0])), (b, .inr (11, [.ref v, .int 0, .int 0, .int (nI n)])), (v, .inl (cB, m, .inl f)), (v1, .inl (cB, n, .inl f1))] (va_A [(a, .inr (12, [.null, .int 0, .int 0, .int 0])), (b, .inr (11, [.ref v, .int 0, .int 0, .int (nI n)])), (v, .inl (cB, m, .inl f))] s.heap.size) s H locs := ⟨hP, hD, hS, hw.2.2.2⟩
  refine lv_goto (tgt := 97) hx hb dJ0_init_db425_38 (by decide) ?_
  exact hret H locs ls 97 _ _ (v1, f1) hw hp11 (show 0 + 0 + 0 + 0 + 1 ≤ 1 by omega) (show 0 + 0 + 0 + 0 + n ≤ n by omega) dJ0_init_db425_97

set_option maxHeartbeats 4000000 in
set_option maxRecDepth 100000 in
theorem c_J0_init_81219 {l : Launch} {D : va_G} {cB : ClassId} (a b v m n : Nat) (f : Nat → Int32)(sz : Nat) (hnm : n ≤ m) (hm : m ≤ 100000) (hf : FT f) : JMv l yJ0_init_81219 (.code yJ0_init_81219 cJ0_init_81219 2 (Option.none : Option Jvm.ClassFile.FieldType)) 4 1 n [.ref a, .ref b] D cB [(a, .inr (12, [.null, .int 0, .int 0, .int 0])), (b, .inr (11, [.ref v, .int 0, .int 0, .int (nI n)])), (v, .inl (cB, m, .inl f))] [] sz (fun (u : Nat × (Nat → Int32)) => FT u.2) (fun (u : Nat × (Nat → Int32)) => [sC a u.1, bC b v n, bV cB v m f, bV cB u.1 n u.2]) := by
  refine J_metv (by decide +kernel) (Nat.le_of_ble_eq_true rfl) ?_
  intro p e s mI below meth c Z ls hx hb hml hown hin ht hK hC hZ hSL hw hret hl
  have hl : lv_has ls 2 [(0, .ref a), (1, .ref b)] := hl
  suffices hh : ∀ (H : Heap) (locs : List Loc), MW D [] [(a, .inr (12, [.null, .int 0, .int 0, .int 0])), (b, .inr (11, [.ref v, .int 0, .int 0, .int (nI n)])), (v, .inl (cB, m, .inl f))] (va_A [(a, .inr (12, [.null, .int 0, .int 0, .int 0])), (b, .inr (11, [.ref v, .int 0, .int 0, .int (nI n)])), (v, .inl (cB, m, .inl f))] s.heap.size) s H locs → W p l e (RA 4 1 n) s mI #[.ref a, .ref b] below meth c H locs 0 0 Z (F0 mI 0 ls []) from hh _ _ hw
  intro H locs hw
  refine lv_aload_n hx hb dJ0_init_81219_0 rfl (lv_at hl 0 rfl) ?_
  refine lv_aload_n hx hb dJ0_init_81219_1 rfl (lv_at hl 1 rfl) ?_
  refine lv_null hx hb dJ0_init_81219_2 ?_
  refine J_callv (N0 := []) (ws := [(a, .inr (12, [.null, .int 0, .int 0, .int 0])), (b, .inr (11, [.ref v, .int 0, .int 0, .int (nI n)])), (v, .inl (cB, m, .inl f))]) hw (va_runI (own := "java/lang/String") (As := [.ref b, .null]) (rest := []) ⟨hx, hb, hml, hown, ht⟩ (c_J0_init_db425 a b v m n f H.size hnm hm hf) (cwI 2 ht (G_ws q_1064) rfl rfl rfl (ht _ q_68) (ht _ q_1062) (ht _ q_1063) rfl jd_23 ⟨Nat.le_of_ble_eq_true rfl, Nat.le_of_ble_eq_true rfl⟩) ⟨JB.blind, JB.pre (N0 := []) (ws := [(a, .inr (12, [.null, .int 0, .int 0, .int 0])), (b, .inr (11, [.ref v, .int 0, .int 0, .int (nI n)])), (v, .inl (cB, m, .inl f))]) hK hC hZ hw SL0⟩ rfl rfl hl.1 rfl (lv_room (Nat.le_of_ble_eq_true rfl)) dJ0_init_81219_3 ⟨show 0 + 1 ≤ 1 by omega, show 0 + n ≤ n by omega⟩) (fun u1 H locs hp2 hw => ?_)
  obtain ⟨v1, f1⟩ := u1
  have hw : MW D [] [(a, .inr (12, [.ref v1, .int 0, .int 0, .int 0])), (b, .inr (11, [.ref v, .int 0, .int 0, .int (nI n)])), (v, .inl (cB, m, .inl f)), (v1, .inl (cB, n, .inl f1))] (va_A [(a, .inr (12, [.null, .int 0, .int 0, .int 0])), (b, .inr (11, [.ref v, .int 0, .int 0, .int (nI n)])), (v, .inl (cB, m, .inl f))] s.heap.size) s H locs := hw
  exact hret H locs ls 6 _ _ (v1, f1) hw hp2 (show 0 + 1 ≤ 1 by omega) (show 0 + n ≤ n by omega) dJ0_init_81219_6

set_option maxHeartbeats 4000000 in
set_option maxRecDepth 100000 in
theorem c_J4_toString_0e30d {l : Launch} {D : va_G} {cB : ClassId} (b v m n : Nat) (f : Nat → Int32)(sz : Nat) (hnm : n ≤ m) (hm : m ≤ 100000) (hf : FT f) : JMr l yJ4_toString_0e30d (.code yJ4_toString_0e30d cJ4_toString_0e30d 1 (Option.some (Jvm.ClassFile.FieldType.object "java/lang/String"))) 5 2 (n + 4) [.ref b] D cB [(b, .inr (11, [.ref v, .int 0, .int 0, .int (nI n)])), (v, .inl (cB, m, .inl f))] [] sz (fun (u : Nat × Nat × (Nat → Int32)) => FT u.2.2) (fun (u : Nat × Nat × (Nat → Int32)) => u.1) (fun (u : Nat × Nat × (Nat → Int32)) => [sC u.1 u.2.1, bC b v n, bV cB v m f, bV cB u.2.1 n u.2.2]) := by
  refine J_metr (by decide +kernel) (Nat.le_of_ble_eq_true rfl) (Or.inl ⟨_, rfl⟩) ?_
  intro p e s mI below meth c Z ls hx hb hml hown hin ht hK hC hZ hSL hw hret hl
  have hl : lv_has ls 1 [(0, .ref b)] := hl
  suffices hh : ∀ (H : Heap) (locs : List Loc), MW D [] [(b, .inr (11, [.ref v, .int 0, .int 0, .int (nI n)])), (v, .inl (cB, m, .inl f))] (va_A [(b, .inr (11, [.ref v, .int 0, .int 0, .int (nI n)])), (v, .inl (cB, m, .inl f))] s.heap.size) s H locs → W p l e (RA 5 2 (n + 4)) s mI #[.ref b] below meth c H locs 0 0 Z (F0 mI 0 ls []) from hh _ _ hw
  intro H locs hw
  refine va_new (fs := [.null, .int 0, .int 0, .int 0]) hx hb ht in_12 tyJ0 tyJ0_ok hown (ht _ q_1057) (ht _ q_1058) (ht _ q_68) hK hw.1 hw.2.1 hw.2.2.1 hw.2.2.2 cl_12 (fun j hj => by rcases (show j = 0 ∨ j = 1 ∨ j = 2 ∨ j = 3 by omega) with rfl | rfl | rfl | rfl <;> rfl) (show 0 + 1 ≤ 2 by omega) (show 0 + 4 ≤ n + 4 by omega) dJ4_toString_0e30d_0 (fun q1 H hP hD hS => ?_)
  have hw : MW D [] [(b, .inr (11, [.ref v, .int 0, .int 0, .int (nI n)])), (v, .inl (cB, m, .inl f)), (q1, .inr (12, [.null, .int 0, .int 0, .int 0]))] (va_A [(b, .inr (11, [.ref v, .int 0, .int 0, .int (nI n)])), (v, .inl (cB, m, .inl f))] s.heap.size) s H locs := ⟨hP, hD, hS, hw.2.2.2⟩
  refine lv_dup hx hb dJ4_toString_0e30d_3 rfl ?_
  refine lv_aload_n hx hb dJ4_toString_0e30d_4 rfl (lv_at hl 0 rfl) ?_
  have hw := hw.sub (N' := [(q1, .inr (12, [.null, .int 0, .int 0, .int 0])), (b, .inr (11, [.ref v, .int 0, .int 0, .int (nI n)])), (v, .inl (cB, m, .inl f))]) [2, 0, 1] (by decide) rfl
  have hw : MW D [] [(q1, .inr (12, [.null, .int 0, .int 0, .int 0])), (b, .inr (11, [.ref v, .int 0, .int 0, .int (nI n)])), (v, .inl (cB, m, .inl f))] (va_A [(b, .inr (11, [.ref v, .int 0, .int 0, .int (nI n)])), (v, .inl (cB, m, .inl f))] s.heap.size) s H locs := hw
  refine J_callv (N0 := []) (ws := [(q1, .inr (12, [.null, .int 0, .int 0, .int 0])), (b, .inr (11, [.ref v, .int 0, .int 0, .int (nI n)])), (v, .inl (cB, m, .inl f))]) hw (va_runI (own := "java/lang/StringBuilder") (As := [.ref b]) (rest := [.ref q1]) ⟨hx, hb, hml, hown, ht⟩ (c_J0_init_81219 q1 b v m n f H.size hnm hm hf) (cwI 1 ht (G_ws q_1061) rfl rfl rfl (ht _ q_68) (ht _ q_1059) (ht _ q_1060) rfl jd_24 ⟨Nat.le_of_ble_eq_true rfl, Nat.le_of_ble_eq_true rfl⟩) ⟨JB.blind, JB.pre (N0 := []) (ws := [(q1, .inr (12, [.null, .int 0, .int 0, .int 0])), (b, .inr (11, [.ref v, .int 0, .int 0, .int (nI n)])), (v, .inl (cB, m, .inl f))]) hK hC hZ hw SL0⟩ rfl rfl hl.1 rfl (lv_room (Nat.le_of_ble_eq_true rfl)) dJ4_toString_0e30d_5 ⟨show 0 + 1 + 1 ≤ 2 by omega, show 0 + 4 + n ≤ n + 4 by omega⟩) (fun u2 H locs hp3 hw => ?_)
  obtain ⟨v1, f1⟩ := u2
  have hw : MW D [] [(q1, .inr (12, [.ref v1, .int 0, .int 0, .int 0])), (b, .inr (11, [.ref v, .int 0, .int 0, .int (nI n)])), (v, .inl (cB, m, .inl f)), (v1, .inl (cB, n, .inl f1))] (va_A [(b, .inr (11, [.ref v, .int 0, .int 0, .int (nI n)])), (v, .inl (cB, m, .inl f))] s.heap.size) s H locs := hw
  exact hret H locs ls 8 _ _ (q1, v1, f1) q1 hw hp3 rfl (show 0 + 1 + 1 ≤ 2 by omega) (show 0 + 4 + n ≤ n + 4 by omega) dJ4_toString_0e30d_8

set_option maxHeartbeats 4000000 in
set_option maxRecDepth 100000 in
theorem c_J5_init_d00df {l : Launch} {D : va_G} {cB : ClassId} (b : Nat)(sz : Nat)  : JMv l yJ5_init_d00df (.code yJ5_init_d00df cJ5_init_d00df 2 (Option.none : Option Jvm.ClassFile.FieldType)) 1 1 16 [.ref b, .int (16 : Int32)] D cB [(b, .inr (11, [.null, .int 0, .int 0, .int 0]))] [] sz (fun (u : Nat) => True) (fun (u : Nat) => [bC b u 0, bV cB u 16 (fun _ => 0)]) := by
  refine J_metv (by decide +kernel) (Nat.le_of_ble_eq_true rfl) ?_
  intro p e s mI below meth c Z ls hx hb hml hown hin ht hK hC hZ hSL hw hret hl
  have hl : lv_has ls 2 [(0, .ref b), (1, .int (16 : Int32))] := hl
  suffices hh : ∀ (H : Heap) (locs : List Loc), MW D [] [(b, .inr (11, [.null, .int 0, .int 0, .int 0]))] (va_A [(b, .inr (11, [.null, .int 0, .int 0, .int 0]))] s.heap.size) s H locs → W p l e (RA 1 1 16) s mI #[.ref b, .int (16 : Int32)] below meth c H locs 0 0 Z (F0 mI 0 ls []) from hh _ _ hw
  intro H locs hw
  refine lv_aload_n hx hb dJ5_init_d00df_0 rfl (lv_at hl 0 rfl) ?_
  refine W.objInit hx hb hown (ht _ q_900) (ht _ q_82) (ht _ q_83) rfl (by rw [hml]; exact hl.1) rfl dJ5_init_d00df_1 (Nat.le_of_ble_eq_true rfl) (Nat.le_of_ble_eq_true rfl) ?_
  refine W.eq (g2 := F0 mI 4 ls []) rfl ?_
  refine va_gets hx hb hZ.1 hw.2.2.1 hown (ht _ q_901) (fun _ h => h) dJ5_init_d00df_4 ?_
  refine lv_if_eq (tgt := 25) hx hb dJ5_init_d00df_7 (by decide) (fun c9 => absurd c9 (by decide)) (fun c9 => ?_)
  refine lv_aload_n hx hb dJ5_init_d00df_10 rfl (lv_at hl 0 rfl) ?_
  refine lv_iload_n hx hb dJ5_init_d00df_11 rfl (lv_at hl 1 rfl) ?_
  refine n_newB (B := 16) hx hb ht q_385 hK hw (n := (16 : Int32)) (⟨by decide, by decide⟩) (by omega) (show 0 + 1 ≤ 1 by omega) (show 0 + 16 ≤ 16 by omega) dJ5_init_d00df_12 (fun q1 H hq1 hw => ?_)
  have hw : MW D [] [(b, .inr (11, [.null, .int 0, .int 0, .int 0])), (q1, .inl (cB, 16, .inl (fun _ => 0)))] (va_A [(b, .inr (11, [.null, .int 0, .int 0, .int 0]))] s.heap.size) s H locs := hw
  refine va_put (ty := (.array .byte)) hx hb ht in_11 tyJ4 tyJ4_ok nmJ4 hown hK hw.1 hw.2.1 hw.2.2.1 0 rfl cl_11 0 (by decide) (ht _ q_910) (fun _ h => h) rfl (by decide +kernel) rfl rfl (Nat.le_of_ble_eq_true rfl) dJ5_init_d00df_14 (fun H locs hP hD hS => ?_)
  have hw : MW D [] [(b, .inr (11, [.ref q1, .int 0, .int 0, .int 0])), (q1, .inl (cB, 16, .inl (fun _ => 0)))] (va_A [(b, .inr (11, [.null, .int 0, .int 0, .int 0]))] s.heap.size) s H locs := ⟨hP, hD, hS, hw.2.2.2⟩
  refine lv_aload_n hx hb dJ5_init_d00df_17 rfl (lv_at hl 0 rfl) ?_
  refine lv_iconst (v := (0 : Int32)) hx hb dJ5_init_d00df_18 (by decide) ?_
  refine va_put (ty := .byte) hx hb ht in_11 tyJ4 tyJ4_ok nmJ4 hown hK hw.1 hw.2.1 hw.2.2.1 0 rfl cl_11 1 (by decide) (ht _ q_911) (fun _ h => h) rfl (by decide +kernel) rfl rfl (Nat.le_of_ble_eq_true rfl) dJ5_init_d00df_19 (fun H locs hP hD hS => ?_)
  have hw : MW D [] [(b, .inr (11, [.ref q1, .int (0 : Int32), .int 0, .int 0])), (q1, .inl (cB, 16, .inl (fun _ => 0)))] (va_A [(b, .inr (11, [.null, .int 0, .int 0, .int 0]))] s.heap.size) s H locs := ⟨hP, hD, hS, hw.2.2.2⟩
  refine lv_goto (tgt := 38) hx hb dJ5_init_d00df_22 (by decide) ?_
  exact hret H locs ls 38 _ _ q1 hw trivial (show 0 + 1 ≤ 1 by omega) (show 0 + 16 ≤ 16 by omega) dJ5_init_d00df_38

set_option maxHeartbeats 4000000 in
set_option maxRecDepth 100000 in
theorem c_J4_init_da8c8 {l : Launch} {D : va_G} {cB : ClassId} (b : Nat)(sz : Nat)  : JMv l yJ4_init_da8c8 (.code yJ4_init_da8c8 cJ4_init_da8c8 1 (Option.none : Option Jvm.ClassFile.FieldType)) 2 1 16 [.ref b] D cB [(b, .inr (11, [.null, .int 0, .int 0, .int 0]))] [] sz (fun (u : Nat) => True) (fun (u : Nat) => [bC b u 0, bV cB u 16 (fun _ => 0)]) := by
  refine J_metv (by decide +kernel) (Nat.le_of_ble_eq_true rfl) ?_
  intro p e s mI below meth c Z ls hx hb hml hown hin ht hK hC hZ hSL hw hret hl
  have hl : lv_has ls 1 [(0, .ref b)] := hl
  suffices hh : ∀ (H : Heap) (locs : List Loc), MW D [] [(b, .inr (11, [.null, .int 0, .int 0, .int 0]))] (va_A [(b, .inr (11, [.null, .int 0, .int 0, .int 0]))] s.heap.size) s H locs → W p l e (RA 2 1 16) s mI #[.ref b] below meth c H locs 0 0 Z (F0 mI 0 ls []) from hh _ _ hw
  intro H locs hw
  refine lv_aload_n hx hb dJ4_init_da8c8_0 rfl (lv_at hl 0 rfl) ?_
  refine lv_bipush (v := (16 : Int32)) hx hb dJ4_init_da8c8_1 (by decide) ?_
  refine J_callv (N0 := []) (ws := [(b, .inr (11, [.null, .int 0, .int 0, .int 0]))]) hw (va_runI (own := "java/lang/StringBuilder") (As := [.int (16 : Int32)]) (rest := []) ⟨hx, hb, hml, hown, ht⟩ (c_J5_init_d00df b H.size) (cwI 1 ht (G_ws q_899) rfl rfl rfl (ht _ q_66) (ht _ q_897) (ht _ q_898) rfl jd_25 ⟨Nat.le_of_ble_eq_true rfl, Nat.le_of_ble_eq_true rfl⟩) ⟨JB.blind, JB.pre (N0 := []) (ws := [(b, .inr (11, [.null, .int 0, .int 0, .int 0]))]) hK hC hZ hw SL0⟩ rfl rfl hl.1 rfl (lv_room (Nat.le_of_ble_eq_true rfl)) dJ4_init_da8c8_3 ⟨show 0 + 1 ≤ 1 by omega, show 0 + 16 ≤ 16 by omega⟩) (fun u1 H locs hp2 hw => ?_)
  have hw : MW D [] [(b, .inr (11, [.ref u1, .int 0, .int 0, .int (nI 0)])), (u1, .inl (cB, 16, .inl (fun _ => 0)))] (va_A [(b, .inr (11, [.null, .int 0, .int 0, .int 0]))] s.heap.size) s H locs := hw
  exact hret H locs ls 6 _ _ u1 hw trivial (show 0 + 1 ≤ 1 by omega) (show 0 + 16 ≤ 16 by omega) dJ4_init_da8c8_6
