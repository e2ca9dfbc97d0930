set_option maxHeartbeats 4000000 in
theorem c_J1_canEncode_fc78d {l : Launch} (ch : Int32) (hc : ¬ 255 < ch) : PMi l yJ1_canEncode_fc78d (.code yJ1_canEncode_fc78d cJ1_canEncode_fc78d 1 (Option.some Jvm.ClassFile.FieldType.boolean)) 0 [.int ch] (fun r => r = 1) := by
  refine P_meti (by decide +kernel) (Nat.le_of_ble_eq_true rfl) ?_
  intro p e s mI below meth c Z ls hx hb hml hown ht hret hl
  have hl : lv_has ls 1 [(0, .int ch)] := hl
  refine lv_iload_n hx hb dJ1_canEncode_fc78d_0 rfl (lv_at hl 0 rfl) ?_
  refine lv_sipush (v := (255 : Int32)) hx hb dJ1_canEncode_fc78d_1 (by decide) ?_
  refine lv_icmp_gt (tgt := 11) hx hb dJ1_canEncode_fc78d_4 (by decide) (fun c9 => absurd c9 hc) (fun c9 => ?_)
  refine lv_iconst (v := (1 : Int32)) hx hb dJ1_canEncode_fc78d_7 (by decide) ?_
  refine lv_goto (tgt := 12) hx hb dJ1_canEncode_fc78d_8 (by decide) ?_
  exact hret ls 12 1 rfl rfl dJ1_canEncode_fc78d_12

set_option maxHeartbeats 4000000 in
theorem c_J8_newLength_cabcc {l : Launch} (a0 a1 a2 r0 : Int32) (hr : a0 + (if a1 < a2 then a2 else a1) = r0) (h1 : ¬ r0 ≤ 0) (h2 : ¬ 2147483639 < r0) : PMi l yJ8_newLength_cabcc (.code yJ8_newLength_cabcc cJ8_newLength_cabcc 4 (Option.some Jvm.ClassFile.FieldType.int)) 1 [.int a0, .int a1, .int a2] (fun r => r = r0) := by
  refine P_meti (by decide +kernel) (Nat.le_of_ble_eq_true rfl) ?_
  intro p e s mI below meth c Z ls hx hb hml hown ht hret hl
  have hl : lv_has ls 4 [(0, .int a0), (1, .int a1), (2, .int a2)] := hl
  refine lv_iload_n hx hb dJ8_newLength_cabcc_0 rfl (lv_at hl 0 rfl) ?_
  refine lv_iload_n hx hb dJ8_newLength_cabcc_1 rfl (lv_at hl 1 rfl) ?_
  refine lv_iload_n hx hb dJ8_newLength_cabcc_2 rfl (lv_at hl 2 rfl) ?_
  refine va_mmax hx hb (hml.trans hl.1.symm) hown (ht _ q_941) (ht _ q_942) (ht _ q_64) (ht _ q_943) (Nat.le_of_ble_eq_true rfl) (Nat.le_of_ble_eq_true rfl) (show 0 ≤ 0 by omega) (show 0 ≤ 0 by omega) dJ8_newLength_cabcc_3 ?_
  refine lv_iadd hx hb dJ8_newLength_cabcc_6 ?_
  refine lv_topi (fun x1 ex1 => ?_)
  rw [show x1 = r0 from ex1.trans hr]
  refine lv_istore_n (lv' := [(3, .int r0), (0, .int a0), (1, .int a1), (2, .int a2)]) hx hb dJ8_newLength_cabcc_7 rfl hl (by decide) rfl (fun ls hl => ?_)
  refine lv_iconst (v := (0 : Int32)) hx hb dJ8_newLength_cabcc_8 (by decide) ?_
  refine lv_iload_n hx hb dJ8_newLength_cabcc_9 rfl (lv_at hl 0 rfl) ?_
  refine lv_icmp_ge (tgt := 21) hx hb dJ8_newLength_cabcc_10 (by decide) (fun c9 => absurd c9 h1) (fun c9 => ?_)
  refine lv_iload_n hx hb dJ8_newLength_cabcc_13 rfl (lv_at hl 0 rfl) ?_
  refine lv_ldc (v := (2147483639 : Int32)) hx hb hown (ht _ q_944) dJ8_newLength_cabcc_14 ?_
  refine lv_icmp_gt (tgt := 21) hx hb dJ8_newLength_cabcc_16 (by decide) (fun c9 => absurd c9 h2) (fun c9 => ?_)
  refine lv_iload_n hx hb dJ8_newLength_cabcc_19 rfl (lv_at hl 0 rfl) ?_
  exact hret ls 20 r0 rfl rfl dJ8_newLength_cabcc_20

set_option maxHeartbeats 4000000 in
set_option maxRecDepth 100000 in
theorem c_J5_isLatin1_aae02 {l : Launch} {D : va_G} {cB : ClassId} (b v m n : Nat) (f : Nat → Int32)(sz : Nat)  : JMi l yJ5_isLatin1_aae02 (.code yJ5_isLatin1_aae02 cJ5_isLatin1_aae02 1 (Option.some Jvm.ClassFile.FieldType.boolean)) 0 0 0 [.ref b] D cB [(b, .inr (11, [.ref v, .int 0, .int 0, .int (nI n)])), (v, .inl (cB, m, .inl f))] [] sz (fun (r : Int32) (u : Unit) => r = 1) (fun (u : Unit) => [bC b v n, bV cB v m f]) := by
  refine J_meti (by decide +kernel) (Nat.le_of_ble_eq_true rfl) ?_
  intro p e s mI below meth c Z ls hx hb hml hown hin ht hK hC hZ hSL hw hret hl
  have hl : lv_has ls 1 [(0, .ref b)] := hl
  suffices hh : ∀ (H : Heap) (locs : List Loc), MW D [] [(b, .inr (11, [.ref v, .int 0, .int 0, .int (nI n)])), (v, .inl (cB, m, .inl f))] (va_A [(b, .inr (11, [.ref v, .int 0, .int 0, .int (nI n)])), (v, .inl (cB, m, .inl f))] s.heap.size) s H locs → W p l e (RA 0 0 0) s mI #[.ref b] below meth c H locs 0 0 Z (F0 mI 0 ls []) from hh _ _ hw
  intro H locs hw
  refine va_gets hx hb hZ.1 hw.2.2.1 hown (ht _ q_901) (fun _ h => h) dJ5_isLatin1_aae02_0 ?_
  refine lv_if_eq (tgt := 17) hx hb dJ5_isLatin1_aae02_3 (by decide) (fun c9 => absurd c9 (by decide)) (fun c9 => ?_)
  refine lv_aload_n hx hb dJ5_isLatin1_aae02_6 rfl (lv_at hl 0 rfl) ?_
  refine va_get hx hb ht in_11 hown hK hw.1 0 rfl cl_11 1 (by decide) (ht _ q_911) (fun _ h => h) rfl dJ5_isLatin1_aae02_7 ?_
  refine lv_if_ne (tgt := 17) hx hb dJ5_isLatin1_aae02_10 (by decide) (fun c9 => absurd c9 (by decide)) (fun c9 => ?_)
  refine lv_iconst (v := (1 : Int32)) hx hb dJ5_isLatin1_aae02_13 (by decide) ?_
  refine lv_goto (tgt := 18) hx hb dJ5_isLatin1_aae02_14 (by decide) ?_
  exact hret H locs ls 18 _ _ (1 : Int32) () hw rfl rfl (show 0 ≤ 0 by omega) (show 0 ≤ 0 by omega) dJ5_isLatin1_aae02_18

theorem nl1 {m q : Nat} (hq : m < q) (h1 : m ≤ 20000) (h2 : q ≤ 20000) : nI m + (if nI (q - m) < nI (m + 2) then nI (m + 2) else nI (q - m)) = nI (cap q m) := by
  unfold cap
  rw [if_neg (show ¬ q ≤ m by omega)]
  by_cases h : q < 2 * m + 2
  · rw [if_pos h, if_pos (nI_lt (by omega) (by omega)), nI_add, show m + (m + 2) = 2 * m + 2 by omega]
  · rw [if_neg h, if_neg (nI_nlt (by omega) (by omega)), nI_add, show m + (q - m) = q by omega]
theorem cap_b {m q : Nat} (h1 : m ≤ 20000) (h2 : q ≤ 20000) : cap q m < 100000 := by
  have := cap_hi q m
  omega
theorem nl2 {m q : Nat} (hq : m < q) (h1 : m ≤ 20000) (h2 : q ≤ 20000) : ¬ nI (cap q m) ≤ 0 := nI_nle (by have := cap_ge q m; omega) (by have := cap_b h1 h2; omega)
theorem nl3 {m q : Nat} (h1 : m ≤ 20000) (h2 : q ≤ 20000) : ¬ 2147483639 < nI (cap q m) := by
  have := cap_b h1 h2
  exact nI_nlt (a := 2147483639) (by omega) (by omega)
theorem nl4 {m q : Nat} (h1 : m ≤ 20000) (h2 : q ≤ 20000) : ¬ nI (cap q m) = 2147483647 := fun e => by
  have := cap_b h1 h2
  have := (nI_eq (a := cap q m) (b := 2147483647) (by omega) (by omega)).mp e
  omega

set_option maxHeartbeats 4000000 in
set_option maxRecDepth 100000 in
theorem c_J5_newCapacity_0f7a4 {l : Launch} {D : va_G} {cB : ClassId} (b v m n q : Nat) (f : Nat → Int32)(sz : Nat) (hq : m < q) (hm : m ≤ 20000) (hq2 : q ≤ 20000) : JMi l yJ5_newCapacity_0f7a4 (.code yJ5_newCapacity_0f7a4 cJ5_newCapacity_0f7a4 6 (Option.some Jvm.ClassFile.FieldType.int)) 2 0 0 [.ref b, .int (nI q)] D cB [(b, .inr (11, [.ref v, .int 0, .int 0, .int (nI n)])), (v, .inl (cB, m, .inl f))] [] sz (fun (r : Int32) (u : Unit) => r = nI (cap q m)) (fun (u : Unit) => [bC b v n, bV cB v m f]) := by
  refine J_meti (by decide +kernel) (Nat.le_of_ble_eq_true rfl) ?_
  intro p e s mI below meth c Z ls hx hb hml hown hin ht hK hC hZ hSL hw hret hl
  have hl : lv_has ls 6 [(0, .ref b), (1, .int (nI q))] := hl
  suffices hh : ∀ (H : Heap) (locs : List Loc), MW D [] [(b, .inr (11, [.ref v, .int 0, .int 0, .int (nI n)])), (v, .inl (cB, m, .inl f))] (va_A [(b, .inr (11, [.ref v, .int 0, .int 0, .int (nI n)])), (v, .inl (cB, m, .inl f))] s.heap.size) s H locs → W p l e (RA 2 0 0) s mI #[.ref b, .int (nI q)] below meth c H locs 0 0 Z (F0 mI 0 ls []) from hh _ _ hw
  intro H locs hw
  refine lv_aload_n hx hb dJ5_newCapacity_0f7a4_0 rfl (lv_at hl 0 rfl) ?_
  refine va_get hx hb ht in_11 hown hK hw.1 0 rfl cl_11 0 (by decide) (ht _ q_910) (fun _ h => h) rfl dJ5_newCapacity_0f7a4_1 ?_
  refine va_alen hx hb hK hw.1 1 0 (x := (m, .inl f)) rfl rfl rfl dJ5_newCapacity_0f7a4_4 ?_
  refine lv_istore_n (lv' := [(2, .int (nI m)), (0, .ref b), (1, .int (nI q))]) hx hb dJ5_newCapacity_0f7a4_5 rfl hl (by decide) rfl (fun ls hl => ?_)
  refine lv_iload_n hx hb dJ5_newCapacity_0f7a4_6 rfl (lv_at hl 2 rfl) ?_
  refine lv_aload_n hx hb dJ5_newCapacity_0f7a4_7 rfl (lv_at hl 1 rfl) ?_
  refine va_get hx hb ht in_11 hown hK hw.1 0 rfl cl_11 1 (by decide) (ht _ q_911) (fun _ h => h) rfl dJ5_newCapacity_0f7a4_8 ?_
  refine lv_ishl hx hb dJ5_newCapacity_0f7a4_11 ?_
  refine lv_topi (fun x1 ex1 => ?_)
  rw [show x1 = (nI q) from ex1.trans (sb_shl0 _)]
  refine lv_istore_n (lv' := [(3, .int (nI q)), (2, .int (nI m)), (0, .ref b), (1, .int (nI q))]) hx hb dJ5_newCapacity_0f7a4_12 rfl hl (by decide) rfl (fun ls hl => ?_)
  refine lv_iload_n hx hb dJ5_newCapacity_0f7a4_13 rfl (lv_at hl 0 rfl) ?_
  refine lv_iload_n hx hb dJ5_newCapacity_0f7a4_14 rfl (lv_at hl 1 rfl) ?_
  refine lv_isub hx hb dJ5_newCapacity_0f7a4_15 ?_
  refine lv_topi (fun x2 ex2 => ?_)
  rw [show x2 = (nI (q - m)) from ex2.trans (pk_sub (by omega))]
  refine lv_istore (lv' := [(4, .int (nI (q - m))), (3, .int (nI q)), (2, .int (nI m)), (0, .ref b), (1, .int (nI q))]) hx hb dJ5_newCapacity_0f7a4_16 hl (by decide) rfl (fun ls hl => ?_)
  refine lv_iload_n hx hb dJ5_newCapacity_0f7a4_18 rfl (lv_at hl 2 rfl) ?_
  refine lv_iload hx hb dJ5_newCapacity_0f7a4_19 (lv_at hl 0 rfl) ?_
  refine lv_iload_n hx hb dJ5_newCapacity_0f7a4_21 rfl (lv_at hl 2 rfl) ?_
  refine lv_iconst (v := (2 : Int32)) hx hb dJ5_newCapacity_0f7a4_22 (by decide) ?_
  refine lv_aload_n hx hb dJ5_newCapacity_0f7a4_23 rfl (lv_at hl 3 rfl) ?_
  refine va_get hx hb ht in_11 hown hK hw.1 0 rfl cl_11 1 (by decide) (ht _ q_911) (fun _ h => h) rfl dJ5_newCapacity_0f7a4_24 ?_
  refine lv_ishl hx hb dJ5_newCapacity_0f7a4_27 ?_
  refine lv_topi (fun x3 ex3 => ?_)
  rw [show x3 = (2 : Int32) from ex3.trans (sb_shl0 _)]
  refine lv_iadd hx hb dJ5_newCapacity_0f7a4_28 ?_
  refine lv_topi (fun x4 ex4 => ?_)
  rw [show x4 = (nI (m + 2)) from ex4.trans (nI_add m 2)]
  refine P_calli (va_runS (own := "java/lang/AbstractStringBuilder") (As := [.int (nI m), .int (nI (q - m)), .int (nI (m + 2))]) (rest := []) ⟨hx, hb, hml, hown, ht⟩ (c_J8_newLength_cabcc (nI m) (nI (q - m)) (nI (m + 2)) (nI (cap q m)) (nl1 hq hm hq2) (nl2 hq hm hq2) (nl3 hm hq2)) (va_cwS 3 ht (G_S q_938 q_939 q_70 q_940) rfl rfl rfl jd_0 ⟨Nat.le_of_ble_eq_true rfl, Nat.le_of_ble_eq_true rfl⟩) ⟨PM_blind, PM_pre⟩ rfl rfl hl.1 rfl (lv_room (Nat.le_of_ble_eq_true rfl)) dJ5_newCapacity_0f7a4_29 ⟨show 0 + 0 ≤ 0 by omega, show 0 + 0 ≤ 0 by omega⟩) (fun r5 hr5 => ?_)
  rw [hr5]
  refine lv_istore (lv' := [(5, .int (nI (cap q m))), (4, .int (nI (q - m))), (3, .int (nI q)), (2, .int (nI m)), (0, .ref b), (1, .int (nI q))]) hx hb dJ5_newCapacity_0f7a4_32 hl (by decide) rfl (fun ls hl => ?_)
  refine lv_iload hx hb dJ5_newCapacity_0f7a4_34 (lv_at hl 0 rfl) ?_
  refine lv_ldc (v := (2147483647 : Int32)) hx hb hown (ht _ q_948) dJ5_newCapacity_0f7a4_36 ?_
  refine lv_icmp_ne (tgt := 51) hx hb dJ5_newCapacity_0f7a4_38 (by decide) (fun c9 => ?_) (fun c9 => absurd c9 (nl4 hm hq2))
  refine lv_iload hx hb dJ5_newCapacity_0f7a4_51 (lv_at hl 0 rfl) ?_
  refine lv_aload_n hx hb dJ5_newCapacity_0f7a4_53 rfl (lv_at hl 4 rfl) ?_
  refine va_get hx hb ht in_11 hown hK hw.1 0 rfl cl_11 1 (by decide) (ht _ q_911) (fun _ h => h) rfl dJ5_newCapacity_0f7a4_54 ?_
  refine lv_ishr hx hb dJ5_newCapacity_0f7a4_57 ?_
  refine lv_topi (fun x6 ex6 => ?_)
  rw [show x6 = (nI (cap q m)) from ex6.trans (sb_shr0 _)]
  exact hret H locs ls 58 _ _ (nI (cap q m)) () hw rfl rfl (show 0 ≤ 0 by omega) (show 0 ≤ 0 by omega) dJ5_newCapacity_0f7a4_58

set_option maxHeartbeats 4000000 in
set_option maxRecDepth 100000 in
theorem c_J7_copyOf_9075b {l : Launch} {D : va_G} {cB : ClassId} (v m q : Nat) (f : Nat → Int32)(sz : Nat) (hq : m < q) (hq2 : q ≤ 100000) (hf : FT f) : JMr l yJ7_copyOf_9075b (.code yJ7_copyOf_9075b cJ7_copyOf_9075b 3 (Option.some (Jvm.ClassFile.FieldType.array Jvm.ClassFile.FieldType.byte))) 1 1 q [.ref v, .int (nI q)] D cB [(v, .inl (cB, m, .inl f))] [] sz (fun (u : Nat × (Nat → Int32)) => FT u.2) (fun (u : Nat × (Nat → Int32)) => u.1) (fun (u : Nat × (Nat → Int32)) => [bV cB v m f, bV cB u.1 q u.2]) := by
  refine J_metr (by decide +kernel) (Nat.le_of_ble_eq_true rfl) (Or.inr ⟨_, rfl⟩) ?_
  intro p e s mI below meth c Z ls hx hb hml hown hin ht hK hC hZ hSL hw hret hl
  have hl : lv_has ls 3 [(0, .ref v), (1, .int (nI q))] := hl
  suffices hh : ∀ (H : Heap) (locs : List Loc), MW D [] [(v, .inl (cB, m, .inl f))] (va_A [(v, .inl (cB, m, .inl f))] s.heap.size) s H locs → W p l e (RA 1 1 q) s mI #[.ref v, .int (nI q)] below meth c H locs 0 0 Z (F0 mI 0 ls []) from hh _ _ hw
  intro H locs hw
  refine lv_iload_n hx hb dJ7_copyOf_9075b_0 rfl (lv_at hl 1 rfl) ?_
  refine lv_aload_n hx hb dJ7_copyOf_9075b_1 rfl (lv_at hl 0 rfl) ?_
  refine va_alen hx hb hK hw.1 0 0 (x := (m, .inl f)) rfl rfl rfl dJ7_copyOf_9075b_2 ?_
  refine lv_icmp_ne (tgt := 14) hx hb dJ7_copyOf_9075b_3 (by decide) (fun c9 => ?_) (fun c9 => absurd c9 (fun z => by have := (nI_eq (a := q) (b := m) (by omega) (by omega)).mp z; omega))
  refine lv_iload_n hx hb dJ7_copyOf_9075b_14 rfl (lv_at hl 1 rfl) ?_
  refine n_newB (B := q) hx hb ht q_385 hK hw (n := (nI q)) (⟨nI_pos (by omega), nI_clamp (by omega)⟩) (by omega) (show 0 + 1 ≤ 1 by omega) (show 0 + q ≤ q by omega) dJ7_copyOf_9075b_15 (fun q1 H hq1 hw => ?_)
  have hw : MW D [] [(v, .inl (cB, m, .inl f)), (q1, .inl (cB, q, .inl (fun _ => 0)))] (va_A [(v, .inl (cB, m, .inl f))] s.heap.size) s H locs := hw
  refine lv_astore_n (lv' := [(2, .ref q1), (0, .ref v), (1, .int (nI q))]) hx hb dJ7_copyOf_9075b_17 rfl hl (by decide) rfl (fun ls hl => ?_)
  refine lv_aload_n hx hb dJ7_copyOf_9075b_18 rfl (lv_at hl 1 rfl) ?_
  refine lv_iconst (v := (0 : Int32)) hx hb dJ7_copyOf_9075b_19 (by decide) ?_
  refine lv_aload_n hx hb dJ7_copyOf_9075b_20 rfl (lv_at hl 0 rfl) ?_
  refine lv_iconst (v := (0 : Int32)) hx hb dJ7_copyOf_9075b_21 (by decide) ?_
  refine lv_aload_n hx hb dJ7_copyOf_9075b_22 rfl (lv_at hl 1 rfl) ?_
  refine va_alen hx hb hK hw.1 0 0 (x := (m, .inl f)) rfl rfl rfl dJ7_copyOf_9075b_23 ?_
  refine lv_iload_n hx hb dJ7_copyOf_9075b_24 rfl (lv_at hl 2 rfl) ?_
  refine va_mmin hx hb (hml.trans hl.1.symm) hown (ht _ q_959) (ht _ q_960) (ht _ q_64) (ht _ q_961) (Nat.le_of_ble_eq_true rfl) (Nat.le_of_ble_eq_true rfl) (show 0 + 1 ≤ 1 by omega) (show 0 + q ≤ q by omega) dJ7_copyOf_9075b_25 ?_
  refine lv_topi (fun x2 ex2 => ?_)
  rw [show x2 = (nI m) from ex2.trans (if_neg (nI_nlt (by omega) (by omega)))]
  refine va_copyi hx hb (hml.trans hl.1.symm) hown (ht _ q_962) (ht _ q_964) (ht _ q_963) (ht _ q_72) hK hw.1 hw.2.1 hw.2.2.1 0 1 0 0 rfl rfl rfl rfl rfl (by decide) (by decide) (nI_pos (by omega)) (by rw [nI_clamp (by omega)]; show 0 + m ≤ m; omega) (by rw [nI_clamp (by omega)]; show 0 + m ≤ q; omega) (fun i _ => hf _) (Nat.le_of_ble_eq_true rfl) (Nat.le_of_ble_eq_true rfl) dJ7_copyOf_9075b_28 (fun H locs hP hD hS => ?_)
  have hw : MW D [] [(v, .inl (cB, m, .inl f)), (q1, .inl (cB, q, .inl (va_cpy f (fun _ => 0) ((0 : Int32) : Int32).toNatClampNeg ((0 : Int32) : Int32).toNatClampNeg ((nI m) : Int32).toNatClampNeg)))] (va_A [(v, .inl (cB, m, .inl f))] s.heap.size) s H locs := ⟨hP, hD, hS, hw.2.2.2⟩
  refine lv_aload_n hx hb dJ7_copyOf_9075b_31 rfl (lv_at hl 0 rfl) ?_
  exact hret H locs ls 32 _ _ (q1, (va_cpy f (fun _ => 0) ((0 : Int32) : Int32).toNatClampNeg ((0 : Int32) : Int32).toNatClampNeg ((nI m) : Int32).toNatClampNeg)) q1 hw (FT.cpy hf FT0) rfl (show 0 + 1 ≤ 1 by omega) (show 0 + q ≤ q by omega) dJ7_copyOf_9075b_32

set_option maxHeartbeats 4000000 in
set_option maxRecDepth 100000 in
theorem c0_J5_ensureCapacityInternal_d00df {l : Launch} {D : va_G} {cB : ClassId} (b v m n q : Nat) (f : Nat → Int32)(sz : Nat) (hq : q ≤ m) (hm : m ≤ 20000) (hf : FT f) : JMv l yJ5_ensureCapacityInternal_d00df (.code yJ5_ensureCapacityInternal_d00df cJ5_ensureCapacityInternal_d00df 3 (Option.none : Option Jvm.ClassFile.FieldType)) 3 0 0 [.ref b, .int (nI q)] D cB [(b, .inr (11, [.ref v, .int 0, .int 0, .int (nI n)])), (v, .inl (cB, m, .inl f))] [] sz (fun (u : Nat × (Nat → Int32)) => FT u.2) (fun (u : Nat × (Nat → Int32)) => [bC b u.1 n, bV cB u.1 m u.2]) := by
  refine J_metv (by decide +kernel) (Nat.le_of_ble_eq_true rfl) ?_
  intro p e s mI below meth c Z ls hx hb hml hown hin ht hK hC hZ hSL hw hret hl
  have hl : lv_has ls 3 [(0, .ref b), (1, .int (nI q))] := hl
  suffices hh : ∀ (H : Heap) (locs : List Loc), MW D [] [(b, .inr (11, [.ref v, .int 0, .int 0, .int (nI n)])), (v, .inl (cB, m, .inl f))] (va_A [(b, .inr (11, [.ref v, .int 0, .int 0, .int (nI n)])), (v, .inl (cB, m, .inl f))] s.heap.size) s H locs → W p l e (RA 3 0 0) s mI #[.ref b, .int (nI q)] below meth c H locs 0 0 Z (F0 mI 0 ls []) from hh _ _ hw
  intro H locs hw
  refine lv_aload_n hx hb dJ5_ensureCapacityInternal_d00df_0 rfl (lv_at hl 0 rfl) ?_
  refine va_get hx hb ht in_11 hown hK hw.1 0 rfl cl_11 0 (by decide) (ht _ q_910) (fun _ h => h) rfl dJ5_ensureCapacityInternal_d00df_1 ?_
  refine va_alen hx hb hK hw.1 1 0 (x := (m, .inl f)) rfl rfl rfl dJ5_ensureCapacityInternal_d00df_4 ?_
  refine lv_aload_n hx hb dJ5_ensureCapacityInternal_d00df_5 rfl (lv_at hl 0 rfl) ?_
  refine va_get hx hb ht in_11 hown hK hw.1 0 rfl cl_11 1 (by decide) (ht _ q_911) (fun _ h => h) rfl dJ5_ensureCapacityInternal_d00df_6 ?_
  refine lv_ishr hx hb dJ5_ensureCapacityInternal_d00df_9 ?_
  refine lv_topi (fun x1 ex1 => ?_)
  rw [show x1 = (nI m) from ex1.trans (sb_shr0 _)]
  refine lv_istore_n (lv' := [(2, .int (nI m)), (0, .ref b), (1, .int (nI q))]) hx hb dJ5_ensureCapacityInternal_d00df_10 rfl hl (by decide) rfl (fun ls hl => ?_)
  refine lv_iload_n hx hb dJ5_ensureCapacityInternal_d00df_11 rfl (lv_at hl 2 rfl) ?_
  refine lv_iload_n hx hb dJ5_ensureCapacityInternal_d00df_12 rfl (lv_at hl 0 rfl) ?_
  refine lv_isub hx hb dJ5_ensureCapacityInternal_d00df_13 ?_
  refine lv_if_le (tgt := 38) hx hb dJ5_ensureCapacityInternal_d00df_14 (by decide) (fun c9 => ?_) (fun c9 => absurd (by rw [Int32.le_iff_toInt_le, pk_sub_toInt (by omega) (by omega), Int32.toInt_zero]; omega) c9)
  exact hret H locs ls 38 _ _ (v, f) hw hf (show 0 ≤ 0 by omega) (show 0 ≤ 0 by omega) dJ5_ensureCapacityInternal_d00df_38

set_option maxHeartbeats 4000000 in
set_option maxRecDepth 100000 in
theorem c1_J5_ensureCapacityInternal_d00df {l : Launch} {D : va_G} {cB : ClassId} (b v m n q : Nat) (f : Nat → Int32)(sz : Nat) (hq : ¬ q ≤ m) (hm : m ≤ 20000) (hq2 : q ≤ 20000) (hf : FT f) : JMv l yJ5_ensureCapacityInternal_d00df (.code yJ5_ensureCapacityInternal_d00df cJ5_ensureCapacityInternal_d00df 3 (Option.none : Option Jvm.ClassFile.FieldType)) 3 1 (cap q m) [.ref b, .int (nI q)] D cB [(b, .inr (11, [.ref v, .int 0, .int 0, .int (nI n)])), (v, .inl (cB, m, .inl f))] [] sz (fun (u : Nat × (Nat → Int32)) => FT u.2) (fun (u : Nat × (Nat → Int32)) => [bC b u.1 n, bV cB u.1 (cap q m) u.2]) := by
  refine J_metv (by decide +kernel) (Nat.le_of_ble_eq_true rfl) ?_
  intro p e s mI below meth c Z ls hx hb hml hown hin ht hK hC hZ hSL hw hret hl
  have hl : lv_has ls 3 [(0, .ref b), (1, .int (nI q))] := hl
  suffices hh : ∀ (H : Heap) (locs : List Loc), MW D [] [(b, .inr (11, [.ref v, .int 0, .int 0, .int (nI n)])), (v, .inl (cB, m, .inl f))] (va_A [(b, .inr (11, [.ref v, .int 0, .int 0, .int (nI n)])), (v, .inl (cB, m, .inl f))] s.heap.size) s H locs → W p l e (RA 3 1 (cap q m)) s mI #[.ref b, .int (nI q)] below meth c H locs 0 0 Z (F0 mI 0 ls []) from hh _ _ hw
  intro H locs hw
  refine lv_aload_n hx hb dJ5_ensureCapacityInternal_d00df_0 rfl (lv_at hl 0 rfl) ?_
  refine va_get hx hb ht in_11 hown hK hw.1 0 rfl cl_11 0 (by decide) (ht _ q_910) (fun _ h => h) rfl dJ5_ensureCapacityInternal_d00df_1 ?_
  refine va_alen hx hb hK hw.1 1 0 (x := (m, .inl f)) rfl rfl rfl dJ5_ensureCapacityInternal_d00df_4 ?_
  refine lv_aload_n hx hb dJ5_ensureCapacityInternal_d00df_5 rfl (lv_at hl 0 rfl) ?_
  refine va_get hx hb ht in_11 hown hK hw.1 0 rfl cl_11 1 (by decide) (ht _ q_911) (fun _ h => h) rfl dJ5_ensureCapacityInternal_d00df_6 ?_
  refine lv_ishr hx hb dJ5_ensureCapacityInternal_d00df_9 ?_
  refine lv_topi (fun x1 ex1 => ?_)
  rw [show x1 = (nI m) from ex1.trans (sb_shr0 _)]
  refine lv_istore_n (lv' := [(2, .int (nI m)), (0, .ref b), (1, .int (nI q))]) hx hb dJ5_ensureCapacityInternal_d00df_10 rfl hl (by decide) rfl (fun ls hl => ?_)
  refine lv_iload_n hx hb dJ5_ensureCapacityInternal_d00df_11 rfl (lv_at hl 2 rfl) ?_
  refine lv_iload_n hx hb dJ5_ensureCapacityInternal_d00df_12 rfl (lv_at hl 0 rfl) ?_
  refine lv_isub hx hb dJ5_ensureCapacityInternal_d00df_13 ?_
  refine lv_if_le (tgt := 38) hx hb dJ5_ensureCapacityInternal_d00df_14 (by decide) (fun c9 => absurd c9 (by rw [Int32.le_iff_toInt_le, pk_sub_toInt (by omega) (by omega), Int32.toInt_zero]; omega)) (fun c9 => ?_)
  refine lv_aload_n hx hb dJ5_ensureCapacityInternal_d00df_17 rfl (lv_at hl 1 rfl) ?_
  refine lv_aload_n hx hb dJ5_ensureCapacityInternal_d00df_18 rfl (lv_at hl 1 rfl) ?_
  refine va_get hx hb ht in_11 hown hK hw.1 0 rfl cl_11 0 (by decide) (ht _ q_910) (fun _ h => h) rfl dJ5_ensureCapacityInternal_d00df_19 ?_
  refine lv_aload_n hx hb dJ5_ensureCapacityInternal_d00df_22 rfl (lv_at hl 1 rfl) ?_
  refine lv_iload_n hx hb dJ5_ensureCapacityInternal_d00df_23 rfl (lv_at hl 2 rfl) ?_
  refine J_calli (N0 := []) (ws := [(b, .inr (11, [.ref v, .int 0, .int 0, .int (nI n)])), (v, .inl (cB, m, .inl f))]) hw (va_runU (own := "java/lang/AbstractStringBuilder") (As := [.int (nI q)]) (rest := [.ref v, .ref b]) ⟨hx, hb, hml, hown, ht⟩ (c_J5_newCapacity_0f7a4 b v m n q f H.size (by omega) hm hq2) (cwUP (C0 := "java/lang/StringBuilder") 1 ht q_934 q_1613 q_936 q_66 q_937 (va_any rfl (hC.2 _ (List.mem_of_getElem? (i := 1) rfl))) rfl rfl jd_1 ⟨Nat.le_of_ble_eq_true rfl, Nat.le_of_ble_eq_true rfl⟩) ⟨JB.blind, J_recv hK hw (j := 0) rfl cl_11, JB.pre (N0 := []) (ws := [(b, .inr (11, [.ref v, .int 0, .int 0, .int (nI n)])), (v, .inl (cB, m, .inl f))]) hK hC hZ hw SL0⟩ rfl rfl hl.1 rfl (lv_room (Nat.le_of_ble_eq_true rfl)) dJ5_ensureCapacityInternal_d00df_24 ⟨show 0 + 0 ≤ 1 by omega, show 0 + 0 ≤ cap q m by omega⟩) (fun r4 u2 H locs hp3 hw => ?_)
  have hw : MW D [] [(b, .inr (11, [.ref v, .int 0, .int 0, .int (nI n)])), (v, .inl (cB, m, .inl f))] (va_A [(b, .inr (11, [.ref v, .int 0, .int 0, .int (nI n)])), (v, .inl (cB, m, .inl f))] s.heap.size) s H locs := hw
  rw [hp3]
  refine lv_aload_n hx hb dJ5_ensureCapacityInternal_d00df_27 rfl (lv_at hl 1 rfl) ?_
  refine va_get hx hb ht in_11 hown hK hw.1 0 rfl cl_11 1 (by decide) (ht _ q_911) (fun _ h => h) rfl dJ5_ensureCapacityInternal_d00df_28 ?_
  refine lv_ishl hx hb dJ5_ensureCapacityInternal_d00df_31 ?_
  refine lv_topi (fun x5 ex5 => ?_)
  rw [show x5 = (nI (cap q m)) from ex5.trans (sb_shl0 _)]
  refine J_callr (N0 := [(b, .inr (11, [.ref v, .int 0, .int 0, .int (nI n)]))]) (ws := [(v, .inl (cB, m, .inl f))]) hw (va_runS (own := "java/lang/AbstractStringBuilder") (As := [.ref v, .int (nI (cap q m))]) (rest := [.ref b]) ⟨hx, hb, hml, hown, ht⟩ (c_J7_copyOf_9075b v m (cap q m) f H.size (by have := cap_ge q m; omega) (by have := cap_b hm hq2; omega) hf) (va_cwS 2 ht (G_S q_949 q_950 q_71 q_951) rfl rfl rfl jd_2 ⟨Nat.le_of_ble_eq_true rfl, Nat.le_of_ble_eq_true rfl⟩) ⟨JB.blind, JB.pre (N0 := [(b, .inr (11, [.ref v, .int 0, .int 0, .int (nI n)]))]) (ws := [(v, .inl (cB, m, .inl f))]) hK hC hZ hw SL0⟩ rfl rfl hl.1 rfl (lv_room (Nat.le_of_ble_eq_true rfl)) dJ5_ensureCapacityInternal_d00df_32 ⟨show 0 + 0 + 1 ≤ 1 by omega, show 0 + 0 + (cap q m) ≤ cap q m by omega⟩) (fun u6 H locs hp7 hw => ?_)
  obtain ⟨v1, f1⟩ := u6
  have hw : MW D [] [(b, .inr (11, [.ref v, .int 0, .int 0, .int (nI n)])), (v, .inl (cB, m, .inl f)), (v1, .inl (cB, (cap q m), .inl f1))] (va_A [(b, .inr (11, [.ref v, .int 0, .int 0, .int (nI n)])), (v, .inl (cB, m, .inl f))] s.heap.size) s H locs := hw
  refine va_put (ty := (.array .byte)) hx hb ht in_11 tyJ4 tyJ4_ok nmJ4 hown hK hw.1 hw.2.1 hw.2.2.1 0 rfl cl_11 0 (by decide) (ht _ q_910) (fun _ h => h) rfl (by decide +kernel) rfl rfl (Nat.le_of_ble_eq_true rfl) dJ5_ensureCapacityInternal_d00df_35 (fun H locs hP hD hS => ?_)
  have hw : MW D [] [(b, .inr (11, [.ref v1, .int 0, .int 0, .int (nI n)])), (v, .inl (cB, m, .inl f)), (v1, .inl (cB, (cap q m), .inl f1))] (va_A [(b, .inr (11, [.ref v, .int 0, .int 0, .int (nI n)])), (v, .inl (cB, m, .inl f))] s.heap.size) s H locs := ⟨hP, hD, hS, hw.2.2.2⟩
  have hw := hw.sub (N' := [(b, .inr (11, [.ref v1, .int 0, .int 0, .int (nI n)])), (v1, .inl (cB, (cap q m), .inl f1))]) [0, 2] (by decide) rfl
  have hw : MW D [] [(b, .inr (11, [.ref v1, .int 0, .int 0, .int (nI n)])), (v1, .inl (cB, (cap q m), .inl f1))] (va_A [(b, .inr (11, [.ref v, .int 0, .int 0, .int (nI n)])), (v, .inl (cB, m, .inl f))] s.heap.size) s H locs := hw
  exact hret H locs ls 38 _ _ (v1, f1) hw hp7 (show 0 + 0 + 1 ≤ 1 by omega) (show 0 + 0 + (cap q m) ≤ cap q m by omega) dJ5_ensureCapacityInternal_d00df_38

theorem c_J5_ensureCapacityInternal_d00df {l : Launch} {D : va_G} {cB : ClassId} (b v m n q : Nat) (f : Nat → Int32) (sz : Nat) (hm : m ≤ 20000) (hq2 : q ≤ 20000) (hf : FT f) : JMv l yJ5_ensureCapacityInternal_d00df (.code yJ5_ensureCapacityInternal_d00df cJ5_ensureCapacityInternal_d00df 3 (Option.none : Option Jvm.ClassFile.FieldType)) 3 (gr q m) (gs q m) [.ref b, .int (nI q)] D cB [bC b v n, bV cB v m f] [] sz (fun (u : Nat × (Nat → Int32)) => FT u.2) (fun u => [bC b u.1 n, bV cB u.1 (cap q m) u.2]) := by
  by_cases h : q ≤ m
  · rw [(gr0 h).1, (gr0 h).2, cap_le h]
    exact c0_J5_ensureCapacityInternal_d00df b v m n q f sz h hm hf
  · rw [(grs h).1, (grs h).2]
    exact c1_J5_ensureCapacityInternal_d00df b v m n q f sz h hm hq2 hf

set_option maxHeartbeats 4000000 in
set_option maxRecDepth 100000 in
theorem c_J5_append_3fe6f {l : Launch} {D : va_G} {cB : ClassId} (b v m n : Nat) (f : Nat → Int32) (ch : Int32)(sz : Nat) (hnm : n ≤ m) (hm : m ≤ 20000) (hn : n < 20000) (hf : FT f) (hc : ¬ 255 < ch) : JMr l yJ5_append_3fe6f (.code yJ5_append_3fe6f cJ5_append_3fe6f 2 (Option.some (Jvm.ClassFile.FieldType.object "java/lang/AbstractStringBuilder"))) 4 (gr (n + 1) m) (gs (n + 1) m) [.ref b, .int ch] D cB [(b, .inr (11, [.ref v, .int 0, .int 0, .int (nI n)])), (v, .inl (cB, m, .inl f))] [] sz (fun (u : Nat × (Nat → Int32)) => FT u.2) (fun (u : Nat × (Nat → Int32)) => b) (fun (u : Nat × (Nat → Int32)) => [bC b u.1 (n + 1), bV cB u.1 (cap (n + 1) m) u.2]) := by
  refine J_metr (by decide +kernel) (Nat.le_of_ble_eq_true rfl) (Or.inl ⟨_, rfl⟩) ?_
  intro p e s mI below meth c Z ls hx hb hml hown hin ht hK hC hZ hSL hw hret hl
  have hl : lv_has ls 2 [(0, .ref b), (1, .int ch)] := hl
  suffices hh : ∀ (H : Heap) (locs : List Loc), MW D [] [(b, .inr (11, [.ref v, .int 0, .int 0, .int (nI n)])), (v, .inl (cB, m, .inl f))] (va_A [(b, .inr (11, [.ref v, .int 0, .int 0, .int (nI n)])), (v, .inl (cB, m, .inl f))] s.heap.size) s H locs → W p l e (RA 4 (gr (n + 1) m) (gs (n + 1) m)) s mI #[.ref b, .int ch] below meth c H locs 0 0 Z (F0 mI 0 ls []) from hh _ _ hw
  intro H locs hw
  refine lv_aload_n hx hb dJ5_append_3fe6f_0 rfl (lv_at hl 0 rfl) ?_
  refine lv_aload_n hx hb dJ5_append_3fe6f_1 rfl (lv_at hl 0 rfl) ?_
  refine va_get hx hb ht in_11 hown hK hw.1 0 rfl cl_11 3 (by decide) (ht _ q_913) (fun _ h => h) rfl dJ5_append_3fe6f_2 ?_
  refine lv_iconst (v := (1 : Int32)) hx hb dJ5_append_3fe6f_5 (by decide) ?_
  refine lv_iadd hx hb dJ5_append_3fe6f_6 ?_
  refine lv_topi (fun x1 ex1 => ?_)
  rw [show x1 = (nI (n + 1)) from ex1.trans (nI_add n 1)]
  refine J_callv (N0 := []) (ws := [(b, .inr (11, [.ref v, .int 0, .int 0, .int (nI n)])), (v, .inl (cB, m, .inl f))]) hw (va_runU (own := "java/lang/AbstractStringBuilder") (As := [.int (nI (n + 1))]) (rest := []) ⟨hx, hb, hml, hown, ht⟩ (c_J5_ensureCapacityInternal_d00df b v m n (n + 1) f H.size hm (by omega) hf) (cwUP (C0 := "java/lang/StringBuilder") 1 ht q_930 q_1612 q_932 q_66 q_933 (va_any rfl (hC.2 _ (List.mem_of_getElem? (i := 0) rfl))) rfl rfl jd_3 ⟨Nat.le_of_ble_eq_true rfl, Nat.le_of_ble_eq_true rfl⟩) ⟨JB.blind, J_recv hK hw (j := 0) rfl cl_11, JB.pre (N0 := []) (ws := [(b, .inr (11, [.ref v, .int 0, .int 0, .int (nI n)])), (v, .inl (cB, m, .inl f))]) hK hC hZ hw SL0⟩ rfl rfl hl.1 rfl (lv_room (Nat.le_of_ble_eq_true rfl)) dJ5_append_3fe6f_7 ⟨show 0 + (gr (n + 1) m) ≤ gr (n + 1) m by omega, show 0 + (gs (n + 1) m) ≤ gs (n + 1) m by omega⟩) (fun u2 H locs hp3 hw => ?_)
  obtain ⟨v1, f1⟩ := u2
  have hw : MW D [] [(b, .inr (11, [.ref v1, .int 0, .int 0, .int (nI n)])), (v1, .inl (cB, (cap (n + 1) m), .inl f1))] (va_A [(b, .inr (11, [.ref v, .int 0, .int 0, .int (nI n)])), (v, .inl (cB, m, .inl f))] s.heap.size) s H locs := hw
  refine lv_aload_n hx hb dJ5_append_3fe6f_10 rfl (lv_at hl 0 rfl) ?_
  refine J_calli (N0 := []) (ws := [(b, .inr (11, [.ref v1, .int 0, .int 0, .int (nI n)])), (v1, .inl (cB, (cap (n + 1) m), .inl f1))]) hw (va_runU (own := "java/lang/AbstractStringBuilder") (As := []) (rest := []) ⟨hx, hb, hml, hown, ht⟩ (c_J5_isLatin1_aae02 b v1 (cap (n + 1) m) n f1 H.size) (va_cwU (C := "java/lang/StringBuilder") (owner := "java/lang/AbstractStringBuilder") 0 ht (G_U q_965 q_967 q_968 q_966 q_66 q_969) rfl rfl rfl rfl jd_4 ⟨Nat.le_of_ble_eq_true rfl, Nat.le_of_ble_eq_true rfl⟩) ⟨JB.blind, J_recv hK hw (j := 0) rfl cl_11, JB.pre (N0 := []) (ws := [(b, .inr (11, [.ref v1, .int 0, .int 0, .int (nI n)])), (v1, .inl (cB, (cap (n + 1) m), .inl f1))]) hK hC hZ hw SL0⟩ rfl rfl hl.1 rfl (lv_room (Nat.le_of_ble_eq_true rfl)) dJ5_append_3fe6f_11 ⟨show 0 + (gr (n + 1) m) + 0 ≤ gr (n + 1) m by omega, show 0 + (gs (n + 1) m) + 0 ≤ gs (n + 1) m by omega⟩) (fun r7 u5 H locs hp6 hw => ?_)
  have hw : MW D [] [(b, .inr (11, [.ref v1, .int 0, .int 0, .int (nI n)])), (v1, .inl (cB, (cap (n + 1) m), .inl f1))] (va_A [(b, .inr (11, [.ref v, .int 0, .int 0, .int (nI n)])), (v, .inl (cB, m, .inl f))] s.heap.size) s H locs := hw
  rw [hp6]
  refine lv_if_eq (tgt := 45) hx hb dJ5_append_3fe6f_14 (by decide) (fun c9 => absurd c9 (by decide)) (fun c9 => ?_)
  refine lv_iload_n hx hb dJ5_append_3fe6f_17 rfl (lv_at hl 1 rfl) ?_
  refine P_calli (va_runS (own := "java/lang/AbstractStringBuilder") (As := [.int ch]) (rest := []) ⟨hx, hb, hml, hown, ht⟩ (c_J1_canEncode_fc78d ch hc) (va_cwS 1 ht (G_S q_970 q_971 q_73 q_972) rfl rfl rfl jd_5 ⟨Nat.le_of_ble_eq_true rfl, Nat.le_of_ble_eq_true rfl⟩) ⟨PM_blind, PM_pre⟩ rfl rfl hl.1 rfl (lv_room (Nat.le_of_ble_eq_true rfl)) dJ5_append_3fe6f_18 ⟨show 0 + (gr (n + 1) m) + 0 + 0 ≤ gr (n + 1) m by omega, show 0 + (gs (n + 1) m) + 0 + 0 ≤ gs (n + 1) m by omega⟩) (fun r8 hr8 => ?_)
  rw [hr8]
  refine lv_if_eq (tgt := 45) hx hb dJ5_append_3fe6f_21 (by decide) (fun c9 => absurd c9 (by decide)) (fun c9 => ?_)
  refine lv_aload_n hx hb dJ5_append_3fe6f_24 rfl (lv_at hl 0 rfl) ?_
  refine va_get hx hb ht in_11 hown hK hw.1 0 rfl cl_11 0 (by decide) (ht _ q_910) (fun _ h => h) rfl dJ5_append_3fe6f_25 ?_
  refine lv_aload_n hx hb dJ5_append_3fe6f_28 rfl (lv_at hl 0 rfl) ?_
  refine lv_dup hx hb dJ5_append_3fe6f_29 rfl ?_
  refine va_get hx hb ht in_11 hown hK hw.1 0 rfl cl_11 3 (by decide) (ht _ q_913) (fun _ h => h) rfl dJ5_append_3fe6f_30 ?_
  refine lv_dup_x1 hx hb dJ5_append_3fe6f_33 rfl rfl ?_
  refine lv_iconst (v := (1 : Int32)) hx hb dJ5_append_3fe6f_34 (by decide) ?_
  refine lv_iadd hx hb dJ5_append_3fe6f_35 ?_
  refine lv_topi (fun x9 ex9 => ?_)
  rw [show x9 = (nI (n + 1)) from ex9.trans (nI_add n 1)]
  refine va_put (ty := .int) hx hb ht in_11 tyJ4 tyJ4_ok nmJ4 hown hK hw.1 hw.2.1 hw.2.2.1 0 rfl cl_11 3 (by decide) (ht _ q_913) (fun _ h => h) rfl (by decide +kernel) rfl rfl (Nat.le_of_ble_eq_true rfl) dJ5_append_3fe6f_36 (fun H locs hP hD hS => ?_)
  have hw : MW D [] [(b, .inr (11, [.ref v1, .int 0, .int 0, .int (nI (n + 1))])), (v1, .inl (cB, (cap (n + 1) m), .inl f1))] (va_A [(b, .inr (11, [.ref v, .int 0, .int 0, .int (nI n)])), (v, .inl (cB, m, .inl f))] s.heap.size) s H locs := ⟨hP, hD, hS, hw.2.2.2⟩
  refine lv_iload_n hx hb dJ5_append_3fe6f_39 rfl (lv_at hl 1 rfl) ?_
  refine lv_i2b hx hb dJ5_append_3fe6f_40 rfl ?_
  refine va_bast hx hb hK hw.1 hw.2.1 hw.2.2.1 1 0 rfl rfl (vp_in_nI (by have := cap_ge (n + 1) m; omega) (by have := cap_b hm (show n + 1 ≤ 20000 by omega); omega)) dJ5_append_3fe6f_41 (fun H locs hP hD hS => ?_)
  have hw : MW D [] [(b, .inr (11, [.ref v1, .int 0, .int 0, .int (nI (n + 1))])), (v1, .inl (cB, (cap (n + 1) m), .inl (upd f1 ((nI n) : Int32).toNatClampNeg (vp_nar .byte ch.toInt8.toInt32))))] (va_A [(b, .inr (11, [.ref v, .int 0, .int 0, .int (nI n)])), (v, .inl (cB, m, .inl f))] s.heap.size) s H locs := ⟨hP, hD, hS, hw.2.2.2⟩
  refine lv_goto (tgt := 75) hx hb dJ5_append_3fe6f_42 (by decide) ?_
  refine lv_aload_n hx hb dJ5_append_3fe6f_75 rfl (lv_at hl 0 rfl) ?_
  exact hret H locs ls 76 _ _ (v1, (upd f1 ((nI n) : Int32).toNatClampNeg (vp_nar .byte ch.toInt8.toInt32))) b hw (FT.st hp3 (by rw [pk_vb]; exact pk_fb _)) rfl (show 0 + (gr (n + 1) m) + 0 ≤ gr (n + 1) m by omega) (show 0 + (gs (n + 1) m) + 0 ≤ gs (n + 1) m by omega) dJ5_append_3fe6f_76

set_option maxHeartbeats 4000000 in
set_option maxRecDepth 100000 in
theorem c_J4_append_cf468 {l : Launch} {D : va_G} {cB : ClassId} (b v m n : Nat) (f : Nat → Int32) (ch : Int32)(sz : Nat) (hnm : n ≤ m) (hm : m ≤ 20000) (hn : n < 20000) (hf : FT f) (hc : ¬ 255 < ch) : JMr l yJ4_append_cf468 (.code yJ4_append_cf468 cJ4_append_cf468 2 (Option.some (Jvm.ClassFile.FieldType.object "java/lang/StringBuilder"))) 5 (gr (n + 1) m) (gs (n + 1) m) [.ref b, .int ch] D cB [(b, .inr (11, [.ref v, .int 0, .int 0, .int (nI n)])), (v, .inl (cB, m, .inl f))] [] sz (fun (u : Nat × (Nat → Int32)) => FT u.2) (fun (u : Nat × (Nat → Int32)) => b) (fun (u : Nat × (Nat → Int32)) => [bC b u.1 (n + 1), bV cB u.1 (cap (n + 1) m) u.2]) := by
  refine J_metr (by decide +kernel) (Nat.le_of_ble_eq_true rfl) (Or.inl ⟨_, rfl⟩) ?_
  intro p e s mI below meth c Z ls hx hb hml hown hin ht hK hC hZ hSL hw hret hl
  have hl : lv_has ls 2 [(0, .ref b), (1, .int ch)] := hl
  suffices hh : ∀ (H : Heap) (locs : List Loc), MW D [] [(b, .inr (11, [.ref v, .int 0, .int 0, .int (nI n)])), (v, .inl (cB, m, .inl f))] (va_A [(b, .inr (11, [.ref v, .int 0, .int 0, .int (nI n)])), (v, .inl (cB, m, .inl f))] s.heap.size) s H locs → W p l e (RA 5 (gr (n + 1) m) (gs (n + 1) m)) s mI #[.ref b, .int ch] below meth c H locs 0 0 Z (F0 mI 0 ls []) from hh _ _ hw
  intro H locs hw
  refine lv_aload_n hx hb dJ4_append_cf468_0 rfl (lv_at hl 0 rfl) ?_
  refine lv_iload_n hx hb dJ4_append_cf468_1 rfl (lv_at hl 1 rfl) ?_
  obtain ⟨cS, hat⟩ := classAt_of (ht _ q_893)
  refine J_callr (N0 := []) (ws := [(b, .inr (11, [.ref v, .int 0, .int 0, .int (nI n)])), (v, .inl (cB, m, .inl f))]) hw (va_runSU hat (own := "java/lang/StringBuilder") (As := [.int ch]) (rest := []) ⟨hx, hb, hml, hown, ht⟩ (c_J5_append_3fe6f b v m n f ch H.size hnm hm hn hf hc) (va_cwSU 1 ht (G_SU q_927 q_1611 q_922 q_928 q_66 q_929) rfl rfl rfl ⟨by decide, by decide +kernel⟩ ⟨Nat.le_of_ble_eq_true rfl, Nat.le_of_ble_eq_true rfl⟩) ⟨JB.blind, J_recv hK hw (j := 0) rfl cl_11, JB.pre (N0 := []) (ws := [(b, .inr (11, [.ref v, .int 0, .int 0, .int (nI n)])), (v, .inl (cB, m, .inl f))]) hK hC hZ hw SL0⟩ rfl rfl hl.1 rfl (lv_room (Nat.le_of_ble_eq_true rfl)) dJ4_append_cf468_2 ⟨show 0 + (gr (n + 1) m) ≤ gr (n + 1) m by omega, show 0 + (gs (n + 1) m) ≤ gs (n + 1) m by omega⟩) (fun u1 H locs hp2 hw => ?_)
  obtain ⟨v1, f1⟩ := u1
  have hw : MW D [] [(b, .inr (11, [.ref v1, .int 0, .int 0, .int (nI (n + 1))])), (v1, .inl (cB, (cap (n + 1) m), .inl f1))] (va_A [(b, .inr (11, [.ref v, .int 0, .int 0, .int (nI n)])), (v, .inl (cB, m, .inl f))] s.heap.size) s H locs := hw
  refine lv_pop hx hb dJ4_append_cf468_5 rfl ?_
  refine lv_aload_n hx hb dJ4_append_cf468_6 rfl (lv_at hl 0 rfl) ?_
  exact hret H locs ls 7 _ _ (v1, f1) b hw hp2 rfl (show 0 + (gr (n + 1) m) ≤ gr (n + 1) m by omega) (show 0 + (gs (n + 1) m) ≤ gs (n + 1) m by omega) dJ4_append_cf468_7
