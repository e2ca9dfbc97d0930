def wp_X1_partOf (μ : TMem) (a1 : Int32) (Q : Int32 → Prop) : Prop :=
  wp_X6_at 23 μ a1 (fun (r1 : Int32) => Q r1)
set_option maxHeartbeats 4000000 in
set_option maxRecDepth 100000 in
theorem c_X1_partOf {l : Launch} {D : va_G} {ad : Nat → Nat} {cI cM : ClassId}  (μ : TMem) (sz : Nat) (a1 : Int32) {Q : Int32 → Prop} (h : wp_X1_partOf μ a1 Q) : TMi l yX1_partOf (.code yX1_partOf cX1_partOf 2 (Option.some Jvm.ClassFile.FieldType.int)) 1 [.ref (ad 22), .int a1] D ad cI cM sz μ (fun r μ1 => μ1 = μ ∧ Q r) := by
  refine T_meti (by decide +kernel) (Nat.le_of_ble_eq_true rfl) ?_
  intro p e s m below meth c Z ls hx hb hml hown ht hN hK hw hret hl
  have hl : lv_has ls 2 [(0, .ref (ad 22)), (1, .int a1)] := hl
  generalize s.heap = H at hw ⊢
  generalize ([] : List Loc) = locs at hw ⊢
  change wp_X6_at 23 μ a1 (fun (r1 : Int32) => Q r1) at h
  refine lv_aload_n hx hb dX1_partOf_0 rfl (lv_at hl 0 rfl) ?_
  refine gf_X1_14 hx hb ht hown hK hw rfl dX1_partOf_1 ?_
  refine W.eq (g2 := F0 m 4 ls [.ref (ad 23)]) rfl ?_
  refine lv_iload_n hx hb dX1_partOf_4 rfl (lv_at hl 1 rfl) ?_
  refine T_calli hw (va_runV (own := "Leastreader$Likeness") (As := [.int a1]) (rest := []) ⟨hx, hb, hml, hown, ht⟩ (c_X6_at 23 rfl μ H.size a1 h) (cwV 1 ht (G_V q_471 q_399 q_400 q_51 q_401) rfl rfl rfl ⟨rfl, hd_8⟩ ⟨Nat.le_of_ble_eq_true rfl, Nat.le_of_ble_eq_true rfl⟩) ⟨TB.blind, (T_recv hK hw (kd_of rfl (by decide)) (ent_6 rfl) cl_6), TB.pre hK hN hw⟩ rfl rfl hl.1 rfl (lv_room (Nat.le_of_ble_eq_true rfl)) dX1_partOf_5 ⟨Nat.le_of_ble_eq_true rfl, Nat.le_of_ble_eq_true rfl⟩) (fun r1 μ2 H locs h hw => ?_)
  obtain ⟨e3, h⟩ := h
  rw [e3] at hw
  exact hret H locs ls 8 _ _ hw ⟨rfl, h⟩ rfl dX1_partOf_8
def wp_X3_groupNumber (k2 : Nat) (μ : TMem) (a1 : Int32) (Q : Int32 → TMem → Prop) : Prop :=
  wp_X1_partOf μ a1 (fun (r1 : Int32) => wp_X6_at 20 μ r1 (fun (r4 : Int32) => ∀ J7 : TMem → Prop, (∀ (μ8 : TMem), (wp_X6_at 20 μ8 r1 (fun (r9 : Int32) => Q r9 μ8)) → J7 μ8) → ((¬ r4 = (-1 : Int32) → (wp_X6_at 20 μ r1 (fun (r13 : Int32) => Q r13 μ))) ∧ (r4 = (-1 : Int32) → (wp_X6_put 20 μ r1 (μ k2 1) (fun (μ16 : TMem) => wp_X6_put 18 μ16 (μ16 k2 1) a1 (fun (μ17 : TMem) => J7 (tms μ17 k2 1 ((μ17 k2 1) + (1 : Int32))))))))))
set_option maxHeartbeats 4000000 in
set_option maxRecDepth 100000 in
theorem c_X3_groupNumber {l : Launch} {D : va_G} {ad : Nat → Nat} {cI cM : ClassId} (k2 : Nat) (hk2 : kd k2 = 5) (μ : TMem) (sz : Nat) (a1 : Int32) {Q : Int32 → TMem → Prop} (h : wp_X3_groupNumber k2 μ a1 Q) : TMi l yX3_groupNumber (.code yX3_groupNumber cX3_groupNumber 4 (Option.some Jvm.ClassFile.FieldType.int)) 2 [.ref (ad 15), .int a1, .ref (ad k2)] D ad cI cM sz μ Q := by
  refine T_meti (by decide +kernel) (Nat.le_of_ble_eq_true rfl) ?_
  intro p e s m below meth c Z ls hx hb hml hown ht hN hK hw hret hl
  have hl : lv_has ls 4 [(0, .ref (ad 15)), (1, .int a1), (2, .ref (ad k2))] := hl
  generalize s.heap = H at hw ⊢
  generalize ([] : List Loc) = locs at hw ⊢
  change wp_X1_partOf μ a1 (fun (r1 : Int32) => wp_X6_at 20 μ r1 (fun (r4 : Int32) => ∀ J7 : TMem → Prop, (∀ (μ8 : TMem), (wp_X6_at 20 μ8 r1 (fun (r9 : Int32) => Q r9 μ8)) → J7 μ8) → ((¬ r4 = (-1 : Int32) → (wp_X6_at 20 μ r1 (fun (r13 : Int32) => Q r13 μ))) ∧ (r4 = (-1 : Int32) → (wp_X6_put 20 μ r1 (μ k2 1) (fun (μ16 : TMem) => wp_X6_put 18 μ16 (μ16 k2 1) a1 (fun (μ17 : TMem) => J7 (tms μ17 k2 1 ((μ17 k2 1) + (1 : Int32)))))))))) at h
  refine lv_aload_n hx hb dX3_groupNumber_0 rfl (lv_at hl 0 rfl) ?_
  refine gf_X3_29 hx hb ht hown hK hw rfl dX3_groupNumber_1 ?_
  refine W.eq (g2 := F0 m 4 ls [.ref (ad 22)]) rfl ?_
  refine lv_iload_n hx hb dX3_groupNumber_4 rfl (lv_at hl 1 rfl) ?_
  refine T_calli hw (va_runV (own := "Leastreader$Maker") (As := [.int a1]) (rest := []) ⟨hx, hb, hml, hown, ht⟩ (c_X1_partOf μ H.size a1 h) (cwV 1 ht (G_V q_506 q_507 q_508 q_52 q_509) rfl rfl rfl ⟨rfl, hd_22⟩ ⟨Nat.le_of_ble_eq_true rfl, Nat.le_of_ble_eq_true rfl⟩) ⟨TB.blind, (T_recv hK hw (kd_of rfl (by decide)) (ent_1 rfl) cl_1), TB.pre hK hN hw⟩ rfl rfl hl.1 rfl (lv_room (Nat.le_of_ble_eq_true rfl)) dX3_groupNumber_5 ⟨Nat.le_of_ble_eq_true rfl, Nat.le_of_ble_eq_true rfl⟩) (fun r1 μ2 H locs h hw => ?_)
  obtain ⟨e3, h⟩ := h
  rw [e3] at hw
  refine lv_istore_n (lv' := [(3, .int r1), (0, .ref (ad 15)), (1, .int a1), (2, .ref (ad k2))]) hx hb dX3_groupNumber_8 rfl hl (by decide) rfl (fun ls hl => ?_)
  refine lv_aload_n hx hb dX3_groupNumber_9 rfl (lv_at hl 1 rfl) ?_
  refine gf_X3_23 hx hb ht hown hK hw rfl dX3_groupNumber_10 ?_
  refine W.eq (g2 := F0 m 13 ls [.ref (ad 20)]) rfl ?_
  refine lv_iload_n hx hb dX3_groupNumber_13 rfl (lv_at hl 0 rfl) ?_
  refine T_calli hw (va_runV (own := "Leastreader$Maker") (As := [.int r1]) (rest := []) ⟨hx, hb, hml, hown, ht⟩ (c_X6_at 20 rfl μ H.size r1 h) (cwV 1 ht (G_V q_398 q_399 q_400 q_51 q_401) rfl rfl rfl ⟨rfl, hd_8⟩ ⟨Nat.le_of_ble_eq_true rfl, Nat.le_of_ble_eq_true rfl⟩) ⟨TB.blind, (T_recv hK hw (kd_of rfl (by decide)) (ent_6 rfl) cl_6), TB.pre hK hN hw⟩ rfl rfl hl.1 rfl (lv_room (Nat.le_of_ble_eq_true rfl)) dX3_groupNumber_14 ⟨Nat.le_of_ble_eq_true rfl, Nat.le_of_ble_eq_true rfl⟩) (fun r4 μ5 H locs h hw => ?_)
  obtain ⟨e6, h⟩ := h
  rw [e6] at hw
  refine lv_iconst (v := (-1 : Int32)) hx hb dX3_groupNumber_17 (by decide) ?_
  have h := h (fun μ8 => ∀ (H : Heap) (locs : List Loc) (ls : Array Slot), TW D ad cI cM s μ8 H locs → lv_has ls 4 [(3, .int r1), (0, .ref (ad 15))] → W p l e (RM 2) s m #[.ref (ad 15), .int a1, .ref (ad k2)] below meth c H locs 0 0 Z (F0 m 55 ls [])) (fun μ8 h H locs ls hw hl => by
    refine lv_aload_n hx hb dX3_groupNumber_55 rfl (lv_at hl 1 rfl) ?_
    refine gf_X3_23 hx hb ht hown hK hw rfl dX3_groupNumber_56 ?_
    refine W.eq (g2 := F0 m 59 ls [.ref (ad 20)]) rfl ?_
    refine lv_iload_n hx hb dX3_groupNumber_59 rfl (lv_at hl 0 rfl) ?_
    refine T_calli hw (va_runV (own := "Leastreader$Maker") (As := [.int r1]) (rest := []) ⟨hx, hb, hml, hown, ht⟩ (c_X6_at 20 rfl μ8 H.size r1 h) (cwV 1 ht (G_V q_398 q_399 q_400 q_51 q_401) rfl rfl rfl ⟨rfl, hd_8⟩ ⟨Nat.le_of_ble_eq_true rfl, Nat.le_of_ble_eq_true rfl⟩) ⟨TB.blind, (T_recv hK hw (kd_of rfl (by decide)) (ent_6 rfl) cl_6), TB.pre hK hN hw⟩ rfl rfl hl.1 rfl (lv_room (Nat.le_of_ble_eq_true rfl)) dX3_groupNumber_60 ⟨Nat.le_of_ble_eq_true rfl, Nat.le_of_ble_eq_true rfl⟩) (fun r9 μ10 H locs h hw => ?_)
    obtain ⟨e11, h⟩ := h
    rw [e11] at hw
    exact hret H locs ls 63 _ _ hw h rfl dX3_groupNumber_63)
  refine lv_icmp_ne (tgt := 55) hx hb dX3_groupNumber_18 (by decide) (fun c12 => ?_) (fun c12 => ?_)
  · have h := h.1 c12
    refine lv_aload_n hx hb dX3_groupNumber_55 rfl (lv_at hl 1 rfl) ?_
    refine gf_X3_23 hx hb ht hown hK hw rfl dX3_groupNumber_56 ?_
    refine W.eq (g2 := F0 m 59 ls [.ref (ad 20)]) rfl ?_
    refine lv_iload_n hx hb dX3_groupNumber_59 rfl (lv_at hl 0 rfl) ?_
    refine T_calli hw (va_runV (own := "Leastreader$Maker") (As := [.int r1]) (rest := []) ⟨hx, hb, hml, hown, ht⟩ (c_X6_at 20 rfl μ H.size r1 h) (cwV 1 ht (G_V q_398 q_399 q_400 q_51 q_401) rfl rfl rfl ⟨rfl, hd_8⟩ ⟨Nat.le_of_ble_eq_true rfl, Nat.le_of_ble_eq_true rfl⟩) ⟨TB.blind, (T_recv hK hw (kd_of rfl (by decide)) (ent_6 rfl) cl_6), TB.pre hK hN hw⟩ rfl rfl hl.1 rfl (lv_room (Nat.le_of_ble_eq_true rfl)) dX3_groupNumber_60 ⟨Nat.le_of_ble_eq_true rfl, Nat.le_of_ble_eq_true rfl⟩) (fun r13 μ14 H locs h hw => ?_)
    obtain ⟨e15, h⟩ := h
    rw [e15] at hw
    exact hret H locs ls 63 _ _ hw h rfl dX3_groupNumber_63
  have h := h.2 c12
  refine lv_aload_n hx hb dX3_groupNumber_21 rfl (lv_at hl 1 rfl) ?_
  refine gf_X3_23 hx hb ht hown hK hw rfl dX3_groupNumber_22 ?_
  refine W.eq (g2 := F0 m 25 ls [.ref (ad 20)]) rfl ?_
  refine lv_iload_n hx hb dX3_groupNumber_25 rfl (lv_at hl 0 rfl) ?_
  refine lv_aload_n hx hb dX3_groupNumber_26 rfl (lv_at hl 3 rfl) ?_
  refine gf_X3_83 hx hb ht hown hK hw hk2 dX3_groupNumber_27 ?_
  refine T_callv hw (va_runV (own := "Leastreader$Maker") (As := [.int r1, .int (μ k2 1)]) (rest := []) ⟨hx, hb, hml, hown, ht⟩ (c_X6_put 20 rfl μ H.size r1 (μ k2 1) h) (cwV 2 ht (G_V q_394 q_395 q_396 q_51 q_397) rfl rfl rfl ⟨rfl, hd_7⟩ ⟨Nat.le_of_ble_eq_true rfl, Nat.le_of_ble_eq_true rfl⟩) ⟨TB.blind, (T_recv hK hw (kd_of rfl (by decide)) (ent_6 rfl) cl_6), TB.pre hK hN hw⟩ rfl rfl hl.1 rfl (lv_room (Nat.le_of_ble_eq_true rfl)) dX3_groupNumber_30 ⟨Nat.le_of_ble_eq_true rfl, Nat.le_of_ble_eq_true rfl⟩) (fun μ16 H locs h hw => ?_)
  refine lv_aload_n hx hb dX3_groupNumber_33 rfl (lv_at hl 1 rfl) ?_
  refine gf_X3_20 hx hb ht hown hK hw rfl dX3_groupNumber_34 ?_
  refine W.eq (g2 := F0 m 37 ls [.ref (ad 18)]) rfl ?_
  refine lv_aload_n hx hb dX3_groupNumber_37 rfl (lv_at hl 3 rfl) ?_
  refine gf_X3_83 hx hb ht hown hK hw hk2 dX3_groupNumber_38 ?_
  refine lv_iload_n hx hb dX3_groupNumber_41 rfl (lv_at hl 2 rfl) ?_
  refine T_callv hw (va_runV (own := "Leastreader$Maker") (As := [.int (μ16 k2 1), .int a1]) (rest := []) ⟨hx, hb, hml, hown, ht⟩ (c_X6_put 18 rfl μ16 H.size (μ16 k2 1) a1 h) (cwV 2 ht (G_V q_394 q_395 q_396 q_51 q_397) rfl rfl rfl ⟨rfl, hd_7⟩ ⟨Nat.le_of_ble_eq_true rfl, Nat.le_of_ble_eq_true rfl⟩) ⟨TB.blind, (T_recv hK hw (kd_of rfl (by decide)) (ent_6 rfl) cl_6), TB.pre hK hN hw⟩ rfl rfl hl.1 rfl (lv_room (Nat.le_of_ble_eq_true rfl)) dX3_groupNumber_42 ⟨Nat.le_of_ble_eq_true rfl, Nat.le_of_ble_eq_true rfl⟩) (fun μ17 H locs h hw => ?_)
  refine lv_aload_n hx hb dX3_groupNumber_45 rfl (lv_at hl 3 rfl) ?_
  refine lv_dup hx hb dX3_groupNumber_46 rfl ?_
  refine gf_X3_83 hx hb ht hown hK hw hk2 dX3_groupNumber_47 ?_
  refine lv_iconst (v := (1 : Int32)) hx hb dX3_groupNumber_50 (by decide) ?_
  refine lv_iadd hx hb dX3_groupNumber_51 ?_
  refine pgf_X3_83 hx hb ht hown hK hw hk2 dX3_groupNumber_52 (fun H locs hw => ?_)
  exact h H locs ls hw (lv_sub hl [0, 1] rfl)
def wpl_X3_makeGroups_90 (k1 : Nat) (k2 : Nat) (v21 : Int32) (v22 : Int32) (K122 : TMem → Prop) : Nat → Int32 → TMem → Prop
  | 0, _, _ => False
  | n + 1, v20, μ23 =>
    ((3 : Int32) ≤ v20 → (K122 μ23)) ∧ (¬ (3 : Int32) ≤ v20 → (wp_X7_at k1 μ23 v21 v20 (fun (r25 : Int32) => wp_X3_groupNumber k2 μ23 r25 (fun (r29 : Int32) (μ28 : TMem) => wp_X7_put k2 μ28 v22 v20 r29 (fun (μ30 : TMem) => wpl_X3_makeGroups_90 k1 k2 v21 v22 K122 n (v20 + (1 : Int32)) μ30)))))
def wpl_X3_makeGroups_45 (k1 : Nat) (k2 : Nat) (Q : TMem → Prop) : Nat → Int32 → TMem → Prop
  | 0, _, _ => False
  | n + 1, v8, μ9 =>
    ((32 : Int32) ≤ v8 → (Q μ9)) ∧ (¬ (32 : Int32) ≤ v8 → (((μ9 k2 1) ≤ v8 → (Q μ9)) ∧ (¬ (μ9 k2 1) ≤ v8 → (wp_X6_at 18 μ9 v8 (fun (r12 : Int32) => wp_X5_isGoal k1 μ9 r12 (fun (r15 : Int32) => wp_X9_withOrWithout (μ9 k2 2) v8 r15 (fun (r18 : Int32) => ∃ n18x, wpl_X3_makeGroups_90 k1 k2 r12 v8 (fun (μ32 : TMem) => wpl_X3_makeGroups_45 k1 k2 Q n (v8 + (1 : Int32)) μ32) n18x (0 : Int32) (tms μ9 k2 2 r18))))))))
def wp_X3_makeGroups (k1 : Nat) (k2 : Nat) (μ : TMem) (Q : TMem → Prop) : Prop :=
  wp_X6_fill 20 μ (-1 : Int32) (fun (μ1 : TMem) => wp_X1_partOf μ1 (0 : Int32) (fun (r2 : Int32) => wp_X6_put 20 μ1 r2 (0 : Int32) (fun (μ5 : TMem) => wp_X6_put 18 μ5 (0 : Int32) (0 : Int32) (fun (μ6 : TMem) => ∃ n6x, wpl_X3_makeGroups_45 k1 k2 Q n6x (0 : Int32) (tms (tms μ6 k2 1 (1 : Int32)) k2 2 (0 : Int32))))))
set_option maxHeartbeats 4000000 in
set_option maxRecDepth 100000 in
theorem c_X3_makeGroups {l : Launch} {D : va_G} {ad : Nat → Nat} {cI cM : ClassId} (k1 : Nat) (hk1 : kd k1 = 5) (k2 : Nat) (hk2 : kd k2 = 5) (μ : TMem) (sz : Nat)  {Q : TMem → Prop} (h : wp_X3_makeGroups k1 k2 μ Q) : TMv l yX3_makeGroups (.code yX3_makeGroups cX3_makeGroups 6 (Option.none : Option Jvm.ClassFile.FieldType)) 3 [.ref (ad 15), .ref (ad k1), .ref (ad k2)] D ad cI cM sz μ Q := by
  refine T_metv (by decide +kernel) (Nat.le_of_ble_eq_true rfl) ?_
  intro p e s m below meth c Z ls hx hb hml hown ht hN hK hw hret hl
  have hl : lv_has ls 6 [(0, .ref (ad 15)), (1, .ref (ad k1)), (2, .ref (ad k2))] := hl
  generalize s.heap = H at hw ⊢
  generalize ([] : List Loc) = locs at hw ⊢
  change wp_X6_fill 20 μ (-1 : Int32) (fun (μ1 : TMem) => wp_X1_partOf μ1 (0 : Int32) (fun (r2 : Int32) => wp_X6_put 20 μ1 r2 (0 : Int32) (fun (μ5 : TMem) => wp_X6_put 18 μ5 (0 : Int32) (0 : Int32) (fun (μ6 : TMem) => ∃ n6x, wpl_X3_makeGroups_45 k1 k2 Q n6x (0 : Int32) (tms (tms μ6 k2 1 (1 : Int32)) k2 2 (0 : Int32)))))) at h
  refine lv_aload_n hx hb dX3_makeGroups_0 rfl (lv_at hl 0 rfl) ?_
  refine gf_X3_23 hx hb ht hown hK hw rfl dX3_makeGroups_1 ?_
  refine W.eq (g2 := F0 m 4 ls [.ref (ad 20)]) rfl ?_
  refine lv_iconst (v := (-1 : Int32)) hx hb dX3_makeGroups_4 (by decide) ?_
  refine T_callv hw (va_runV (own := "Leastreader$Maker") (As := [.int (-1 : Int32)]) (rest := []) ⟨hx, hb, hml, hown, ht⟩ (c_X6_fill 20 rfl μ H.size (-1 : Int32) h) (cwV 1 ht (G_V q_502 q_503 q_504 q_51 q_505) rfl rfl rfl ⟨rfl, hd_13⟩ ⟨Nat.le_of_ble_eq_true rfl, Nat.le_of_ble_eq_true rfl⟩) ⟨TB.blind, (T_recv hK hw (kd_of rfl (by decide)) (ent_6 rfl) cl_6), TB.pre hK hN hw⟩ rfl rfl hl.1 rfl (lv_room (Nat.le_of_ble_eq_true rfl)) dX3_makeGroups_5 ⟨Nat.le_of_ble_eq_true rfl, Nat.le_of_ble_eq_true rfl⟩) (fun μ1 H locs h hw => ?_)
  refine lv_aload_n hx hb dX3_makeGroups_8 rfl (lv_at hl 0 rfl) ?_
  refine gf_X3_23 hx hb ht hown hK hw rfl dX3_makeGroups_9 ?_
  refine W.eq (g2 := F0 m 12 ls [.ref (ad 20)]) rfl ?_
  refine lv_aload_n hx hb dX3_makeGroups_12 rfl (lv_at hl 0 rfl) ?_
  refine gf_X3_29 hx hb ht hown hK hw rfl dX3_makeGroups_13 ?_
  refine W.eq (g2 := F0 m 16 ls [.ref (ad 22), .ref (ad 20)]) rfl ?_
  refine lv_iconst (v := (0 : Int32)) hx hb dX3_makeGroups_16 (by decide) ?_
  refine T_calli hw (va_runV (own := "Leastreader$Maker") (As := [.int (0 : Int32)]) (rest := [.ref (ad 20)]) ⟨hx, hb, hml, hown, ht⟩ (c_X1_partOf μ1 H.size (0 : Int32) h) (cwV 1 ht (G_V q_506 q_507 q_508 q_52 q_509) rfl rfl rfl ⟨rfl, hd_22⟩ ⟨Nat.le_of_ble_eq_true rfl, Nat.le_of_ble_eq_true rfl⟩) ⟨TB.blind, (T_recv hK hw (kd_of rfl (by decide)) (ent_1 rfl) cl_1), TB.pre hK hN hw⟩ rfl rfl hl.1 rfl (lv_room (Nat.le_of_ble_eq_true rfl)) dX3_makeGroups_17 ⟨Nat.le_of_ble_eq_true rfl, Nat.le_of_ble_eq_true rfl⟩) (fun r2 μ3 H locs h hw => ?_)
  obtain ⟨e4, h⟩ := h
  rw [e4] at hw
  refine lv_iconst (v := (0 : Int32)) hx hb dX3_makeGroups_20 (by decide) ?_
  refine T_callv hw (va_runV (own := "Leastreader$Maker") (As := [.int r2, .int (0 : Int32)]) (rest := []) ⟨hx, hb, hml, hown, ht⟩ (c_X6_put 20 rfl μ1 H.size r2 (0 : Int32) h) (cwV 2 ht (G_V q_394 q_395 q_396 q_51 q_397) rfl rfl rfl ⟨rfl, hd_7⟩ ⟨Nat.le_of_ble_eq_true rfl, Nat.le_of_ble_eq_true rfl⟩) ⟨TB.blind, (T_recv hK hw (kd_of rfl (by decide)) (ent_6 rfl) cl_6), TB.pre hK hN hw⟩ rfl rfl hl.1 rfl (lv_room (Nat.le_of_ble_eq_true rfl)) dX3_makeGroups_21 ⟨Nat.le_of_ble_eq_true rfl, Nat.le_of_ble_eq_true rfl⟩) (fun μ5 H locs h hw => ?_)
  refine lv_aload_n hx hb dX3_makeGroups_24 rfl (lv_at hl 0 rfl) ?_
  refine gf_X3_20 hx hb ht hown hK hw rfl dX3_makeGroups_25 ?_
  refine W.eq (g2 := F0 m 28 ls [.ref (ad 18)]) rfl ?_
  refine lv_iconst (v := (0 : Int32)) hx hb dX3_makeGroups_28 (by decide) ?_
  refine lv_iconst (v := (0 : Int32)) hx hb dX3_makeGroups_29 (by decide) ?_
  refine T_callv hw (va_runV (own := "Leastreader$Maker") (As := [.int (0 : Int32), .int (0 : Int32)]) (rest := []) ⟨hx, hb, hml, hown, ht⟩ (c_X6_put 18 rfl μ5 H.size (0 : Int32) (0 : Int32) h) (cwV 2 ht (G_V q_394 q_395 q_396 q_51 q_397) rfl rfl rfl ⟨rfl, hd_7⟩ ⟨Nat.le_of_ble_eq_true rfl, Nat.le_of_ble_eq_true rfl⟩) ⟨TB.blind, (T_recv hK hw (kd_of rfl (by decide)) (ent_6 rfl) cl_6), TB.pre hK hN hw⟩ rfl rfl hl.1 rfl (lv_room (Nat.le_of_ble_eq_true rfl)) dX3_makeGroups_30 ⟨Nat.le_of_ble_eq_true rfl, Nat.le_of_ble_eq_true rfl⟩) (fun μ6 H locs h hw => ?_)
  refine lv_aload_n hx hb dX3_makeGroups_33 rfl (lv_at hl 2 rfl) ?_
  refine lv_iconst (v := (1 : Int32)) hx hb dX3_makeGroups_34 (by decide) ?_
  refine pgf_X3_83 hx hb ht hown hK hw hk2 dX3_makeGroups_35 (fun H locs hw => ?_)
  refine lv_aload_n hx hb dX3_makeGroups_38 rfl (lv_at hl 2 rfl) ?_
  refine lv_iconst (v := (0 : Int32)) hx hb dX3_makeGroups_39 (by decide) ?_
  refine pgf_X3_86 hx hb ht hown hK hw hk2 dX3_makeGroups_40 (fun H locs hw => ?_)
  refine lv_iconst (v := (0 : Int32)) hx hb dX3_makeGroups_43 (by decide) ?_
  refine lv_istore_n (lv' := [(3, .int (0 : Int32)), (0, .ref (ad 15)), (1, .ref (ad k1)), (2, .ref (ad k2))]) hx hb dX3_makeGroups_44 rfl hl (by decide) rfl (fun ls hl => ?_)
  obtain ⟨n33, h⟩ := h
  have L6 : ∀ (n : Nat) (v8 : Int32) (μ9 : TMem) (H : Heap) (locs : List Loc) (ls : Array Slot), TW D ad cI cM s μ9 H locs → lv_has ls 6 [(3, .int v8), (0, .ref (ad 15)), (1, .ref (ad k1)), (2, .ref (ad k2))] → wpl_X3_makeGroups_45 k1 k2 Q n v8 μ9 → W p l e (RM 3) s m #[.ref (ad 15), .ref (ad k1), .ref (ad k2)] below meth c H locs 0 0 Z (F0 m 45 ls []) := by
    intro n
    induction n with
    | zero => intro v8 μ9 H locs ls hw hl h; exact False.elim h
    | succ n ih6 =>
      intro v8 μ9 H locs ls hw hl h
      change ((32 : Int32) ≤ v8 → (Q μ9)) ∧ (¬ (32 : Int32) ≤ v8 → (((μ9 k2 1) ≤ v8 → (Q μ9)) ∧ (¬ (μ9 k2 1) ≤ v8 → (wp_X6_at 18 μ9 v8 (fun (r12 : Int32) => wp_X5_isGoal k1 μ9 r12 (fun (r15 : Int32) => wp_X9_withOrWithout (μ9 k2 2) v8 r15 (fun (r18 : Int32) => ∃ n18x, wpl_X3_makeGroups_90 k1 k2 r12 v8 (fun (μ32 : TMem) => wpl_X3_makeGroups_45 k1 k2 Q n (v8 + (1 : Int32)) μ32) n18x (0 : Int32) (tms μ9 k2 2 r18)))))))) at h
      refine lv_iload_n hx hb dX3_makeGroups_45 rfl (lv_at hl 0 rfl) ?_
      refine lv_bipush (v := (32 : Int32)) hx hb dX3_makeGroups_46 (by decide) ?_
      refine lv_icmp_ge (tgt := 128) hx hb dX3_makeGroups_48 (by decide) (fun c10 => ?_) (fun c10 => ?_)
      · have h := h.1 c10
        exact hret H locs ls 128 _ hw h dX3_makeGroups_128
      have h := h.2 c10
      refine lv_iload_n hx hb dX3_makeGroups_51 rfl (lv_at hl 0 rfl) ?_
      refine lv_aload_n hx hb dX3_makeGroups_52 rfl (lv_at hl 3 rfl) ?_
      refine gf_X3_83 hx hb ht hown hK hw hk2 dX3_makeGroups_53 ?_
      refine lv_icmp_ge (tgt := 128) hx hb dX3_makeGroups_56 (by decide) (fun c11 => ?_) (fun c11 => ?_)
      · have h := h.1 c11
        exact hret H locs ls 128 _ hw h dX3_makeGroups_128
      have h := h.2 c11
      refine lv_aload_n hx hb dX3_makeGroups_59 rfl (lv_at hl 1 rfl) ?_
      refine gf_X3_20 hx hb ht hown hK hw rfl dX3_makeGroups_60 ?_
      refine W.eq (g2 := F0 m 63 ls [.ref (ad 18)]) rfl ?_
      refine lv_iload_n hx hb dX3_makeGroups_63 rfl (lv_at hl 0 rfl) ?_
      refine T_calli hw (va_runV (own := "Leastreader$Maker") (As := [.int v8]) (rest := []) ⟨hx, hb, hml, hown, ht⟩ (c_X6_at 18 rfl μ9 H.size v8 h) (cwV 1 ht (G_V q_398 q_399 q_400 q_51 q_401) rfl rfl rfl ⟨rfl, hd_8⟩ ⟨Nat.le_of_ble_eq_true rfl, Nat.le_of_ble_eq_true rfl⟩) ⟨TB.blind, (T_recv hK hw (kd_of rfl (by decide)) (ent_6 rfl) cl_6), TB.pre hK hN hw⟩ rfl rfl hl.1 rfl (lv_room (Nat.le_of_ble_eq_true rfl)) dX3_makeGroups_64 ⟨Nat.le_of_ble_eq_true rfl, Nat.le_of_ble_eq_true rfl⟩) (fun r12 μ13 H locs h hw => ?_)
      obtain ⟨e14, h⟩ := h
      rw [e14] at hw
      refine lv_istore (lv' := [(4, .int r12), (3, .int v8), (0, .ref (ad 15)), (1, .ref (ad k1)), (2, .ref (ad k2))]) hx hb dX3_makeGroups_67 hl (by decide) rfl (fun ls hl => ?_)
      refine lv_aload_n hx hb dX3_makeGroups_69 rfl (lv_at hl 4 rfl) ?_
      refine lv_aload_n hx hb dX3_makeGroups_70 rfl (lv_at hl 4 rfl) ?_
      refine gf_X3_86 hx hb ht hown hK hw hk2 dX3_makeGroups_71 ?_
      refine lv_iload_n hx hb dX3_makeGroups_74 rfl (lv_at hl 1 rfl) ?_
      refine lv_aload_n hx hb dX3_makeGroups_75 rfl (lv_at hl 3 rfl) ?_
      refine lv_iload hx hb dX3_makeGroups_76 (lv_at hl 0 rfl) ?_
      refine T_calli hw (va_runV (own := "Leastreader$Maker") (As := [.int r12]) (rest := [.int v8, .int (μ9 k2 2), .ref (ad k2)]) ⟨hx, hb, hml, hown, ht⟩ (c_X5_isGoal k1 hk1 μ9 H.size r12 h) (cwV 1 ht (G_V q_510 q_462 q_463 q_53 q_464) rfl rfl rfl ⟨rfl, hd_18⟩ ⟨Nat.le_of_ble_eq_true rfl, Nat.le_of_ble_eq_true rfl⟩) ⟨TB.blind, (T_recv hK hw (kd_of hk1 (by decide)) (ent_5 hk1) cl_5), TB.pre hK hN hw⟩ rfl rfl hl.1 rfl (lv_room (Nat.le_of_ble_eq_true rfl)) dX3_makeGroups_78 ⟨Nat.le_of_ble_eq_true rfl, Nat.le_of_ble_eq_true rfl⟩) (fun r15 μ16 H locs h hw => ?_)
      obtain ⟨e17, h⟩ := h
      rw [e17] at hw
      refine P_calli (va_runSN (own := "Leastreader$Maker") (As := [.int (μ9 k2 2), .int v8, .int r15]) (rest := [.ref (ad k2)]) ⟨hx, hb, hml, hown, ht⟩ (c_X9_withOrWithout (μ9 k2 2) v8 r15 h) ⟨va_cnB 3 ht (G_ws q_404) rfl rfl rfl (nw_402 hN) (ht _ q_46) hd_9 ⟨Nat.le_of_ble_eq_true rfl, Nat.le_of_ble_eq_true rfl⟩, ht _ q_403, trivial⟩ ⟨PM_blind, PM_pre⟩ rfl rfl hl.1 rfl (lv_room (Nat.le_of_ble_eq_true rfl)) dX3_makeGroups_81 ⟨Nat.le_of_ble_eq_true rfl, Nat.le_of_ble_eq_true rfl⟩) (fun r18 h => ?_)
      refine pgf_X3_86 hx hb ht hown hK hw hk2 dX3_makeGroups_84 (fun H locs hw => ?_)
      refine lv_iconst (v := (0 : Int32)) hx hb dX3_makeGroups_87 (by decide) ?_
      refine lv_istore (lv' := [(5, .int (0 : Int32)), (4, .int r12), (3, .int v8), (0, .ref (ad 15)), (1, .ref (ad k1)), (2, .ref (ad k2))]) hx hb dX3_makeGroups_88 hl (by decide) rfl (fun ls hl => ?_)
      obtain ⟨n31, h⟩ := h
      have L18 : ∀ (v21 : Int32) (v22 : Int32) (K122 : TMem → Prop), (∀ (μ23 : TMem) (H : Heap) (locs : List Loc) (ls : Array Slot), TW D ad cI cM s μ23 H locs → lv_has ls 6 [(3, .int v22), (0, .ref (ad 15)), (1, .ref (ad k1)), (2, .ref (ad k2))] → K122 μ23 → W p l e (RM 3) s m #[.ref (ad 15), .ref (ad k1), .ref (ad k2)] below meth c H locs 0 0 Z (F0 m 122 ls [])) → ∀ (n : Nat) (v20 : Int32) (μ23 : TMem) (H : Heap) (locs : List Loc) (ls : Array Slot), TW D ad cI cM s μ23 H locs → lv_has ls 6 [(5, .int v20), (4, .int v21), (3, .int v22), (0, .ref (ad 15)), (1, .ref (ad k1)), (2, .ref (ad k2))] → wpl_X3_makeGroups_90 k1 k2 v21 v22 K122 n v20 μ23 → W p l e (RM 3) s m #[.ref (ad 15), .ref (ad k1), .ref (ad k2)] below meth c H locs 0 0 Z (F0 m 90 ls []) := by
        intro v21 v22 K122 hK122
        intro n
        induction n with
        | zero => intro v20 μ23 H locs ls hw hl h; exact False.elim h
        | succ n ih18 =>
          intro v20 μ23 H locs ls hw hl h
          change ((3 : Int32) ≤ v20 → (K122 μ23)) ∧ (¬ (3 : Int32) ≤ v20 → (wp_X7_at k1 μ23 v21 v20 (fun (r25 : Int32) => wp_X3_groupNumber k2 μ23 r25 (fun (r29 : Int32) (μ28 : TMem) => wp_X7_put k2 μ28 v22 v20 r29 (fun (μ30 : TMem) => wpl_X3_makeGroups_90 k1 k2 v21 v22 K122 n (v20 + (1 : Int32)) μ30))))) at h
          refine lv_iload hx hb dX3_makeGroups_90 (lv_at hl 0 rfl) ?_
          refine lv_iconst (v := (3 : Int32)) hx hb dX3_makeGroups_92 (by decide) ?_
          refine lv_icmp_ge (tgt := 122) hx hb dX3_makeGroups_93 (by decide) (fun c24 => ?_) (fun c24 => ?_)
          · have h := h.1 c24
            exact hK122 μ23 H locs ls hw (lv_sub hl [2, 3, 4, 5] rfl) h
          have h := h.2 c24
          refine lv_aload_n hx hb dX3_makeGroups_96 rfl (lv_at hl 5 rfl) ?_
          refine lv_iload_n hx hb dX3_makeGroups_97 rfl (lv_at hl 2 rfl) ?_
          refine lv_iload hx hb dX3_makeGroups_98 (lv_at hl 0 rfl) ?_
          refine lv_aload_n hx hb dX3_makeGroups_100 rfl (lv_at hl 3 rfl) ?_
          refine lv_aload_n hx hb dX3_makeGroups_101 rfl (lv_at hl 4 rfl) ?_
          refine lv_iload hx hb dX3_makeGroups_102 (lv_at hl 1 rfl) ?_
          refine lv_iload hx hb dX3_makeGroups_104 (lv_at hl 0 rfl) ?_
          refine T_calli hw (va_runU (own := "Leastreader$Maker") (As := [.int v21, .int v20]) (rest := [.ref (ad 15), .int v20, .int v22, .ref (ad k2)]) ⟨hx, hb, hml, hown, ht⟩ (c_X7_at_5 k1 hk1 μ23 H.size v21 v20 h) (va_cwU (owner := "Leastreader$Table") 2 ht (G_U q_511 q_452 q_453 q_416 q_47 q_417) rfl rfl rfl rfl hd_0 ⟨Nat.le_of_ble_eq_true rfl, Nat.le_of_ble_eq_true rfl⟩) ⟨TB.blind, (T_recv hK hw (kd_of hk1 (by decide)) (ent_5 hk1) cl_5), TB.pre hK hN hw⟩ rfl rfl hl.1 rfl (lv_room (Nat.le_of_ble_eq_true rfl)) dX3_makeGroups_106 ⟨Nat.le_of_ble_eq_true rfl, Nat.le_of_ble_eq_true rfl⟩) (fun r25 μ26 H locs h hw => ?_)
          obtain ⟨e27, h⟩ := h
          rw [e27] at hw
          refine lv_aload_n hx hb dX3_makeGroups_109 rfl (lv_at hl 5 rfl) ?_
          refine T_calli hw (va_runV (own := "Leastreader$Maker") (As := [.int r25, .ref (ad k2)]) (rest := [.int v20, .int v22, .ref (ad k2)]) ⟨hx, hb, hml, hown, ht⟩ (c_X3_groupNumber k2 hk2 μ23 H.size r25 h) (cwV 2 ht (G_V q_512 q_514 q_11 q_50 q_515) rfl rfl rfl ⟨rfl, hd_23⟩ ⟨Nat.le_of_ble_eq_true rfl, Nat.le_of_ble_eq_true rfl⟩) ⟨TB.blind, (T_recv hK hw (kd_of rfl (by decide)) (ent_3 rfl) cl_3), TB.pre hK hN hw⟩ rfl rfl hl.1 rfl (lv_room (Nat.le_of_ble_eq_true rfl)) dX3_makeGroups_110 ⟨Nat.le_of_ble_eq_true rfl, Nat.le_of_ble_eq_true rfl⟩) (fun r29 μ28 H locs h hw => ?_)
          refine T_callv hw (va_runU (own := "Leastreader$Maker") (As := [.int v22, .int v20, .int r29]) (rest := []) ⟨hx, hb, hml, hown, ht⟩ (c_X7_put_5 k2 hk2 μ28 H.size v22 v20 r29 h) (va_cwU (owner := "Leastreader$Table") 3 ht (G_U q_426 q_427 q_429 q_430 q_47 q_431) rfl rfl rfl rfl hd_1 ⟨Nat.le_of_ble_eq_true rfl, Nat.le_of_ble_eq_true rfl⟩) ⟨TB.blind, (T_recv hK hw (kd_of hk2 (by decide)) (ent_5 hk2) cl_5), TB.pre hK hN hw⟩ rfl rfl hl.1 rfl (lv_room (Nat.le_of_ble_eq_true rfl)) dX3_makeGroups_113 ⟨Nat.le_of_ble_eq_true rfl, Nat.le_of_ble_eq_true rfl⟩) (fun μ30 H locs h hw => ?_)
          refine lv_iinc (v := (v20 + (1 : Int32))) (lv' := [(5, .int (v20 + (1 : Int32))), (4, .int v21), (3, .int v22), (0, .ref (ad 15)), (1, .ref (ad k1)), (2, .ref (ad k2))]) hx hb dX3_makeGroups_116 hl (k := 0) rfl rfl (by decide) rfl (fun ls hl => ?_)
          refine lv_goto (tgt := 90) hx hb dX3_makeGroups_119 (by decide) ?_
          exact ih18 (v20 + (1 : Int32)) μ30 H locs ls hw (lv_sub hl [0, 1, 2, 3, 4, 5] rfl) h
      refine L18 r12 v8 _ ?_ n31 (0 : Int32) (tms μ9 k2 2 r18) H locs ls hw (lv_sub hl [0, 1, 2, 3, 4, 5] rfl) h
      intro μ32 H locs ls hw hl h
      refine lv_iinc (v := (v8 + (1 : Int32))) (lv' := [(3, .int (v8 + (1 : Int32))), (0, .ref (ad 15)), (1, .ref (ad k1)), (2, .ref (ad k2))]) hx hb dX3_makeGroups_122 hl (k := 0) rfl rfl (by decide) rfl (fun ls hl => ?_)
      refine lv_goto (tgt := 45) hx hb dX3_makeGroups_125 (by decide) ?_
      exact ih6 (v8 + (1 : Int32)) μ32 H locs ls hw (lv_sub hl [0, 1, 2, 3] rfl) h
  exact L6 n33 (0 : Int32) (tms (tms μ6 k2 1 (1 : Int32)) k2 2 (0 : Int32)) H locs ls hw (lv_sub hl [0, 1, 2, 3] rfl) h
def wp_X3_lessen (k1 : Nat) (k2 : Nat) (μ : TMem) (Q : TMem → Prop) : Prop :=
  wp_X1_findByParting k1 μ (fun (μ1 : TMem) => wp_X3_makeGroups k1 k2 μ1 (fun (μ2 : TMem) => Q μ2))
set_option maxHeartbeats 4000000 in
set_option maxRecDepth 100000 in
theorem c_X3_lessen {l : Launch} {D : va_G} {ad : Nat → Nat} {cI cM : ClassId} (k1 : Nat) (hk1 : kd k1 = 5) (k2 : Nat) (hk2 : kd k2 = 5) (μ : TMem) (sz : Nat)  {Q : TMem → Prop} (h : wp_X3_lessen k1 k2 μ Q) : TMv l yX3_lessen (.code yX3_lessen cX3_lessen 3 (Option.none : Option Jvm.ClassFile.FieldType)) 4 [.ref (ad 15), .ref (ad k1), .ref (ad k2)] D ad cI cM sz μ Q := by
  refine T_metv (by decide +kernel) (Nat.le_of_ble_eq_true rfl) ?_
  intro p e s m below meth c Z ls hx hb hml hown ht hN hK hw hret hl
  have hl : lv_has ls 3 [(0, .ref (ad 15)), (1, .ref (ad k1)), (2, .ref (ad k2))] := hl
  generalize s.heap = H at hw ⊢
  generalize ([] : List Loc) = locs at hw ⊢
  change wp_X1_findByParting k1 μ (fun (μ1 : TMem) => wp_X3_makeGroups k1 k2 μ1 (fun (μ2 : TMem) => Q μ2)) at h
  refine lv_aload_n hx hb dX3_lessen_0 rfl (lv_at hl 0 rfl) ?_
  refine gf_X3_29 hx hb ht hown hK hw rfl dX3_lessen_1 ?_
  refine W.eq (g2 := F0 m 4 ls [.ref (ad 22)]) rfl ?_
  refine lv_aload_n hx hb dX3_lessen_4 rfl (lv_at hl 1 rfl) ?_
  refine T_callv hw (va_runV (own := "Leastreader$Maker") (As := [.ref (ad k1)]) (rest := []) ⟨hx, hb, hml, hown, ht⟩ (c_X1_findByParting k1 hk1 μ H.size h) (cwV 1 ht (G_V q_482 q_483 q_484 q_52 q_485) rfl rfl rfl ⟨rfl, hd_24⟩ ⟨Nat.le_of_ble_eq_true rfl, Nat.le_of_ble_eq_true rfl⟩) ⟨TB.blind, (T_recv hK hw (kd_of rfl (by decide)) (ent_1 rfl) cl_1), TB.pre hK hN hw⟩ rfl rfl hl.1 rfl (lv_room (Nat.le_of_ble_eq_true rfl)) dX3_lessen_5 ⟨Nat.le_of_ble_eq_true rfl, Nat.le_of_ble_eq_true rfl⟩) (fun μ1 H locs h hw => ?_)
  refine lv_aload_n hx hb dX3_lessen_8 rfl (lv_at hl 0 rfl) ?_
  refine lv_aload_n hx hb dX3_lessen_9 rfl (lv_at hl 1 rfl) ?_
  refine lv_aload_n hx hb dX3_lessen_10 rfl (lv_at hl 2 rfl) ?_
  refine T_callv hw (va_runV (own := "Leastreader$Maker") (As := [.ref (ad k1), .ref (ad k2)]) (rest := []) ⟨hx, hb, hml, hown, ht⟩ (c_X3_makeGroups k1 hk1 k2 hk2 μ1 H.size h) (cwV 2 ht (G_V q_498 q_500 q_10 q_50 q_501) rfl rfl rfl ⟨rfl, hd_25⟩ ⟨Nat.le_of_ble_eq_true rfl, Nat.le_of_ble_eq_true rfl⟩) ⟨TB.blind, (T_recv hK hw (kd_of rfl (by decide)) (ent_3 rfl) cl_3), TB.pre hK hN hw⟩ rfl rfl hl.1 rfl (lv_room (Nat.le_of_ble_eq_true rfl)) dX3_lessen_11 ⟨Nat.le_of_ble_eq_true rfl, Nat.le_of_ble_eq_true rfl⟩) (fun μ2 H locs h hw => ?_)
  exact hret H locs ls 14 _ hw h dX3_lessen_14
def wp_X9_putTogether (k1 : Nat) (k2 : Nat) (μ : TMem) (a3 : Int32) (Q : Int32 → TMem → Prop) : Prop :=
  wp_X9_meetPairs k1 k2 μ (32 : Int32) (1 : Int32) (fun (r2 : Int32) (μ1 : TMem) => (¬ r2 = 0 → (wp_X5_becomePairs 55 μ1 a3 (fun (μ4 : TMem) => wp_X3_lessen 55 57 μ4 (fun (μ5 : TMem) => Q (1 : Int32) μ5)))) ∧ (r2 = 0 → (Q (0 : Int32) μ1)))
set_option maxHeartbeats 4000000 in
set_option maxRecDepth 100000 in
theorem c_X9_putTogether {l : Launch} {D : va_G} {ad : Nat → Nat} {cI cM : ClassId} (k1 : Nat) (hk1 : kd k1 = 2) (k2 : Nat) (hk2 : kd k2 = 2) (μ : TMem) (sz : Nat) (a3 : Int32) {Q : Int32 → TMem → Prop} (h : wp_X9_putTogether k1 k2 μ a3 Q) : TMi l yX9_putTogether (.code yX9_putTogether cX9_putTogether 4 (Option.some Jvm.ClassFile.FieldType.boolean)) 5 [.ref (ad 0), .ref (ad k1), .ref (ad k2), .int a3] D ad cI cM sz μ Q := by
  refine T_meti (by decide +kernel) (Nat.le_of_ble_eq_true rfl) ?_
  intro p e s m below meth c Z ls hx hb hml hown ht hN hK hw hret hl
  have hl : lv_has ls 4 [(0, .ref (ad 0)), (1, .ref (ad k1)), (2, .ref (ad k2)), (3, .int a3)] := hl
  generalize s.heap = H at hw ⊢
  generalize ([] : List Loc) = locs at hw ⊢
  change wp_X9_meetPairs k1 k2 μ (32 : Int32) (1 : Int32) (fun (r2 : Int32) (μ1 : TMem) => (¬ r2 = 0 → (wp_X5_becomePairs 55 μ1 a3 (fun (μ4 : TMem) => wp_X3_lessen 55 57 μ4 (fun (μ5 : TMem) => Q (1 : Int32) μ5)))) ∧ (r2 = 0 → (Q (0 : Int32) μ1))) at h
  refine lv_aload_n hx hb dX9_putTogether_0 rfl (lv_at hl 0 rfl) ?_
  refine lv_aload_n hx hb dX9_putTogether_1 rfl (lv_at hl 1 rfl) ?_
  refine lv_aload_n hx hb dX9_putTogether_2 rfl (lv_at hl 2 rfl) ?_
  refine lv_bipush (v := (32 : Int32)) hx hb dX9_putTogether_3 (by decide) ?_
  refine lv_iconst (v := (1 : Int32)) hx hb dX9_putTogether_5 (by decide) ?_
  refine T_calli hw (va_runV (own := "Leastreader") (As := [.ref (ad k1), .ref (ad k2), .int (32 : Int32), .int (1 : Int32)]) (rest := []) ⟨hx, hb, hml, hown, ht⟩ (c_X9_meetPairs k1 hk1 k2 hk2 μ H.size (32 : Int32) (1 : Int32) h) (cwV 4 ht (G_V q_784 q_786 q_19 q_46 q_787) rfl rfl rfl ⟨rfl, hd_26⟩ ⟨Nat.le_of_ble_eq_true rfl, Nat.le_of_ble_eq_true rfl⟩) ⟨TB.blind, (T_recv hK hw (kd_of rfl (by decide)) (ent_8 rfl) cl_8), TB.pre hK hN hw⟩ rfl rfl hl.1 rfl (lv_room (Nat.le_of_ble_eq_true rfl)) dX9_putTogether_6 ⟨Nat.le_of_ble_eq_true rfl, Nat.le_of_ble_eq_true rfl⟩) (fun r2 μ1 H locs h hw => ?_)
  refine lv_if_ne (tgt := 14) hx hb dX9_putTogether_9 (by decide) (fun c3 => ?_) (fun c3 => ?_)
  · have h := h.1 c3
    refine lv_aload_n hx hb dX9_putTogether_14 rfl (lv_at hl 0 rfl) ?_
    refine gf_X9_63 hx hb ht hown hK hw rfl dX9_putTogether_15 ?_
    refine lv_aload_n hx hb dX9_putTogether_18 rfl (lv_at hl 0 rfl) ?_
    refine gf_X9_42 hx hb ht hown hK hw rfl dX9_putTogether_19 ?_
    refine lv_iload_n hx hb dX9_putTogether_22 rfl (lv_at hl 3 rfl) ?_
    refine T_callv hw (va_runV (own := "Leastreader") (As := [.ref (ad 35), .int a3]) (rest := []) ⟨hx, hb, hml, hown, ht⟩ (c_X5_becomePairs 55 rfl μ1 H.size a3 h) (cwV 2 ht (G_V q_806 q_807 q_808 q_53 q_809) rfl rfl rfl ⟨rfl, hd_27⟩ ⟨Nat.le_of_ble_eq_true rfl, Nat.le_of_ble_eq_true rfl⟩) ⟨TB.blind, (T_recv hK hw (kd_of rfl (by decide)) (ent_5 rfl) cl_5), TB.pre hK hN hw⟩ rfl rfl hl.1 rfl (lv_room (Nat.le_of_ble_eq_true rfl)) dX9_putTogether_23 ⟨Nat.le_of_ble_eq_true rfl, Nat.le_of_ble_eq_true rfl⟩) (fun μ4 H locs h hw => ?_)
    refine lv_aload_n hx hb dX9_putTogether_26 rfl (lv_at hl 0 rfl) ?_
    refine gf_X9_35 hx hb ht hown hK hw rfl dX9_putTogether_27 ?_
    refine lv_aload_n hx hb dX9_putTogether_30 rfl (lv_at hl 0 rfl) ?_
    refine gf_X9_63 hx hb ht hown hK hw rfl dX9_putTogether_31 ?_
    refine lv_aload_n hx hb dX9_putTogether_34 rfl (lv_at hl 0 rfl) ?_
    refine gf_X9_66 hx hb ht hown hK hw rfl dX9_putTogether_35 ?_
    refine T_callv hw (va_runV (own := "Leastreader") (As := [.ref (ad 55), .ref (ad 57)]) (rest := []) ⟨hx, hb, hml, hown, ht⟩ (c_X3_lessen 55 rfl 57 rfl μ4 H.size h) (cwV 2 ht (G_V q_817 q_818 q_819 q_50 q_820) rfl rfl rfl ⟨rfl, hd_28⟩ ⟨Nat.le_of_ble_eq_true rfl, Nat.le_of_ble_eq_true rfl⟩) ⟨TB.blind, (T_recv hK hw (kd_of rfl (by decide)) (ent_3 rfl) cl_3), TB.pre hK hN hw⟩ rfl rfl hl.1 rfl (lv_room (Nat.le_of_ble_eq_true rfl)) dX9_putTogether_38 ⟨Nat.le_of_ble_eq_true rfl, Nat.le_of_ble_eq_true rfl⟩) (fun μ5 H locs h hw => ?_)
    refine lv_iconst (v := (1 : Int32)) hx hb dX9_putTogether_41 (by decide) ?_
    exact hret H locs ls 42 _ _ hw h rfl dX9_putTogether_42
  have h := h.2 c3
  refine lv_iconst (v := (0 : Int32)) hx hb dX9_putTogether_12 (by decide) ?_
  exact hret H locs ls 13 _ _ hw h rfl dX9_putTogether_13
def wpl_X5_stateAfter_8 (k0 : Nat) (μ : TMem) (v5 : Int32) (Q : Int32 → Prop) : Nat → Int32 → Int32 → Int32 → Prop
  | 0, _, _, _ => False
  | n + 1, v2, v3, v4 =>
    (v5 ≤ v2 → (Q v4)) ∧ (¬ v5 ≤ v2 → (wp_X7_at k0 μ v4 (v3 - v3 / (3 : Int32) * (3 : Int32)) (fun (r7 : Int32) => wpl_X5_stateAfter_8 k0 μ v5 Q n (v2 + (1 : Int32)) (v3 / (3 : Int32)) r7)))
def wp_X5_stateAfter (k0 : Nat) (μ : TMem) (a1 : Int32) (a2 : Int32) (Q : Int32 → Prop) : Prop :=
  ∃ n0x, wpl_X5_stateAfter_8 k0 μ a1 Q n0x (0 : Int32) a2 (0 : Int32)
set_option maxHeartbeats 4000000 in
set_option maxRecDepth 100000 in
theorem c_X5_stateAfter {l : Launch} {D : va_G} {ad : Nat → Nat} {cI cM : ClassId} (k0 : Nat) (hk0 : kd k0 = 5) (μ : TMem) (sz : Nat) (a1 : Int32) (a2 : Int32) {Q : Int32 → Prop} (h : wp_X5_stateAfter k0 μ a1 a2 Q) : TMi l yX5_stateAfter (.code yX5_stateAfter cX5_stateAfter 6 (Option.some Jvm.ClassFile.FieldType.int)) 1 [.ref (ad k0), .int a1, .int a2] D ad cI cM sz μ (fun r μ1 => μ1 = μ ∧ Q r) := by
  refine T_meti (by decide +kernel) (Nat.le_of_ble_eq_true rfl) ?_
  intro p e s m below meth c Z ls hx hb hml hown ht hN hK hw hret hl
  have hl : lv_has ls 6 [(0, .ref (ad k0)), (1, .int a1), (2, .int a2)] := hl
  generalize s.heap = H at hw ⊢
  generalize ([] : List Loc) = locs at hw ⊢
  change ∃ n0x, wpl_X5_stateAfter_8 k0 μ a1 Q n0x (0 : Int32) a2 (0 : Int32) at h
  refine lv_iconst (v := (0 : Int32)) hx hb dX5_stateAfter_0 (by decide) ?_
  refine lv_istore_n (lv' := [(3, .int (0 : Int32)), (0, .ref (ad k0)), (1, .int a1), (2, .int a2)]) hx hb dX5_stateAfter_1 rfl hl (by decide) rfl (fun ls hl => ?_)
  refine lv_iload_n hx hb dX5_stateAfter_2 rfl (lv_at hl 3 rfl) ?_
  refine lv_istore (lv' := [(4, .int a2), (3, .int (0 : Int32)), (0, .ref (ad k0)), (1, .int a1), (2, .int a2)]) hx hb dX5_stateAfter_3 hl (by decide) rfl (fun ls hl => ?_)
  refine lv_iconst (v := (0 : Int32)) hx hb dX5_stateAfter_5 (by decide) ?_
  refine lv_istore (lv' := [(5, .int (0 : Int32)), (4, .int a2), (3, .int (0 : Int32)), (0, .ref (ad k0)), (1, .int a1), (2, .int a2)]) hx hb dX5_stateAfter_6 hl (by decide) rfl (fun ls hl => ?_)
  obtain ⟨n10, h⟩ := h
  have L0 : ∀ (v5 : Int32), ∀ (n : Nat) (v2 : Int32) (v3 : Int32) (v4 : Int32) (H : Heap) (locs : List Loc) (ls : Array Slot), TW D ad cI cM s μ H locs → lv_has ls 6 [(5, .int v2), (4, .int v3), (3, .int v4), (0, .ref (ad k0)), (1, .int v5)] → wpl_X5_stateAfter_8 k0 μ v5 Q n v2 v3 v4 → W p l e (RM 1) s m #[.ref (ad k0), .int a1, .int a2] below meth c H locs 0 0 Z (F0 m 8 ls []) := by
    intro v5
    intro n
    induction n with
    | zero => intro v2 v3 v4 H locs ls hw hl h; exact False.elim h
    | succ n ih0 =>
      intro v2 v3 v4 H locs ls hw hl h
      change (v5 ≤ v2 → (Q v4)) ∧ (¬ v5 ≤ v2 → (wp_X7_at k0 μ v4 (v3 - v3 / (3 : Int32) * (3 : Int32)) (fun (r7 : Int32) => wpl_X5_stateAfter_8 k0 μ v5 Q n (v2 + (1 : Int32)) (v3 / (3 : Int32)) r7))) at h
      refine lv_iload hx hb dX5_stateAfter_8 (lv_at hl 0 rfl) ?_
      refine lv_iload_n hx hb dX5_stateAfter_10 rfl (lv_at hl 4 rfl) ?_
      refine lv_icmp_ge (tgt := 36) hx hb dX5_stateAfter_11 (by decide) (fun c6 => ?_) (fun c6 => ?_)
      · have h := h.1 c6
        refine lv_iload_n hx hb dX5_stateAfter_36 rfl (lv_at hl 2 rfl) ?_
        exact hret H locs ls 37 _ _ hw ⟨rfl, h⟩ rfl dX5_stateAfter_37
      have h := h.2 c6
      refine lv_aload_n hx hb dX5_stateAfter_14 rfl (lv_at hl 3 rfl) ?_
      refine lv_iload_n hx hb dX5_stateAfter_15 rfl (lv_at hl 2 rfl) ?_
      refine lv_iload hx hb dX5_stateAfter_16 (lv_at hl 1 rfl) ?_
      refine lv_iconst (v := (3 : Int32)) hx hb dX5_stateAfter_18 (by decide) ?_
      refine lv_irem hx hb dX5_stateAfter_19 (by decide) ?_
      refine T_calli hw (va_runU (own := "Leastreader$Plain") (As := [.int v4, .int (v3 - v3 / (3 : Int32) * (3 : Int32))]) (rest := []) ⟨hx, hb, hml, hown, ht⟩ (c_X7_at_5 k0 hk0 μ H.size v4 (v3 - v3 / (3 : Int32) * (3 : Int32)) h) (va_cwU (owner := "Leastreader$Table") 2 ht (G_U q_539 q_452 q_453 q_416 q_47 q_417) rfl rfl rfl rfl hd_0 ⟨Nat.le_of_ble_eq_true rfl, Nat.le_of_ble_eq_true rfl⟩) ⟨TB.blind, (T_recv hK hw (kd_of hk0 (by decide)) (ent_5 hk0) cl_5), TB.pre hK hN hw⟩ rfl rfl hl.1 rfl (lv_room (Nat.le_of_ble_eq_true rfl)) dX5_stateAfter_20 ⟨Nat.le_of_ble_eq_true rfl, Nat.le_of_ble_eq_true rfl⟩) (fun r7 μ8 H locs h hw => ?_)
      obtain ⟨e9, h⟩ := h
      rw [e9] at hw
      refine lv_istore_n (lv' := [(3, .int r7), (5, .int v2), (4, .int v3), (0, .ref (ad k0)), (1, .int v5)]) hx hb dX5_stateAfter_23 rfl hl (by decide) rfl (fun ls hl => ?_)
      refine lv_iload hx hb dX5_stateAfter_24 (lv_at hl 2 rfl) ?_
      refine lv_iconst (v := (3 : Int32)) hx hb dX5_stateAfter_26 (by decide) ?_
      refine lv_idiv hx hb dX5_stateAfter_27 (by decide) ?_
      refine lv_istore (lv' := [(4, .int (v3 / (3 : Int32))), (3, .int r7), (5, .int v2), (0, .ref (ad k0)), (1, .int v5)]) hx hb dX5_stateAfter_28 hl (by decide) rfl (fun ls hl => ?_)
      refine lv_iinc (v := (v2 + (1 : Int32))) (lv' := [(5, .int (v2 + (1 : Int32))), (4, .int (v3 / (3 : Int32))), (3, .int r7), (0, .ref (ad k0)), (1, .int v5)]) hx hb dX5_stateAfter_30 hl (k := 2) rfl rfl (by decide) rfl (fun ls hl => ?_)
      refine lv_goto (tgt := 8) hx hb dX5_stateAfter_33 (by decide) ?_
      exact ih0 (v2 + (1 : Int32)) (v3 / (3 : Int32)) r7 H locs ls hw (lv_sub hl [0, 1, 2, 3, 4] rfl) h
  exact L0 a1 n10 (0 : Int32) a2 (0 : Int32) H locs ls hw (lv_sub hl [0, 1, 2, 3, 4] rfl) h
def wpl_X2_statesAfter_11 (k0 : Nat) (μ : TMem) (v5 : Int32) (Q : Int32 → Prop) : Nat → Int32 → Int32 → Int32 → Prop
  | 0, _, _, _ => False
  | n + 1, v2, v3, v4 =>
    (v5 ≤ v2 → (Q v4)) ∧ (¬ v5 ≤ v2 → (wp_X2_reach k0 μ v4 (v3 - v3 / (3 : Int32) * (3 : Int32)) (fun (r7 : Int32) => wpl_X2_statesAfter_11 k0 μ v5 Q n (v2 + (1 : Int32)) (v3 / (3 : Int32)) r7)))
def wp_X2_statesAfter (k0 : Nat) (μ : TMem) (a1 : Int32) (a2 : Int32) (Q : Int32 → Prop) : Prop :=
  ∃ n0x, wpl_X2_statesAfter_11 k0 μ a1 Q n0x (0 : Int32) a2 (μ k0 3)
set_option maxHeartbeats 4000000 in
set_option maxRecDepth 100000 in
theorem c_X2_statesAfter {l : Launch} {D : va_G} {ad : Nat → Nat} {cI cM : ClassId} (k0 : Nat) (hk0 : kd k0 = 2) (μ : TMem) (sz : Nat) (a1 : Int32) (a2 : Int32) {Q : Int32 → Prop} (h : wp_X2_statesAfter k0 μ a1 a2 Q) : TMi l yX2_statesAfter (.code yX2_statesAfter cX2_statesAfter 6 (Option.some Jvm.ClassFile.FieldType.int)) 2 [.ref (ad k0), .int a1, .int a2] D ad cI cM sz μ (fun r μ1 => μ1 = μ ∧ Q r) := by
  refine T_meti (by decide +kernel) (Nat.le_of_ble_eq_true rfl) ?_
  intro p e s m below meth c Z ls hx hb hml hown ht hN hK hw hret hl
  have hl : lv_has ls 6 [(0, .ref (ad k0)), (1, .int a1), (2, .int a2)] := hl
  generalize s.heap = H at hw ⊢
  generalize ([] : List Loc) = locs at hw ⊢
  change ∃ n0x, wpl_X2_statesAfter_11 k0 μ a1 Q n0x (0 : Int32) a2 (μ k0 3) at h
  refine lv_aload_n hx hb dX2_statesAfter_0 rfl (lv_at hl 0 rfl) ?_
  refine gf_X2_9 hx hb ht hown hK hw hk0 dX2_statesAfter_1 ?_
  refine lv_istore_n (lv' := [(3, .int (μ k0 3)), (0, .ref (ad k0)), (1, .int a1), (2, .int a2)]) hx hb dX2_statesAfter_4 rfl hl (by decide) rfl (fun ls hl => ?_)
  refine lv_iload_n hx hb dX2_statesAfter_5 rfl (lv_at hl 3 rfl) ?_
  refine lv_istore (lv' := [(4, .int a2), (3, .int (μ k0 3)), (0, .ref (ad k0)), (1, .int a1), (2, .int a2)]) hx hb dX2_statesAfter_6 hl (by decide) rfl (fun ls hl => ?_)
  refine lv_iconst (v := (0 : Int32)) hx hb dX2_statesAfter_8 (by decide) ?_
  refine lv_istore (lv' := [(5, .int (0 : Int32)), (4, .int a2), (3, .int (μ k0 3)), (0, .ref (ad k0)), (1, .int a1), (2, .int a2)]) hx hb dX2_statesAfter_9 hl (by decide) rfl (fun ls hl => ?_)
  obtain ⟨n10, h⟩ := h
  have L0 : ∀ (v5 : Int32), ∀ (n : Nat) (v2 : Int32) (v3 : Int32) (v4 : Int32) (H : Heap) (locs : List Loc) (ls : Array Slot), TW D ad cI cM s μ H locs → lv_has ls 6 [(5, .int v2), (4, .int v3), (3, .int v4), (0, .ref (ad k0)), (1, .int v5)] → wpl_X2_statesAfter_11 k0 μ v5 Q n v2 v3 v4 → W p l e (RM 2) s m #[.ref (ad k0), .int a1, .int a2] below meth c H locs 0 0 Z (F0 m 11 ls []) := by
    intro v5
    intro n
    induction n with
    | zero => intro v2 v3 v4 H locs ls hw hl h; exact False.elim h
    | succ n ih0 =>
      intro v2 v3 v4 H locs ls hw hl h
      change (v5 ≤ v2 → (Q v4)) ∧ (¬ v5 ≤ v2 → (wp_X2_reach k0 μ v4 (v3 - v3 / (3 : Int32) * (3 : Int32)) (fun (r7 : Int32) => wpl_X2_statesAfter_11 k0 μ v5 Q n (v2 + (1 : Int32)) (v3 / (3 : Int32)) r7))) at h
      refine lv_iload hx hb dX2_statesAfter_11 (lv_at hl 0 rfl) ?_
      refine lv_iload_n hx hb dX2_statesAfter_13 rfl (lv_at hl 4 rfl) ?_
      refine lv_icmp_ge (tgt := 39) hx hb dX2_statesAfter_14 (by decide) (fun c6 => ?_) (fun c6 => ?_)
      · have h := h.1 c6
        refine lv_iload_n hx hb dX2_statesAfter_39 rfl (lv_at hl 2 rfl) ?_
        exact hret H locs ls 40 _ _ hw ⟨rfl, h⟩ rfl dX2_statesAfter_40
      have h := h.2 c6
      refine lv_aload_n hx hb dX2_statesAfter_17 rfl (lv_at hl 3 rfl) ?_
      refine lv_iload_n hx hb dX2_statesAfter_18 rfl (lv_at hl 2 rfl) ?_
      refine lv_iload hx hb dX2_statesAfter_19 (lv_at hl 1 rfl) ?_
      refine lv_iconst (v := (3 : Int32)) hx hb dX2_statesAfter_21 (by decide) ?_
      refine lv_irem hx hb dX2_statesAfter_22 (by decide) ?_
      refine T_calli hw (va_runV (own := "Leastreader$Machine") (As := [.int v4, .int (v3 - v3 / (3 : Int32) * (3 : Int32))]) (rest := []) ⟨hx, hb, hml, hown, ht⟩ (c_X2_reach k0 hk0 μ H.size v4 (v3 - v3 / (3 : Int32) * (3 : Int32)) h) (cwV 2 ht (G_V q_549 q_406 q_407 q_48 q_408) rfl rfl rfl ⟨rfl, hd_10⟩ ⟨Nat.le_of_ble_eq_true rfl, Nat.le_of_ble_eq_true rfl⟩) ⟨TB.blind, (T_recv hK hw (kd_of hk0 (by decide)) (ent_2 hk0) cl_2), TB.pre hK hN hw⟩ rfl rfl hl.1 rfl (lv_room (Nat.le_of_ble_eq_true rfl)) dX2_statesAfter_23 ⟨Nat.le_of_ble_eq_true rfl, Nat.le_of_ble_eq_true rfl⟩) (fun r7 μ8 H locs h hw => ?_)
      obtain ⟨e9, h⟩ := h
      rw [e9] at hw
      refine lv_istore_n (lv' := [(3, .int r7), (5, .int v2), (4, .int v3), (0, .ref (ad k0)), (1, .int v5)]) hx hb dX2_statesAfter_26 rfl hl (by decide) rfl (fun ls hl => ?_)
      refine lv_iload hx hb dX2_statesAfter_27 (lv_at hl 2 rfl) ?_
      refine lv_iconst (v := (3 : Int32)) hx hb dX2_statesAfter_29 (by decide) ?_
      refine lv_idiv hx hb dX2_statesAfter_30 (by decide) ?_
      refine lv_istore (lv' := [(4, .int (v3 / (3 : Int32))), (3, .int r7), (5, .int v2), (0, .ref (ad k0)), (1, .int v5)]) hx hb dX2_statesAfter_31 hl (by decide) rfl (fun ls hl => ?_)
      refine lv_iinc (v := (v2 + (1 : Int32))) (lv' := [(5, .int (v2 + (1 : Int32))), (4, .int (v3 / (3 : Int32))), (3, .int r7), (0, .ref (ad k0)), (1, .int v5)]) hx hb dX2_statesAfter_33 hl (k := 2) rfl rfl (by decide) rfl (fun ls hl => ?_)
      refine lv_goto (tgt := 11) hx hb dX2_statesAfter_36 (by decide) ?_
      exact ih0 (v2 + (1 : Int32)) (v3 / (3 : Int32)) r7 H locs ls hw (lv_sub hl [0, 1, 2, 3, 4] rfl) h
  exact L0 a1 n10 (0 : Int32) a2 (μ k0 3) H locs ls hw (lv_sub hl [0, 1, 2, 3, 4] rfl) h
def wp_X2_isTaking (k0 : Nat) (μ : TMem) (a1 : Int32) (a2 : Int32) (Q : Int32 → Prop) : Prop :=
  wp_X2_statesAfter k0 μ a1 a2 (fun (r1 : Int32) => ((r1 &&& (μ k0 2)) = 0 → (Q (0 : Int32))) ∧ (¬ (r1 &&& (μ k0 2)) = 0 → (Q (1 : Int32))))
set_option maxHeartbeats 4000000 in
set_option maxRecDepth 100000 in
theorem c_X2_isTaking {l : Launch} {D : va_G} {ad : Nat → Nat} {cI cM : ClassId} (k0 : Nat) (hk0 : kd k0 = 2) (μ : TMem) (sz : Nat) (a1 : Int32) (a2 : Int32) {Q : Int32 → Prop} (h : wp_X2_isTaking k0 μ a1 a2 Q) : TMi l yX2_isTaking (.code yX2_isTaking cX2_isTaking 3 (Option.some Jvm.ClassFile.FieldType.boolean)) 3 [.ref (ad k0), .int a1, .int a2] D ad cI cM sz μ (fun r μ1 => μ1 = μ ∧ Q r) := by
  refine T_meti (by decide +kernel) (Nat.le_of_ble_eq_true rfl) ?_
  intro p e s m below meth c Z ls hx hb hml hown ht hN hK hw hret hl
  have hl : lv_has ls 3 [(0, .ref (ad k0)), (1, .int a1), (2, .int a2)] := hl
  generalize s.heap = H at hw ⊢
  generalize ([] : List Loc) = locs at hw ⊢
  change wp_X2_statesAfter k0 μ a1 a2 (fun (r1 : Int32) => ((r1 &&& (μ k0 2)) = 0 → (Q (0 : Int32))) ∧ (¬ (r1 &&& (μ k0 2)) = 0 → (Q (1 : Int32)))) at h
  refine lv_aload_n hx hb dX2_isTaking_0 rfl (lv_at hl 0 rfl) ?_
  refine lv_iload_n hx hb dX2_isTaking_1 rfl (lv_at hl 1 rfl) ?_
  refine lv_iload_n hx hb dX2_isTaking_2 rfl (lv_at hl 2 rfl) ?_
  refine T_calli hw (va_runV (own := "Leastreader$Machine") (As := [.int a1, .int a2]) (rest := []) ⟨hx, hb, hml, hown, ht⟩ (c_X2_statesAfter k0 hk0 μ H.size a1 a2 h) (cwV 2 ht (G_V q_545 q_546 q_547 q_48 q_548) rfl rfl rfl ⟨rfl, hd_29⟩ ⟨Nat.le_of_ble_eq_true rfl, Nat.le_of_ble_eq_true rfl⟩) ⟨TB.blind, (T_recv hK hw (kd_of hk0 (by decide)) (ent_2 hk0) cl_2), TB.pre hK hN hw⟩ rfl rfl hl.1 rfl (lv_room (Nat.le_of_ble_eq_true rfl)) dX2_isTaking_3 ⟨Nat.le_of_ble_eq_true rfl, Nat.le_of_ble_eq_true rfl⟩) (fun r1 μ2 H locs h hw => ?_)
  obtain ⟨e3, h⟩ := h
  rw [e3] at hw
  refine lv_aload_n hx hb dX2_isTaking_6 rfl (lv_at hl 0 rfl) ?_
  refine gf_X2_18 hx hb ht hown hK hw hk0 dX2_isTaking_7 ?_
  refine lv_iand hx hb dX2_isTaking_10 ?_
  refine lv_if_eq (tgt := 18) hx hb dX2_isTaking_11 (by decide) (fun c4 => ?_) (fun c4 => ?_)
  · have h := h.1 c4
    refine lv_iconst (v := (0 : Int32)) hx hb dX2_isTaking_18 (by decide) ?_
    exact hret H locs ls 19 _ _ hw ⟨rfl, h⟩ rfl dX2_isTaking_19
  have h := h.2 c4
  refine lv_iconst (v := (1 : Int32)) hx hb dX2_isTaking_14 (by decide) ?_
  refine lv_goto (tgt := 19) hx hb dX2_isTaking_15 (by decide) ?_
  exact hret H locs ls 19 _ _ hw ⟨rfl, h⟩ rfl dX2_isTaking_19
