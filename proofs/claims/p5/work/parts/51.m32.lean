def wp_X9_sow (μ : TMem) (a1 : Int32) (a2 : Int32) (a3 : Int32) (a4 : Int32) (Q : Int32 → TMem → Prop) (X : String → TMem → Prop) : Prop :=
  wp_X9_machineAt μ a1 (fun (k2 : Nat) (μ1 : TMem) => wp_X9_checkRange μ1 a2 (0 : Int32) (65535 : Int32) (fun (μ3 : TMem) => wp_X9_checkRange μ3 a3 (1 : Int32) (7 : Int32) (fun (μ4 : TMem) => wp_X9_checkRange μ4 a4 (0 : Int32) (6 : Int32) (fun (μ5 : TMem) => wp_X0_restart μ5 a2 (fun (μ6 : TMem) => wp_X2_clear k2 μ6 a3 (fun (μ7 : TMem) => wp_X2_sowArrows k2 μ7 a4 (fun (μ8 : TMem) => wp_X2_sowGoals k2 μ8 (fun (μ9 : TMem) => wp_X2_countArrows k2 μ9 (fun (r10 : Int32) => wp_X9_acted μ9 r10 (fun (r14 : Int32) (μ13 : TMem) => Q r14 μ13))))))) X) X) X) X
set_option maxHeartbeats 4000000 in
set_option maxRecDepth 100000 in
theorem c_X9_sow {l : Launch} (hst : l.stackTraces = false) {D : va_G} {ad : Nat → Nat} {cI cM : ClassId}  (μ : TMem) (sz : Nat) (a1 : Int32) (a2 : Int32) (a3 : Int32) (a4 : Int32) {Q : Int32 → TMem → Prop} {X : String → TMem → Prop} (h : wp_X9_sow μ a1 a2 a3 a4 Q X) : XMi l yX9_sow (.code yX9_sow cX9_sow 6 (Option.some Jvm.ClassFile.FieldType.int)) 3 4 24 [.ref (ad 0), .int a1, .int a2, .int a3, .int a4] D ad cI cM sz μ Q X := by
  refine X_meti (by decide +kernel) (Nat.le_of_ble_eq_true rfl) ?_
  intro p e s m below meth c Qc ls hx hb hml hown ht hN hK hX htab hlocks hw hret hl
  have hl : lv_has ls 6 [(0, .ref (ad 0)), (1, .int a1), (2, .int a2), (3, .int a3), (4, .int a4)] := hl
  suffices hh : ∀ (H : Heap) (locs : List Loc), TW D ad cI cM s μ H locs → W p l e (RX 3 4 24) s m #[.ref (ad 0), .int a1, .int a2, .int a3, .int a4] below meth c H locs 0 0 (vx_MQ below Qc (vx_X (fun _ : TMem => True) (TEX D ad cI cM X) (TA ad s.heap.size)) #[.ref (ad 0), .int a1, .int a2, .int a3, .int a4] s 4 24 (TA ad s.heap.size)) (F0 m 0 ls []) from hh _ _ hw
  intro H locs hw
  change wp_X9_machineAt μ a1 (fun (k2 : Nat) (μ1 : TMem) => wp_X9_checkRange μ1 a2 (0 : Int32) (65535 : Int32) (fun (μ3 : TMem) => wp_X9_checkRange μ3 a3 (1 : Int32) (7 : Int32) (fun (μ4 : TMem) => wp_X9_checkRange μ4 a4 (0 : Int32) (6 : Int32) (fun (μ5 : TMem) => wp_X0_restart μ5 a2 (fun (μ6 : TMem) => wp_X2_clear k2 μ6 a3 (fun (μ7 : TMem) => wp_X2_sowArrows k2 μ7 a4 (fun (μ8 : TMem) => wp_X2_sowGoals k2 μ8 (fun (μ9 : TMem) => wp_X2_countArrows k2 μ9 (fun (r10 : Int32) => wp_X9_acted μ9 r10 (fun (r14 : Int32) (μ13 : TMem) => Q r14 μ13))))))) X) X) X) X at h
  refine lv_aload_n hx hb dX9_sow_0 rfl (lv_at hl 0 rfl) ?_
  refine lv_iload_n hx hb dX9_sow_1 rfl (lv_at hl 1 rfl) ?_
  refine X_callo hw htab hlocks (c1 := 1) (n1 := 6) rfl rfl (Nat.le_of_ble_eq_true rfl) (Nat.le_of_ble_eq_true rfl) (vx_runV (own := "Leastreader") (As := [.int a1]) (rest := []) ⟨hx, hb, hml, hown, ht⟩ (c_X9_machineAt hst μ H.size a1 h) (cwV 1 ht (G_V q_314 q_316 q_0 q_46 q_317) rfl rfl rfl ⟨rfl, hd_53⟩ ⟨Nat.le_of_ble_eq_true rfl, Nat.le_of_ble_eq_true rfl⟩) ⟨TBX.blind, (T_recv hK hw (kd_of rfl (by decide)) (ent_8 rfl) cl_8), TBX.pre hK hN hX hw⟩ rfl rfl hl.1 rfl (lv_room (Nat.le_of_ble_eq_true rfl)) dX9_sow_2 ⟨Nat.le_of_ble_eq_true rfl, Nat.le_of_ble_eq_true rfl⟩) (fun k2 μ1 H locs hk2 h hw => ?_)
  refine lv_astore (lv' := [(5, .ref (ad k2)), (0, .ref (ad 0)), (1, .int a1), (2, .int a2), (3, .int a3), (4, .int a4)]) hx hb dX9_sow_5 hl (by decide) rfl (fun ls hl => ?_)
  refine lv_iload_n hx hb dX9_sow_7 rfl (lv_at hl 3 rfl) ?_
  refine lv_iconst (v := (0 : Int32)) hx hb dX9_sow_8 (by decide) ?_
  refine lv_ldc (v := (65535 : Int32)) hx hb hown (ht _ q_666) dX9_sow_9 ?_
  refine X_callv hw htab hlocks (c1 := 2) (n1 := 12) rfl rfl (Nat.le_of_ble_eq_true rfl) (Nat.le_of_ble_eq_true rfl) (vx_runS (own := "Leastreader") (As := [.int a2, .int (0 : Int32), .int (65535 : Int32)]) (rest := []) ⟨hx, hb, hml, hown, ht⟩ (c_X9_checkRange hst μ1 H.size a2 (0 : Int32) (65535 : Int32) h) (va_cwS 3 ht (G_S q_597 q_598 q_46 q_599) rfl rfl rfl hd_54 ⟨Nat.le_of_ble_eq_true rfl, Nat.le_of_ble_eq_true rfl⟩) ⟨TBX.blind, TBX.pre hK hN hX hw⟩ rfl rfl hl.1 rfl (lv_room (Nat.le_of_ble_eq_true rfl)) dX9_sow_11 ⟨Nat.le_of_ble_eq_true rfl, Nat.le_of_ble_eq_true rfl⟩) (fun μ3 H locs h hw => ?_)
  refine lv_iload_n hx hb dX9_sow_14 rfl (lv_at hl 4 rfl) ?_
  refine lv_iconst (v := (1 : Int32)) hx hb dX9_sow_15 (by decide) ?_
  refine lv_bipush (v := (7 : Int32)) hx hb dX9_sow_16 (by decide) ?_
  refine X_callv hw htab hlocks (c1 := 3) (n1 := 18) rfl rfl (Nat.le_of_ble_eq_true rfl) (Nat.le_of_ble_eq_true rfl) (vx_runS (own := "Leastreader") (As := [.int a3, .int (1 : Int32), .int (7 : Int32)]) (rest := []) ⟨hx, hb, hml, hown, ht⟩ (c_X9_checkRange hst μ3 H.size a3 (1 : Int32) (7 : Int32) h) (va_cwS 3 ht (G_S q_597 q_598 q_46 q_599) rfl rfl rfl hd_54 ⟨Nat.le_of_ble_eq_true rfl, Nat.le_of_ble_eq_true rfl⟩) ⟨TBX.blind, TBX.pre hK hN hX hw⟩ rfl rfl hl.1 rfl (lv_room (Nat.le_of_ble_eq_true rfl)) dX9_sow_18 ⟨Nat.le_of_ble_eq_true rfl, Nat.le_of_ble_eq_true rfl⟩) (fun μ4 H locs h hw => ?_)
  refine lv_iload hx hb dX9_sow_21 (lv_at hl 5 rfl) ?_
  refine lv_iconst (v := (0 : Int32)) hx hb dX9_sow_23 (by decide) ?_
  refine lv_bipush (v := (6 : Int32)) hx hb dX9_sow_24 (by decide) ?_
  refine X_callv hw htab hlocks (c1 := 4) (n1 := 24) rfl rfl (Nat.le_of_ble_eq_true rfl) (Nat.le_of_ble_eq_true rfl) (vx_runS (own := "Leastreader") (As := [.int a4, .int (0 : Int32), .int (6 : Int32)]) (rest := []) ⟨hx, hb, hml, hown, ht⟩ (c_X9_checkRange hst μ4 H.size a4 (0 : Int32) (6 : Int32) h) (va_cwS 3 ht (G_S q_597 q_598 q_46 q_599) rfl rfl rfl hd_54 ⟨Nat.le_of_ble_eq_true rfl, Nat.le_of_ble_eq_true rfl⟩) ⟨TBX.blind, TBX.pre hK hN hX hw⟩ rfl rfl hl.1 rfl (lv_room (Nat.le_of_ble_eq_true rfl)) dX9_sow_26 ⟨Nat.le_of_ble_eq_true rfl, Nat.le_of_ble_eq_true rfl⟩) (fun μ5 H locs h hw => ?_)
  refine lv_aload_n hx hb dX9_sow_29 rfl (lv_at hl 1 rfl) ?_
  refine gf_X9_28 hx hb ht hown hK hw rfl dX9_sow_30 ?_
  refine lv_iload_n hx hb dX9_sow_33 rfl (lv_at hl 3 rfl) ?_
  refine T_callv hw (va_runV (own := "Leastreader") (As := [.int a2]) (rest := []) ⟨hx, hb, hml, hown, ht⟩ (c_X0_restart μ5 H.size a2 h) (cwV 1 ht (G_V q_667 q_668 q_669 q_49 q_670) rfl rfl rfl ⟨rfl, hd_58⟩ ⟨Nat.le_of_ble_eq_true rfl, Nat.le_of_ble_eq_true rfl⟩) ⟨TB.blind, (T_recv hK hw (kd_of rfl (by decide)) (ent_0 rfl) cl_0), TB.pre hK hN hw⟩ rfl rfl hl.1 rfl (lv_room (Nat.le_of_ble_eq_true rfl)) dX9_sow_34 ⟨Nat.le_of_ble_eq_true rfl, Nat.le_of_ble_eq_true rfl⟩) (fun μ6 H locs h hw => ?_)
  refine lv_aload hx hb dX9_sow_37 (lv_at hl 0 rfl) ?_
  refine lv_iload_n hx hb dX9_sow_39 rfl (lv_at hl 4 rfl) ?_
  refine T_callv hw (va_runV (own := "Leastreader") (As := [.int a3]) (rest := []) ⟨hx, hb, hml, hown, ht⟩ (c_X2_clear k2 hk2 μ6 H.size a3 h) (cwV 1 ht (G_V q_616 q_617 q_618 q_48 q_619) rfl rfl rfl ⟨rfl, hd_55⟩ ⟨Nat.le_of_ble_eq_true rfl, Nat.le_of_ble_eq_true rfl⟩) ⟨TB.blind, (T_recv hK hw (kd_of hk2 (by decide)) (ent_2 hk2) cl_2), TB.pre hK hN hw⟩ rfl rfl hl.1 rfl (lv_room (Nat.le_of_ble_eq_true rfl)) dX9_sow_40 ⟨Nat.le_of_ble_eq_true rfl, Nat.le_of_ble_eq_true rfl⟩) (fun μ7 H locs h hw => ?_)
  refine lv_aload hx hb dX9_sow_43 (lv_at hl 0 rfl) ?_
  refine lv_aload_n hx hb dX9_sow_45 rfl (lv_at hl 1 rfl) ?_
  refine gf_X9_28 hx hb ht hown hK hw rfl dX9_sow_46 ?_
  refine lv_iload hx hb dX9_sow_49 (lv_at hl 5 rfl) ?_
  refine T_callv hw (va_runV (own := "Leastreader") (As := [.ref (ad 14), .int a4]) (rest := []) ⟨hx, hb, hml, hown, ht⟩ (c_X2_sowArrows k2 hk2 μ7 H.size a4 h) (cwV 2 ht (G_V q_671 q_672 q_673 q_48 q_674) rfl rfl rfl ⟨rfl, hd_59⟩ ⟨Nat.le_of_ble_eq_true rfl, Nat.le_of_ble_eq_true rfl⟩) ⟨TB.blind, (T_recv hK hw (kd_of hk2 (by decide)) (ent_2 hk2) cl_2), TB.pre hK hN hw⟩ rfl rfl hl.1 rfl (lv_room (Nat.le_of_ble_eq_true rfl)) dX9_sow_51 ⟨Nat.le_of_ble_eq_true rfl, Nat.le_of_ble_eq_true rfl⟩) (fun μ8 H locs h hw => ?_)
  refine lv_aload hx hb dX9_sow_54 (lv_at hl 0 rfl) ?_
  refine lv_aload_n hx hb dX9_sow_56 rfl (lv_at hl 1 rfl) ?_
  refine gf_X9_28 hx hb ht hown hK hw rfl dX9_sow_57 ?_
  refine T_callv hw (va_runV (own := "Leastreader") (As := [.ref (ad 14)]) (rest := []) ⟨hx, hb, hml, hown, ht⟩ (c_X2_sowGoals k2 hk2 μ8 H.size h) (cwV 1 ht (G_V q_688 q_689 q_690 q_48 q_691) rfl rfl rfl ⟨rfl, hd_60⟩ ⟨Nat.le_of_ble_eq_true rfl, Nat.le_of_ble_eq_true rfl⟩) ⟨TB.blind, (T_recv hK hw (kd_of hk2 (by decide)) (ent_2 hk2) cl_2), TB.pre hK hN hw⟩ rfl rfl hl.1 rfl (lv_room (Nat.le_of_ble_eq_true rfl)) dX9_sow_60 ⟨Nat.le_of_ble_eq_true rfl, Nat.le_of_ble_eq_true rfl⟩) (fun μ9 H locs h hw => ?_)
  refine lv_aload_n hx hb dX9_sow_63 rfl (lv_at hl 1 rfl) ?_
  refine lv_aload hx hb dX9_sow_64 (lv_at hl 0 rfl) ?_
  refine T_calli hw (va_runV (own := "Leastreader") (As := []) (rest := [.ref (ad 0)]) ⟨hx, hb, hml, hown, ht⟩ (c_X2_countArrows k2 hk2 μ9 H.size h) (cwV 0 ht (G_V q_559 q_560 q_561 q_48 q_562) rfl rfl rfl ⟨rfl, hd_34⟩ ⟨Nat.le_of_ble_eq_true rfl, Nat.le_of_ble_eq_true rfl⟩) ⟨TB.blind, (T_recv hK hw (kd_of hk2 (by decide)) (ent_2 hk2) cl_2), TB.pre hK hN hw⟩ rfl rfl hl.1 rfl (lv_room (Nat.le_of_ble_eq_true rfl)) dX9_sow_66 ⟨Nat.le_of_ble_eq_true rfl, Nat.le_of_ble_eq_true rfl⟩) (fun r10 μ11 H locs h hw => ?_)
  obtain ⟨e12, h⟩ := h
  rw [e12] at hw
  refine T_calli hw (va_runV (own := "Leastreader") (As := [.int r10]) (rest := []) ⟨hx, hb, hml, hown, ht⟩ (c_X9_acted μ9 H.size r10 h) (cwV 1 ht (G_V q_624 q_626 q_13 q_46 q_627) rfl rfl rfl ⟨rfl, hd_3⟩ ⟨Nat.le_of_ble_eq_true rfl, Nat.le_of_ble_eq_true rfl⟩) ⟨TB.blind, (T_recv hK hw (kd_of rfl (by decide)) (ent_8 rfl) cl_8), TB.pre hK hN hw⟩ rfl rfl hl.1 rfl (lv_room (Nat.le_of_ble_eq_true rfl)) dX9_sow_69 ⟨Nat.le_of_ble_eq_true rfl, Nat.le_of_ble_eq_true rfl⟩) (fun r14 μ13 H locs h hw => ?_)
  exact hret H locs ls 72 4 24 _ _ hw h rfl (Nat.le_of_ble_eq_true rfl) (Nat.le_of_ble_eq_true rfl) dX9_sow_72
def wp_X9_copy (μ : TMem) (a1 : Int32) (a2 : Int32) (Q : Int32 → TMem → Prop) (X : String → TMem → Prop) : Prop :=
  wp_X9_machineAt μ a1 (fun (k2 : Nat) (μ1 : TMem) => wp_X9_machineAt μ1 a2 (fun (k4 : Nat) (μ3 : TMem) => wp_X2_isSameAs k4 k2 μ3 (fun (r5 : Int32) => wp_X2_become k4 k2 μ3 (fun (μ8 : TMem) => (r5 = 0 → (wp_X9_acted μ8 (1 : Int32) (fun (r11 : Int32) (μ10 : TMem) => Q r11 μ10))) ∧ (¬ r5 = 0 → (wp_X9_acted μ8 (0 : Int32) (fun (r13 : Int32) (μ12 : TMem) => Q r13 μ12)))))) X) X
set_option maxHeartbeats 4000000 in
set_option maxRecDepth 100000 in
theorem c_X9_copy {l : Launch} (hst : l.stackTraces = false) {D : va_G} {ad : Nat → Nat} {cI cM : ClassId}  (μ : TMem) (sz : Nat) (a1 : Int32) (a2 : Int32) {Q : Int32 → TMem → Prop} {X : String → TMem → Prop} (h : wp_X9_copy μ a1 a2 Q X) : XMi l yX9_copy (.code yX9_copy cX9_copy 6 (Option.some Jvm.ClassFile.FieldType.int)) 3 2 12 [.ref (ad 0), .int a1, .int a2] D ad cI cM sz μ Q X := by
  refine X_meti (by decide +kernel) (Nat.le_of_ble_eq_true rfl) ?_
  intro p e s m below meth c Qc ls hx hb hml hown ht hN hK hX htab hlocks hw hret hl
  have hl : lv_has ls 6 [(0, .ref (ad 0)), (1, .int a1), (2, .int a2)] := hl
  suffices hh : ∀ (H : Heap) (locs : List Loc), TW D ad cI cM s μ H locs → W p l e (RX 3 2 12) s m #[.ref (ad 0), .int a1, .int a2] below meth c H locs 0 0 (vx_MQ below Qc (vx_X (fun _ : TMem => True) (TEX D ad cI cM X) (TA ad s.heap.size)) #[.ref (ad 0), .int a1, .int a2] s 2 12 (TA ad s.heap.size)) (F0 m 0 ls []) from hh _ _ hw
  intro H locs hw
  change wp_X9_machineAt μ a1 (fun (k2 : Nat) (μ1 : TMem) => wp_X9_machineAt μ1 a2 (fun (k4 : Nat) (μ3 : TMem) => wp_X2_isSameAs k4 k2 μ3 (fun (r5 : Int32) => wp_X2_become k4 k2 μ3 (fun (μ8 : TMem) => (r5 = 0 → (wp_X9_acted μ8 (1 : Int32) (fun (r11 : Int32) (μ10 : TMem) => Q r11 μ10))) ∧ (¬ r5 = 0 → (wp_X9_acted μ8 (0 : Int32) (fun (r13 : Int32) (μ12 : TMem) => Q r13 μ12)))))) X) X at h
  refine lv_aload_n hx hb dX9_copy_0 rfl (lv_at hl 0 rfl) ?_
  refine lv_iload_n hx hb dX9_copy_1 rfl (lv_at hl 1 rfl) ?_
  refine X_callo hw htab hlocks (c1 := 1) (n1 := 6) rfl rfl (Nat.le_of_ble_eq_true rfl) (Nat.le_of_ble_eq_true rfl) (vx_runV (own := "Leastreader") (As := [.int a1]) (rest := []) ⟨hx, hb, hml, hown, ht⟩ (c_X9_machineAt hst μ H.size a1 h) (cwV 1 ht (G_V q_314 q_316 q_0 q_46 q_317) rfl rfl rfl ⟨rfl, hd_53⟩ ⟨Nat.le_of_ble_eq_true rfl, Nat.le_of_ble_eq_true rfl⟩) ⟨TBX.blind, (T_recv hK hw (kd_of rfl (by decide)) (ent_8 rfl) cl_8), TBX.pre hK hN hX hw⟩ rfl rfl hl.1 rfl (lv_room (Nat.le_of_ble_eq_true rfl)) dX9_copy_2 ⟨Nat.le_of_ble_eq_true rfl, Nat.le_of_ble_eq_true rfl⟩) (fun k2 μ1 H locs hk2 h hw => ?_)
  refine lv_astore_n (lv' := [(3, .ref (ad k2)), (0, .ref (ad 0)), (1, .int a1), (2, .int a2)]) hx hb dX9_copy_5 rfl hl (by decide) rfl (fun ls hl => ?_)
  refine lv_aload_n hx hb dX9_copy_6 rfl (lv_at hl 1 rfl) ?_
  refine lv_iload_n hx hb dX9_copy_7 rfl (lv_at hl 3 rfl) ?_
  refine X_callo hw htab hlocks (c1 := 2) (n1 := 12) rfl rfl (Nat.le_of_ble_eq_true rfl) (Nat.le_of_ble_eq_true rfl) (vx_runV (own := "Leastreader") (As := [.int a2]) (rest := []) ⟨hx, hb, hml, hown, ht⟩ (c_X9_machineAt hst μ1 H.size a2 h) (cwV 1 ht (G_V q_314 q_316 q_0 q_46 q_317) rfl rfl rfl ⟨rfl, hd_53⟩ ⟨Nat.le_of_ble_eq_true rfl, Nat.le_of_ble_eq_true rfl⟩) ⟨TBX.blind, (T_recv hK hw (kd_of rfl (by decide)) (ent_8 rfl) cl_8), TBX.pre hK hN hX hw⟩ rfl rfl hl.1 rfl (lv_room (Nat.le_of_ble_eq_true rfl)) dX9_copy_8 ⟨Nat.le_of_ble_eq_true rfl, Nat.le_of_ble_eq_true rfl⟩) (fun k4 μ3 H locs hk4 h hw => ?_)
  refine lv_astore (lv' := [(4, .ref (ad k4)), (3, .ref (ad k2)), (0, .ref (ad 0)), (1, .int a1), (2, .int a2)]) hx hb dX9_copy_11 hl (by decide) rfl (fun ls hl => ?_)
  refine lv_aload hx hb dX9_copy_13 (lv_at hl 0 rfl) ?_
  refine lv_aload_n hx hb dX9_copy_15 rfl (lv_at hl 1 rfl) ?_
  refine T_calli hw (va_runV (own := "Leastreader") (As := [.ref (ad k2)]) (rest := []) ⟨hx, hb, hml, hown, ht⟩ (c_X2_isSameAs k4 hk4 k2 hk2 μ3 H.size h) (cwV 1 ht (G_V q_699 q_700 q_701 q_48 q_702) rfl rfl rfl ⟨rfl, hd_61⟩ ⟨Nat.le_of_ble_eq_true rfl, Nat.le_of_ble_eq_true rfl⟩) ⟨TB.blind, (T_recv hK hw (kd_of hk4 (by decide)) (ent_2 hk4) cl_2), TB.pre hK hN hw⟩ rfl rfl hl.1 rfl (lv_room (Nat.le_of_ble_eq_true rfl)) dX9_copy_16 ⟨Nat.le_of_ble_eq_true rfl, Nat.le_of_ble_eq_true rfl⟩) (fun r5 μ6 H locs h hw => ?_)
  obtain ⟨e7, h⟩ := h
  rw [e7] at hw
  refine lv_istore (lv' := [(5, .int r5), (4, .ref (ad k4)), (3, .ref (ad k2)), (0, .ref (ad 0)), (1, .int a1), (2, .int a2)]) hx hb dX9_copy_19 hl (by decide) rfl (fun ls hl => ?_)
  refine lv_aload hx hb dX9_copy_21 (lv_at hl 1 rfl) ?_
  refine lv_aload_n hx hb dX9_copy_23 rfl (lv_at hl 2 rfl) ?_
  refine T_callv hw (va_runV (own := "Leastreader") (As := [.ref (ad k2)]) (rest := []) ⟨hx, hb, hml, hown, ht⟩ (c_X2_become k4 hk4 k2 hk2 μ3 H.size h) (cwV 1 ht (G_V q_706 q_707 q_708 q_48 q_709) rfl rfl rfl ⟨rfl, hd_62⟩ ⟨Nat.le_of_ble_eq_true rfl, Nat.le_of_ble_eq_true rfl⟩) ⟨TB.blind, (T_recv hK hw (kd_of hk4 (by decide)) (ent_2 hk4) cl_2), TB.pre hK hN hw⟩ rfl rfl hl.1 rfl (lv_room (Nat.le_of_ble_eq_true rfl)) dX9_copy_24 ⟨Nat.le_of_ble_eq_true rfl, Nat.le_of_ble_eq_true rfl⟩) (fun μ8 H locs h hw => ?_)
  refine lv_aload_n hx hb dX9_copy_27 rfl (lv_at hl 3 rfl) ?_
  refine lv_iload hx hb dX9_copy_28 (lv_at hl 0 rfl) ?_
  refine lv_if_eq (tgt := 37) hx hb dX9_copy_30 (by decide) (fun c9 => ?_) (fun c9 => ?_)
  · have h := h.1 c9
    refine lv_iconst (v := (1 : Int32)) hx hb dX9_copy_37 (by decide) ?_
    refine T_calli hw (va_runV (own := "Leastreader") (As := [.int (1 : Int32)]) (rest := []) ⟨hx, hb, hml, hown, ht⟩ (c_X9_acted μ8 H.size (1 : Int32) h) (cwV 1 ht (G_V q_624 q_626 q_13 q_46 q_627) rfl rfl rfl ⟨rfl, hd_3⟩ ⟨Nat.le_of_ble_eq_true rfl, Nat.le_of_ble_eq_true rfl⟩) ⟨TB.blind, (T_recv hK hw (kd_of rfl (by decide)) (ent_8 rfl) cl_8), TB.pre hK hN hw⟩ rfl rfl hl.1 rfl (lv_room (Nat.le_of_ble_eq_true rfl)) dX9_copy_38 ⟨Nat.le_of_ble_eq_true rfl, Nat.le_of_ble_eq_true rfl⟩) (fun r11 μ10 H locs h hw => ?_)
    exact hret H locs ls 41 2 12 _ _ hw h rfl (Nat.le_of_ble_eq_true rfl) (Nat.le_of_ble_eq_true rfl) dX9_copy_41
  have h := h.2 c9
  refine lv_iconst (v := (0 : Int32)) hx hb dX9_copy_33 (by decide) ?_
  refine lv_goto (tgt := 38) hx hb dX9_copy_34 (by decide) ?_
  refine T_calli hw (va_runV (own := "Leastreader") (As := [.int (0 : Int32)]) (rest := []) ⟨hx, hb, hml, hown, ht⟩ (c_X9_acted μ8 H.size (0 : Int32) h) (cwV 1 ht (G_V q_624 q_626 q_13 q_46 q_627) rfl rfl rfl ⟨rfl, hd_3⟩ ⟨Nat.le_of_ble_eq_true rfl, Nat.le_of_ble_eq_true rfl⟩) ⟨TB.blind, (T_recv hK hw (kd_of rfl (by decide)) (ent_8 rfl) cl_8), TB.pre hK hN hw⟩ rfl rfl hl.1 rfl (lv_room (Nat.le_of_ble_eq_true rfl)) dX9_copy_38 ⟨Nat.le_of_ble_eq_true rfl, Nat.le_of_ble_eq_true rfl⟩) (fun r13 μ12 H locs h hw => ?_)
  exact hret H locs ls 41 2 12 _ _ hw h rfl (Nat.le_of_ble_eq_true rfl) (Nat.le_of_ble_eq_true rfl) dX9_copy_41
def wp_X9_swap (μ : TMem) (a1 : Int32) (a2 : Int32) (Q : Int32 → TMem → Prop) (X : String → TMem → Prop) : Prop :=
  wp_X9_machineAt μ a1 (fun (k2 : Nat) (μ1 : TMem) => wp_X9_machineAt μ1 a2 (fun (k4 : Nat) (μ3 : TMem) => wp_X2_isSameAs k2 k4 μ3 (fun (r5 : Int32) => wp_X2_become 10 k2 μ3 (fun (μ8 : TMem) => wp_X2_become k2 k4 μ8 (fun (μ9 : TMem) => wp_X2_become k4 10 μ9 (fun (μ10 : TMem) => (r5 = 0 → (wp_X9_acted μ10 (1 : Int32) (fun (r13 : Int32) (μ12 : TMem) => Q r13 μ12))) ∧ (¬ r5 = 0 → (wp_X9_acted μ10 (0 : Int32) (fun (r15 : Int32) (μ14 : TMem) => Q r15 μ14)))))))) X) X
set_option maxHeartbeats 4000000 in
set_option maxRecDepth 100000 in
theorem c_X9_swap {l : Launch} (hst : l.stackTraces = false) {D : va_G} {ad : Nat → Nat} {cI cM : ClassId}  (μ : TMem) (sz : Nat) (a1 : Int32) (a2 : Int32) {Q : Int32 → TMem → Prop} {X : String → TMem → Prop} (h : wp_X9_swap μ a1 a2 Q X) : XMi l yX9_swap (.code yX9_swap cX9_swap 6 (Option.some Jvm.ClassFile.FieldType.int)) 3 2 12 [.ref (ad 0), .int a1, .int a2] D ad cI cM sz μ Q X := by
  refine X_meti (by decide +kernel) (Nat.le_of_ble_eq_true rfl) ?_
  intro p e s m below meth c Qc ls hx hb hml hown ht hN hK hX htab hlocks hw hret hl
  have hl : lv_has ls 6 [(0, .ref (ad 0)), (1, .int a1), (2, .int a2)] := hl
  suffices hh : ∀ (H : Heap) (locs : List Loc), TW D ad cI cM s μ H locs → W p l e (RX 3 2 12) s m #[.ref (ad 0), .int a1, .int a2] below meth c H locs 0 0 (vx_MQ below Qc (vx_X (fun _ : TMem => True) (TEX D ad cI cM X) (TA ad s.heap.size)) #[.ref (ad 0), .int a1, .int a2] s 2 12 (TA ad s.heap.size)) (F0 m 0 ls []) from hh _ _ hw
  intro H locs hw
  change wp_X9_machineAt μ a1 (fun (k2 : Nat) (μ1 : TMem) => wp_X9_machineAt μ1 a2 (fun (k4 : Nat) (μ3 : TMem) => wp_X2_isSameAs k2 k4 μ3 (fun (r5 : Int32) => wp_X2_become 10 k2 μ3 (fun (μ8 : TMem) => wp_X2_become k2 k4 μ8 (fun (μ9 : TMem) => wp_X2_become k4 10 μ9 (fun (μ10 : TMem) => (r5 = 0 → (wp_X9_acted μ10 (1 : Int32) (fun (r13 : Int32) (μ12 : TMem) => Q r13 μ12))) ∧ (¬ r5 = 0 → (wp_X9_acted μ10 (0 : Int32) (fun (r15 : Int32) (μ14 : TMem) => Q r15 μ14)))))))) X) X at h
  refine lv_aload_n hx hb dX9_swap_0 rfl (lv_at hl 0 rfl) ?_
  refine lv_iload_n hx hb dX9_swap_1 rfl (lv_at hl 1 rfl) ?_
  refine X_callo hw htab hlocks (c1 := 1) (n1 := 6) rfl rfl (Nat.le_of_ble_eq_true rfl) (Nat.le_of_ble_eq_true rfl) (vx_runV (own := "Leastreader") (As := [.int a1]) (rest := []) ⟨hx, hb, hml, hown, ht⟩ (c_X9_machineAt hst μ H.size a1 h) (cwV 1 ht (G_V q_314 q_316 q_0 q_46 q_317) rfl rfl rfl ⟨rfl, hd_53⟩ ⟨Nat.le_of_ble_eq_true rfl, Nat.le_of_ble_eq_true rfl⟩) ⟨TBX.blind, (T_recv hK hw (kd_of rfl (by decide)) (ent_8 rfl) cl_8), TBX.pre hK hN hX hw⟩ rfl rfl hl.1 rfl (lv_room (Nat.le_of_ble_eq_true rfl)) dX9_swap_2 ⟨Nat.le_of_ble_eq_true rfl, Nat.le_of_ble_eq_true rfl⟩) (fun k2 μ1 H locs hk2 h hw => ?_)
  refine lv_astore_n (lv' := [(3, .ref (ad k2)), (0, .ref (ad 0)), (1, .int a1), (2, .int a2)]) hx hb dX9_swap_5 rfl hl (by decide) rfl (fun ls hl => ?_)
  refine lv_aload_n hx hb dX9_swap_6 rfl (lv_at hl 1 rfl) ?_
  refine lv_iload_n hx hb dX9_swap_7 rfl (lv_at hl 3 rfl) ?_
  refine X_callo hw htab hlocks (c1 := 2) (n1 := 12) rfl rfl (Nat.le_of_ble_eq_true rfl) (Nat.le_of_ble_eq_true rfl) (vx_runV (own := "Leastreader") (As := [.int a2]) (rest := []) ⟨hx, hb, hml, hown, ht⟩ (c_X9_machineAt hst μ1 H.size a2 h) (cwV 1 ht (G_V q_314 q_316 q_0 q_46 q_317) rfl rfl rfl ⟨rfl, hd_53⟩ ⟨Nat.le_of_ble_eq_true rfl, Nat.le_of_ble_eq_true rfl⟩) ⟨TBX.blind, (T_recv hK hw (kd_of rfl (by decide)) (ent_8 rfl) cl_8), TBX.pre hK hN hX hw⟩ rfl rfl hl.1 rfl (lv_room (Nat.le_of_ble_eq_true rfl)) dX9_swap_8 ⟨Nat.le_of_ble_eq_true rfl, Nat.le_of_ble_eq_true rfl⟩) (fun k4 μ3 H locs hk4 h hw => ?_)
  refine lv_astore (lv' := [(4, .ref (ad k4)), (3, .ref (ad k2)), (0, .ref (ad 0)), (1, .int a1), (2, .int a2)]) hx hb dX9_swap_11 hl (by decide) rfl (fun ls hl => ?_)
  refine lv_aload_n hx hb dX9_swap_13 rfl (lv_at hl 1 rfl) ?_
  refine lv_aload hx hb dX9_swap_14 (lv_at hl 0 rfl) ?_
  refine T_calli hw (va_runV (own := "Leastreader") (As := [.ref (ad k4)]) (rest := []) ⟨hx, hb, hml, hown, ht⟩ (c_X2_isSameAs k2 hk2 k4 hk4 μ3 H.size h) (cwV 1 ht (G_V q_699 q_700 q_701 q_48 q_702) rfl rfl rfl ⟨rfl, hd_61⟩ ⟨Nat.le_of_ble_eq_true rfl, Nat.le_of_ble_eq_true rfl⟩) ⟨TB.blind, (T_recv hK hw (kd_of hk2 (by decide)) (ent_2 hk2) cl_2), TB.pre hK hN hw⟩ rfl rfl hl.1 rfl (lv_room (Nat.le_of_ble_eq_true rfl)) dX9_swap_16 ⟨Nat.le_of_ble_eq_true rfl, Nat.le_of_ble_eq_true rfl⟩) (fun r5 μ6 H locs h hw => ?_)
  obtain ⟨e7, h⟩ := h
  rw [e7] at hw
  refine lv_istore (lv' := [(5, .int r5), (4, .ref (ad k4)), (3, .ref (ad k2)), (0, .ref (ad 0)), (1, .int a1), (2, .int a2)]) hx hb dX9_swap_19 hl (by decide) rfl (fun ls hl => ?_)
  refine lv_aload_n hx hb dX9_swap_21 rfl (lv_at hl 3 rfl) ?_
  refine gf_X9_18 hx hb ht hown hK hw rfl dX9_swap_22 ?_
  refine lv_aload_n hx hb dX9_swap_25 rfl (lv_at hl 2 rfl) ?_
  refine T_callv hw (va_runV (own := "Leastreader") (As := [.ref (ad k2)]) (rest := []) ⟨hx, hb, hml, hown, ht⟩ (c_X2_become 10 rfl k2 hk2 μ3 H.size h) (cwV 1 ht (G_V q_706 q_707 q_708 q_48 q_709) rfl rfl rfl ⟨rfl, hd_62⟩ ⟨Nat.le_of_ble_eq_true rfl, Nat.le_of_ble_eq_true rfl⟩) ⟨TB.blind, (T_recv hK hw (kd_of rfl (by decide)) (ent_2 rfl) cl_2), TB.pre hK hN hw⟩ rfl rfl hl.1 rfl (lv_room (Nat.le_of_ble_eq_true rfl)) dX9_swap_26 ⟨Nat.le_of_ble_eq_true rfl, Nat.le_of_ble_eq_true rfl⟩) (fun μ8 H locs h hw => ?_)
  refine lv_aload_n hx hb dX9_swap_29 rfl (lv_at hl 2 rfl) ?_
  refine lv_aload hx hb dX9_swap_30 (lv_at hl 1 rfl) ?_
  refine T_callv hw (va_runV (own := "Leastreader") (As := [.ref (ad k4)]) (rest := []) ⟨hx, hb, hml, hown, ht⟩ (c_X2_become k2 hk2 k4 hk4 μ8 H.size h) (cwV 1 ht (G_V q_706 q_707 q_708 q_48 q_709) rfl rfl rfl ⟨rfl, hd_62⟩ ⟨Nat.le_of_ble_eq_true rfl, Nat.le_of_ble_eq_true rfl⟩) ⟨TB.blind, (T_recv hK hw (kd_of hk2 (by decide)) (ent_2 hk2) cl_2), TB.pre hK hN hw⟩ rfl rfl hl.1 rfl (lv_room (Nat.le_of_ble_eq_true rfl)) dX9_swap_32 ⟨Nat.le_of_ble_eq_true rfl, Nat.le_of_ble_eq_true rfl⟩) (fun μ9 H locs h hw => ?_)
  refine lv_aload hx hb dX9_swap_35 (lv_at hl 1 rfl) ?_
  refine lv_aload_n hx hb dX9_swap_37 rfl (lv_at hl 3 rfl) ?_
  refine gf_X9_18 hx hb ht hown hK hw rfl dX9_swap_38 ?_
  refine T_callv hw (va_runV (own := "Leastreader") (As := [.ref (ad 10)]) (rest := []) ⟨hx, hb, hml, hown, ht⟩ (c_X2_become k4 hk4 10 rfl μ9 H.size h) (cwV 1 ht (G_V q_706 q_707 q_708 q_48 q_709) rfl rfl rfl ⟨rfl, hd_62⟩ ⟨Nat.le_of_ble_eq_true rfl, Nat.le_of_ble_eq_true rfl⟩) ⟨TB.blind, (T_recv hK hw (kd_of hk4 (by decide)) (ent_2 hk4) cl_2), TB.pre hK hN hw⟩ rfl rfl hl.1 rfl (lv_room (Nat.le_of_ble_eq_true rfl)) dX9_swap_41 ⟨Nat.le_of_ble_eq_true rfl, Nat.le_of_ble_eq_true rfl⟩) (fun μ10 H locs h hw => ?_)
  refine lv_aload_n hx hb dX9_swap_44 rfl (lv_at hl 3 rfl) ?_
  refine lv_iload hx hb dX9_swap_45 (lv_at hl 0 rfl) ?_
  refine lv_if_eq (tgt := 54) hx hb dX9_swap_47 (by decide) (fun c11 => ?_) (fun c11 => ?_)
  · have h := h.1 c11
    refine lv_iconst (v := (1 : Int32)) hx hb dX9_swap_54 (by decide) ?_
    refine T_calli hw (va_runV (own := "Leastreader") (As := [.int (1 : Int32)]) (rest := []) ⟨hx, hb, hml, hown, ht⟩ (c_X9_acted μ10 H.size (1 : Int32) h) (cwV 1 ht (G_V q_624 q_626 q_13 q_46 q_627) rfl rfl rfl ⟨rfl, hd_3⟩ ⟨Nat.le_of_ble_eq_true rfl, Nat.le_of_ble_eq_true rfl⟩) ⟨TB.blind, (T_recv hK hw (kd_of rfl (by decide)) (ent_8 rfl) cl_8), TB.pre hK hN hw⟩ rfl rfl hl.1 rfl (lv_room (Nat.le_of_ble_eq_true rfl)) dX9_swap_55 ⟨Nat.le_of_ble_eq_true rfl, Nat.le_of_ble_eq_true rfl⟩) (fun r13 μ12 H locs h hw => ?_)
    exact hret H locs ls 58 2 12 _ _ hw h rfl (Nat.le_of_ble_eq_true rfl) (Nat.le_of_ble_eq_true rfl) dX9_swap_58
  have h := h.2 c11
  refine lv_iconst (v := (0 : Int32)) hx hb dX9_swap_50 (by decide) ?_
  refine lv_goto (tgt := 55) hx hb dX9_swap_51 (by decide) ?_
  refine T_calli hw (va_runV (own := "Leastreader") (As := [.int (0 : Int32)]) (rest := []) ⟨hx, hb, hml, hown, ht⟩ (c_X9_acted μ10 H.size (0 : Int32) h) (cwV 1 ht (G_V q_624 q_626 q_13 q_46 q_627) rfl rfl rfl ⟨rfl, hd_3⟩ ⟨Nat.le_of_ble_eq_true rfl, Nat.le_of_ble_eq_true rfl⟩) ⟨TB.blind, (T_recv hK hw (kd_of rfl (by decide)) (ent_8 rfl) cl_8), TB.pre hK hN hw⟩ rfl rfl hl.1 rfl (lv_room (Nat.le_of_ble_eq_true rfl)) dX9_swap_55 ⟨Nat.le_of_ble_eq_true rfl, Nat.le_of_ble_eq_true rfl⟩) (fun r15 μ14 H locs h hw => ?_)
  exact hret H locs ls 58 2 12 _ _ hw h rfl (Nat.le_of_ble_eq_true rfl) (Nat.le_of_ble_eq_true rfl) dX9_swap_58
def wp_X9_turn (μ : TMem) (a1 : Int32) (Q : Int32 → TMem → Prop) (X : String → TMem → Prop) : Prop :=
  wp_X9_machineAt μ a1 (fun (k2 : Nat) (μ1 : TMem) => wp_X2_become 10 k2 μ1 (fun (μ3 : TMem) => wp_X2_becomeRound k2 10 μ3 (fun (μ4 : TMem) => wp_X2_countArrows k2 μ4 (fun (r5 : Int32) => wp_X9_acted μ4 r5 (fun (r9 : Int32) (μ8 : TMem) => Q r9 μ8))))) X
set_option maxHeartbeats 4000000 in
set_option maxRecDepth 100000 in
theorem c_X9_turn {l : Launch} (hst : l.stackTraces = false) {D : va_G} {ad : Nat → Nat} {cI cM : ClassId}  (μ : TMem) (sz : Nat) (a1 : Int32) {Q : Int32 → TMem → Prop} {X : String → TMem → Prop} (h : wp_X9_turn μ a1 Q X) : XMi l yX9_turn (.code yX9_turn cX9_turn 3 (Option.some Jvm.ClassFile.FieldType.int)) 3 1 6 [.ref (ad 0), .int a1] D ad cI cM sz μ Q X := by
  refine X_meti (by decide +kernel) (Nat.le_of_ble_eq_true rfl) ?_
  intro p e s m below meth c Qc ls hx hb hml hown ht hN hK hX htab hlocks hw hret hl
  have hl : lv_has ls 3 [(0, .ref (ad 0)), (1, .int a1)] := hl
  suffices hh : ∀ (H : Heap) (locs : List Loc), TW D ad cI cM s μ H locs → W p l e (RX 3 1 6) s m #[.ref (ad 0), .int a1] below meth c H locs 0 0 (vx_MQ below Qc (vx_X (fun _ : TMem => True) (TEX D ad cI cM X) (TA ad s.heap.size)) #[.ref (ad 0), .int a1] s 1 6 (TA ad s.heap.size)) (F0 m 0 ls []) from hh _ _ hw
  intro H locs hw
  change wp_X9_machineAt μ a1 (fun (k2 : Nat) (μ1 : TMem) => wp_X2_become 10 k2 μ1 (fun (μ3 : TMem) => wp_X2_becomeRound k2 10 μ3 (fun (μ4 : TMem) => wp_X2_countArrows k2 μ4 (fun (r5 : Int32) => wp_X9_acted μ4 r5 (fun (r9 : Int32) (μ8 : TMem) => Q r9 μ8))))) X at h
  refine lv_aload_n hx hb dX9_turn_0 rfl (lv_at hl 0 rfl) ?_
  refine lv_iload_n hx hb dX9_turn_1 rfl (lv_at hl 1 rfl) ?_
  refine X_callo hw htab hlocks (c1 := 1) (n1 := 6) rfl rfl (Nat.le_of_ble_eq_true rfl) (Nat.le_of_ble_eq_true rfl) (vx_runV (own := "Leastreader") (As := [.int a1]) (rest := []) ⟨hx, hb, hml, hown, ht⟩ (c_X9_machineAt hst μ H.size a1 h) (cwV 1 ht (G_V q_314 q_316 q_0 q_46 q_317) rfl rfl rfl ⟨rfl, hd_53⟩ ⟨Nat.le_of_ble_eq_true rfl, Nat.le_of_ble_eq_true rfl⟩) ⟨TBX.blind, (T_recv hK hw (kd_of rfl (by decide)) (ent_8 rfl) cl_8), TBX.pre hK hN hX hw⟩ rfl rfl hl.1 rfl (lv_room (Nat.le_of_ble_eq_true rfl)) dX9_turn_2 ⟨Nat.le_of_ble_eq_true rfl, Nat.le_of_ble_eq_true rfl⟩) (fun k2 μ1 H locs hk2 h hw => ?_)
  refine lv_astore_n (lv' := [(2, .ref (ad k2)), (0, .ref (ad 0)), (1, .int a1)]) hx hb dX9_turn_5 rfl hl (by decide) rfl (fun ls hl => ?_)
  refine lv_aload_n hx hb dX9_turn_6 rfl (lv_at hl 1 rfl) ?_
  refine gf_X9_18 hx hb ht hown hK hw rfl dX9_turn_7 ?_
  refine lv_aload_n hx hb dX9_turn_10 rfl (lv_at hl 0 rfl) ?_
  refine T_callv hw (va_runV (own := "Leastreader") (As := [.ref (ad k2)]) (rest := []) ⟨hx, hb, hml, hown, ht⟩ (c_X2_become 10 rfl k2 hk2 μ1 H.size h) (cwV 1 ht (G_V q_706 q_707 q_708 q_48 q_709) rfl rfl rfl ⟨rfl, hd_62⟩ ⟨Nat.le_of_ble_eq_true rfl, Nat.le_of_ble_eq_true rfl⟩) ⟨TB.blind, (T_recv hK hw (kd_of rfl (by decide)) (ent_2 rfl) cl_2), TB.pre hK hN hw⟩ rfl rfl hl.1 rfl (lv_room (Nat.le_of_ble_eq_true rfl)) dX9_turn_11 ⟨Nat.le_of_ble_eq_true rfl, Nat.le_of_ble_eq_true rfl⟩) (fun μ3 H locs h hw => ?_)
  refine lv_aload_n hx hb dX9_turn_14 rfl (lv_at hl 0 rfl) ?_
  refine lv_aload_n hx hb dX9_turn_15 rfl (lv_at hl 1 rfl) ?_
  refine gf_X9_18 hx hb ht hown hK hw rfl dX9_turn_16 ?_
  refine T_callv hw (va_runV (own := "Leastreader") (As := [.ref (ad 10)]) (rest := []) ⟨hx, hb, hml, hown, ht⟩ (c_X2_becomeRound k2 hk2 10 rfl μ3 H.size h) (cwV 1 ht (G_V q_724 q_437 q_438 q_48 q_439) rfl rfl rfl ⟨rfl, hd_47⟩ ⟨Nat.le_of_ble_eq_true rfl, Nat.le_of_ble_eq_true rfl⟩) ⟨TB.blind, (T_recv hK hw (kd_of hk2 (by decide)) (ent_2 hk2) cl_2), TB.pre hK hN hw⟩ rfl rfl hl.1 rfl (lv_room (Nat.le_of_ble_eq_true rfl)) dX9_turn_19 ⟨Nat.le_of_ble_eq_true rfl, Nat.le_of_ble_eq_true rfl⟩) (fun μ4 H locs h hw => ?_)
  refine lv_aload_n hx hb dX9_turn_22 rfl (lv_at hl 1 rfl) ?_
  refine lv_aload_n hx hb dX9_turn_23 rfl (lv_at hl 0 rfl) ?_
  refine T_calli hw (va_runV (own := "Leastreader") (As := []) (rest := [.ref (ad 0)]) ⟨hx, hb, hml, hown, ht⟩ (c_X2_countArrows k2 hk2 μ4 H.size h) (cwV 0 ht (G_V q_559 q_560 q_561 q_48 q_562) rfl rfl rfl ⟨rfl, hd_34⟩ ⟨Nat.le_of_ble_eq_true rfl, Nat.le_of_ble_eq_true rfl⟩) ⟨TB.blind, (T_recv hK hw (kd_of hk2 (by decide)) (ent_2 hk2) cl_2), TB.pre hK hN hw⟩ rfl rfl hl.1 rfl (lv_room (Nat.le_of_ble_eq_true rfl)) dX9_turn_24 ⟨Nat.le_of_ble_eq_true rfl, Nat.le_of_ble_eq_true rfl⟩) (fun r5 μ6 H locs h hw => ?_)
  obtain ⟨e7, h⟩ := h
  rw [e7] at hw
  refine T_calli hw (va_runV (own := "Leastreader") (As := [.int r5]) (rest := []) ⟨hx, hb, hml, hown, ht⟩ (c_X9_acted μ4 H.size r5 h) (cwV 1 ht (G_V q_624 q_626 q_13 q_46 q_627) rfl rfl rfl ⟨rfl, hd_3⟩ ⟨Nat.le_of_ble_eq_true rfl, Nat.le_of_ble_eq_true rfl⟩) ⟨TB.blind, (T_recv hK hw (kd_of rfl (by decide)) (ent_8 rfl) cl_8), TB.pre hK hN hw⟩ rfl rfl hl.1 rfl (lv_room (Nat.le_of_ble_eq_true rfl)) dX9_turn_27 ⟨Nat.le_of_ble_eq_true rfl, Nat.le_of_ble_eq_true rfl⟩) (fun r9 μ8 H locs h hw => ?_)
  exact hret H locs ls 30 1 6 _ _ hw h rfl (Nat.le_of_ble_eq_true rfl) (Nat.le_of_ble_eq_true rfl) dX9_turn_30
def wp_X9_other (μ : TMem) (a1 : Int32) (Q : Int32 → TMem → Prop) (X : String → TMem → Prop) : Prop :=
  wp_X9_machineAt μ a1 (fun (k2 : Nat) (μ1 : TMem) => wp_X2_isPlain k2 μ1 (fun (r3 : Int32) => (¬ r3 = 0 → (wp_X2_allStates k2 μ1 (fun (r7 : Int32) => wp_J6_bitCount_0f7a4 ((tms μ1 k2 2 (r7 &&& ((μ1 k2 2) ^^^ (-1 : Int32)))) k2 2) (fun (r10 : Int32) => wp_X9_acted (tms μ1 k2 2 (r7 &&& ((μ1 k2 2) ^^^ (-1 : Int32)))) r10 (fun (r12 : Int32) (μ11 : TMem) => Q r12 μ11))))) ∧ (r3 = 0 → (wp_X9_refuse μ1 (fun (r14 : Int32) (μ13 : TMem) => Q r14 μ13))))) X
set_option maxHeartbeats 4000000 in
set_option maxRecDepth 100000 in
theorem c_X9_other {l : Launch} (hst : l.stackTraces = false) {D : va_G} {ad : Nat → Nat} {cI cM : ClassId}  (μ : TMem) (sz : Nat) (a1 : Int32) {Q : Int32 → TMem → Prop} {X : String → TMem → Prop} (h : wp_X9_other μ a1 Q X) : XMi l yX9_other (.code yX9_other cX9_other 3 (Option.some Jvm.ClassFile.FieldType.int)) 2 1 6 [.ref (ad 0), .int a1] D ad cI cM sz μ Q X := by
  refine X_meti (by decide +kernel) (Nat.le_of_ble_eq_true rfl) ?_
  intro p e s m below meth c Qc ls hx hb hml hown ht hN hK hX htab hlocks hw hret hl
  have hl : lv_has ls 3 [(0, .ref (ad 0)), (1, .int a1)] := hl
  suffices hh : ∀ (H : Heap) (locs : List Loc), TW D ad cI cM s μ H locs → W p l e (RX 2 1 6) s m #[.ref (ad 0), .int a1] below meth c H locs 0 0 (vx_MQ below Qc (vx_X (fun _ : TMem => True) (TEX D ad cI cM X) (TA ad s.heap.size)) #[.ref (ad 0), .int a1] s 1 6 (TA ad s.heap.size)) (F0 m 0 ls []) from hh _ _ hw
  intro H locs hw
  change wp_X9_machineAt μ a1 (fun (k2 : Nat) (μ1 : TMem) => wp_X2_isPlain k2 μ1 (fun (r3 : Int32) => (¬ r3 = 0 → (wp_X2_allStates k2 μ1 (fun (r7 : Int32) => wp_J6_bitCount_0f7a4 ((tms μ1 k2 2 (r7 &&& ((μ1 k2 2) ^^^ (-1 : Int32)))) k2 2) (fun (r10 : Int32) => wp_X9_acted (tms μ1 k2 2 (r7 &&& ((μ1 k2 2) ^^^ (-1 : Int32)))) r10 (fun (r12 : Int32) (μ11 : TMem) => Q r12 μ11))))) ∧ (r3 = 0 → (wp_X9_refuse μ1 (fun (r14 : Int32) (μ13 : TMem) => Q r14 μ13))))) X at h
  refine lv_aload_n hx hb dX9_other_0 rfl (lv_at hl 0 rfl) ?_
  refine lv_iload_n hx hb dX9_other_1 rfl (lv_at hl 1 rfl) ?_
  refine X_callo hw htab hlocks (c1 := 1) (n1 := 6) rfl rfl (Nat.le_of_ble_eq_true rfl) (Nat.le_of_ble_eq_true rfl) (vx_runV (own := "Leastreader") (As := [.int a1]) (rest := []) ⟨hx, hb, hml, hown, ht⟩ (c_X9_machineAt hst μ H.size a1 h) (cwV 1 ht (G_V q_314 q_316 q_0 q_46 q_317) rfl rfl rfl ⟨rfl, hd_53⟩ ⟨Nat.le_of_ble_eq_true rfl, Nat.le_of_ble_eq_true rfl⟩) ⟨TBX.blind, (T_recv hK hw (kd_of rfl (by decide)) (ent_8 rfl) cl_8), TBX.pre hK hN hX hw⟩ rfl rfl hl.1 rfl (lv_room (Nat.le_of_ble_eq_true rfl)) dX9_other_2 ⟨Nat.le_of_ble_eq_true rfl, Nat.le_of_ble_eq_true rfl⟩) (fun k2 μ1 H locs hk2 h hw => ?_)
  refine lv_astore_n (lv' := [(2, .ref (ad k2)), (0, .ref (ad 0)), (1, .int a1)]) hx hb dX9_other_5 rfl hl (by decide) rfl (fun ls hl => ?_)
  refine lv_aload_n hx hb dX9_other_6 rfl (lv_at hl 0 rfl) ?_
  refine T_calli hw (va_runV (own := "Leastreader") (As := []) (rest := []) ⟨hx, hb, hml, hown, ht⟩ (c_X2_isPlain k2 hk2 μ1 H.size h) (cwV 0 ht (G_V q_569 q_570 q_571 q_48 q_572) rfl rfl rfl ⟨rfl, hd_35⟩ ⟨Nat.le_of_ble_eq_true rfl, Nat.le_of_ble_eq_true rfl⟩) ⟨TB.blind, (T_recv hK hw (kd_of hk2 (by decide)) (ent_2 hk2) cl_2), TB.pre hK hN hw⟩ rfl rfl hl.1 rfl (lv_room (Nat.le_of_ble_eq_true rfl)) dX9_other_7 ⟨Nat.le_of_ble_eq_true rfl, Nat.le_of_ble_eq_true rfl⟩) (fun r3 μ4 H locs h hw => ?_)
  obtain ⟨e5, h⟩ := h
  rw [e5] at hw
  refine lv_if_ne (tgt := 18) hx hb dX9_other_10 (by decide) (fun c6 => ?_) (fun c6 => ?_)
  · have h := h.1 c6
    refine lv_aload_n hx hb dX9_other_18 rfl (lv_at hl 0 rfl) ?_
    refine lv_aload_n hx hb dX9_other_19 rfl (lv_at hl 0 rfl) ?_
    refine T_calli hw (va_runV (own := "Leastreader") (As := []) (rest := [.ref (ad k2)]) ⟨hx, hb, hml, hown, ht⟩ (c_X2_allStates k2 hk2 μ1 H.size h) (cwV 0 ht (G_V q_736 q_737 q_738 q_48 q_739) rfl rfl rfl ⟨rfl, hd_63⟩ ⟨Nat.le_of_ble_eq_true rfl, Nat.le_of_ble_eq_true rfl⟩) ⟨TB.blind, (T_recv hK hw (kd_of hk2 (by decide)) (ent_2 hk2) cl_2), TB.pre hK hN hw⟩ rfl rfl hl.1 rfl (lv_room (Nat.le_of_ble_eq_true rfl)) dX9_other_20 ⟨Nat.le_of_ble_eq_true rfl, Nat.le_of_ble_eq_true rfl⟩) (fun r7 μ8 H locs h hw => ?_)
    obtain ⟨e9, h⟩ := h
    rw [e9] at hw
    refine lv_aload_n hx hb dX9_other_23 rfl (lv_at hl 0 rfl) ?_
    refine gf_X9_111 hx hb ht hown hK hw hk2 dX9_other_24 ?_
    refine lv_iconst (v := (-1 : Int32)) hx hb dX9_other_27 (by decide) ?_
    refine lv_ixor hx hb dX9_other_28 ?_
    refine lv_iand hx hb dX9_other_29 ?_
    refine pgf_X9_111 hx hb ht hown hK hw hk2 dX9_other_30 (fun H locs hw => ?_)
    refine lv_aload_n hx hb dX9_other_33 rfl (lv_at hl 1 rfl) ?_
    refine lv_aload_n hx hb dX9_other_34 rfl (lv_at hl 0 rfl) ?_
    refine gf_X9_111 hx hb ht hown hK hw hk2 dX9_other_35 ?_
    refine P_calli (va_runS (own := "Leastreader") (As := [.int ((tms μ1 k2 2 (r7 &&& ((μ1 k2 2) ^^^ (-1 : Int32)))) k2 2)]) (rest := [.ref (ad 0)]) ⟨hx, hb, hml, hown, ht⟩ (c_J6_bitCount_0f7a4 ((tms μ1 k2 2 (r7 &&& ((μ1 k2 2) ^^^ (-1 : Int32)))) k2 2) h) (va_cwS 1 ht (G_S q_651 q_564 q_63 q_565) rfl rfl rfl hd_33 ⟨Nat.le_of_ble_eq_true rfl, Nat.le_of_ble_eq_true rfl⟩) ⟨PM_blind, PM_pre⟩ rfl rfl hl.1 rfl (lv_room (Nat.le_of_ble_eq_true rfl)) dX9_other_38 ⟨Nat.le_of_ble_eq_true rfl, Nat.le_of_ble_eq_true rfl⟩) (fun r10 h => ?_)
    refine T_calli hw (va_runV (own := "Leastreader") (As := [.int r10]) (rest := []) ⟨hx, hb, hml, hown, ht⟩ (c_X9_acted (tms μ1 k2 2 (r7 &&& ((μ1 k2 2) ^^^ (-1 : Int32)))) H.size r10 h) (cwV 1 ht (G_V q_624 q_626 q_13 q_46 q_627) rfl rfl rfl ⟨rfl, hd_3⟩ ⟨Nat.le_of_ble_eq_true rfl, Nat.le_of_ble_eq_true rfl⟩) ⟨TB.blind, (T_recv hK hw (kd_of rfl (by decide)) (ent_8 rfl) cl_8), TB.pre hK hN hw⟩ rfl rfl hl.1 rfl (lv_room (Nat.le_of_ble_eq_true rfl)) dX9_other_41 ⟨Nat.le_of_ble_eq_true rfl, Nat.le_of_ble_eq_true rfl⟩) (fun r12 μ11 H locs h hw => ?_)
    exact hret H locs ls 44 1 6 _ _ hw h rfl (Nat.le_of_ble_eq_true rfl) (Nat.le_of_ble_eq_true rfl) dX9_other_44
  have h := h.2 c6
  refine lv_aload_n hx hb dX9_other_13 rfl (lv_at hl 1 rfl) ?_
  refine T_calli hw (va_runV (own := "Leastreader") (As := []) (rest := []) ⟨hx, hb, hml, hown, ht⟩ (c_X9_refuse μ1 H.size h) (cwV 0 ht (G_V q_732 q_734 q_16 q_46 q_735) rfl rfl rfl ⟨rfl, hd_4⟩ ⟨Nat.le_of_ble_eq_true rfl, Nat.le_of_ble_eq_true rfl⟩) ⟨TB.blind, (T_recv hK hw (kd_of rfl (by decide)) (ent_8 rfl) cl_8), TB.pre hK hN hw⟩ rfl rfl hl.1 rfl (lv_room (Nat.le_of_ble_eq_true rfl)) dX9_other_14 ⟨Nat.le_of_ble_eq_true rfl, Nat.le_of_ble_eq_true rfl⟩) (fun r14 μ13 H locs h hw => ?_)
  exact hret H locs ls 17 1 6 _ _ hw h rfl (Nat.le_of_ble_eq_true rfl) (Nat.le_of_ble_eq_true rfl) dX9_other_17
def wp_X9_grow (μ : TMem) (a1 : Int32) (Q : Int32 → TMem → Prop) (X : String → TMem → Prop) : Prop :=
  wp_X9_machineAt μ a1 (fun (k2 : Nat) (μ1 : TMem) => ((μ1 k2 1) < (7 : Int32) → (wp_X2_addState k2 μ1 (fun (μ4 : TMem) => wp_X9_acted μ4 ((μ4 k2 1) - (1 : Int32)) (fun (r6 : Int32) (μ5 : TMem) => Q r6 μ5)))) ∧ (¬ (μ1 k2 1) < (7 : Int32) → (wp_X9_refuse μ1 (fun (r8 : Int32) (μ7 : TMem) => Q r8 μ7)))) X
set_option maxHeartbeats 4000000 in
set_option maxRecDepth 100000 in
theorem c_X9_grow {l : Launch} (hst : l.stackTraces = false) {D : va_G} {ad : Nat → Nat} {cI cM : ClassId}  (μ : TMem) (sz : Nat) (a1 : Int32) {Q : Int32 → TMem → Prop} {X : String → TMem → Prop} (h : wp_X9_grow μ a1 Q X) : XMi l yX9_grow (.code yX9_grow cX9_grow 3 (Option.some Jvm.ClassFile.FieldType.int)) 2 1 6 [.ref (ad 0), .int a1] D ad cI cM sz μ Q X := by
  refine X_meti (by decide +kernel) (Nat.le_of_ble_eq_true rfl) ?_
  intro p e s m below meth c Qc ls hx hb hml hown ht hN hK hX htab hlocks hw hret hl
  have hl : lv_has ls 3 [(0, .ref (ad 0)), (1, .int a1)] := hl
  suffices hh : ∀ (H : Heap) (locs : List Loc), TW D ad cI cM s μ H locs → W p l e (RX 2 1 6) s m #[.ref (ad 0), .int a1] below meth c H locs 0 0 (vx_MQ below Qc (vx_X (fun _ : TMem => True) (TEX D ad cI cM X) (TA ad s.heap.size)) #[.ref (ad 0), .int a1] s 1 6 (TA ad s.heap.size)) (F0 m 0 ls []) from hh _ _ hw
  intro H locs hw
  change wp_X9_machineAt μ a1 (fun (k2 : Nat) (μ1 : TMem) => ((μ1 k2 1) < (7 : Int32) → (wp_X2_addState k2 μ1 (fun (μ4 : TMem) => wp_X9_acted μ4 ((μ4 k2 1) - (1 : Int32)) (fun (r6 : Int32) (μ5 : TMem) => Q r6 μ5)))) ∧ (¬ (μ1 k2 1) < (7 : Int32) → (wp_X9_refuse μ1 (fun (r8 : Int32) (μ7 : TMem) => Q r8 μ7)))) X at h
  refine lv_aload_n hx hb dX9_grow_0 rfl (lv_at hl 0 rfl) ?_
  refine lv_iload_n hx hb dX9_grow_1 rfl (lv_at hl 1 rfl) ?_
  refine X_callo hw htab hlocks (c1 := 1) (n1 := 6) rfl rfl (Nat.le_of_ble_eq_true rfl) (Nat.le_of_ble_eq_true rfl) (vx_runV (own := "Leastreader") (As := [.int a1]) (rest := []) ⟨hx, hb, hml, hown, ht⟩ (c_X9_machineAt hst μ H.size a1 h) (cwV 1 ht (G_V q_314 q_316 q_0 q_46 q_317) rfl rfl rfl ⟨rfl, hd_53⟩ ⟨Nat.le_of_ble_eq_true rfl, Nat.le_of_ble_eq_true rfl⟩) ⟨TBX.blind, (T_recv hK hw (kd_of rfl (by decide)) (ent_8 rfl) cl_8), TBX.pre hK hN hX hw⟩ rfl rfl hl.1 rfl (lv_room (Nat.le_of_ble_eq_true rfl)) dX9_grow_2 ⟨Nat.le_of_ble_eq_true rfl, Nat.le_of_ble_eq_true rfl⟩) (fun k2 μ1 H locs hk2 h hw => ?_)
  refine lv_astore_n (lv' := [(2, .ref (ad k2)), (0, .ref (ad 0)), (1, .int a1)]) hx hb dX9_grow_5 rfl hl (by decide) rfl (fun ls hl => ?_)
  refine lv_aload_n hx hb dX9_grow_6 rfl (lv_at hl 0 rfl) ?_
  refine gf_X9_151 hx hb ht hown hK hw hk2 dX9_grow_7 ?_
  refine lv_bipush (v := (7 : Int32)) hx hb dX9_grow_10 (by decide) ?_
  refine lv_icmp_lt (tgt := 20) hx hb dX9_grow_12 (by decide) (fun c3 => ?_) (fun c3 => ?_)
  · have h := h.1 c3
    refine lv_aload_n hx hb dX9_grow_20 rfl (lv_at hl 0 rfl) ?_
    refine T_callv hw (va_runV (own := "Leastreader") (As := []) (rest := []) ⟨hx, hb, hml, hown, ht⟩ (c_X2_addState k2 hk2 μ1 H.size h) (cwV 0 ht (G_V q_747 q_621 q_622 q_48 q_623) rfl rfl rfl ⟨rfl, hd_40⟩ ⟨Nat.le_of_ble_eq_true rfl, Nat.le_of_ble_eq_true rfl⟩) ⟨TB.blind, (T_recv hK hw (kd_of hk2 (by decide)) (ent_2 hk2) cl_2), TB.pre hK hN hw⟩ rfl rfl hl.1 rfl (lv_room (Nat.le_of_ble_eq_true rfl)) dX9_grow_21 ⟨Nat.le_of_ble_eq_true rfl, Nat.le_of_ble_eq_true rfl⟩) (fun μ4 H locs h hw => ?_)
    refine lv_aload_n hx hb dX9_grow_24 rfl (lv_at hl 1 rfl) ?_
    refine lv_aload_n hx hb dX9_grow_25 rfl (lv_at hl 0 rfl) ?_
    refine gf_X9_151 hx hb ht hown hK hw hk2 dX9_grow_26 ?_
    refine lv_iconst (v := (1 : Int32)) hx hb dX9_grow_29 (by decide) ?_
    refine lv_isub hx hb dX9_grow_30 ?_
    refine T_calli hw (va_runV (own := "Leastreader") (As := [.int ((μ4 k2 1) - (1 : Int32))]) (rest := []) ⟨hx, hb, hml, hown, ht⟩ (c_X9_acted μ4 H.size ((μ4 k2 1) - (1 : Int32)) h) (cwV 1 ht (G_V q_624 q_626 q_13 q_46 q_627) rfl rfl rfl ⟨rfl, hd_3⟩ ⟨Nat.le_of_ble_eq_true rfl, Nat.le_of_ble_eq_true rfl⟩) ⟨TB.blind, (T_recv hK hw (kd_of rfl (by decide)) (ent_8 rfl) cl_8), TB.pre hK hN hw⟩ rfl rfl hl.1 rfl (lv_room (Nat.le_of_ble_eq_true rfl)) dX9_grow_31 ⟨Nat.le_of_ble_eq_true rfl, Nat.le_of_ble_eq_true rfl⟩) (fun r6 μ5 H locs h hw => ?_)
    exact hret H locs ls 34 1 6 _ _ hw h rfl (Nat.le_of_ble_eq_true rfl) (Nat.le_of_ble_eq_true rfl) dX9_grow_34
  have h := h.2 c3
  refine lv_aload_n hx hb dX9_grow_15 rfl (lv_at hl 1 rfl) ?_
  refine T_calli hw (va_runV (own := "Leastreader") (As := []) (rest := []) ⟨hx, hb, hml, hown, ht⟩ (c_X9_refuse μ1 H.size h) (cwV 0 ht (G_V q_732 q_734 q_16 q_46 q_735) rfl rfl rfl ⟨rfl, hd_4⟩ ⟨Nat.le_of_ble_eq_true rfl, Nat.le_of_ble_eq_true rfl⟩) ⟨TB.blind, (T_recv hK hw (kd_of rfl (by decide)) (ent_8 rfl) cl_8), TB.pre hK hN hw⟩ rfl rfl hl.1 rfl (lv_room (Nat.le_of_ble_eq_true rfl)) dX9_grow_16 ⟨Nat.le_of_ble_eq_true rfl, Nat.le_of_ble_eq_true rfl⟩) (fun r8 μ7 H locs h hw => ?_)
  exact hret H locs ls 19 1 6 _ _ hw h rfl (Nat.le_of_ble_eq_true rfl) (Nat.le_of_ble_eq_true rfl) dX9_grow_19
def wp_X9_drop (μ : TMem) (a1 : Int32) (a2 : Int32) (Q : Int32 → TMem → Prop) (X : String → TMem → Prop) : Prop :=
  wp_X9_machineAt μ a1 (fun (k2 : Nat) (μ1 : TMem) => wp_X9_checkState k2 μ1 a2 (fun (μ3 : TMem) => (¬ (μ3 k2 1) = (1 : Int32) → (wp_X2_countArrows k2 μ3 (fun (r5 : Int32) => wp_X2_removeState k2 μ3 a2 (fun (μ8 : TMem) => wp_X2_countArrows k2 μ8 (fun (r9 : Int32) => wp_X9_acted μ8 (r5 - r9) (fun (r13 : Int32) (μ12 : TMem) => Q r13 μ12)))))) ∧ ((μ3 k2 1) = (1 : Int32) → (wp_X9_refuse μ3 (fun (r15 : Int32) (μ14 : TMem) => Q r15 μ14)))) X) X
set_option maxHeartbeats 4000000 in
set_option maxRecDepth 100000 in
theorem c_X9_drop {l : Launch} (hst : l.stackTraces = false) {D : va_G} {ad : Nat → Nat} {cI cM : ClassId}  (μ : TMem) (sz : Nat) (a1 : Int32) (a2 : Int32) {Q : Int32 → TMem → Prop} {X : String → TMem → Prop} (h : wp_X9_drop μ a1 a2 Q X) : XMi l yX9_drop (.code yX9_drop cX9_drop 5 (Option.some Jvm.ClassFile.FieldType.int)) 2 2 12 [.ref (ad 0), .int a1, .int a2] D ad cI cM sz μ Q X := by
  refine X_meti (by decide +kernel) (Nat.le_of_ble_eq_true rfl) ?_
  intro p e s m below meth c Qc ls hx hb hml hown ht hN hK hX htab hlocks hw hret hl
  have hl : lv_has ls 5 [(0, .ref (ad 0)), (1, .int a1), (2, .int a2)] := hl
  suffices hh : ∀ (H : Heap) (locs : List Loc), TW D ad cI cM s μ H locs → W p l e (RX 2 2 12) s m #[.ref (ad 0), .int a1, .int a2] below meth c H locs 0 0 (vx_MQ below Qc (vx_X (fun _ : TMem => True) (TEX D ad cI cM X) (TA ad s.heap.size)) #[.ref (ad 0), .int a1, .int a2] s 2 12 (TA ad s.heap.size)) (F0 m 0 ls []) from hh _ _ hw
  intro H locs hw
  change wp_X9_machineAt μ a1 (fun (k2 : Nat) (μ1 : TMem) => wp_X9_checkState k2 μ1 a2 (fun (μ3 : TMem) => (¬ (μ3 k2 1) = (1 : Int32) → (wp_X2_countArrows k2 μ3 (fun (r5 : Int32) => wp_X2_removeState k2 μ3 a2 (fun (μ8 : TMem) => wp_X2_countArrows k2 μ8 (fun (r9 : Int32) => wp_X9_acted μ8 (r5 - r9) (fun (r13 : Int32) (μ12 : TMem) => Q r13 μ12)))))) ∧ ((μ3 k2 1) = (1 : Int32) → (wp_X9_refuse μ3 (fun (r15 : Int32) (μ14 : TMem) => Q r15 μ14)))) X) X at h
  refine lv_aload_n hx hb dX9_drop_0 rfl (lv_at hl 0 rfl) ?_
  refine lv_iload_n hx hb dX9_drop_1 rfl (lv_at hl 1 rfl) ?_
  refine X_callo hw htab hlocks (c1 := 1) (n1 := 6) rfl rfl (Nat.le_of_ble_eq_true rfl) (Nat.le_of_ble_eq_true rfl) (vx_runV (own := "Leastreader") (As := [.int a1]) (rest := []) ⟨hx, hb, hml, hown, ht⟩ (c_X9_machineAt hst μ H.size a1 h) (cwV 1 ht (G_V q_314 q_316 q_0 q_46 q_317) rfl rfl rfl ⟨rfl, hd_53⟩ ⟨Nat.le_of_ble_eq_true rfl, Nat.le_of_ble_eq_true rfl⟩) ⟨TBX.blind, (T_recv hK hw (kd_of rfl (by decide)) (ent_8 rfl) cl_8), TBX.pre hK hN hX hw⟩ rfl rfl hl.1 rfl (lv_room (Nat.le_of_ble_eq_true rfl)) dX9_drop_2 ⟨Nat.le_of_ble_eq_true rfl, Nat.le_of_ble_eq_true rfl⟩) (fun k2 μ1 H locs hk2 h hw => ?_)
  refine lv_astore_n (lv' := [(3, .ref (ad k2)), (0, .ref (ad 0)), (1, .int a1), (2, .int a2)]) hx hb dX9_drop_5 rfl hl (by decide) rfl (fun ls hl => ?_)
  refine lv_aload_n hx hb dX9_drop_6 rfl (lv_at hl 0 rfl) ?_
  refine lv_iload_n hx hb dX9_drop_7 rfl (lv_at hl 3 rfl) ?_
  refine X_callv hw htab hlocks (c1 := 2) (n1 := 12) rfl rfl (Nat.le_of_ble_eq_true rfl) (Nat.le_of_ble_eq_true rfl) (vx_runS (own := "Leastreader") (As := [.ref (ad k2), .int a2]) (rest := []) ⟨hx, hb, hml, hown, ht⟩ (c_X9_checkState hst k2 hk2 μ1 H.size a2 h) (va_cwS 2 ht (G_S q_635 q_636 q_46 q_637) rfl rfl rfl hd_56 ⟨Nat.le_of_ble_eq_true rfl, Nat.le_of_ble_eq_true rfl⟩) ⟨TBX.blind, TBX.pre hK hN hX hw⟩ rfl rfl hl.1 rfl (lv_room (Nat.le_of_ble_eq_true rfl)) dX9_drop_8 ⟨Nat.le_of_ble_eq_true rfl, Nat.le_of_ble_eq_true rfl⟩) (fun μ3 H locs h hw => ?_)
  refine lv_aload_n hx hb dX9_drop_11 rfl (lv_at hl 0 rfl) ?_
  refine gf_X9_151 hx hb ht hown hK hw hk2 dX9_drop_12 ?_
  refine lv_iconst (v := (1 : Int32)) hx hb dX9_drop_15 (by decide) ?_
  refine lv_icmp_ne (tgt := 24) hx hb dX9_drop_16 (by decide) (fun c4 => ?_) (fun c4 => ?_)
  · have h := h.1 c4
    refine lv_aload_n hx hb dX9_drop_24 rfl (lv_at hl 0 rfl) ?_
    refine T_calli hw (va_runV (own := "Leastreader") (As := []) (rest := []) ⟨hx, hb, hml, hown, ht⟩ (c_X2_countArrows k2 hk2 μ3 H.size h) (cwV 0 ht (G_V q_559 q_560 q_561 q_48 q_562) rfl rfl rfl ⟨rfl, hd_34⟩ ⟨Nat.le_of_ble_eq_true rfl, Nat.le_of_ble_eq_true rfl⟩) ⟨TB.blind, (T_recv hK hw (kd_of hk2 (by decide)) (ent_2 hk2) cl_2), TB.pre hK hN hw⟩ rfl rfl hl.1 rfl (lv_room (Nat.le_of_ble_eq_true rfl)) dX9_drop_25 ⟨Nat.le_of_ble_eq_true rfl, Nat.le_of_ble_eq_true rfl⟩) (fun r5 μ6 H locs h hw => ?_)
    obtain ⟨e7, h⟩ := h
    rw [e7] at hw
    refine lv_istore (lv' := [(4, .int r5), (3, .ref (ad k2)), (0, .ref (ad 0)), (1, .int a1), (2, .int a2)]) hx hb dX9_drop_28 hl (by decide) rfl (fun ls hl => ?_)
    refine lv_aload_n hx hb dX9_drop_30 rfl (lv_at hl 1 rfl) ?_
    refine lv_iload_n hx hb dX9_drop_31 rfl (lv_at hl 4 rfl) ?_
    refine T_callv hw (va_runV (own := "Leastreader") (As := [.int a2]) (rest := []) ⟨hx, hb, hml, hown, ht⟩ (c_X2_removeState k2 hk2 μ3 H.size a2 h) (cwV 1 ht (G_V q_755 q_756 q_757 q_48 q_758) rfl rfl rfl ⟨rfl, hd_64⟩ ⟨Nat.le_of_ble_eq_true rfl, Nat.le_of_ble_eq_true rfl⟩) ⟨TB.blind, (T_recv hK hw (kd_of hk2 (by decide)) (ent_2 hk2) cl_2), TB.pre hK hN hw⟩ rfl rfl hl.1 rfl (lv_room (Nat.le_of_ble_eq_true rfl)) dX9_drop_32 ⟨Nat.le_of_ble_eq_true rfl, Nat.le_of_ble_eq_true rfl⟩) (fun μ8 H locs h hw => ?_)
    refine lv_aload_n hx hb dX9_drop_35 rfl (lv_at hl 2 rfl) ?_
    refine lv_iload hx hb dX9_drop_36 (lv_at hl 0 rfl) ?_
    refine lv_aload_n hx hb dX9_drop_38 rfl (lv_at hl 1 rfl) ?_
    refine T_calli hw (va_runV (own := "Leastreader") (As := []) (rest := [.int r5, .ref (ad 0)]) ⟨hx, hb, hml, hown, ht⟩ (c_X2_countArrows k2 hk2 μ8 H.size h) (cwV 0 ht (G_V q_559 q_560 q_561 q_48 q_562) rfl rfl rfl ⟨rfl, hd_34⟩ ⟨Nat.le_of_ble_eq_true rfl, Nat.le_of_ble_eq_true rfl⟩) ⟨TB.blind, (T_recv hK hw (kd_of hk2 (by decide)) (ent_2 hk2) cl_2), TB.pre hK hN hw⟩ rfl rfl hl.1 rfl (lv_room (Nat.le_of_ble_eq_true rfl)) dX9_drop_39 ⟨Nat.le_of_ble_eq_true rfl, Nat.le_of_ble_eq_true rfl⟩) (fun r9 μ10 H locs h hw => ?_)
    obtain ⟨e11, h⟩ := h
    rw [e11] at hw
    refine lv_isub hx hb dX9_drop_42 ?_
    refine T_calli hw (va_runV (own := "Leastreader") (As := [.int (r5 - r9)]) (rest := []) ⟨hx, hb, hml, hown, ht⟩ (c_X9_acted μ8 H.size (r5 - r9) h) (cwV 1 ht (G_V q_624 q_626 q_13 q_46 q_627) rfl rfl rfl ⟨rfl, hd_3⟩ ⟨Nat.le_of_ble_eq_true rfl, Nat.le_of_ble_eq_true rfl⟩) ⟨TB.blind, (T_recv hK hw (kd_of rfl (by decide)) (ent_8 rfl) cl_8), TB.pre hK hN hw⟩ rfl rfl hl.1 rfl (lv_room (Nat.le_of_ble_eq_true rfl)) dX9_drop_43 ⟨Nat.le_of_ble_eq_true rfl, Nat.le_of_ble_eq_true rfl⟩) (fun r13 μ12 H locs h hw => ?_)
    exact hret H locs ls 46 2 12 _ _ hw h rfl (Nat.le_of_ble_eq_true rfl) (Nat.le_of_ble_eq_true rfl) dX9_drop_46
  have h := h.2 c4
  refine lv_aload_n hx hb dX9_drop_19 rfl (lv_at hl 1 rfl) ?_
  refine T_calli hw (va_runV (own := "Leastreader") (As := []) (rest := []) ⟨hx, hb, hml, hown, ht⟩ (c_X9_refuse μ3 H.size h) (cwV 0 ht (G_V q_732 q_734 q_16 q_46 q_735) rfl rfl rfl ⟨rfl, hd_4⟩ ⟨Nat.le_of_ble_eq_true rfl, Nat.le_of_ble_eq_true rfl⟩) ⟨TB.blind, (T_recv hK hw (kd_of rfl (by decide)) (ent_8 rfl) cl_8), TB.pre hK hN hw⟩ rfl rfl hl.1 rfl (lv_room (Nat.le_of_ble_eq_true rfl)) dX9_drop_20 ⟨Nat.le_of_ble_eq_true rfl, Nat.le_of_ble_eq_true rfl⟩) (fun r15 μ14 H locs h hw => ?_)
  exact hret H locs ls 23 2 12 _ _ hw h rfl (Nat.le_of_ble_eq_true rfl) (Nat.le_of_ble_eq_true rfl) dX9_drop_23
