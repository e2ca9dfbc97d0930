def wp_X9_make (μ : TMem) (a1 : Int32) (a2 : Int32) (a3 : Int32) (Q : Int32 → TMem → Prop) (X : String → TMem → Prop) : Prop :=
  wp_X9_machineAt μ a1 (fun (k2 : Nat) (μ1 : TMem) => wp_X9_machineAt μ1 a3 (fun (k4 : Nat) (μ3 : TMem) => (a2 = 0 → (wp_X3_makeBy k2 57 μ3 (3 : Int32) (fun (r7 : Int32) (μ6 : TMem) => (¬ r7 = 0 → (wp_X9_becomeMade k4 μ6 (fun (r10 : Int32) (μ9 : TMem) => Q r10 μ9))) ∧ (r7 = 0 → (wp_X9_refuse μ6 (fun (r12 : Int32) (μ11 : TMem) => Q r12 μ11)))))) ∧ (¬ a2 = 0 → (wp_X3_makeBy k2 57 μ3 (0 : Int32) (fun (r14 : Int32) (μ13 : TMem) => (¬ r14 = 0 → (wp_X9_becomeMade k4 μ13 (fun (r17 : Int32) (μ16 : TMem) => Q r17 μ16))) ∧ (r14 = 0 → (wp_X9_refuse μ13 (fun (r19 : Int32) (μ18 : TMem) => Q r19 μ18))))))) X) X
set_option maxHeartbeats 4000000 in
set_option maxRecDepth 100000 in
theorem c_X9_make {l : Launch} (hst : l.stackTraces = false) {D : va_G} {ad : Nat → Nat} {cI cM : ClassId}  (μ : TMem) (sz : Nat) (a1 : Int32) (a2 : Int32) (a3 : Int32) {Q : Int32 → TMem → Prop} {X : String → TMem → Prop} (h : wp_X9_make μ a1 a2 a3 Q X) : XMi l yX9_make (.code yX9_make cX9_make 6 (Option.some Jvm.ClassFile.FieldType.int)) 5 2 12 [.ref (ad 0), .int a1, .int a2, .int a3] D ad cI cM sz μ Q X := by
  refine X_meti (by decide +kernel) (Nat.le_of_ble_eq_true rfl) ?_
  intro p e s m below meth c Qc ls hx hb hml hown ht hN hK hX htab hlocks hw hret hl
  have hl : lv_has ls 6 [(0, .ref (ad 0)), (1, .int a1), (2, .int a2), (3, .int a3)] := hl
  suffices hh : ∀ (H : Heap) (locs : List Loc), TW D ad cI cM s μ H locs → W p l e (RX 5 2 12) s m #[.ref (ad 0), .int a1, .int a2, .int a3] below meth c H locs 0 0 (vx_MQ below Qc (vx_X (fun _ : TMem => True) (TEX D ad cI cM X) (TA ad s.heap.size)) #[.ref (ad 0), .int a1, .int a2, .int a3] s 2 12 (TA ad s.heap.size)) (F0 m 0 ls []) from hh _ _ hw
  intro H locs hw
  change wp_X9_machineAt μ a1 (fun (k2 : Nat) (μ1 : TMem) => wp_X9_machineAt μ1 a3 (fun (k4 : Nat) (μ3 : TMem) => (a2 = 0 → (wp_X3_makeBy k2 57 μ3 (3 : Int32) (fun (r7 : Int32) (μ6 : TMem) => (¬ r7 = 0 → (wp_X9_becomeMade k4 μ6 (fun (r10 : Int32) (μ9 : TMem) => Q r10 μ9))) ∧ (r7 = 0 → (wp_X9_refuse μ6 (fun (r12 : Int32) (μ11 : TMem) => Q r12 μ11)))))) ∧ (¬ a2 = 0 → (wp_X3_makeBy k2 57 μ3 (0 : Int32) (fun (r14 : Int32) (μ13 : TMem) => (¬ r14 = 0 → (wp_X9_becomeMade k4 μ13 (fun (r17 : Int32) (μ16 : TMem) => Q r17 μ16))) ∧ (r14 = 0 → (wp_X9_refuse μ13 (fun (r19 : Int32) (μ18 : TMem) => Q r19 μ18))))))) X) X at h
  refine lv_aload_n hx hb dX9_make_0 rfl (lv_at hl 0 rfl) ?_
  refine lv_iload_n hx hb dX9_make_1 rfl (lv_at hl 1 rfl) ?_
  refine X_callo hw htab hlocks (c1 := 1) (n1 := 6) rfl rfl (Nat.le_of_ble_eq_true rfl) (Nat.le_of_ble_eq_true rfl) (vx_runV (own := "Leastreader") (As := [.int a1]) (rest := []) ⟨hx, hb, hml, hown, ht⟩ (c_X9_machineAt hst μ H.size a1 h) (cwV 1 ht (G_V q_314 q_316 q_0 q_46 q_317) rfl rfl rfl ⟨rfl, hd_53⟩ ⟨Nat.le_of_ble_eq_true rfl, Nat.le_of_ble_eq_true rfl⟩) ⟨TBX.blind, (T_recv hK hw (kd_of rfl (by decide)) (ent_8 rfl) cl_8), TBX.pre hK hN hX hw⟩ rfl rfl hl.1 rfl (lv_room (Nat.le_of_ble_eq_true rfl)) dX9_make_2 ⟨Nat.le_of_ble_eq_true rfl, Nat.le_of_ble_eq_true rfl⟩) (fun k2 μ1 H locs hk2 h hw => ?_)
  refine lv_astore (lv' := [(4, .ref (ad k2)), (0, .ref (ad 0)), (1, .int a1), (2, .int a2), (3, .int a3)]) hx hb dX9_make_5 hl (by decide) rfl (fun ls hl => ?_)
  refine lv_aload_n hx hb dX9_make_7 rfl (lv_at hl 1 rfl) ?_
  refine lv_iload_n hx hb dX9_make_8 rfl (lv_at hl 4 rfl) ?_
  refine X_callo hw htab hlocks (c1 := 2) (n1 := 12) rfl rfl (Nat.le_of_ble_eq_true rfl) (Nat.le_of_ble_eq_true rfl) (vx_runV (own := "Leastreader") (As := [.int a3]) (rest := []) ⟨hx, hb, hml, hown, ht⟩ (c_X9_machineAt hst μ1 H.size a3 h) (cwV 1 ht (G_V q_314 q_316 q_0 q_46 q_317) rfl rfl rfl ⟨rfl, hd_53⟩ ⟨Nat.le_of_ble_eq_true rfl, Nat.le_of_ble_eq_true rfl⟩) ⟨TBX.blind, (T_recv hK hw (kd_of rfl (by decide)) (ent_8 rfl) cl_8), TBX.pre hK hN hX hw⟩ rfl rfl hl.1 rfl (lv_room (Nat.le_of_ble_eq_true rfl)) dX9_make_9 ⟨Nat.le_of_ble_eq_true rfl, Nat.le_of_ble_eq_true rfl⟩) (fun k4 μ3 H locs hk4 h hw => ?_)
  refine lv_astore (lv' := [(5, .ref (ad k4)), (4, .ref (ad k2)), (0, .ref (ad 0)), (1, .int a1), (2, .int a2), (3, .int a3)]) hx hb dX9_make_12 hl (by decide) rfl (fun ls hl => ?_)
  refine lv_aload_n hx hb dX9_make_14 rfl (lv_at hl 2 rfl) ?_
  refine gf_X9_35 hx hb ht hown hK hw rfl dX9_make_15 ?_
  refine lv_iload_n hx hb dX9_make_18 rfl (lv_at hl 4 rfl) ?_
  refine lv_if_eq (tgt := 26) hx hb dX9_make_19 (by decide) (fun c5 => ?_) (fun c5 => ?_)
  · have h := h.1 c5
    refine lv_iconst (v := (3 : Int32)) hx hb dX9_make_26 (by decide) ?_
    refine lv_aload hx hb dX9_make_27 (lv_at hl 1 rfl) ?_
    refine lv_aload_n hx hb dX9_make_29 rfl (lv_at hl 2 rfl) ?_
    refine gf_X9_66 hx hb ht hown hK hw rfl dX9_make_30 ?_
    refine T_calli hw (va_runV (own := "Leastreader") (As := [.int (3 : Int32), .ref (ad k2), .ref (ad 57)]) (rest := []) ⟨hx, hb, hml, hown, ht⟩ (c_X3_makeBy k2 hk2 57 rfl μ3 H.size (3 : Int32) h) (cwV 3 ht (G_V q_386 q_387 q_388 q_50 q_389) rfl rfl rfl ⟨rfl, hd_65⟩ ⟨Nat.le_of_ble_eq_true rfl, Nat.le_of_ble_eq_true rfl⟩) ⟨TB.blind, (T_recv hK hw (kd_of rfl (by decide)) (ent_3 rfl) cl_3), TB.pre hK hN hw⟩ rfl rfl hl.1 rfl (lv_room (Nat.le_of_ble_eq_true rfl)) dX9_make_33 ⟨Nat.le_of_ble_eq_true rfl, Nat.le_of_ble_eq_true rfl⟩) (fun r7 μ6 H locs h hw => ?_)
    refine lv_if_ne (tgt := 44) hx hb dX9_make_36 (by decide) (fun c8 => ?_) (fun c8 => ?_)
    · have h := h.1 c8
      refine lv_aload_n hx hb dX9_make_44 rfl (lv_at hl 2 rfl) ?_
      refine lv_aload hx hb dX9_make_45 (lv_at hl 0 rfl) ?_
      refine T_calli hw (va_runV (own := "Leastreader") (As := [.ref (ad k4)]) (rest := []) ⟨hx, hb, hml, hown, ht⟩ (c_X9_becomeMade k4 hk4 μ6 H.size h) (cwV 1 ht (G_V q_769 q_771 q_17 q_46 q_772) rfl rfl rfl ⟨rfl, hd_66⟩ ⟨Nat.le_of_ble_eq_true rfl, Nat.le_of_ble_eq_true rfl⟩) ⟨TB.blind, (T_recv hK hw (kd_of rfl (by decide)) (ent_8 rfl) cl_8), TB.pre hK hN hw⟩ rfl rfl hl.1 rfl (lv_room (Nat.le_of_ble_eq_true rfl)) dX9_make_47 ⟨Nat.le_of_ble_eq_true rfl, Nat.le_of_ble_eq_true rfl⟩) (fun r10 μ9 H locs h hw => ?_)
      exact hret H locs ls 50 2 12 _ _ hw h rfl (Nat.le_of_ble_eq_true rfl) (Nat.le_of_ble_eq_true rfl) dX9_make_50
    have h := h.2 c8
    refine lv_aload_n hx hb dX9_make_39 rfl (lv_at hl 2 rfl) ?_
    refine T_calli hw (va_runV (own := "Leastreader") (As := []) (rest := []) ⟨hx, hb, hml, hown, ht⟩ (c_X9_refuse μ6 H.size h) (cwV 0 ht (G_V q_732 q_734 q_16 q_46 q_735) rfl rfl rfl ⟨rfl, hd_4⟩ ⟨Nat.le_of_ble_eq_true rfl, Nat.le_of_ble_eq_true rfl⟩) ⟨TB.blind, (T_recv hK hw (kd_of rfl (by decide)) (ent_8 rfl) cl_8), TB.pre hK hN hw⟩ rfl rfl hl.1 rfl (lv_room (Nat.le_of_ble_eq_true rfl)) dX9_make_40 ⟨Nat.le_of_ble_eq_true rfl, Nat.le_of_ble_eq_true rfl⟩) (fun r12 μ11 H locs h hw => ?_)
    exact hret H locs ls 43 2 12 _ _ hw h rfl (Nat.le_of_ble_eq_true rfl) (Nat.le_of_ble_eq_true rfl) dX9_make_43
  have h := h.2 c5
  refine lv_iconst (v := (0 : Int32)) hx hb dX9_make_22 (by decide) ?_
  refine lv_goto (tgt := 27) hx hb dX9_make_23 (by decide) ?_
  refine lv_aload hx hb dX9_make_27 (lv_at hl 1 rfl) ?_
  refine lv_aload_n hx hb dX9_make_29 rfl (lv_at hl 2 rfl) ?_
  refine gf_X9_66 hx hb ht hown hK hw rfl dX9_make_30 ?_
  refine T_calli hw (va_runV (own := "Leastreader") (As := [.int (0 : Int32), .ref (ad k2), .ref (ad 57)]) (rest := []) ⟨hx, hb, hml, hown, ht⟩ (c_X3_makeBy k2 hk2 57 rfl μ3 H.size (0 : Int32) h) (cwV 3 ht (G_V q_386 q_387 q_388 q_50 q_389) rfl rfl rfl ⟨rfl, hd_65⟩ ⟨Nat.le_of_ble_eq_true rfl, Nat.le_of_ble_eq_true rfl⟩) ⟨TB.blind, (T_recv hK hw (kd_of rfl (by decide)) (ent_3 rfl) cl_3), TB.pre hK hN hw⟩ rfl rfl hl.1 rfl (lv_room (Nat.le_of_ble_eq_true rfl)) dX9_make_33 ⟨Nat.le_of_ble_eq_true rfl, Nat.le_of_ble_eq_true rfl⟩) (fun r14 μ13 H locs h hw => ?_)
  refine lv_if_ne (tgt := 44) hx hb dX9_make_36 (by decide) (fun c15 => ?_) (fun c15 => ?_)
  · have h := h.1 c15
    refine lv_aload_n hx hb dX9_make_44 rfl (lv_at hl 2 rfl) ?_
    refine lv_aload hx hb dX9_make_45 (lv_at hl 0 rfl) ?_
    refine T_calli hw (va_runV (own := "Leastreader") (As := [.ref (ad k4)]) (rest := []) ⟨hx, hb, hml, hown, ht⟩ (c_X9_becomeMade k4 hk4 μ13 H.size h) (cwV 1 ht (G_V q_769 q_771 q_17 q_46 q_772) rfl rfl rfl ⟨rfl, hd_66⟩ ⟨Nat.le_of_ble_eq_true rfl, Nat.le_of_ble_eq_true rfl⟩) ⟨TB.blind, (T_recv hK hw (kd_of rfl (by decide)) (ent_8 rfl) cl_8), TB.pre hK hN hw⟩ rfl rfl hl.1 rfl (lv_room (Nat.le_of_ble_eq_true rfl)) dX9_make_47 ⟨Nat.le_of_ble_eq_true rfl, Nat.le_of_ble_eq_true rfl⟩) (fun r17 μ16 H locs h hw => ?_)
    exact hret H locs ls 50 2 12 _ _ hw h rfl (Nat.le_of_ble_eq_true rfl) (Nat.le_of_ble_eq_true rfl) dX9_make_50
  have h := h.2 c15
  refine lv_aload_n hx hb dX9_make_39 rfl (lv_at hl 2 rfl) ?_
  refine T_calli hw (va_runV (own := "Leastreader") (As := []) (rest := []) ⟨hx, hb, hml, hown, ht⟩ (c_X9_refuse μ13 H.size h) (cwV 0 ht (G_V q_732 q_734 q_16 q_46 q_735) rfl rfl rfl ⟨rfl, hd_4⟩ ⟨Nat.le_of_ble_eq_true rfl, Nat.le_of_ble_eq_true rfl⟩) ⟨TB.blind, (T_recv hK hw (kd_of rfl (by decide)) (ent_8 rfl) cl_8), TB.pre hK hN hw⟩ rfl rfl hl.1 rfl (lv_room (Nat.le_of_ble_eq_true rfl)) dX9_make_40 ⟨Nat.le_of_ble_eq_true rfl, Nat.le_of_ble_eq_true rfl⟩) (fun r19 μ18 H locs h hw => ?_)
  exact hret H locs ls 43 2 12 _ _ hw h rfl (Nat.le_of_ble_eq_true rfl) (Nat.le_of_ble_eq_true rfl) dX9_make_43
def wp_X9_combine (μ : TMem) (a1 : Int32) (a2 : Int32) (a3 : Int32) (a4 : Int32) (Q : Int32 → TMem → Prop) (X : String → TMem → Prop) : Prop :=
  wp_X9_machineAt μ a1 (fun (k2 : Nat) (μ1 : TMem) => wp_X9_machineAt μ1 a2 (fun (k4 : Nat) (μ3 : TMem) => wp_X9_machineAt μ3 a4 (fun (k6 : Nat) (μ5 : TMem) => wp_X9_checkRange μ5 a3 (0 : Int32) (3 : Int32) (fun (μ7 : TMem) => wp_X9_putTogether k2 k4 μ7 a3 (fun (r9 : Int32) (μ8 : TMem) => (¬ r9 = 0 → (wp_X9_becomeMade k6 μ8 (fun (r12 : Int32) (μ11 : TMem) => Q r12 μ11))) ∧ (r9 = 0 → (wp_X9_refuse μ8 (fun (r14 : Int32) (μ13 : TMem) => Q r14 μ13))))) X) X) X) X
set_option maxHeartbeats 4000000 in
set_option maxRecDepth 100000 in
theorem c_X9_combine {l : Launch} (hst : l.stackTraces = false) {D : va_G} {ad : Nat → Nat} {cI cM : ClassId}  (μ : TMem) (sz : Nat) (a1 : Int32) (a2 : Int32) (a3 : Int32) (a4 : Int32) {Q : Int32 → TMem → Prop} {X : String → TMem → Prop} (h : wp_X9_combine μ a1 a2 a3 a4 Q X) : XMi l yX9_combine (.code yX9_combine cX9_combine 8 (Option.some Jvm.ClassFile.FieldType.int)) 6 4 24 [.ref (ad 0), .int a1, .int a2, .int a3, .int a4] D ad cI cM sz μ Q X := by
  refine X_meti (by decide +kernel) (Nat.le_of_ble_eq_true rfl) ?_
  intro p e s m below meth c Qc ls hx hb hml hown ht hN hK hX htab hlocks hw hret hl
  have hl : lv_has ls 8 [(0, .ref (ad 0)), (1, .int a1), (2, .int a2), (3, .int a3), (4, .int a4)] := hl
  suffices hh : ∀ (H : Heap) (locs : List Loc), TW D ad cI cM s μ H locs → W p l e (RX 6 4 24) s m #[.ref (ad 0), .int a1, .int a2, .int a3, .int a4] below meth c H locs 0 0 (vx_MQ below Qc (vx_X (fun _ : TMem => True) (TEX D ad cI cM X) (TA ad s.heap.size)) #[.ref (ad 0), .int a1, .int a2, .int a3, .int a4] s 4 24 (TA ad s.heap.size)) (F0 m 0 ls []) from hh _ _ hw
  intro H locs hw
  change wp_X9_machineAt μ a1 (fun (k2 : Nat) (μ1 : TMem) => wp_X9_machineAt μ1 a2 (fun (k4 : Nat) (μ3 : TMem) => wp_X9_machineAt μ3 a4 (fun (k6 : Nat) (μ5 : TMem) => wp_X9_checkRange μ5 a3 (0 : Int32) (3 : Int32) (fun (μ7 : TMem) => wp_X9_putTogether k2 k4 μ7 a3 (fun (r9 : Int32) (μ8 : TMem) => (¬ r9 = 0 → (wp_X9_becomeMade k6 μ8 (fun (r12 : Int32) (μ11 : TMem) => Q r12 μ11))) ∧ (r9 = 0 → (wp_X9_refuse μ8 (fun (r14 : Int32) (μ13 : TMem) => Q r14 μ13))))) X) X) X) X at h
  refine lv_aload_n hx hb dX9_combine_0 rfl (lv_at hl 0 rfl) ?_
  refine lv_iload_n hx hb dX9_combine_1 rfl (lv_at hl 1 rfl) ?_
  refine X_callo hw htab hlocks (c1 := 1) (n1 := 6) rfl rfl (Nat.le_of_ble_eq_true rfl) (Nat.le_of_ble_eq_true rfl) (vx_runV (own := "Leastreader") (As := [.int a1]) (rest := []) ⟨hx, hb, hml, hown, ht⟩ (c_X9_machineAt hst μ H.size a1 h) (cwV 1 ht (G_V q_314 q_316 q_0 q_46 q_317) rfl rfl rfl ⟨rfl, hd_53⟩ ⟨Nat.le_of_ble_eq_true rfl, Nat.le_of_ble_eq_true rfl⟩) ⟨TBX.blind, (T_recv hK hw (kd_of rfl (by decide)) (ent_8 rfl) cl_8), TBX.pre hK hN hX hw⟩ rfl rfl hl.1 rfl (lv_room (Nat.le_of_ble_eq_true rfl)) dX9_combine_2 ⟨Nat.le_of_ble_eq_true rfl, Nat.le_of_ble_eq_true rfl⟩) (fun k2 μ1 H locs hk2 h hw => ?_)
  refine lv_astore (lv' := [(5, .ref (ad k2)), (0, .ref (ad 0)), (1, .int a1), (2, .int a2), (3, .int a3), (4, .int a4)]) hx hb dX9_combine_5 hl (by decide) rfl (fun ls hl => ?_)
  refine lv_aload_n hx hb dX9_combine_7 rfl (lv_at hl 1 rfl) ?_
  refine lv_iload_n hx hb dX9_combine_8 rfl (lv_at hl 3 rfl) ?_
  refine X_callo hw htab hlocks (c1 := 2) (n1 := 12) rfl rfl (Nat.le_of_ble_eq_true rfl) (Nat.le_of_ble_eq_true rfl) (vx_runV (own := "Leastreader") (As := [.int a2]) (rest := []) ⟨hx, hb, hml, hown, ht⟩ (c_X9_machineAt hst μ1 H.size a2 h) (cwV 1 ht (G_V q_314 q_316 q_0 q_46 q_317) rfl rfl rfl ⟨rfl, hd_53⟩ ⟨Nat.le_of_ble_eq_true rfl, Nat.le_of_ble_eq_true rfl⟩) ⟨TBX.blind, (T_recv hK hw (kd_of rfl (by decide)) (ent_8 rfl) cl_8), TBX.pre hK hN hX hw⟩ rfl rfl hl.1 rfl (lv_room (Nat.le_of_ble_eq_true rfl)) dX9_combine_9 ⟨Nat.le_of_ble_eq_true rfl, Nat.le_of_ble_eq_true rfl⟩) (fun k4 μ3 H locs hk4 h hw => ?_)
  refine lv_astore (lv' := [(6, .ref (ad k4)), (5, .ref (ad k2)), (0, .ref (ad 0)), (1, .int a1), (2, .int a2), (3, .int a3), (4, .int a4)]) hx hb dX9_combine_12 hl (by decide) rfl (fun ls hl => ?_)
  refine lv_aload_n hx hb dX9_combine_14 rfl (lv_at hl 2 rfl) ?_
  refine lv_iload hx hb dX9_combine_15 (lv_at hl 6 rfl) ?_
  refine X_callo hw htab hlocks (c1 := 3) (n1 := 18) rfl rfl (Nat.le_of_ble_eq_true rfl) (Nat.le_of_ble_eq_true rfl) (vx_runV (own := "Leastreader") (As := [.int a4]) (rest := []) ⟨hx, hb, hml, hown, ht⟩ (c_X9_machineAt hst μ3 H.size a4 h) (cwV 1 ht (G_V q_314 q_316 q_0 q_46 q_317) rfl rfl rfl ⟨rfl, hd_53⟩ ⟨Nat.le_of_ble_eq_true rfl, Nat.le_of_ble_eq_true rfl⟩) ⟨TBX.blind, (T_recv hK hw (kd_of rfl (by decide)) (ent_8 rfl) cl_8), TBX.pre hK hN hX hw⟩ rfl rfl hl.1 rfl (lv_room (Nat.le_of_ble_eq_true rfl)) dX9_combine_17 ⟨Nat.le_of_ble_eq_true rfl, Nat.le_of_ble_eq_true rfl⟩) (fun k6 μ5 H locs hk6 h hw => ?_)
  refine lv_astore (lv' := [(7, .ref (ad k6)), (6, .ref (ad k4)), (5, .ref (ad k2)), (0, .ref (ad 0)), (1, .int a1), (2, .int a2), (3, .int a3), (4, .int a4)]) hx hb dX9_combine_20 hl (by decide) rfl (fun ls hl => ?_)
  refine lv_iload_n hx hb dX9_combine_22 rfl (lv_at hl 6 rfl) ?_
  refine lv_iconst (v := (0 : Int32)) hx hb dX9_combine_23 (by decide) ?_
  refine lv_iconst (v := (3 : Int32)) hx hb dX9_combine_24 (by decide) ?_
  refine X_callv hw htab hlocks (c1 := 4) (n1 := 24) rfl rfl (Nat.le_of_ble_eq_true rfl) (Nat.le_of_ble_eq_true rfl) (vx_runS (own := "Leastreader") (As := [.int a3, .int (0 : Int32), .int (3 : Int32)]) (rest := []) ⟨hx, hb, hml, hown, ht⟩ (c_X9_checkRange hst μ5 H.size a3 (0 : Int32) (3 : Int32) h) (va_cwS 3 ht (G_S q_597 q_598 q_46 q_599) rfl rfl rfl hd_54 ⟨Nat.le_of_ble_eq_true rfl, Nat.le_of_ble_eq_true rfl⟩) ⟨TBX.blind, TBX.pre hK hN hX hw⟩ rfl rfl hl.1 rfl (lv_room (Nat.le_of_ble_eq_true rfl)) dX9_combine_25 ⟨Nat.le_of_ble_eq_true rfl, Nat.le_of_ble_eq_true rfl⟩) (fun μ7 H locs h hw => ?_)
  refine lv_aload_n hx hb dX9_combine_28 rfl (lv_at hl 3 rfl) ?_
  refine lv_aload hx hb dX9_combine_29 (lv_at hl 2 rfl) ?_
  refine lv_aload hx hb dX9_combine_31 (lv_at hl 1 rfl) ?_
  refine lv_iload_n hx hb dX9_combine_33 rfl (lv_at hl 6 rfl) ?_
  refine T_calli hw (va_runV (own := "Leastreader") (As := [.ref (ad k2), .ref (ad k4), .int a3]) (rest := []) ⟨hx, hb, hml, hown, ht⟩ (c_X9_putTogether k2 hk2 k4 hk4 μ7 H.size a3 h) (cwV 3 ht (G_V q_780 q_782 q_18 q_46 q_783) rfl rfl rfl ⟨rfl, hd_67⟩ ⟨Nat.le_of_ble_eq_true rfl, Nat.le_of_ble_eq_true rfl⟩) ⟨TB.blind, (T_recv hK hw (kd_of rfl (by decide)) (ent_8 rfl) cl_8), TB.pre hK hN hw⟩ rfl rfl hl.1 rfl (lv_room (Nat.le_of_ble_eq_true rfl)) dX9_combine_34 ⟨Nat.le_of_ble_eq_true rfl, Nat.le_of_ble_eq_true rfl⟩) (fun r9 μ8 H locs h hw => ?_)
  refine lv_if_ne (tgt := 45) hx hb dX9_combine_37 (by decide) (fun c10 => ?_) (fun c10 => ?_)
  · have h := h.1 c10
    refine lv_aload_n hx hb dX9_combine_45 rfl (lv_at hl 3 rfl) ?_
    refine lv_aload hx hb dX9_combine_46 (lv_at hl 0 rfl) ?_
    refine T_calli hw (va_runV (own := "Leastreader") (As := [.ref (ad k6)]) (rest := []) ⟨hx, hb, hml, hown, ht⟩ (c_X9_becomeMade k6 hk6 μ8 H.size h) (cwV 1 ht (G_V q_769 q_771 q_17 q_46 q_772) rfl rfl rfl ⟨rfl, hd_66⟩ ⟨Nat.le_of_ble_eq_true rfl, Nat.le_of_ble_eq_true rfl⟩) ⟨TB.blind, (T_recv hK hw (kd_of rfl (by decide)) (ent_8 rfl) cl_8), TB.pre hK hN hw⟩ rfl rfl hl.1 rfl (lv_room (Nat.le_of_ble_eq_true rfl)) dX9_combine_48 ⟨Nat.le_of_ble_eq_true rfl, Nat.le_of_ble_eq_true rfl⟩) (fun r12 μ11 H locs h hw => ?_)
    exact hret H locs ls 51 4 24 _ _ hw h rfl (Nat.le_of_ble_eq_true rfl) (Nat.le_of_ble_eq_true rfl) dX9_combine_51
  have h := h.2 c10
  refine lv_aload_n hx hb dX9_combine_40 rfl (lv_at hl 3 rfl) ?_
  refine T_calli hw (va_runV (own := "Leastreader") (As := []) (rest := []) ⟨hx, hb, hml, hown, ht⟩ (c_X9_refuse μ8 H.size h) (cwV 0 ht (G_V q_732 q_734 q_16 q_46 q_735) rfl rfl rfl ⟨rfl, hd_4⟩ ⟨Nat.le_of_ble_eq_true rfl, Nat.le_of_ble_eq_true rfl⟩) ⟨TB.blind, (T_recv hK hw (kd_of rfl (by decide)) (ent_8 rfl) cl_8), TB.pre hK hN hw⟩ rfl rfl hl.1 rfl (lv_room (Nat.le_of_ble_eq_true rfl)) dX9_combine_41 ⟨Nat.le_of_ble_eq_true rfl, Nat.le_of_ble_eq_true rfl⟩) (fun r14 μ13 H locs h hw => ?_)
  exact hret H locs ls 44 4 24 _ _ hw h rfl (Nat.le_of_ble_eq_true rfl) (Nat.le_of_ble_eq_true rfl) dX9_combine_44
def wp_X9_tell (μ : TMem) (a1 : Int32) (a2 : Int32) (Q : Int32 → TMem → Prop) (X : String → TMem → Prop) : Prop :=
  wp_X9_machineAt μ a1 (fun (k2 : Nat) (μ1 : TMem) => wp_X9_checkRange μ1 a2 (0 : Int32) (4 : Int32) (fun (μ3 : TMem) => (a2 = (0 : Int32) → (Q (μ3 k2 1) μ3)) ∧ (¬ a2 = (0 : Int32) → (a2 = (1 : Int32) → (wp_X2_countArrows k2 μ3 (fun (r6 : Int32) => Q r6 μ3))) ∧ (¬ a2 = (1 : Int32) → (a2 = (2 : Int32) → (Q (μ3 k2 3) μ3)) ∧ (¬ a2 = (2 : Int32) → (a2 = (3 : Int32) → (Q (μ3 k2 2) μ3)) ∧ (¬ a2 = (3 : Int32) → (wp_X2_isPlain k2 μ3 (fun (r12 : Int32) => (r12 = 0 → (Q (0 : Int32) μ3)) ∧ (¬ r12 = 0 → (Q (1 : Int32) μ3))))))))) X) X
set_option maxHeartbeats 4000000 in
set_option maxRecDepth 100000 in
theorem c_X9_tell {l : Launch} (hst : l.stackTraces = false) {D : va_G} {ad : Nat → Nat} {cI cM : ClassId}  (μ : TMem) (sz : Nat) (a1 : Int32) (a2 : Int32) {Q : Int32 → TMem → Prop} {X : String → TMem → Prop} (h : wp_X9_tell μ a1 a2 Q X) : XMi l yX9_tell (.code yX9_tell cX9_tell 4 (Option.some Jvm.ClassFile.FieldType.int)) 2 2 12 [.ref (ad 0), .int a1, .int a2] D ad cI cM sz μ Q X := by
  refine X_meti (by decide +kernel) (Nat.le_of_ble_eq_true rfl) ?_
  intro p e s m below meth c Qc ls hx hb hml hown ht hN hK hX htab hlocks hw hret hl
  have hl : lv_has ls 4 [(0, .ref (ad 0)), (1, .int a1), (2, .int a2)] := hl
  suffices hh : ∀ (H : Heap) (locs : List Loc), TW D ad cI cM s μ H locs → W p l e (RX 2 2 12) s m #[.ref (ad 0), .int a1, .int a2] below meth c H locs 0 0 (vx_MQ below Qc (vx_X (fun _ : TMem => True) (TEX D ad cI cM X) (TA ad s.heap.size)) #[.ref (ad 0), .int a1, .int a2] s 2 12 (TA ad s.heap.size)) (F0 m 0 ls []) from hh _ _ hw
  intro H locs hw
  change wp_X9_machineAt μ a1 (fun (k2 : Nat) (μ1 : TMem) => wp_X9_checkRange μ1 a2 (0 : Int32) (4 : Int32) (fun (μ3 : TMem) => (a2 = (0 : Int32) → (Q (μ3 k2 1) μ3)) ∧ (¬ a2 = (0 : Int32) → (a2 = (1 : Int32) → (wp_X2_countArrows k2 μ3 (fun (r6 : Int32) => Q r6 μ3))) ∧ (¬ a2 = (1 : Int32) → (a2 = (2 : Int32) → (Q (μ3 k2 3) μ3)) ∧ (¬ a2 = (2 : Int32) → (a2 = (3 : Int32) → (Q (μ3 k2 2) μ3)) ∧ (¬ a2 = (3 : Int32) → (wp_X2_isPlain k2 μ3 (fun (r12 : Int32) => (r12 = 0 → (Q (0 : Int32) μ3)) ∧ (¬ r12 = 0 → (Q (1 : Int32) μ3))))))))) X) X at h
  refine lv_aload_n hx hb dX9_tell_0 rfl (lv_at hl 0 rfl) ?_
  refine lv_iload_n hx hb dX9_tell_1 rfl (lv_at hl 1 rfl) ?_
  refine X_callo hw htab hlocks (c1 := 1) (n1 := 6) rfl rfl (Nat.le_of_ble_eq_true rfl) (Nat.le_of_ble_eq_true rfl) (vx_runV (own := "Leastreader") (As := [.int a1]) (rest := []) ⟨hx, hb, hml, hown, ht⟩ (c_X9_machineAt hst μ H.size a1 h) (cwV 1 ht (G_V q_314 q_316 q_0 q_46 q_317) rfl rfl rfl ⟨rfl, hd_53⟩ ⟨Nat.le_of_ble_eq_true rfl, Nat.le_of_ble_eq_true rfl⟩) ⟨TBX.blind, (T_recv hK hw (kd_of rfl (by decide)) (ent_8 rfl) cl_8), TBX.pre hK hN hX hw⟩ rfl rfl hl.1 rfl (lv_room (Nat.le_of_ble_eq_true rfl)) dX9_tell_2 ⟨Nat.le_of_ble_eq_true rfl, Nat.le_of_ble_eq_true rfl⟩) (fun k2 μ1 H locs hk2 h hw => ?_)
  refine lv_astore_n (lv' := [(3, .ref (ad k2)), (0, .ref (ad 0)), (1, .int a1), (2, .int a2)]) hx hb dX9_tell_5 rfl hl (by decide) rfl (fun ls hl => ?_)
  refine lv_iload_n hx hb dX9_tell_6 rfl (lv_at hl 3 rfl) ?_
  refine lv_iconst (v := (0 : Int32)) hx hb dX9_tell_7 (by decide) ?_
  refine lv_iconst (v := (4 : Int32)) hx hb dX9_tell_8 (by decide) ?_
  refine X_callv hw htab hlocks (c1 := 2) (n1 := 12) rfl rfl (Nat.le_of_ble_eq_true rfl) (Nat.le_of_ble_eq_true rfl) (vx_runS (own := "Leastreader") (As := [.int a2, .int (0 : Int32), .int (4 : Int32)]) (rest := []) ⟨hx, hb, hml, hown, ht⟩ (c_X9_checkRange hst μ1 H.size a2 (0 : Int32) (4 : Int32) h) (va_cwS 3 ht (G_S q_597 q_598 q_46 q_599) rfl rfl rfl hd_54 ⟨Nat.le_of_ble_eq_true rfl, Nat.le_of_ble_eq_true rfl⟩) ⟨TBX.blind, TBX.pre hK hN hX hw⟩ rfl rfl hl.1 rfl (lv_room (Nat.le_of_ble_eq_true rfl)) dX9_tell_9 ⟨Nat.le_of_ble_eq_true rfl, Nat.le_of_ble_eq_true rfl⟩) (fun μ3 H locs h hw => ?_)
  refine lv_iload_n hx hb dX9_tell_12 rfl (lv_at hl 3 rfl) ?_
  by_cases c5 : a2 = (0 : Int32)
  · have h := h.1 c5
    refine lv_tableIn (tgt := 44) hx hb dX9_tell_13 (by rw [c5]; decide) (by rw [c5]; decide) (by rw [c5]; rfl) (by decide) ?_
    refine lv_aload_n hx hb dX9_tell_44 rfl (lv_at hl 0 rfl) ?_
    refine gf_X9_151 hx hb ht hown hK hw hk2 dX9_tell_45 ?_
    exact hret H locs ls 48 2 12 _ _ hw h rfl (Nat.le_of_ble_eq_true rfl) (Nat.le_of_ble_eq_true rfl) dX9_tell_48
  have h := h.2 c5
  by_cases c9 : a2 = (1 : Int32)
  · have h := h.1 c9
    refine lv_tableIn (tgt := 49) hx hb dX9_tell_13 (by rw [c9]; decide) (by rw [c9]; decide) (by rw [c9]; rfl) (by decide) ?_
    refine lv_aload_n hx hb dX9_tell_49 rfl (lv_at hl 0 rfl) ?_
    refine T_calli hw (va_runV (own := "Leastreader") (As := []) (rest := []) ⟨hx, hb, hml, hown, ht⟩ (c_X2_countArrows k2 hk2 μ3 H.size h) (cwV 0 ht (G_V q_559 q_560 q_561 q_48 q_562) rfl rfl rfl ⟨rfl, hd_34⟩ ⟨Nat.le_of_ble_eq_true rfl, Nat.le_of_ble_eq_true rfl⟩) ⟨TB.blind, (T_recv hK hw (kd_of hk2 (by decide)) (ent_2 hk2) cl_2), TB.pre hK hN hw⟩ rfl rfl hl.1 rfl (lv_room (Nat.le_of_ble_eq_true rfl)) dX9_tell_50 ⟨Nat.le_of_ble_eq_true rfl, Nat.le_of_ble_eq_true rfl⟩) (fun r6 μ7 H locs h hw => ?_)
    obtain ⟨e8, h⟩ := h
    rw [e8] at hw
    exact hret H locs ls 53 2 12 _ _ hw h rfl (Nat.le_of_ble_eq_true rfl) (Nat.le_of_ble_eq_true rfl) dX9_tell_53
  have h := h.2 c9
  by_cases c10 : a2 = (2 : Int32)
  · have h := h.1 c10
    refine lv_tableIn (tgt := 54) hx hb dX9_tell_13 (by rw [c10]; decide) (by rw [c10]; decide) (by rw [c10]; rfl) (by decide) ?_
    refine lv_aload_n hx hb dX9_tell_54 rfl (lv_at hl 0 rfl) ?_
    refine gf_X9_115 hx hb ht hN hown hK hw hk2 dX9_tell_55 ?_
    exact hret H locs ls 58 2 12 _ _ hw h rfl (Nat.le_of_ble_eq_true rfl) (Nat.le_of_ble_eq_true rfl) dX9_tell_58
  have h := h.2 c10
  by_cases c11 : a2 = (3 : Int32)
  · have h := h.1 c11
    refine lv_tableIn (tgt := 59) hx hb dX9_tell_13 (by rw [c11]; decide) (by rw [c11]; decide) (by rw [c11]; rfl) (by decide) ?_
    refine lv_aload_n hx hb dX9_tell_59 rfl (lv_at hl 0 rfl) ?_
    refine gf_X9_111 hx hb ht hown hK hw hk2 dX9_tell_60 ?_
    exact hret H locs ls 63 2 12 _ _ hw h rfl (Nat.le_of_ble_eq_true rfl) (Nat.le_of_ble_eq_true rfl) dX9_tell_63
  have h := h.2 c11
  have so16 : (a2).toInt < 0 ∨ 3 < (a2).toInt := sw_out (fun j h1 h2 => by
    rcases (show j = 0 ∨ j = 1 ∨ j = 2 ∨ j = 3 by omega) with rfl | rfl | rfl | rfl
    · exact fun q => c5 (q.trans (by decide))
    · exact fun q => c9 (q.trans (by decide))
    · exact fun q => c10 (q.trans (by decide))
    · exact fun q => c11 (q.trans (by decide)))
  refine lv_tableOut (tgt := 64) hx hb dX9_tell_13 so16 (by decide) ?_
  refine lv_aload_n hx hb dX9_tell_64 rfl (lv_at hl 0 rfl) ?_
  refine T_calli hw (va_runV (own := "Leastreader") (As := []) (rest := []) ⟨hx, hb, hml, hown, ht⟩ (c_X2_isPlain k2 hk2 μ3 H.size h) (cwV 0 ht (G_V q_569 q_570 q_571 q_48 q_572) rfl rfl rfl ⟨rfl, hd_35⟩ ⟨Nat.le_of_ble_eq_true rfl, Nat.le_of_ble_eq_true rfl⟩) ⟨TB.blind, (T_recv hK hw (kd_of hk2 (by decide)) (ent_2 hk2) cl_2), TB.pre hK hN hw⟩ rfl rfl hl.1 rfl (lv_room (Nat.le_of_ble_eq_true rfl)) dX9_tell_65 ⟨Nat.le_of_ble_eq_true rfl, Nat.le_of_ble_eq_true rfl⟩) (fun r12 μ13 H locs h hw => ?_)
  obtain ⟨e14, h⟩ := h
  rw [e14] at hw
  refine lv_if_eq (tgt := 75) hx hb dX9_tell_68 (by decide) (fun c15 => ?_) (fun c15 => ?_)
  · have h := h.1 c15
    refine lv_iconst (v := (0 : Int32)) hx hb dX9_tell_75 (by decide) ?_
    exact hret H locs ls 76 2 12 _ _ hw h rfl (Nat.le_of_ble_eq_true rfl) (Nat.le_of_ble_eq_true rfl) dX9_tell_76
  have h := h.2 c15
  refine lv_iconst (v := (1 : Int32)) hx hb dX9_tell_71 (by decide) ?_
  refine lv_goto (tgt := 76) hx hb dX9_tell_72 (by decide) ?_
  exact hret H locs ls 76 2 12 _ _ hw h rfl (Nat.le_of_ble_eq_true rfl) (Nat.le_of_ble_eq_true rfl) dX9_tell_76
def wp_X9_arrows (μ : TMem) (a1 : Int32) (a2 : Int32) (a3 : Int32) (Q : Int32 → TMem → Prop) (X : String → TMem → Prop) : Prop :=
  wp_X9_machineAt μ a1 (fun (k2 : Nat) (μ1 : TMem) => wp_X9_checkState k2 μ1 a2 (fun (μ3 : TMem) => wp_X9_checkSign μ3 a3 (fun (μ4 : TMem) => wp_X7_at k2 μ4 a2 a3 (fun (r5 : Int32) => Q r5 μ4)) X) X) X
set_option maxHeartbeats 4000000 in
set_option maxRecDepth 100000 in
theorem c_X9_arrows {l : Launch} (hst : l.stackTraces = false) {D : va_G} {ad : Nat → Nat} {cI cM : ClassId}  (μ : TMem) (sz : Nat) (a1 : Int32) (a2 : Int32) (a3 : Int32) {Q : Int32 → TMem → Prop} {X : String → TMem → Prop} (h : wp_X9_arrows μ a1 a2 a3 Q X) : XMi l yX9_arrows (.code yX9_arrows cX9_arrows 5 (Option.some Jvm.ClassFile.FieldType.int)) 2 3 18 [.ref (ad 0), .int a1, .int a2, .int a3] D ad cI cM sz μ Q X := by
  refine X_meti (by decide +kernel) (Nat.le_of_ble_eq_true rfl) ?_
  intro p e s m below meth c Qc ls hx hb hml hown ht hN hK hX htab hlocks hw hret hl
  have hl : lv_has ls 5 [(0, .ref (ad 0)), (1, .int a1), (2, .int a2), (3, .int a3)] := hl
  suffices hh : ∀ (H : Heap) (locs : List Loc), TW D ad cI cM s μ H locs → W p l e (RX 2 3 18) s m #[.ref (ad 0), .int a1, .int a2, .int a3] below meth c H locs 0 0 (vx_MQ below Qc (vx_X (fun _ : TMem => True) (TEX D ad cI cM X) (TA ad s.heap.size)) #[.ref (ad 0), .int a1, .int a2, .int a3] s 3 18 (TA ad s.heap.size)) (F0 m 0 ls []) from hh _ _ hw
  intro H locs hw
  change wp_X9_machineAt μ a1 (fun (k2 : Nat) (μ1 : TMem) => wp_X9_checkState k2 μ1 a2 (fun (μ3 : TMem) => wp_X9_checkSign μ3 a3 (fun (μ4 : TMem) => wp_X7_at k2 μ4 a2 a3 (fun (r5 : Int32) => Q r5 μ4)) X) X) X at h
  refine lv_aload_n hx hb dX9_arrows_0 rfl (lv_at hl 0 rfl) ?_
  refine lv_iload_n hx hb dX9_arrows_1 rfl (lv_at hl 1 rfl) ?_
  refine X_callo hw htab hlocks (c1 := 1) (n1 := 6) rfl rfl (Nat.le_of_ble_eq_true rfl) (Nat.le_of_ble_eq_true rfl) (vx_runV (own := "Leastreader") (As := [.int a1]) (rest := []) ⟨hx, hb, hml, hown, ht⟩ (c_X9_machineAt hst μ H.size a1 h) (cwV 1 ht (G_V q_314 q_316 q_0 q_46 q_317) rfl rfl rfl ⟨rfl, hd_53⟩ ⟨Nat.le_of_ble_eq_true rfl, Nat.le_of_ble_eq_true rfl⟩) ⟨TBX.blind, (T_recv hK hw (kd_of rfl (by decide)) (ent_8 rfl) cl_8), TBX.pre hK hN hX hw⟩ rfl rfl hl.1 rfl (lv_room (Nat.le_of_ble_eq_true rfl)) dX9_arrows_2 ⟨Nat.le_of_ble_eq_true rfl, Nat.le_of_ble_eq_true rfl⟩) (fun k2 μ1 H locs hk2 h hw => ?_)
  refine lv_astore (lv' := [(4, .ref (ad k2)), (0, .ref (ad 0)), (1, .int a1), (2, .int a2), (3, .int a3)]) hx hb dX9_arrows_5 hl (by decide) rfl (fun ls hl => ?_)
  refine lv_aload hx hb dX9_arrows_7 (lv_at hl 0 rfl) ?_
  refine lv_iload_n hx hb dX9_arrows_9 rfl (lv_at hl 3 rfl) ?_
  refine X_callv hw htab hlocks (c1 := 2) (n1 := 12) rfl rfl (Nat.le_of_ble_eq_true rfl) (Nat.le_of_ble_eq_true rfl) (vx_runS (own := "Leastreader") (As := [.ref (ad k2), .int a2]) (rest := []) ⟨hx, hb, hml, hown, ht⟩ (c_X9_checkState hst k2 hk2 μ1 H.size a2 h) (va_cwS 2 ht (G_S q_635 q_636 q_46 q_637) rfl rfl rfl hd_56 ⟨Nat.le_of_ble_eq_true rfl, Nat.le_of_ble_eq_true rfl⟩) ⟨TBX.blind, TBX.pre hK hN hX hw⟩ rfl rfl hl.1 rfl (lv_room (Nat.le_of_ble_eq_true rfl)) dX9_arrows_10 ⟨Nat.le_of_ble_eq_true rfl, Nat.le_of_ble_eq_true rfl⟩) (fun μ3 H locs h hw => ?_)
  refine lv_iload_n hx hb dX9_arrows_13 rfl (lv_at hl 4 rfl) ?_
  refine X_callv hw htab hlocks (c1 := 3) (n1 := 18) rfl rfl (Nat.le_of_ble_eq_true rfl) (Nat.le_of_ble_eq_true rfl) (vx_runS (own := "Leastreader") (As := [.int a3]) (rest := []) ⟨hx, hb, hml, hown, ht⟩ (c_X9_checkSign hst μ3 H.size a3 h) (va_cwS 1 ht (G_S q_639 q_640 q_46 q_641) rfl rfl rfl hd_57 ⟨Nat.le_of_ble_eq_true rfl, Nat.le_of_ble_eq_true rfl⟩) ⟨TBX.blind, TBX.pre hK hN hX hw⟩ rfl rfl hl.1 rfl (lv_room (Nat.le_of_ble_eq_true rfl)) dX9_arrows_14 ⟨Nat.le_of_ble_eq_true rfl, Nat.le_of_ble_eq_true rfl⟩) (fun μ4 H locs h hw => ?_)
  refine lv_aload hx hb dX9_arrows_17 (lv_at hl 0 rfl) ?_
  refine lv_iload_n hx hb dX9_arrows_19 rfl (lv_at hl 3 rfl) ?_
  refine lv_iload_n hx hb dX9_arrows_20 rfl (lv_at hl 4 rfl) ?_
  refine T_calli hw (va_runU (own := "Leastreader") (As := [.int a2, .int a3]) (rest := []) ⟨hx, hb, hml, hown, ht⟩ (c_X7_at_2 k2 hk2 μ4 H.size a2 a3 h) (va_cwU (owner := "Leastreader$Table") 2 ht (G_U q_573 q_413 q_415 q_416 q_47 q_417) rfl rfl rfl rfl hd_0 ⟨Nat.le_of_ble_eq_true rfl, Nat.le_of_ble_eq_true rfl⟩) ⟨TB.blind, (T_recv hK hw (kd_of hk2 (by decide)) (ent_2 hk2) cl_2), TB.pre hK hN hw⟩ rfl rfl hl.1 rfl (lv_room (Nat.le_of_ble_eq_true rfl)) dX9_arrows_21 ⟨Nat.le_of_ble_eq_true rfl, Nat.le_of_ble_eq_true rfl⟩) (fun r5 μ6 H locs h hw => ?_)
  obtain ⟨e7, h⟩ := h
  rw [e7] at hw
  exact hret H locs ls 24 3 18 _ _ hw h rfl (Nat.le_of_ble_eq_true rfl) (Nat.le_of_ble_eq_true rfl) dX9_arrows_24
def wp_X9_checkWord (μ : TMem) (a0 : Int32) (a1 : Int32) (Q : TMem → Prop) (X : String → TMem → Prop) : Prop :=
  wp_X9_checkRange μ a0 (0 : Int32) (12 : Int32) (fun (μ1 : TMem) => wp_X9_countCodes a0 (fun (r2 : Int32) => wp_X9_checkRange μ1 a1 (0 : Int32) (r2 - (1 : Int32)) (fun (μ3 : TMem) => Q μ3) X)) X
set_option maxHeartbeats 4000000 in
set_option maxRecDepth 100000 in
theorem c_X9_checkWord {l : Launch} (hst : l.stackTraces = false) {D : va_G} {ad : Nat → Nat} {cI cM : ClassId}  (μ : TMem) (sz : Nat) (a0 : Int32) (a1 : Int32) {Q : TMem → Prop} {X : String → TMem → Prop} (h : wp_X9_checkWord μ a0 a1 Q X) : XMv l yX9_checkWord (.code yX9_checkWord cX9_checkWord 2 (Option.none : Option Jvm.ClassFile.FieldType)) 1 2 12 [.int a0, .int a1] D ad cI cM sz μ Q X := by
  refine X_metv (by decide +kernel) (Nat.le_of_ble_eq_true rfl) ?_
  intro p e s m below meth c Qc ls hx hb hml hown ht hN hK hX htab hlocks hw hret hl
  have hl : lv_has ls 2 [(0, .int a0), (1, .int a1)] := hl
  suffices hh : ∀ (H : Heap) (locs : List Loc), TW D ad cI cM s μ H locs → W p l e (RX 1 2 12) s m #[.int a0, .int a1] below meth c H locs 0 0 (vx_MQ below Qc (vx_X (fun _ : TMem => True) (TEX D ad cI cM X) (TA ad s.heap.size)) #[.int a0, .int a1] s 2 12 (TA ad s.heap.size)) (F0 m 0 ls []) from hh _ _ hw
  intro H locs hw
  change wp_X9_checkRange μ a0 (0 : Int32) (12 : Int32) (fun (μ1 : TMem) => wp_X9_countCodes a0 (fun (r2 : Int32) => wp_X9_checkRange μ1 a1 (0 : Int32) (r2 - (1 : Int32)) (fun (μ3 : TMem) => Q μ3) X)) X at h
  refine lv_iload_n hx hb dX9_checkWord_0 rfl (lv_at hl 0 rfl) ?_
  refine lv_iconst (v := (0 : Int32)) hx hb dX9_checkWord_1 (by decide) ?_
  refine lv_bipush (v := (12 : Int32)) hx hb dX9_checkWord_2 (by decide) ?_
  refine X_callv hw htab hlocks (c1 := 1) (n1 := 6) rfl rfl (Nat.le_of_ble_eq_true rfl) (Nat.le_of_ble_eq_true rfl) (vx_runS (own := "Leastreader") (As := [.int a0, .int (0 : Int32), .int (12 : Int32)]) (rest := []) ⟨hx, hb, hml, hown, ht⟩ (c_X9_checkRange hst μ H.size a0 (0 : Int32) (12 : Int32) h) (va_cwS 3 ht (G_S q_597 q_598 q_46 q_599) rfl rfl rfl hd_54 ⟨Nat.le_of_ble_eq_true rfl, Nat.le_of_ble_eq_true rfl⟩) ⟨TBX.blind, TBX.pre hK hN hX hw⟩ rfl rfl hl.1 rfl (lv_room (Nat.le_of_ble_eq_true rfl)) dX9_checkWord_4 ⟨Nat.le_of_ble_eq_true rfl, Nat.le_of_ble_eq_true rfl⟩) (fun μ1 H locs h hw => ?_)
  refine lv_iload_n hx hb dX9_checkWord_7 rfl (lv_at hl 1 rfl) ?_
  refine lv_iconst (v := (0 : Int32)) hx hb dX9_checkWord_8 (by decide) ?_
  refine lv_iload_n hx hb dX9_checkWord_9 rfl (lv_at hl 0 rfl) ?_
  refine P_calli (va_runS (own := "Leastreader") (As := [.int a0]) (rest := [.int (0 : Int32), .int a1]) ⟨hx, hb, hml, hown, ht⟩ (c_X9_countCodes a0 h) (va_cwS 1 ht (G_S q_532 q_533 q_46 q_534) rfl rfl rfl hd_30 ⟨Nat.le_of_ble_eq_true rfl, Nat.le_of_ble_eq_true rfl⟩) ⟨PM_blind, PM_pre⟩ rfl rfl hl.1 rfl (lv_room (Nat.le_of_ble_eq_true rfl)) dX9_checkWord_10 ⟨Nat.le_of_ble_eq_true rfl, Nat.le_of_ble_eq_true rfl⟩) (fun r2 h => ?_)
  refine lv_iconst (v := (1 : Int32)) hx hb dX9_checkWord_13 (by decide) ?_
  refine lv_isub hx hb dX9_checkWord_14 ?_
  refine X_callv hw htab hlocks (c1 := 2) (n1 := 12) rfl rfl (Nat.le_of_ble_eq_true rfl) (Nat.le_of_ble_eq_true rfl) (vx_runS (own := "Leastreader") (As := [.int a1, .int (0 : Int32), .int (r2 - (1 : Int32))]) (rest := []) ⟨hx, hb, hml, hown, ht⟩ (c_X9_checkRange hst μ1 H.size a1 (0 : Int32) (r2 - (1 : Int32)) h) (va_cwS 3 ht (G_S q_597 q_598 q_46 q_599) rfl rfl rfl hd_54 ⟨Nat.le_of_ble_eq_true rfl, Nat.le_of_ble_eq_true rfl⟩) ⟨TBX.blind, TBX.pre hK hN hX hw⟩ rfl rfl hl.1 rfl (lv_room (Nat.le_of_ble_eq_true rfl)) dX9_checkWord_15 ⟨Nat.le_of_ble_eq_true rfl, Nat.le_of_ble_eq_true rfl⟩) (fun μ3 H locs h hw => ?_)
  exact hret H locs ls 18 2 12 _ hw h (Nat.le_of_ble_eq_true rfl) (Nat.le_of_ble_eq_true rfl) dX9_checkWord_18
def wp_X9_takes (μ : TMem) (a1 : Int32) (a2 : Int32) (a3 : Int32) (Q : Int32 → TMem → Prop) (X : String → TMem → Prop) : Prop :=
  wp_X9_machineAt μ a1 (fun (k2 : Nat) (μ1 : TMem) => wp_X9_checkWord μ1 a2 a3 (fun (μ3 : TMem) => wp_X2_isTaking k2 μ3 a2 a3 (fun (r4 : Int32) => isB r4 ∧ Q r4 μ3)) X) X
set_option maxHeartbeats 4000000 in
set_option maxRecDepth 100000 in
theorem c_X9_takes {l : Launch} (hst : l.stackTraces = false) {D : va_G} {ad : Nat → Nat} {cI cM : ClassId}  (μ : TMem) (sz : Nat) (a1 : Int32) (a2 : Int32) (a3 : Int32) {Q : Int32 → TMem → Prop} {X : String → TMem → Prop} (h : wp_X9_takes μ a1 a2 a3 Q X) : XMi l yX9_takes (.code yX9_takes cX9_takes 5 (Option.some Jvm.ClassFile.FieldType.boolean)) 4 3 18 [.ref (ad 0), .int a1, .int a2, .int a3] D ad cI cM sz μ Q X := by
  refine X_meti (by decide +kernel) (Nat.le_of_ble_eq_true rfl) ?_
  intro p e s m below meth c Qc ls hx hb hml hown ht hN hK hX htab hlocks hw hret hl
  have hl : lv_has ls 5 [(0, .ref (ad 0)), (1, .int a1), (2, .int a2), (3, .int a3)] := hl
  suffices hh : ∀ (H : Heap) (locs : List Loc), TW D ad cI cM s μ H locs → W p l e (RX 4 3 18) s m #[.ref (ad 0), .int a1, .int a2, .int a3] below meth c H locs 0 0 (vx_MQ below Qc (vx_X (fun _ : TMem => True) (TEX D ad cI cM X) (TA ad s.heap.size)) #[.ref (ad 0), .int a1, .int a2, .int a3] s 3 18 (TA ad s.heap.size)) (F0 m 0 ls []) from hh _ _ hw
  intro H locs hw
  change wp_X9_machineAt μ a1 (fun (k2 : Nat) (μ1 : TMem) => wp_X9_checkWord μ1 a2 a3 (fun (μ3 : TMem) => wp_X2_isTaking k2 μ3 a2 a3 (fun (r4 : Int32) => isB r4 ∧ Q r4 μ3)) X) X at h
  refine lv_aload_n hx hb dX9_takes_0 rfl (lv_at hl 0 rfl) ?_
  refine lv_iload_n hx hb dX9_takes_1 rfl (lv_at hl 1 rfl) ?_
  refine X_callo hw htab hlocks (c1 := 1) (n1 := 6) rfl rfl (Nat.le_of_ble_eq_true rfl) (Nat.le_of_ble_eq_true rfl) (vx_runV (own := "Leastreader") (As := [.int a1]) (rest := []) ⟨hx, hb, hml, hown, ht⟩ (c_X9_machineAt hst μ H.size a1 h) (cwV 1 ht (G_V q_314 q_316 q_0 q_46 q_317) rfl rfl rfl ⟨rfl, hd_53⟩ ⟨Nat.le_of_ble_eq_true rfl, Nat.le_of_ble_eq_true rfl⟩) ⟨TBX.blind, (T_recv hK hw (kd_of rfl (by decide)) (ent_8 rfl) cl_8), TBX.pre hK hN hX hw⟩ rfl rfl hl.1 rfl (lv_room (Nat.le_of_ble_eq_true rfl)) dX9_takes_2 ⟨Nat.le_of_ble_eq_true rfl, Nat.le_of_ble_eq_true rfl⟩) (fun k2 μ1 H locs hk2 h hw => ?_)
  refine lv_astore (lv' := [(4, .ref (ad k2)), (0, .ref (ad 0)), (1, .int a1), (2, .int a2), (3, .int a3)]) hx hb dX9_takes_5 hl (by decide) rfl (fun ls hl => ?_)
  refine lv_iload_n hx hb dX9_takes_7 rfl (lv_at hl 3 rfl) ?_
  refine lv_iload_n hx hb dX9_takes_8 rfl (lv_at hl 4 rfl) ?_
  refine X_callv hw htab hlocks (c1 := 3) (n1 := 18) rfl rfl (Nat.le_of_ble_eq_true rfl) (Nat.le_of_ble_eq_true rfl) (vx_runS (own := "Leastreader") (As := [.int a2, .int a3]) (rest := []) ⟨hx, hb, hml, hown, ht⟩ (c_X9_checkWord hst μ1 H.size a2 a3 h) (va_cwS 2 ht (G_S q_842 q_843 q_46 q_844) rfl rfl rfl hd_68 ⟨Nat.le_of_ble_eq_true rfl, Nat.le_of_ble_eq_true rfl⟩) ⟨TBX.blind, TBX.pre hK hN hX hw⟩ rfl rfl hl.1 rfl (lv_room (Nat.le_of_ble_eq_true rfl)) dX9_takes_9 ⟨Nat.le_of_ble_eq_true rfl, Nat.le_of_ble_eq_true rfl⟩) (fun μ3 H locs h hw => ?_)
  refine lv_aload hx hb dX9_takes_12 (lv_at hl 0 rfl) ?_
  refine lv_iload_n hx hb dX9_takes_14 rfl (lv_at hl 3 rfl) ?_
  refine lv_iload_n hx hb dX9_takes_15 rfl (lv_at hl 4 rfl) ?_
  refine T_calli hw (va_runV (own := "Leastreader") (As := [.int a2, .int a3]) (rest := []) ⟨hx, hb, hml, hown, ht⟩ (c_X2_isTaking k2 hk2 μ3 H.size a2 a3 h) (cwV 2 ht (G_V q_541 q_542 q_543 q_48 q_544) rfl rfl rfl ⟨rfl, hd_32⟩ ⟨Nat.le_of_ble_eq_true rfl, Nat.le_of_ble_eq_true rfl⟩) ⟨TB.blind, (T_recv hK hw (kd_of hk2 (by decide)) (ent_2 hk2) cl_2), TB.pre hK hN hw⟩ rfl rfl hl.1 rfl (lv_room (Nat.le_of_ble_eq_true rfl)) dX9_takes_16 ⟨Nat.le_of_ble_eq_true rfl, Nat.le_of_ble_eq_true rfl⟩) (fun r4 μ5 H locs h hw => ?_)
  obtain ⟨e6, h⟩ := h
  rw [e6] at hw
  obtain ⟨z7, h⟩ := h
  exact hret H locs ls 19 3 18 _ _ hw h (isB_n z7) (Nat.le_of_ble_eq_true rfl) (Nat.le_of_ble_eq_true rfl) dX9_takes_19
def wp_X9_makeOrThrow (k2 : Nat) (k3 : Nat) (μ : TMem) (a1 : Int32) (Q : TMem → Prop) (X : String → TMem → Prop) : Prop :=
  wp_X3_makeBy k2 k3 μ a1 (fun (r2 : Int32) (μ1 : TMem) => (¬ r2 = 0 → (Q μ1)) ∧ (r2 = 0 → (X "java/lang/IllegalStateException" μ1)))
set_option maxHeartbeats 4000000 in
set_option maxRecDepth 100000 in
theorem c_X9_makeOrThrow {l : Launch} (hst : l.stackTraces = false) {D : va_G} {ad : Nat → Nat} {cI cM : ClassId} (k2 : Nat) (hk2 : kd k2 = 2) (k3 : Nat) (hk3 : kd k3 = 5) (μ : TMem) (sz : Nat) (a1 : Int32) {Q : TMem → Prop} {X : String → TMem → Prop} (h : wp_X9_makeOrThrow k2 k3 μ a1 Q X) : XMv l yX9_makeOrThrow (.code yX9_makeOrThrow cX9_makeOrThrow 4 (Option.none : Option Jvm.ClassFile.FieldType)) 5 1 6 [.ref (ad 0), .int a1, .ref (ad k2), .ref (ad k3)] D ad cI cM sz μ Q X := by
  refine X_metv (by decide +kernel) (Nat.le_of_ble_eq_true rfl) ?_
  intro p e s m below meth c Qc ls hx hb hml hown ht hN hK hX htab hlocks hw hret hl
  have hl : lv_has ls 4 [(0, .ref (ad 0)), (1, .int a1), (2, .ref (ad k2)), (3, .ref (ad k3))] := hl
  suffices hh : ∀ (H : Heap) (locs : List Loc), TW D ad cI cM s μ H locs → W p l e (RX 5 1 6) s m #[.ref (ad 0), .int a1, .ref (ad k2), .ref (ad k3)] below meth c H locs 0 0 (vx_MQ below Qc (vx_X (fun _ : TMem => True) (TEX D ad cI cM X) (TA ad s.heap.size)) #[.ref (ad 0), .int a1, .ref (ad k2), .ref (ad k3)] s 1 6 (TA ad s.heap.size)) (F0 m 0 ls []) from hh _ _ hw
  intro H locs hw
  change wp_X3_makeBy k2 k3 μ a1 (fun (r2 : Int32) (μ1 : TMem) => (¬ r2 = 0 → (Q μ1)) ∧ (r2 = 0 → (X "java/lang/IllegalStateException" μ1))) at h
  refine lv_aload_n hx hb dX9_makeOrThrow_0 rfl (lv_at hl 0 rfl) ?_
  refine gf_X9_35 hx hb ht hown hK hw rfl dX9_makeOrThrow_1 ?_
  refine lv_iload_n hx hb dX9_makeOrThrow_4 rfl (lv_at hl 1 rfl) ?_
  refine lv_aload_n hx hb dX9_makeOrThrow_5 rfl (lv_at hl 2 rfl) ?_
  refine lv_aload_n hx hb dX9_makeOrThrow_6 rfl (lv_at hl 3 rfl) ?_
  refine T_calli hw (va_runV (own := "Leastreader") (As := [.int a1, .ref (ad k2), .ref (ad k3)]) (rest := []) ⟨hx, hb, hml, hown, ht⟩ (c_X3_makeBy k2 hk2 k3 hk3 μ H.size a1 h) (cwV 3 ht (G_V q_386 q_387 q_388 q_50 q_389) rfl rfl rfl ⟨rfl, hd_65⟩ ⟨Nat.le_of_ble_eq_true rfl, Nat.le_of_ble_eq_true rfl⟩) ⟨TB.blind, (T_recv hK hw (kd_of rfl (by decide)) (ent_3 rfl) cl_3), TB.pre hK hN hw⟩ rfl rfl hl.1 rfl (lv_room (Nat.le_of_ble_eq_true rfl)) dX9_makeOrThrow_7 ⟨Nat.le_of_ble_eq_true rfl, Nat.le_of_ble_eq_true rfl⟩) (fun r2 μ1 H locs h hw => ?_)
  refine lv_if_ne (tgt := 23) hx hb dX9_makeOrThrow_10 (by decide) (fun c3 => ?_) (fun c3 => ?_)
  · have h := h.1 c3
    exact hret H locs ls 23 0 0 _ hw h (Nat.le_of_ble_eq_true rfl) (Nat.le_of_ble_eq_true rfl) dX9_makeOrThrow_23
  have h := h.2 c3
  exact X_throw (R := RX 5 1 6) (cells := 0) (slots := 0) (fc := 1) (fn := 6) (cls := "java/lang/IllegalStateException") hx hb hst (hl.1.trans hml.symm) hown (by decide +kernel) (ht _ q_858) (ht _ q_65) (sr_RX9_243 hX.2.2.2) (hat_2 ht hX.2.2.1) hgd_2 hX hw htab hlocks dX9_makeOrThrow_13 dX9_makeOrThrow_16 dX9_makeOrThrow_17 dX9_makeOrThrow_19 dX9_makeOrThrow_22 (Nat.le_of_ble_eq_true rfl) (Nat.le_of_ble_eq_true rfl) (Nat.le_of_ble_eq_true rfl) (Nat.le_of_ble_eq_true rfl) (Nat.le_of_ble_eq_true rfl) (Nat.le_of_ble_eq_true rfl) h
def wp_X9_after (μ : TMem) (a1 : Int32) (a2 : Int32) (a3 : Int32) (a4 : Int32) (Q : Int32 → TMem → Prop) (X : String → TMem → Prop) : Prop :=
  wp_X9_machineAt μ a1 (fun (k2 : Nat) (μ1 : TMem) => wp_X9_checkWord μ1 a2 a3 (fun (μ3 : TMem) => wp_X9_checkRange μ3 a4 (0 : Int32) (2 : Int32) (fun (μ4 : TMem) => (¬ a4 = 0 → ((¬ a4 = (1 : Int32) → (wp_X9_makeOrThrow k2 57 μ4 (0 : Int32) (fun (μ7 : TMem) => wp_X5_stateAfter 57 μ7 a2 a3 (fun (r8 : Int32) => Q r8 μ7)) X)) ∧ (a4 = (1 : Int32) → (wp_X9_makeOrThrow k2 57 μ4 (3 : Int32) (fun (μ11 : TMem) => wp_X5_stateAfter 57 μ11 a2 a3 (fun (r12 : Int32) => Q r12 μ11)) X)))) ∧ (a4 = 0 → (wp_X2_statesAfter k2 μ4 a2 a3 (fun (r15 : Int32) => Q r15 μ4)))) X) X) X
set_option maxHeartbeats 4000000 in
set_option maxRecDepth 100000 in
theorem c_X9_after {l : Launch} (hst : l.stackTraces = false) {D : va_G} {ad : Nat → Nat} {cI cM : ClassId}  (μ : TMem) (sz : Nat) (a1 : Int32) (a2 : Int32) (a3 : Int32) (a4 : Int32) {Q : Int32 → TMem → Prop} {X : String → TMem → Prop} (h : wp_X9_after μ a1 a2 a3 a4 Q X) : XMi l yX9_after (.code yX9_after cX9_after 6 (Option.some Jvm.ClassFile.FieldType.int)) 6 5 30 [.ref (ad 0), .int a1, .int a2, .int a3, .int a4] D ad cI cM sz μ Q X := by
  refine X_meti (by decide +kernel) (Nat.le_of_ble_eq_true rfl) ?_
  intro p e s m below meth c Qc ls hx hb hml hown ht hN hK hX htab hlocks hw hret hl
  have hl : lv_has ls 6 [(0, .ref (ad 0)), (1, .int a1), (2, .int a2), (3, .int a3), (4, .int a4)] := hl
  suffices hh : ∀ (H : Heap) (locs : List Loc), TW D ad cI cM s μ H locs → W p l e (RX 6 5 30) s m #[.ref (ad 0), .int a1, .int a2, .int a3, .int a4] below meth c H locs 0 0 (vx_MQ below Qc (vx_X (fun _ : TMem => True) (TEX D ad cI cM X) (TA ad s.heap.size)) #[.ref (ad 0), .int a1, .int a2, .int a3, .int a4] s 5 30 (TA ad s.heap.size)) (F0 m 0 ls []) from hh _ _ hw
  intro H locs hw
  change wp_X9_machineAt μ a1 (fun (k2 : Nat) (μ1 : TMem) => wp_X9_checkWord μ1 a2 a3 (fun (μ3 : TMem) => wp_X9_checkRange μ3 a4 (0 : Int32) (2 : Int32) (fun (μ4 : TMem) => (¬ a4 = 0 → ((¬ a4 = (1 : Int32) → (wp_X9_makeOrThrow k2 57 μ4 (0 : Int32) (fun (μ7 : TMem) => wp_X5_stateAfter 57 μ7 a2 a3 (fun (r8 : Int32) => Q r8 μ7)) X)) ∧ (a4 = (1 : Int32) → (wp_X9_makeOrThrow k2 57 μ4 (3 : Int32) (fun (μ11 : TMem) => wp_X5_stateAfter 57 μ11 a2 a3 (fun (r12 : Int32) => Q r12 μ11)) X)))) ∧ (a4 = 0 → (wp_X2_statesAfter k2 μ4 a2 a3 (fun (r15 : Int32) => Q r15 μ4)))) X) X) X at h
  refine lv_aload_n hx hb dX9_after_0 rfl (lv_at hl 0 rfl) ?_
  refine lv_iload_n hx hb dX9_after_1 rfl (lv_at hl 1 rfl) ?_
  refine X_callo hw htab hlocks (c1 := 1) (n1 := 6) rfl rfl (Nat.le_of_ble_eq_true rfl) (Nat.le_of_ble_eq_true rfl) (vx_runV (own := "Leastreader") (As := [.int a1]) (rest := []) ⟨hx, hb, hml, hown, ht⟩ (c_X9_machineAt hst μ H.size a1 h) (cwV 1 ht (G_V q_314 q_316 q_0 q_46 q_317) rfl rfl rfl ⟨rfl, hd_53⟩ ⟨Nat.le_of_ble_eq_true rfl, Nat.le_of_ble_eq_true rfl⟩) ⟨TBX.blind, (T_recv hK hw (kd_of rfl (by decide)) (ent_8 rfl) cl_8), TBX.pre hK hN hX hw⟩ rfl rfl hl.1 rfl (lv_room (Nat.le_of_ble_eq_true rfl)) dX9_after_2 ⟨Nat.le_of_ble_eq_true rfl, Nat.le_of_ble_eq_true rfl⟩) (fun k2 μ1 H locs hk2 h hw => ?_)
  refine lv_astore (lv' := [(5, .ref (ad k2)), (0, .ref (ad 0)), (1, .int a1), (2, .int a2), (3, .int a3), (4, .int a4)]) hx hb dX9_after_5 hl (by decide) rfl (fun ls hl => ?_)
  refine lv_iload_n hx hb dX9_after_7 rfl (lv_at hl 3 rfl) ?_
  refine lv_iload_n hx hb dX9_after_8 rfl (lv_at hl 4 rfl) ?_
  refine X_callv hw htab hlocks (c1 := 3) (n1 := 18) rfl rfl (Nat.le_of_ble_eq_true rfl) (Nat.le_of_ble_eq_true rfl) (vx_runS (own := "Leastreader") (As := [.int a2, .int a3]) (rest := []) ⟨hx, hb, hml, hown, ht⟩ (c_X9_checkWord hst μ1 H.size a2 a3 h) (va_cwS 2 ht (G_S q_842 q_843 q_46 q_844) rfl rfl rfl hd_68 ⟨Nat.le_of_ble_eq_true rfl, Nat.le_of_ble_eq_true rfl⟩) ⟨TBX.blind, TBX.pre hK hN hX hw⟩ rfl rfl hl.1 rfl (lv_room (Nat.le_of_ble_eq_true rfl)) dX9_after_9 ⟨Nat.le_of_ble_eq_true rfl, Nat.le_of_ble_eq_true rfl⟩) (fun μ3 H locs h hw => ?_)
  refine lv_iload hx hb dX9_after_12 (lv_at hl 5 rfl) ?_
  refine lv_iconst (v := (0 : Int32)) hx hb dX9_after_14 (by decide) ?_
  refine lv_iconst (v := (2 : Int32)) hx hb dX9_after_15 (by decide) ?_
  refine X_callv hw htab hlocks (c1 := 4) (n1 := 24) rfl rfl (Nat.le_of_ble_eq_true rfl) (Nat.le_of_ble_eq_true rfl) (vx_runS (own := "Leastreader") (As := [.int a4, .int (0 : Int32), .int (2 : Int32)]) (rest := []) ⟨hx, hb, hml, hown, ht⟩ (c_X9_checkRange hst μ3 H.size a4 (0 : Int32) (2 : Int32) h) (va_cwS 3 ht (G_S q_597 q_598 q_46 q_599) rfl rfl rfl hd_54 ⟨Nat.le_of_ble_eq_true rfl, Nat.le_of_ble_eq_true rfl⟩) ⟨TBX.blind, TBX.pre hK hN hX hw⟩ rfl rfl hl.1 rfl (lv_room (Nat.le_of_ble_eq_true rfl)) dX9_after_16 ⟨Nat.le_of_ble_eq_true rfl, Nat.le_of_ble_eq_true rfl⟩) (fun μ4 H locs h hw => ?_)
  refine lv_iload hx hb dX9_after_19 (lv_at hl 5 rfl) ?_
  refine lv_if_ne (tgt := 32) hx hb dX9_after_21 (by decide) (fun c5 => ?_) (fun c5 => ?_)
  · have h := h.1 c5
    refine lv_aload_n hx hb dX9_after_32 rfl (lv_at hl 1 rfl) ?_
    refine lv_iload hx hb dX9_after_33 (lv_at hl 5 rfl) ?_
    refine lv_iconst (v := (1 : Int32)) hx hb dX9_after_35 (by decide) ?_
    refine lv_icmp_ne (tgt := 43) hx hb dX9_after_36 (by decide) (fun c6 => ?_) (fun c6 => ?_)
    · have h := h.1 c6
      refine lv_iconst (v := (0 : Int32)) hx hb dX9_after_43 (by decide) ?_
      refine lv_aload hx hb dX9_after_44 (lv_at hl 0 rfl) ?_
      refine lv_aload_n hx hb dX9_after_46 rfl (lv_at hl 1 rfl) ?_
      refine gf_X9_66 hx hb ht hown hK hw rfl dX9_after_47 ?_
      refine X_callv hw htab hlocks (c1 := 5) (n1 := 30) rfl rfl (Nat.le_of_ble_eq_true rfl) (Nat.le_of_ble_eq_true rfl) (vx_runV (own := "Leastreader") (As := [.int (0 : Int32), .ref (ad k2), .ref (ad 57)]) (rest := []) ⟨hx, hb, hml, hown, ht⟩ (c_X9_makeOrThrow hst k2 hk2 57 rfl μ4 H.size (0 : Int32) h) (cwV 3 ht (G_V q_854 q_856 q_21 q_46 q_857) rfl rfl rfl ⟨rfl, hd_69⟩ ⟨Nat.le_of_ble_eq_true rfl, Nat.le_of_ble_eq_true rfl⟩) ⟨TBX.blind, (T_recv hK hw (kd_of rfl (by decide)) (ent_8 rfl) cl_8), TBX.pre hK hN hX hw⟩ rfl rfl hl.1 rfl (lv_room (Nat.le_of_ble_eq_true rfl)) dX9_after_50 ⟨Nat.le_of_ble_eq_true rfl, Nat.le_of_ble_eq_true rfl⟩) (fun μ7 H locs h hw => ?_)
      refine lv_aload_n hx hb dX9_after_53 rfl (lv_at hl 1 rfl) ?_
      refine gf_X9_66 hx hb ht hown hK hw rfl dX9_after_54 ?_
      refine lv_iload_n hx hb dX9_after_57 rfl (lv_at hl 3 rfl) ?_
      refine lv_iload_n hx hb dX9_after_58 rfl (lv_at hl 4 rfl) ?_
      refine T_calli hw (va_runV (own := "Leastreader") (As := [.int a2, .int a3]) (rest := []) ⟨hx, hb, hml, hown, ht⟩ (c_X5_stateAfter 57 rfl μ7 H.size a2 a3 h) (cwV 2 ht (G_V q_535 q_536 q_537 q_53 q_538) rfl rfl rfl ⟨rfl, hd_31⟩ ⟨Nat.le_of_ble_eq_true rfl, Nat.le_of_ble_eq_true rfl⟩) ⟨TB.blind, (T_recv hK hw (kd_of rfl (by decide)) (ent_5 rfl) cl_5), TB.pre hK hN hw⟩ rfl rfl hl.1 rfl (lv_room (Nat.le_of_ble_eq_true rfl)) dX9_after_59 ⟨Nat.le_of_ble_eq_true rfl, Nat.le_of_ble_eq_true rfl⟩) (fun r8 μ9 H locs h hw => ?_)
      obtain ⟨e10, h⟩ := h
      rw [e10] at hw
      exact hret H locs ls 62 5 30 _ _ hw h rfl (Nat.le_of_ble_eq_true rfl) (Nat.le_of_ble_eq_true rfl) dX9_after_62
    have h := h.2 c6
    refine lv_iconst (v := (3 : Int32)) hx hb dX9_after_39 (by decide) ?_
    refine lv_goto (tgt := 44) hx hb dX9_after_40 (by decide) ?_
    refine lv_aload hx hb dX9_after_44 (lv_at hl 0 rfl) ?_
    refine lv_aload_n hx hb dX9_after_46 rfl (lv_at hl 1 rfl) ?_
    refine gf_X9_66 hx hb ht hown hK hw rfl dX9_after_47 ?_
    refine X_callv hw htab hlocks (c1 := 5) (n1 := 30) rfl rfl (Nat.le_of_ble_eq_true rfl) (Nat.le_of_ble_eq_true rfl) (vx_runV (own := "Leastreader") (As := [.int (3 : Int32), .ref (ad k2), .ref (ad 57)]) (rest := []) ⟨hx, hb, hml, hown, ht⟩ (c_X9_makeOrThrow hst k2 hk2 57 rfl μ4 H.size (3 : Int32) h) (cwV 3 ht (G_V q_854 q_856 q_21 q_46 q_857) rfl rfl rfl ⟨rfl, hd_69⟩ ⟨Nat.le_of_ble_eq_true rfl, Nat.le_of_ble_eq_true rfl⟩) ⟨TBX.blind, (T_recv hK hw (kd_of rfl (by decide)) (ent_8 rfl) cl_8), TBX.pre hK hN hX hw⟩ rfl rfl hl.1 rfl (lv_room (Nat.le_of_ble_eq_true rfl)) dX9_after_50 ⟨Nat.le_of_ble_eq_true rfl, Nat.le_of_ble_eq_true rfl⟩) (fun μ11 H locs h hw => ?_)
    refine lv_aload_n hx hb dX9_after_53 rfl (lv_at hl 1 rfl) ?_
    refine gf_X9_66 hx hb ht hown hK hw rfl dX9_after_54 ?_
    refine lv_iload_n hx hb dX9_after_57 rfl (lv_at hl 3 rfl) ?_
    refine lv_iload_n hx hb dX9_after_58 rfl (lv_at hl 4 rfl) ?_
    refine T_calli hw (va_runV (own := "Leastreader") (As := [.int a2, .int a3]) (rest := []) ⟨hx, hb, hml, hown, ht⟩ (c_X5_stateAfter 57 rfl μ11 H.size a2 a3 h) (cwV 2 ht (G_V q_535 q_536 q_537 q_53 q_538) rfl rfl rfl ⟨rfl, hd_31⟩ ⟨Nat.le_of_ble_eq_true rfl, Nat.le_of_ble_eq_true rfl⟩) ⟨TB.blind, (T_recv hK hw (kd_of rfl (by decide)) (ent_5 rfl) cl_5), TB.pre hK hN hw⟩ rfl rfl hl.1 rfl (lv_room (Nat.le_of_ble_eq_true rfl)) dX9_after_59 ⟨Nat.le_of_ble_eq_true rfl, Nat.le_of_ble_eq_true rfl⟩) (fun r12 μ13 H locs h hw => ?_)
    obtain ⟨e14, h⟩ := h
    rw [e14] at hw
    exact hret H locs ls 62 5 30 _ _ hw h rfl (Nat.le_of_ble_eq_true rfl) (Nat.le_of_ble_eq_true rfl) dX9_after_62
  have h := h.2 c5
  refine lv_aload hx hb dX9_after_24 (lv_at hl 0 rfl) ?_
  refine lv_iload_n hx hb dX9_after_26 rfl (lv_at hl 3 rfl) ?_
  refine lv_iload_n hx hb dX9_after_27 rfl (lv_at hl 4 rfl) ?_
  refine T_calli hw (va_runV (own := "Leastreader") (As := [.int a2, .int a3]) (rest := []) ⟨hx, hb, hml, hown, ht⟩ (c_X2_statesAfter k2 hk2 μ4 H.size a2 a3 h) (cwV 2 ht (G_V q_853 q_546 q_547 q_48 q_548) rfl rfl rfl ⟨rfl, hd_29⟩ ⟨Nat.le_of_ble_eq_true rfl, Nat.le_of_ble_eq_true rfl⟩) ⟨TB.blind, (T_recv hK hw (kd_of hk2 (by decide)) (ent_2 hk2) cl_2), TB.pre hK hN hw⟩ rfl rfl hl.1 rfl (lv_room (Nat.le_of_ble_eq_true rfl)) dX9_after_28 ⟨Nat.le_of_ble_eq_true rfl, Nat.le_of_ble_eq_true rfl⟩) (fun r15 μ16 H locs h hw => ?_)
  obtain ⟨e17, h⟩ := h
  rw [e17] at hw
  exact hret H locs ls 31 4 24 _ _ hw h rfl (Nat.le_of_ble_eq_true rfl) (Nat.le_of_ble_eq_true rfl) dX9_after_31
