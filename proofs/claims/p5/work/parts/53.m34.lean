def wp_X9_size (μ : TMem) (a1 : Int32) (a2 : Int32) (Q : Int32 → TMem → Prop) (X : String → TMem → Prop) : Prop :=
  wp_X9_machineAt μ a1 (fun (k2 : Nat) (μ1 : TMem) => wp_X9_checkRange μ1 a2 (0 : Int32) (3 : Int32) (fun (μ3 : TMem) => wp_X9_makeOrThrow k2 57 μ3 a2 (fun (μ4 : TMem) => Q (μ4 57 1) μ4) X) X) X
set_option maxHeartbeats 4000000 in
set_option maxRecDepth 100000 in
theorem c_X9_size {l : Launch} (hst : l.stackTraces = false) {D : va_G} {ad : Nat → Nat} {cI cM : ClassId}  (μ : TMem) (sz : Nat) (a1 : Int32) (a2 : Int32) {Q : Int32 → TMem → Prop} {X : String → TMem → Prop} (h : wp_X9_size μ a1 a2 Q X) : XMi l yX9_size (.code yX9_size cX9_size 4 (Option.some Jvm.ClassFile.FieldType.int)) 6 3 18 [.ref (ad 0), .int a1, .int a2] D ad cI cM sz μ Q X := by
  refine X_meti (by decide +kernel) (Nat.le_of_ble_eq_true rfl) ?_
  intro p e s m below meth c Qc ls hx hb hml hown ht hN hK hX htab hlocks hw hret hl
  have hl : lv_has ls 4 [(0, .ref (ad 0)), (1, .int a1), (2, .int a2)] := hl
  suffices hh : ∀ (H : Heap) (locs : List Loc), TW D ad cI cM s μ H locs → W p l e (RX 6 3 18) s m #[.ref (ad 0), .int a1, .int a2] below meth c H locs 0 0 (vx_MQ below Qc (vx_X (fun _ : TMem => True) (TEX D ad cI cM X) (TA ad s.heap.size)) #[.ref (ad 0), .int a1, .int a2] s 3 18 (TA ad s.heap.size)) (F0 m 0 ls []) from hh _ _ hw
  intro H locs hw
  change wp_X9_machineAt μ a1 (fun (k2 : Nat) (μ1 : TMem) => wp_X9_checkRange μ1 a2 (0 : Int32) (3 : Int32) (fun (μ3 : TMem) => wp_X9_makeOrThrow k2 57 μ3 a2 (fun (μ4 : TMem) => Q (μ4 57 1) μ4) X) X) X at h
  refine lv_aload_n hx hb dX9_size_0 rfl (lv_at hl 0 rfl) ?_
  refine lv_iload_n hx hb dX9_size_1 rfl (lv_at hl 1 rfl) ?_
  refine X_callo hw htab hlocks (c1 := 1) (n1 := 6) rfl rfl (Nat.le_of_ble_eq_true rfl) (Nat.le_of_ble_eq_true rfl) (vx_runV (own := "Leastreader") (As := [.int a1]) (rest := []) ⟨hx, hb, hml, hown, ht⟩ (c_X9_machineAt hst μ H.size a1 h) (cwV 1 ht (G_V q_314 q_316 q_0 q_46 q_317) rfl rfl rfl ⟨rfl, hd_53⟩ ⟨Nat.le_of_ble_eq_true rfl, Nat.le_of_ble_eq_true rfl⟩) ⟨TBX.blind, (T_recv hK hw (kd_of rfl (by decide)) (ent_8 rfl) cl_8), TBX.pre hK hN hX hw⟩ rfl rfl hl.1 rfl (lv_room (Nat.le_of_ble_eq_true rfl)) dX9_size_2 ⟨Nat.le_of_ble_eq_true rfl, Nat.le_of_ble_eq_true rfl⟩) (fun k2 μ1 H locs hk2 h hw => ?_)
  refine lv_astore_n (lv' := [(3, .ref (ad k2)), (0, .ref (ad 0)), (1, .int a1), (2, .int a2)]) hx hb dX9_size_5 rfl hl (by decide) rfl (fun ls hl => ?_)
  refine lv_iload_n hx hb dX9_size_6 rfl (lv_at hl 3 rfl) ?_
  refine lv_iconst (v := (0 : Int32)) hx hb dX9_size_7 (by decide) ?_
  refine lv_iconst (v := (3 : Int32)) hx hb dX9_size_8 (by decide) ?_
  refine X_callv hw htab hlocks (c1 := 2) (n1 := 12) rfl rfl (Nat.le_of_ble_eq_true rfl) (Nat.le_of_ble_eq_true rfl) (vx_runS (own := "Leastreader") (As := [.int a2, .int (0 : Int32), .int (3 : Int32)]) (rest := []) ⟨hx, hb, hml, hown, ht⟩ (c_X9_checkRange hst μ1 H.size a2 (0 : Int32) (3 : Int32) h) (va_cwS 3 ht (G_S q_597 q_598 q_46 q_599) rfl rfl rfl hd_54 ⟨Nat.le_of_ble_eq_true rfl, Nat.le_of_ble_eq_true rfl⟩) ⟨TBX.blind, TBX.pre hK hN hX hw⟩ rfl rfl hl.1 rfl (lv_room (Nat.le_of_ble_eq_true rfl)) dX9_size_9 ⟨Nat.le_of_ble_eq_true rfl, Nat.le_of_ble_eq_true rfl⟩) (fun μ3 H locs h hw => ?_)
  refine lv_aload_n hx hb dX9_size_12 rfl (lv_at hl 1 rfl) ?_
  refine lv_iload_n hx hb dX9_size_13 rfl (lv_at hl 3 rfl) ?_
  refine lv_aload_n hx hb dX9_size_14 rfl (lv_at hl 0 rfl) ?_
  refine lv_aload_n hx hb dX9_size_15 rfl (lv_at hl 1 rfl) ?_
  refine gf_X9_66 hx hb ht hown hK hw rfl dX9_size_16 ?_
  refine X_callv hw htab hlocks (c1 := 3) (n1 := 18) rfl rfl (Nat.le_of_ble_eq_true rfl) (Nat.le_of_ble_eq_true rfl) (vx_runV (own := "Leastreader") (As := [.int a2, .ref (ad k2), .ref (ad 57)]) (rest := []) ⟨hx, hb, hml, hown, ht⟩ (c_X9_makeOrThrow hst k2 hk2 57 rfl μ3 H.size a2 h) (cwV 3 ht (G_V q_854 q_856 q_21 q_46 q_857) rfl rfl rfl ⟨rfl, hd_69⟩ ⟨Nat.le_of_ble_eq_true rfl, Nat.le_of_ble_eq_true rfl⟩) ⟨TBX.blind, (T_recv hK hw (kd_of rfl (by decide)) (ent_8 rfl) cl_8), TBX.pre hK hN hX hw⟩ rfl rfl hl.1 rfl (lv_room (Nat.le_of_ble_eq_true rfl)) dX9_size_19 ⟨Nat.le_of_ble_eq_true rfl, Nat.le_of_ble_eq_true rfl⟩) (fun μ4 H locs h hw => ?_)
  refine lv_aload_n hx hb dX9_size_22 rfl (lv_at hl 1 rfl) ?_
  refine gf_X9_66 hx hb ht hown hK hw rfl dX9_size_23 ?_
  refine gf_X9_190 hx hb ht hown hK hw rfl dX9_size_26 ?_
  exact hret H locs ls 29 3 18 _ _ hw h rfl (Nat.le_of_ble_eq_true rfl) (Nat.le_of_ble_eq_true rfl) dX9_size_29
def wp_X9_kind (μ : TMem) (a1 : Int32) (Q : Int32 → TMem → Prop) (X : String → TMem → Prop) : Prop :=
  wp_X9_machineAt μ a1 (fun (k2 : Nat) (μ1 : TMem) => wp_X9_makeOrThrow k2 57 μ1 (0 : Int32) (fun (μ3 : TMem) => (¬ (μ3 57 1) = (1 : Int32) → (wp_X5_isTakingLongOnes 57 μ3 (fun (r5 : Int32) => (r5 = 0 → (Q (2 : Int32) μ3)) ∧ (¬ r5 = 0 → (Q (3 : Int32) μ3))))) ∧ ((μ3 57 1) = (1 : Int32) → (wp_X5_isGoal 57 μ3 (0 : Int32) (fun (r9 : Int32) => (r9 = 0 → (Q (0 : Int32) μ3)) ∧ (¬ r9 = 0 → (Q (1 : Int32) μ3)))))) X) X
set_option maxHeartbeats 4000000 in
set_option maxRecDepth 100000 in
theorem c_X9_kind {l : Launch} (hst : l.stackTraces = false) {D : va_G} {ad : Nat → Nat} {cI cM : ClassId}  (μ : TMem) (sz : Nat) (a1 : Int32) {Q : Int32 → TMem → Prop} {X : String → TMem → Prop} (h : wp_X9_kind μ a1 Q X) : XMi l yX9_kind (.code yX9_kind cX9_kind 2 (Option.some Jvm.ClassFile.FieldType.int)) 6 2 12 [.ref (ad 0), .int a1] D ad cI cM sz μ Q X := by
  refine X_meti (by decide +kernel) (Nat.le_of_ble_eq_true rfl) ?_
  intro p e s m below meth c Qc ls hx hb hml hown ht hN hK hX htab hlocks hw hret hl
  have hl : lv_has ls 2 [(0, .ref (ad 0)), (1, .int a1)] := hl
  suffices hh : ∀ (H : Heap) (locs : List Loc), TW D ad cI cM s μ H locs → W p l e (RX 6 2 12) s m #[.ref (ad 0), .int a1] below meth c H locs 0 0 (vx_MQ below Qc (vx_X (fun _ : TMem => True) (TEX D ad cI cM X) (TA ad s.heap.size)) #[.ref (ad 0), .int a1] s 2 12 (TA ad s.heap.size)) (F0 m 0 ls []) from hh _ _ hw
  intro H locs hw
  change wp_X9_machineAt μ a1 (fun (k2 : Nat) (μ1 : TMem) => wp_X9_makeOrThrow k2 57 μ1 (0 : Int32) (fun (μ3 : TMem) => (¬ (μ3 57 1) = (1 : Int32) → (wp_X5_isTakingLongOnes 57 μ3 (fun (r5 : Int32) => (r5 = 0 → (Q (2 : Int32) μ3)) ∧ (¬ r5 = 0 → (Q (3 : Int32) μ3))))) ∧ ((μ3 57 1) = (1 : Int32) → (wp_X5_isGoal 57 μ3 (0 : Int32) (fun (r9 : Int32) => (r9 = 0 → (Q (0 : Int32) μ3)) ∧ (¬ r9 = 0 → (Q (1 : Int32) μ3)))))) X) X at h
  refine lv_aload_n hx hb dX9_kind_0 rfl (lv_at hl 0 rfl) ?_
  refine lv_iconst (v := (0 : Int32)) hx hb dX9_kind_1 (by decide) ?_
  refine lv_aload_n hx hb dX9_kind_2 rfl (lv_at hl 0 rfl) ?_
  refine lv_iload_n hx hb dX9_kind_3 rfl (lv_at hl 1 rfl) ?_
  refine X_callo hw htab hlocks (c1 := 1) (n1 := 6) rfl rfl (Nat.le_of_ble_eq_true rfl) (Nat.le_of_ble_eq_true rfl) (vx_runV (own := "Leastreader") (As := [.int a1]) (rest := [.int (0 : Int32), .ref (ad 0)]) ⟨hx, hb, hml, hown, ht⟩ (c_X9_machineAt hst μ H.size a1 h) (cwV 1 ht (G_V q_314 q_316 q_0 q_46 q_317) rfl rfl rfl ⟨rfl, hd_53⟩ ⟨Nat.le_of_ble_eq_true rfl, Nat.le_of_ble_eq_true rfl⟩) ⟨TBX.blind, (T_recv hK hw (kd_of rfl (by decide)) (ent_8 rfl) cl_8), TBX.pre hK hN hX hw⟩ rfl rfl hl.1 rfl (lv_room (Nat.le_of_ble_eq_true rfl)) dX9_kind_4 ⟨Nat.le_of_ble_eq_true rfl, Nat.le_of_ble_eq_true rfl⟩) (fun k2 μ1 H locs hk2 h hw => ?_)
  refine lv_aload_n hx hb dX9_kind_7 rfl (lv_at hl 0 rfl) ?_
  refine gf_X9_66 hx hb ht hown hK hw rfl dX9_kind_8 ?_
  refine X_callv hw htab hlocks (c1 := 2) (n1 := 12) rfl rfl (Nat.le_of_ble_eq_true rfl) (Nat.le_of_ble_eq_true rfl) (vx_runV (own := "Leastreader") (As := [.int (0 : Int32), .ref (ad k2), .ref (ad 57)]) (rest := []) ⟨hx, hb, hml, hown, ht⟩ (c_X9_makeOrThrow hst k2 hk2 57 rfl μ1 H.size (0 : Int32) h) (cwV 3 ht (G_V q_854 q_856 q_21 q_46 q_857) rfl rfl rfl ⟨rfl, hd_69⟩ ⟨Nat.le_of_ble_eq_true rfl, Nat.le_of_ble_eq_true rfl⟩) ⟨TBX.blind, (T_recv hK hw (kd_of rfl (by decide)) (ent_8 rfl) cl_8), TBX.pre hK hN hX hw⟩ rfl rfl hl.1 rfl (lv_room (Nat.le_of_ble_eq_true rfl)) dX9_kind_11 ⟨Nat.le_of_ble_eq_true rfl, Nat.le_of_ble_eq_true rfl⟩) (fun μ3 H locs h hw => ?_)
  refine lv_aload_n hx hb dX9_kind_14 rfl (lv_at hl 0 rfl) ?_
  refine gf_X9_66 hx hb ht hown hK hw rfl dX9_kind_15 ?_
  refine gf_X9_190 hx hb ht hown hK hw rfl dX9_kind_18 ?_
  refine lv_iconst (v := (1 : Int32)) hx hb dX9_kind_21 (by decide) ?_
  refine lv_icmp_ne (tgt := 42) hx hb dX9_kind_22 (by decide) (fun c4 => ?_) (fun c4 => ?_)
  · have h := h.1 c4
    refine lv_aload_n hx hb dX9_kind_42 rfl (lv_at hl 0 rfl) ?_
    refine gf_X9_66 hx hb ht hown hK hw rfl dX9_kind_43 ?_
    refine T_calli hw (va_runV (own := "Leastreader") (As := []) (rest := []) ⟨hx, hb, hml, hown, ht⟩ (c_X5_isTakingLongOnes 57 rfl μ3 H.size h) (cwV 0 ht (G_V q_1165 q_1166 q_1167 q_53 q_1168) rfl rfl rfl ⟨rfl, hd_70⟩ ⟨Nat.le_of_ble_eq_true rfl, Nat.le_of_ble_eq_true rfl⟩) ⟨TB.blind, (T_recv hK hw (kd_of rfl (by decide)) (ent_5 rfl) cl_5), TB.pre hK hN hw⟩ rfl rfl hl.1 rfl (lv_room (Nat.le_of_ble_eq_true rfl)) dX9_kind_46 ⟨Nat.le_of_ble_eq_true rfl, Nat.le_of_ble_eq_true rfl⟩) (fun r5 μ6 H locs h hw => ?_)
    obtain ⟨e7, h⟩ := h
    rw [e7] at hw
    refine lv_if_eq (tgt := 56) hx hb dX9_kind_49 (by decide) (fun c8 => ?_) (fun c8 => ?_)
    · have h := h.1 c8
      refine lv_iconst (v := (2 : Int32)) hx hb dX9_kind_56 (by decide) ?_
      exact hret H locs ls 57 2 12 _ _ hw h rfl (Nat.le_of_ble_eq_true rfl) (Nat.le_of_ble_eq_true rfl) dX9_kind_57
    have h := h.2 c8
    refine lv_iconst (v := (3 : Int32)) hx hb dX9_kind_52 (by decide) ?_
    refine lv_goto (tgt := 57) hx hb dX9_kind_53 (by decide) ?_
    exact hret H locs ls 57 2 12 _ _ hw h rfl (Nat.le_of_ble_eq_true rfl) (Nat.le_of_ble_eq_true rfl) dX9_kind_57
  have h := h.2 c4
  refine lv_aload_n hx hb dX9_kind_25 rfl (lv_at hl 0 rfl) ?_
  refine gf_X9_66 hx hb ht hown hK hw rfl dX9_kind_26 ?_
  refine lv_iconst (v := (0 : Int32)) hx hb dX9_kind_29 (by decide) ?_
  refine T_calli hw (va_runV (own := "Leastreader") (As := [.int (0 : Int32)]) (rest := []) ⟨hx, hb, hml, hown, ht⟩ (c_X5_isGoal 57 rfl μ3 H.size (0 : Int32) h) (cwV 1 ht (G_V q_540 q_462 q_463 q_53 q_464) rfl rfl rfl ⟨rfl, hd_18⟩ ⟨Nat.le_of_ble_eq_true rfl, Nat.le_of_ble_eq_true rfl⟩) ⟨TB.blind, (T_recv hK hw (kd_of rfl (by decide)) (ent_5 rfl) cl_5), TB.pre hK hN hw⟩ rfl rfl hl.1 rfl (lv_room (Nat.le_of_ble_eq_true rfl)) dX9_kind_30 ⟨Nat.le_of_ble_eq_true rfl, Nat.le_of_ble_eq_true rfl⟩) (fun r9 μ10 H locs h hw => ?_)
  obtain ⟨e11, h⟩ := h
  rw [e11] at hw
  refine lv_if_eq (tgt := 40) hx hb dX9_kind_33 (by decide) (fun c12 => ?_) (fun c12 => ?_)
  · have h := h.1 c12
    refine lv_iconst (v := (0 : Int32)) hx hb dX9_kind_40 (by decide) ?_
    exact hret H locs ls 41 2 12 _ _ hw h rfl (Nat.le_of_ble_eq_true rfl) (Nat.le_of_ble_eq_true rfl) dX9_kind_41
  have h := h.2 c12
  refine lv_iconst (v := (1 : Int32)) hx hb dX9_kind_36 (by decide) ?_
  refine lv_goto (tgt := 41) hx hb dX9_kind_37 (by decide) ?_
  exact hret H locs ls 41 2 12 _ _ hw h rfl (Nat.le_of_ble_eq_true rfl) (Nat.le_of_ble_eq_true rfl) dX9_kind_41
def wp_X9_many (μ : TMem) (a1 : Int32) (a2 : Int32) (a3 : Int32) (Q : Int32 → TMem → Prop) (X : String → TMem → Prop) : Prop :=
  wp_X9_machineAt μ a1 (fun (k2 : Nat) (μ1 : TMem) => wp_X9_checkRange μ1 a3 (0 : Int32) (1 : Int32) (fun (μ3 : TMem) => (¬ a3 = (1 : Int32) → (wp_X9_checkRange μ3 a2 (0 : Int32) (12 : Int32) (fun (μ5 : TMem) => (¬ a3 = (1 : Int32) → (wp_X9_makeOrThrow k2 57 μ5 (0 : Int32) (fun (μ7 : TMem) => wp_X8_count 57 μ7 (fun (μ8 : TMem) => wp_X8_from μ8 (0 : Int32) a2 (fun (r9 : Int32) => Q r9 μ8))) X)) ∧ (a3 = (1 : Int32) → (wp_X2_countOneByOne k2 μ5 a2 (fun (r12 : Int32) => Q r12 μ5)))) X)) ∧ (a3 = (1 : Int32) → (wp_X9_checkRange μ3 a2 (0 : Int32) (5 : Int32) (fun (μ15 : TMem) => (¬ a3 = (1 : Int32) → (wp_X9_makeOrThrow k2 57 μ15 (0 : Int32) (fun (μ17 : TMem) => wp_X8_count 57 μ17 (fun (μ18 : TMem) => wp_X8_from μ18 (0 : Int32) a2 (fun (r19 : Int32) => Q r19 μ18))) X)) ∧ (a3 = (1 : Int32) → (wp_X2_countOneByOne k2 μ15 a2 (fun (r22 : Int32) => Q r22 μ15)))) X))) X) X
set_option maxHeartbeats 4000000 in
set_option maxRecDepth 100000 in
theorem c_X9_many {l : Launch} (hst : l.stackTraces = false) {D : va_G} {ad : Nat → Nat} {cI cM : ClassId}  (μ : TMem) (sz : Nat) (a1 : Int32) (a2 : Int32) (a3 : Int32) {Q : Int32 → TMem → Prop} {X : String → TMem → Prop} (h : wp_X9_many μ a1 a2 a3 Q X) : XMi l yX9_many (.code yX9_many cX9_many 5 (Option.some Jvm.ClassFile.FieldType.int)) 6 4 24 [.ref (ad 0), .int a1, .int a2, .int a3] D ad cI cM sz μ Q X := by
  refine X_meti (by decide +kernel) (Nat.le_of_ble_eq_true rfl) ?_
  intro p e s m below meth c Qc ls hx hb hml hown ht hN hK hX htab hlocks hw hret hl
  have hl : lv_has ls 5 [(0, .ref (ad 0)), (1, .int a1), (2, .int a2), (3, .int a3)] := hl
  suffices hh : ∀ (H : Heap) (locs : List Loc), TW D ad cI cM s μ H locs → W p l e (RX 6 4 24) s m #[.ref (ad 0), .int a1, .int a2, .int a3] below meth c H locs 0 0 (vx_MQ below Qc (vx_X (fun _ : TMem => True) (TEX D ad cI cM X) (TA ad s.heap.size)) #[.ref (ad 0), .int a1, .int a2, .int a3] s 4 24 (TA ad s.heap.size)) (F0 m 0 ls []) from hh _ _ hw
  intro H locs hw
  change wp_X9_machineAt μ a1 (fun (k2 : Nat) (μ1 : TMem) => wp_X9_checkRange μ1 a3 (0 : Int32) (1 : Int32) (fun (μ3 : TMem) => (¬ a3 = (1 : Int32) → (wp_X9_checkRange μ3 a2 (0 : Int32) (12 : Int32) (fun (μ5 : TMem) => (¬ a3 = (1 : Int32) → (wp_X9_makeOrThrow k2 57 μ5 (0 : Int32) (fun (μ7 : TMem) => wp_X8_count 57 μ7 (fun (μ8 : TMem) => wp_X8_from μ8 (0 : Int32) a2 (fun (r9 : Int32) => Q r9 μ8))) X)) ∧ (a3 = (1 : Int32) → (wp_X2_countOneByOne k2 μ5 a2 (fun (r12 : Int32) => Q r12 μ5)))) X)) ∧ (a3 = (1 : Int32) → (wp_X9_checkRange μ3 a2 (0 : Int32) (5 : Int32) (fun (μ15 : TMem) => (¬ a3 = (1 : Int32) → (wp_X9_makeOrThrow k2 57 μ15 (0 : Int32) (fun (μ17 : TMem) => wp_X8_count 57 μ17 (fun (μ18 : TMem) => wp_X8_from μ18 (0 : Int32) a2 (fun (r19 : Int32) => Q r19 μ18))) X)) ∧ (a3 = (1 : Int32) → (wp_X2_countOneByOne k2 μ15 a2 (fun (r22 : Int32) => Q r22 μ15)))) X))) X) X at h
  refine lv_aload_n hx hb dX9_many_0 rfl (lv_at hl 0 rfl) ?_
  refine lv_iload_n hx hb dX9_many_1 rfl (lv_at hl 1 rfl) ?_
  refine X_callo hw htab hlocks (c1 := 1) (n1 := 6) rfl rfl (Nat.le_of_ble_eq_true rfl) (Nat.le_of_ble_eq_true rfl) (vx_runV (own := "Leastreader") (As := [.int a1]) (rest := []) ⟨hx, hb, hml, hown, ht⟩ (c_X9_machineAt hst μ H.size a1 h) (cwV 1 ht (G_V q_314 q_316 q_0 q_46 q_317) rfl rfl rfl ⟨rfl, hd_53⟩ ⟨Nat.le_of_ble_eq_true rfl, Nat.le_of_ble_eq_true rfl⟩) ⟨TBX.blind, (T_recv hK hw (kd_of rfl (by decide)) (ent_8 rfl) cl_8), TBX.pre hK hN hX hw⟩ rfl rfl hl.1 rfl (lv_room (Nat.le_of_ble_eq_true rfl)) dX9_many_2 ⟨Nat.le_of_ble_eq_true rfl, Nat.le_of_ble_eq_true rfl⟩) (fun k2 μ1 H locs hk2 h hw => ?_)
  refine lv_astore (lv' := [(4, .ref (ad k2)), (0, .ref (ad 0)), (1, .int a1), (2, .int a2), (3, .int a3)]) hx hb dX9_many_5 hl (by decide) rfl (fun ls hl => ?_)
  refine lv_iload_n hx hb dX9_many_7 rfl (lv_at hl 4 rfl) ?_
  refine lv_iconst (v := (0 : Int32)) hx hb dX9_many_8 (by decide) ?_
  refine lv_iconst (v := (1 : Int32)) hx hb dX9_many_9 (by decide) ?_
  refine X_callv hw htab hlocks (c1 := 2) (n1 := 12) rfl rfl (Nat.le_of_ble_eq_true rfl) (Nat.le_of_ble_eq_true rfl) (vx_runS (own := "Leastreader") (As := [.int a3, .int (0 : Int32), .int (1 : Int32)]) (rest := []) ⟨hx, hb, hml, hown, ht⟩ (c_X9_checkRange hst μ1 H.size a3 (0 : Int32) (1 : Int32) h) (va_cwS 3 ht (G_S q_597 q_598 q_46 q_599) rfl rfl rfl hd_54 ⟨Nat.le_of_ble_eq_true rfl, Nat.le_of_ble_eq_true rfl⟩) ⟨TBX.blind, TBX.pre hK hN hX hw⟩ rfl rfl hl.1 rfl (lv_room (Nat.le_of_ble_eq_true rfl)) dX9_many_10 ⟨Nat.le_of_ble_eq_true rfl, Nat.le_of_ble_eq_true rfl⟩) (fun μ3 H locs h hw => ?_)
  refine lv_iload_n hx hb dX9_many_13 rfl (lv_at hl 3 rfl) ?_
  refine lv_iconst (v := (0 : Int32)) hx hb dX9_many_14 (by decide) ?_
  refine lv_iload_n hx hb dX9_many_15 rfl (lv_at hl 4 rfl) ?_
  refine lv_iconst (v := (1 : Int32)) hx hb dX9_many_16 (by decide) ?_
  refine lv_icmp_ne (tgt := 24) hx hb dX9_many_17 (by decide) (fun c4 => ?_) (fun c4 => ?_)
  · have h := h.1 c4
    refine lv_bipush (v := (12 : Int32)) hx hb dX9_many_24 (by decide) ?_
    refine X_callv hw htab hlocks (c1 := 3) (n1 := 18) rfl rfl (Nat.le_of_ble_eq_true rfl) (Nat.le_of_ble_eq_true rfl) (vx_runS (own := "Leastreader") (As := [.int a2, .int (0 : Int32), .int (12 : Int32)]) (rest := []) ⟨hx, hb, hml, hown, ht⟩ (c_X9_checkRange hst μ3 H.size a2 (0 : Int32) (12 : Int32) h) (va_cwS 3 ht (G_S q_597 q_598 q_46 q_599) rfl rfl rfl hd_54 ⟨Nat.le_of_ble_eq_true rfl, Nat.le_of_ble_eq_true rfl⟩) ⟨TBX.blind, TBX.pre hK hN hX hw⟩ rfl rfl hl.1 rfl (lv_room (Nat.le_of_ble_eq_true rfl)) dX9_many_26 ⟨Nat.le_of_ble_eq_true rfl, Nat.le_of_ble_eq_true rfl⟩) (fun μ5 H locs h hw => ?_)
    refine lv_iload_n hx hb dX9_many_29 rfl (lv_at hl 4 rfl) ?_
    refine lv_iconst (v := (1 : Int32)) hx hb dX9_many_30 (by decide) ?_
    refine lv_icmp_ne (tgt := 41) hx hb dX9_many_31 (by decide) (fun c6 => ?_) (fun c6 => ?_)
    · have h := h.1 c6
      refine lv_aload_n hx hb dX9_many_41 rfl (lv_at hl 1 rfl) ?_
      refine lv_iconst (v := (0 : Int32)) hx hb dX9_many_42 (by decide) ?_
      refine lv_aload hx hb dX9_many_43 (lv_at hl 0 rfl) ?_
      refine lv_aload_n hx hb dX9_many_45 rfl (lv_at hl 1 rfl) ?_
      refine gf_X9_66 hx hb ht hown hK hw rfl dX9_many_46 ?_
      refine X_callv hw htab hlocks (c1 := 4) (n1 := 24) rfl rfl (Nat.le_of_ble_eq_true rfl) (Nat.le_of_ble_eq_true rfl) (vx_runV (own := "Leastreader") (As := [.int (0 : Int32), .ref (ad k2), .ref (ad 57)]) (rest := []) ⟨hx, hb, hml, hown, ht⟩ (c_X9_makeOrThrow hst k2 hk2 57 rfl μ5 H.size (0 : Int32) h) (cwV 3 ht (G_V q_854 q_856 q_21 q_46 q_857) rfl rfl rfl ⟨rfl, hd_69⟩ ⟨Nat.le_of_ble_eq_true rfl, Nat.le_of_ble_eq_true rfl⟩) ⟨TBX.blind, (T_recv hK hw (kd_of rfl (by decide)) (ent_8 rfl) cl_8), TBX.pre hK hN hX hw⟩ rfl rfl hl.1 rfl (lv_room (Nat.le_of_ble_eq_true rfl)) dX9_many_49 ⟨Nat.le_of_ble_eq_true rfl, Nat.le_of_ble_eq_true rfl⟩) (fun μ7 H locs h hw => ?_)
      refine lv_aload_n hx hb dX9_many_52 rfl (lv_at hl 1 rfl) ?_
      refine gf_X9_49 hx hb ht hown hK hw rfl dX9_many_53 ?_
      refine lv_aload_n hx hb dX9_many_56 rfl (lv_at hl 1 rfl) ?_
      refine gf_X9_66 hx hb ht hown hK hw rfl dX9_many_57 ?_
      refine T_callv hw (va_runV (own := "Leastreader") (As := [.ref (ad 57)]) (rest := []) ⟨hx, hb, hml, hown, ht⟩ (c_X8_count 57 rfl μ7 H.size h) (cwV 1 ht (G_V q_1186 q_1187 q_1188 q_55 q_1189) rfl rfl rfl ⟨rfl, hd_71⟩ ⟨Nat.le_of_ble_eq_true rfl, Nat.le_of_ble_eq_true rfl⟩) ⟨TB.blind, (T_recv hK hw (kd_of rfl (by decide)) (ent_7 rfl) cl_7), TB.pre hK hN hw⟩ rfl rfl hl.1 rfl (lv_room (Nat.le_of_ble_eq_true rfl)) dX9_many_60 ⟨Nat.le_of_ble_eq_true rfl, Nat.le_of_ble_eq_true rfl⟩) (fun μ8 H locs h hw => ?_)
      refine lv_aload_n hx hb dX9_many_63 rfl (lv_at hl 1 rfl) ?_
      refine gf_X9_49 hx hb ht hown hK hw rfl dX9_many_64 ?_
      refine lv_iconst (v := (0 : Int32)) hx hb dX9_many_67 (by decide) ?_
      refine lv_iload_n hx hb dX9_many_68 rfl (lv_at hl 3 rfl) ?_
      refine T_calli hw (va_runV (own := "Leastreader") (As := [.int (0 : Int32), .int a2]) (rest := []) ⟨hx, hb, hml, hown, ht⟩ (c_X8_from μ8 H.size (0 : Int32) a2 h) (cwV 2 ht (G_V q_1202 q_1198 q_1199 q_55 q_1200) rfl rfl rfl ⟨rfl, hd_51⟩ ⟨Nat.le_of_ble_eq_true rfl, Nat.le_of_ble_eq_true rfl⟩) ⟨TB.blind, (T_recv hK hw (kd_of rfl (by decide)) (ent_7 rfl) cl_7), TB.pre hK hN hw⟩ rfl rfl hl.1 rfl (lv_room (Nat.le_of_ble_eq_true rfl)) dX9_many_69 ⟨Nat.le_of_ble_eq_true rfl, Nat.le_of_ble_eq_true rfl⟩) (fun r9 μ10 H locs h hw => ?_)
      obtain ⟨e11, h⟩ := h
      rw [e11] at hw
      exact hret H locs ls 72 4 24 _ _ hw h rfl (Nat.le_of_ble_eq_true rfl) (Nat.le_of_ble_eq_true rfl) dX9_many_72
    have h := h.2 c6
    refine lv_aload hx hb dX9_many_34 (lv_at hl 0 rfl) ?_
    refine lv_iload_n hx hb dX9_many_36 rfl (lv_at hl 3 rfl) ?_
    refine T_calli hw (va_runV (own := "Leastreader") (As := [.int a2]) (rest := []) ⟨hx, hb, hml, hown, ht⟩ (c_X2_countOneByOne k2 hk2 μ5 H.size a2 h) (cwV 1 ht (G_V q_1180 q_1181 q_1182 q_48 q_1183) rfl rfl rfl ⟨rfl, hd_72⟩ ⟨Nat.le_of_ble_eq_true rfl, Nat.le_of_ble_eq_true rfl⟩) ⟨TB.blind, (T_recv hK hw (kd_of hk2 (by decide)) (ent_2 hk2) cl_2), TB.pre hK hN hw⟩ rfl rfl hl.1 rfl (lv_room (Nat.le_of_ble_eq_true rfl)) dX9_many_37 ⟨Nat.le_of_ble_eq_true rfl, Nat.le_of_ble_eq_true rfl⟩) (fun r12 μ13 H locs h hw => ?_)
    obtain ⟨e14, h⟩ := h
    rw [e14] at hw
    exact hret H locs ls 40 3 18 _ _ hw h rfl (Nat.le_of_ble_eq_true rfl) (Nat.le_of_ble_eq_true rfl) dX9_many_40
  have h := h.2 c4
  refine lv_iconst (v := (5 : Int32)) hx hb dX9_many_20 (by decide) ?_
  refine lv_goto (tgt := 26) hx hb dX9_many_21 (by decide) ?_
  refine X_callv hw htab hlocks (c1 := 3) (n1 := 18) rfl rfl (Nat.le_of_ble_eq_true rfl) (Nat.le_of_ble_eq_true rfl) (vx_runS (own := "Leastreader") (As := [.int a2, .int (0 : Int32), .int (5 : Int32)]) (rest := []) ⟨hx, hb, hml, hown, ht⟩ (c_X9_checkRange hst μ3 H.size a2 (0 : Int32) (5 : Int32) h) (va_cwS 3 ht (G_S q_597 q_598 q_46 q_599) rfl rfl rfl hd_54 ⟨Nat.le_of_ble_eq_true rfl, Nat.le_of_ble_eq_true rfl⟩) ⟨TBX.blind, TBX.pre hK hN hX hw⟩ rfl rfl hl.1 rfl (lv_room (Nat.le_of_ble_eq_true rfl)) dX9_many_26 ⟨Nat.le_of_ble_eq_true rfl, Nat.le_of_ble_eq_true rfl⟩) (fun μ15 H locs h hw => ?_)
  refine lv_iload_n hx hb dX9_many_29 rfl (lv_at hl 4 rfl) ?_
  refine lv_iconst (v := (1 : Int32)) hx hb dX9_many_30 (by decide) ?_
  refine lv_icmp_ne (tgt := 41) hx hb dX9_many_31 (by decide) (fun c16 => ?_) (fun c16 => ?_)
  · have h := h.1 c16
    refine lv_aload_n hx hb dX9_many_41 rfl (lv_at hl 1 rfl) ?_
    refine lv_iconst (v := (0 : Int32)) hx hb dX9_many_42 (by decide) ?_
    refine lv_aload hx hb dX9_many_43 (lv_at hl 0 rfl) ?_
    refine lv_aload_n hx hb dX9_many_45 rfl (lv_at hl 1 rfl) ?_
    refine gf_X9_66 hx hb ht hown hK hw rfl dX9_many_46 ?_
    refine X_callv hw htab hlocks (c1 := 4) (n1 := 24) rfl rfl (Nat.le_of_ble_eq_true rfl) (Nat.le_of_ble_eq_true rfl) (vx_runV (own := "Leastreader") (As := [.int (0 : Int32), .ref (ad k2), .ref (ad 57)]) (rest := []) ⟨hx, hb, hml, hown, ht⟩ (c_X9_makeOrThrow hst k2 hk2 57 rfl μ15 H.size (0 : Int32) h) (cwV 3 ht (G_V q_854 q_856 q_21 q_46 q_857) rfl rfl rfl ⟨rfl, hd_69⟩ ⟨Nat.le_of_ble_eq_true rfl, Nat.le_of_ble_eq_true rfl⟩) ⟨TBX.blind, (T_recv hK hw (kd_of rfl (by decide)) (ent_8 rfl) cl_8), TBX.pre hK hN hX hw⟩ rfl rfl hl.1 rfl (lv_room (Nat.le_of_ble_eq_true rfl)) dX9_many_49 ⟨Nat.le_of_ble_eq_true rfl, Nat.le_of_ble_eq_true rfl⟩) (fun μ17 H locs h hw => ?_)
    refine lv_aload_n hx hb dX9_many_52 rfl (lv_at hl 1 rfl) ?_
    refine gf_X9_49 hx hb ht hown hK hw rfl dX9_many_53 ?_
    refine lv_aload_n hx hb dX9_many_56 rfl (lv_at hl 1 rfl) ?_
    refine gf_X9_66 hx hb ht hown hK hw rfl dX9_many_57 ?_
    refine T_callv hw (va_runV (own := "Leastreader") (As := [.ref (ad 57)]) (rest := []) ⟨hx, hb, hml, hown, ht⟩ (c_X8_count 57 rfl μ17 H.size h) (cwV 1 ht (G_V q_1186 q_1187 q_1188 q_55 q_1189) rfl rfl rfl ⟨rfl, hd_71⟩ ⟨Nat.le_of_ble_eq_true rfl, Nat.le_of_ble_eq_true rfl⟩) ⟨TB.blind, (T_recv hK hw (kd_of rfl (by decide)) (ent_7 rfl) cl_7), TB.pre hK hN hw⟩ rfl rfl hl.1 rfl (lv_room (Nat.le_of_ble_eq_true rfl)) dX9_many_60 ⟨Nat.le_of_ble_eq_true rfl, Nat.le_of_ble_eq_true rfl⟩) (fun μ18 H locs h hw => ?_)
    refine lv_aload_n hx hb dX9_many_63 rfl (lv_at hl 1 rfl) ?_
    refine gf_X9_49 hx hb ht hown hK hw rfl dX9_many_64 ?_
    refine lv_iconst (v := (0 : Int32)) hx hb dX9_many_67 (by decide) ?_
    refine lv_iload_n hx hb dX9_many_68 rfl (lv_at hl 3 rfl) ?_
    refine T_calli hw (va_runV (own := "Leastreader") (As := [.int (0 : Int32), .int a2]) (rest := []) ⟨hx, hb, hml, hown, ht⟩ (c_X8_from μ18 H.size (0 : Int32) a2 h) (cwV 2 ht (G_V q_1202 q_1198 q_1199 q_55 q_1200) rfl rfl rfl ⟨rfl, hd_51⟩ ⟨Nat.le_of_ble_eq_true rfl, Nat.le_of_ble_eq_true rfl⟩) ⟨TB.blind, (T_recv hK hw (kd_of rfl (by decide)) (ent_7 rfl) cl_7), TB.pre hK hN hw⟩ rfl rfl hl.1 rfl (lv_room (Nat.le_of_ble_eq_true rfl)) dX9_many_69 ⟨Nat.le_of_ble_eq_true rfl, Nat.le_of_ble_eq_true rfl⟩) (fun r19 μ20 H locs h hw => ?_)
    obtain ⟨e21, h⟩ := h
    rw [e21] at hw
    exact hret H locs ls 72 4 24 _ _ hw h rfl (Nat.le_of_ble_eq_true rfl) (Nat.le_of_ble_eq_true rfl) dX9_many_72
  have h := h.2 c16
  refine lv_aload hx hb dX9_many_34 (lv_at hl 0 rfl) ?_
  refine lv_iload_n hx hb dX9_many_36 rfl (lv_at hl 3 rfl) ?_
  refine T_calli hw (va_runV (own := "Leastreader") (As := [.int a2]) (rest := []) ⟨hx, hb, hml, hown, ht⟩ (c_X2_countOneByOne k2 hk2 μ15 H.size a2 h) (cwV 1 ht (G_V q_1180 q_1181 q_1182 q_48 q_1183) rfl rfl rfl ⟨rfl, hd_72⟩ ⟨Nat.le_of_ble_eq_true rfl, Nat.le_of_ble_eq_true rfl⟩) ⟨TB.blind, (T_recv hK hw (kd_of hk2 (by decide)) (ent_2 hk2) cl_2), TB.pre hK hN hw⟩ rfl rfl hl.1 rfl (lv_room (Nat.le_of_ble_eq_true rfl)) dX9_many_37 ⟨Nat.le_of_ble_eq_true rfl, Nat.le_of_ble_eq_true rfl⟩) (fun r22 μ23 H locs h hw => ?_)
  obtain ⟨e24, h⟩ := h
  rw [e24] at hw
  exact hret H locs ls 40 3 18 _ _ hw h rfl (Nat.le_of_ble_eq_true rfl) (Nat.le_of_ble_eq_true rfl) dX9_many_40
def wp_X9_meetOrThrow (k1 : Nat) (k2 : Nat) (μ : TMem) (Q : TMem → Prop) (X : String → TMem → Prop) : Prop :=
  wp_X9_meetPairs k1 k2 μ (200 : Int32) (0 : Int32) (fun (r2 : Int32) (μ1 : TMem) => (¬ r2 = 0 → (Q μ1)) ∧ (r2 = 0 → (X "java/lang/IllegalStateException" μ1)))
set_option maxHeartbeats 4000000 in
set_option maxRecDepth 100000 in
theorem c_X9_meetOrThrow {l : Launch} (hst : l.stackTraces = false) {D : va_G} {ad : Nat → Nat} {cI cM : ClassId} (k1 : Nat) (hk1 : kd k1 = 2) (k2 : Nat) (hk2 : kd k2 = 2) (μ : TMem) (sz : Nat)  {Q : TMem → Prop} {X : String → TMem → Prop} (h : wp_X9_meetOrThrow k1 k2 μ Q X) : XMv l yX9_meetOrThrow (.code yX9_meetOrThrow cX9_meetOrThrow 3 (Option.none : Option Jvm.ClassFile.FieldType)) 5 1 6 [.ref (ad 0), .ref (ad k1), .ref (ad k2)] D ad cI cM sz μ Q X := by
  refine X_metv (by decide +kernel) (Nat.le_of_ble_eq_true rfl) ?_
  intro p e s m below meth c Qc ls hx hb hml hown ht hN hK hX htab hlocks hw hret hl
  have hl : lv_has ls 3 [(0, .ref (ad 0)), (1, .ref (ad k1)), (2, .ref (ad k2))] := hl
  suffices hh : ∀ (H : Heap) (locs : List Loc), TW D ad cI cM s μ H locs → W p l e (RX 5 1 6) s m #[.ref (ad 0), .ref (ad k1), .ref (ad k2)] below meth c H locs 0 0 (vx_MQ below Qc (vx_X (fun _ : TMem => True) (TEX D ad cI cM X) (TA ad s.heap.size)) #[.ref (ad 0), .ref (ad k1), .ref (ad k2)] s 1 6 (TA ad s.heap.size)) (F0 m 0 ls []) from hh _ _ hw
  intro H locs hw
  change wp_X9_meetPairs k1 k2 μ (200 : Int32) (0 : Int32) (fun (r2 : Int32) (μ1 : TMem) => (¬ r2 = 0 → (Q μ1)) ∧ (r2 = 0 → (X "java/lang/IllegalStateException" μ1))) at h
  refine lv_aload_n hx hb dX9_meetOrThrow_0 rfl (lv_at hl 0 rfl) ?_
  refine lv_aload_n hx hb dX9_meetOrThrow_1 rfl (lv_at hl 1 rfl) ?_
  refine lv_aload_n hx hb dX9_meetOrThrow_2 rfl (lv_at hl 2 rfl) ?_
  refine lv_sipush (v := (200 : Int32)) hx hb dX9_meetOrThrow_3 (by decide) ?_
  refine lv_iconst (v := (0 : Int32)) hx hb dX9_meetOrThrow_6 (by decide) ?_
  refine T_calli hw (va_runV (own := "Leastreader") (As := [.ref (ad k1), .ref (ad k2), .int (200 : Int32), .int (0 : Int32)]) (rest := []) ⟨hx, hb, hml, hown, ht⟩ (c_X9_meetPairs k1 hk1 k2 hk2 μ H.size (200 : Int32) (0 : Int32) h) (cwV 4 ht (G_V q_784 q_786 q_19 q_46 q_787) rfl rfl rfl ⟨rfl, hd_26⟩ ⟨Nat.le_of_ble_eq_true rfl, Nat.le_of_ble_eq_true rfl⟩) ⟨TB.blind, (T_recv hK hw (kd_of rfl (by decide)) (ent_8 rfl) cl_8), TB.pre hK hN hw⟩ rfl rfl hl.1 rfl (lv_room (Nat.le_of_ble_eq_true rfl)) dX9_meetOrThrow_7 ⟨Nat.le_of_ble_eq_true rfl, Nat.le_of_ble_eq_true rfl⟩) (fun r2 μ1 H locs h hw => ?_)
  refine lv_if_ne (tgt := 23) hx hb dX9_meetOrThrow_10 (by decide) (fun c3 => ?_) (fun c3 => ?_)
  · have h := h.1 c3
    exact hret H locs ls 23 0 0 _ hw h (Nat.le_of_ble_eq_true rfl) (Nat.le_of_ble_eq_true rfl) dX9_meetOrThrow_23
  have h := h.2 c3
  exact X_throw (R := RX 5 1 6) (cells := 0) (slots := 0) (fc := 1) (fn := 6) (cls := "java/lang/IllegalStateException") hx hb hst (hl.1.trans hml.symm) hown (by decide +kernel) (ht _ q_858) (ht _ q_65) (sr_RX9_243 hX.2.2.2) (hat_2 ht hX.2.2.1) hgd_2 hX hw htab hlocks dX9_meetOrThrow_13 dX9_meetOrThrow_16 dX9_meetOrThrow_17 dX9_meetOrThrow_19 dX9_meetOrThrow_22 (Nat.le_of_ble_eq_true rfl) (Nat.le_of_ble_eq_true rfl) (Nat.le_of_ble_eq_true rfl) (Nat.le_of_ble_eq_true rfl) (Nat.le_of_ble_eq_true rfl) (Nat.le_of_ble_eq_true rfl) h
def wp_X9_isAlike (μ : TMem) (a1 : Int32) (a2 : Int32) (a3 : Int32) (Q : Int32 → TMem → Prop) (X : String → TMem → Prop) : Prop :=
  wp_X9_machineAt μ a1 (fun (k2 : Nat) (μ1 : TMem) => wp_X9_machineAt μ1 a2 (fun (k4 : Nat) (μ3 : TMem) => wp_X9_checkRange μ3 a3 (0 : Int32) (1 : Int32) (fun (μ5 : TMem) => (¬ a3 = 0 → (wp_X9_makeOrThrow k2 51 μ5 (0 : Int32) (fun (μ7 : TMem) => wp_X9_makeOrThrow k4 53 μ7 (0 : Int32) (fun (μ8 : TMem) => wp_X5_isSameAs 51 53 μ8 (fun (r9 : Int32) => isB r9 ∧ Q r9 μ8)) X) X)) ∧ (a3 = 0 → (wp_X9_meetOrThrow k2 k4 μ5 (fun (μ13 : TMem) => (¬ (μ13 35 9) = (-1 : Int32) → (Q (0 : Int32) μ13)) ∧ ((μ13 35 9) = (-1 : Int32) → (Q (1 : Int32) μ13))) X))) X) X) X
set_option maxHeartbeats 4000000 in
set_option maxRecDepth 100000 in
theorem c_X9_isAlike {l : Launch} (hst : l.stackTraces = false) {D : va_G} {ad : Nat → Nat} {cI cM : ClassId}  (μ : TMem) (sz : Nat) (a1 : Int32) (a2 : Int32) (a3 : Int32) {Q : Int32 → TMem → Prop} {X : String → TMem → Prop} (h : wp_X9_isAlike μ a1 a2 a3 Q X) : XMi l yX9_isAlike (.code yX9_isAlike cX9_isAlike 6 (Option.some Jvm.ClassFile.FieldType.boolean)) 6 6 36 [.ref (ad 0), .int a1, .int a2, .int a3] D ad cI cM sz μ Q X := by
  refine X_meti (by decide +kernel) (Nat.le_of_ble_eq_true rfl) ?_
  intro p e s m below meth c Qc ls hx hb hml hown ht hN hK hX htab hlocks hw hret hl
  have hl : lv_has ls 6 [(0, .ref (ad 0)), (1, .int a1), (2, .int a2), (3, .int a3)] := hl
  suffices hh : ∀ (H : Heap) (locs : List Loc), TW D ad cI cM s μ H locs → W p l e (RX 6 6 36) s m #[.ref (ad 0), .int a1, .int a2, .int a3] below meth c H locs 0 0 (vx_MQ below Qc (vx_X (fun _ : TMem => True) (TEX D ad cI cM X) (TA ad s.heap.size)) #[.ref (ad 0), .int a1, .int a2, .int a3] s 6 36 (TA ad s.heap.size)) (F0 m 0 ls []) from hh _ _ hw
  intro H locs hw
  change wp_X9_machineAt μ a1 (fun (k2 : Nat) (μ1 : TMem) => wp_X9_machineAt μ1 a2 (fun (k4 : Nat) (μ3 : TMem) => wp_X9_checkRange μ3 a3 (0 : Int32) (1 : Int32) (fun (μ5 : TMem) => (¬ a3 = 0 → (wp_X9_makeOrThrow k2 51 μ5 (0 : Int32) (fun (μ7 : TMem) => wp_X9_makeOrThrow k4 53 μ7 (0 : Int32) (fun (μ8 : TMem) => wp_X5_isSameAs 51 53 μ8 (fun (r9 : Int32) => isB r9 ∧ Q r9 μ8)) X) X)) ∧ (a3 = 0 → (wp_X9_meetOrThrow k2 k4 μ5 (fun (μ13 : TMem) => (¬ (μ13 35 9) = (-1 : Int32) → (Q (0 : Int32) μ13)) ∧ ((μ13 35 9) = (-1 : Int32) → (Q (1 : Int32) μ13))) X))) X) X) X at h
  refine lv_aload_n hx hb dX9_isAlike_0 rfl (lv_at hl 0 rfl) ?_
  refine lv_iload_n hx hb dX9_isAlike_1 rfl (lv_at hl 1 rfl) ?_
  refine X_callo hw htab hlocks (c1 := 1) (n1 := 6) rfl rfl (Nat.le_of_ble_eq_true rfl) (Nat.le_of_ble_eq_true rfl) (vx_runV (own := "Leastreader") (As := [.int a1]) (rest := []) ⟨hx, hb, hml, hown, ht⟩ (c_X9_machineAt hst μ H.size a1 h) (cwV 1 ht (G_V q_314 q_316 q_0 q_46 q_317) rfl rfl rfl ⟨rfl, hd_53⟩ ⟨Nat.le_of_ble_eq_true rfl, Nat.le_of_ble_eq_true rfl⟩) ⟨TBX.blind, (T_recv hK hw (kd_of rfl (by decide)) (ent_8 rfl) cl_8), TBX.pre hK hN hX hw⟩ rfl rfl hl.1 rfl (lv_room (Nat.le_of_ble_eq_true rfl)) dX9_isAlike_2 ⟨Nat.le_of_ble_eq_true rfl, Nat.le_of_ble_eq_true rfl⟩) (fun k2 μ1 H locs hk2 h hw => ?_)
  refine lv_astore (lv' := [(4, .ref (ad k2)), (0, .ref (ad 0)), (1, .int a1), (2, .int a2), (3, .int a3)]) hx hb dX9_isAlike_5 hl (by decide) rfl (fun ls hl => ?_)
  refine lv_aload_n hx hb dX9_isAlike_7 rfl (lv_at hl 1 rfl) ?_
  refine lv_iload_n hx hb dX9_isAlike_8 rfl (lv_at hl 3 rfl) ?_
  refine X_callo hw htab hlocks (c1 := 2) (n1 := 12) rfl rfl (Nat.le_of_ble_eq_true rfl) (Nat.le_of_ble_eq_true rfl) (vx_runV (own := "Leastreader") (As := [.int a2]) (rest := []) ⟨hx, hb, hml, hown, ht⟩ (c_X9_machineAt hst μ1 H.size a2 h) (cwV 1 ht (G_V q_314 q_316 q_0 q_46 q_317) rfl rfl rfl ⟨rfl, hd_53⟩ ⟨Nat.le_of_ble_eq_true rfl, Nat.le_of_ble_eq_true rfl⟩) ⟨TBX.blind, (T_recv hK hw (kd_of rfl (by decide)) (ent_8 rfl) cl_8), TBX.pre hK hN hX hw⟩ rfl rfl hl.1 rfl (lv_room (Nat.le_of_ble_eq_true rfl)) dX9_isAlike_9 ⟨Nat.le_of_ble_eq_true rfl, Nat.le_of_ble_eq_true rfl⟩) (fun k4 μ3 H locs hk4 h hw => ?_)
  refine lv_astore (lv' := [(5, .ref (ad k4)), (4, .ref (ad k2)), (0, .ref (ad 0)), (1, .int a1), (2, .int a2), (3, .int a3)]) hx hb dX9_isAlike_12 hl (by decide) rfl (fun ls hl => ?_)
  refine lv_iload_n hx hb dX9_isAlike_14 rfl (lv_at hl 5 rfl) ?_
  refine lv_iconst (v := (0 : Int32)) hx hb dX9_isAlike_15 (by decide) ?_
  refine lv_iconst (v := (1 : Int32)) hx hb dX9_isAlike_16 (by decide) ?_
  refine X_callv hw htab hlocks (c1 := 3) (n1 := 18) rfl rfl (Nat.le_of_ble_eq_true rfl) (Nat.le_of_ble_eq_true rfl) (vx_runS (own := "Leastreader") (As := [.int a3, .int (0 : Int32), .int (1 : Int32)]) (rest := []) ⟨hx, hb, hml, hown, ht⟩ (c_X9_checkRange hst μ3 H.size a3 (0 : Int32) (1 : Int32) h) (va_cwS 3 ht (G_S q_597 q_598 q_46 q_599) rfl rfl rfl hd_54 ⟨Nat.le_of_ble_eq_true rfl, Nat.le_of_ble_eq_true rfl⟩) ⟨TBX.blind, TBX.pre hK hN hX hw⟩ rfl rfl hl.1 rfl (lv_room (Nat.le_of_ble_eq_true rfl)) dX9_isAlike_17 ⟨Nat.le_of_ble_eq_true rfl, Nat.le_of_ble_eq_true rfl⟩) (fun μ5 H locs h hw => ?_)
  refine lv_iload_n hx hb dX9_isAlike_20 rfl (lv_at hl 5 rfl) ?_
  refine lv_if_ne (tgt := 49) hx hb dX9_isAlike_21 (by decide) (fun c6 => ?_) (fun c6 => ?_)
  · have h := h.1 c6
    refine lv_aload_n hx hb dX9_isAlike_49 rfl (lv_at hl 2 rfl) ?_
    refine lv_iconst (v := (0 : Int32)) hx hb dX9_isAlike_50 (by decide) ?_
    refine lv_aload hx hb dX9_isAlike_51 (lv_at hl 1 rfl) ?_
    refine lv_aload_n hx hb dX9_isAlike_53 rfl (lv_at hl 2 rfl) ?_
    refine gf_X9_56 hx hb ht hown hK hw rfl dX9_isAlike_54 ?_
    refine X_callv hw htab hlocks (c1 := 4) (n1 := 24) rfl rfl (Nat.le_of_ble_eq_true rfl) (Nat.le_of_ble_eq_true rfl) (vx_runV (own := "Leastreader") (As := [.int (0 : Int32), .ref (ad k2), .ref (ad 51)]) (rest := []) ⟨hx, hb, hml, hown, ht⟩ (c_X9_makeOrThrow hst k2 hk2 51 rfl μ5 H.size (0 : Int32) h) (cwV 3 ht (G_V q_854 q_856 q_21 q_46 q_857) rfl rfl rfl ⟨rfl, hd_69⟩ ⟨Nat.le_of_ble_eq_true rfl, Nat.le_of_ble_eq_true rfl⟩) ⟨TBX.blind, (T_recv hK hw (kd_of rfl (by decide)) (ent_8 rfl) cl_8), TBX.pre hK hN hX hw⟩ rfl rfl hl.1 rfl (lv_room (Nat.le_of_ble_eq_true rfl)) dX9_isAlike_57 ⟨Nat.le_of_ble_eq_true rfl, Nat.le_of_ble_eq_true rfl⟩) (fun μ7 H locs h hw => ?_)
    refine lv_aload_n hx hb dX9_isAlike_60 rfl (lv_at hl 2 rfl) ?_
    refine lv_iconst (v := (0 : Int32)) hx hb dX9_isAlike_61 (by decide) ?_
    refine lv_aload hx hb dX9_isAlike_62 (lv_at hl 0 rfl) ?_
    refine lv_aload_n hx hb dX9_isAlike_64 rfl (lv_at hl 2 rfl) ?_
    refine gf_X9_60 hx hb ht hown hK hw rfl dX9_isAlike_65 ?_
    refine X_callv hw htab hlocks (c1 := 5) (n1 := 30) rfl rfl (Nat.le_of_ble_eq_true rfl) (Nat.le_of_ble_eq_true rfl) (vx_runV (own := "Leastreader") (As := [.int (0 : Int32), .ref (ad k4), .ref (ad 53)]) (rest := []) ⟨hx, hb, hml, hown, ht⟩ (c_X9_makeOrThrow hst k4 hk4 53 rfl μ7 H.size (0 : Int32) h) (cwV 3 ht (G_V q_854 q_856 q_21 q_46 q_857) rfl rfl rfl ⟨rfl, hd_69⟩ ⟨Nat.le_of_ble_eq_true rfl, Nat.le_of_ble_eq_true rfl⟩) ⟨TBX.blind, (T_recv hK hw (kd_of rfl (by decide)) (ent_8 rfl) cl_8), TBX.pre hK hN hX hw⟩ rfl rfl hl.1 rfl (lv_room (Nat.le_of_ble_eq_true rfl)) dX9_isAlike_68 ⟨Nat.le_of_ble_eq_true rfl, Nat.le_of_ble_eq_true rfl⟩) (fun μ8 H locs h hw => ?_)
    refine lv_aload_n hx hb dX9_isAlike_71 rfl (lv_at hl 2 rfl) ?_
    refine gf_X9_56 hx hb ht hown hK hw rfl dX9_isAlike_72 ?_
    refine lv_aload_n hx hb dX9_isAlike_75 rfl (lv_at hl 2 rfl) ?_
    refine gf_X9_60 hx hb ht hown hK hw rfl dX9_isAlike_76 ?_
    refine T_calli hw (va_runV (own := "Leastreader") (As := [.ref (ad 53)]) (rest := []) ⟨hx, hb, hml, hown, ht⟩ (c_X5_isSameAs 51 rfl 53 rfl μ8 H.size h) (cwV 1 ht (G_V q_516 q_517 q_518 q_53 q_519) rfl rfl rfl ⟨rfl, hd_73⟩ ⟨Nat.le_of_ble_eq_true rfl, Nat.le_of_ble_eq_true rfl⟩) ⟨TB.blind, (T_recv hK hw (kd_of rfl (by decide)) (ent_5 rfl) cl_5), TB.pre hK hN hw⟩ rfl rfl hl.1 rfl (lv_room (Nat.le_of_ble_eq_true rfl)) dX9_isAlike_79 ⟨Nat.le_of_ble_eq_true rfl, Nat.le_of_ble_eq_true rfl⟩) (fun r9 μ10 H locs h hw => ?_)
    obtain ⟨e11, h⟩ := h
    rw [e11] at hw
    obtain ⟨z12, h⟩ := h
    exact hret H locs ls 82 5 30 _ _ hw h (isB_n z12) (Nat.le_of_ble_eq_true rfl) (Nat.le_of_ble_eq_true rfl) dX9_isAlike_82
  have h := h.2 c6
  refine lv_aload_n hx hb dX9_isAlike_24 rfl (lv_at hl 2 rfl) ?_
  refine lv_aload hx hb dX9_isAlike_25 (lv_at hl 1 rfl) ?_
  refine lv_aload hx hb dX9_isAlike_27 (lv_at hl 0 rfl) ?_
  refine X_callv hw htab hlocks (c1 := 4) (n1 := 24) rfl rfl (Nat.le_of_ble_eq_true rfl) (Nat.le_of_ble_eq_true rfl) (vx_runV (own := "Leastreader") (As := [.ref (ad k2), .ref (ad k4)]) (rest := []) ⟨hx, hb, hml, hown, ht⟩ (c_X9_meetOrThrow hst k2 hk2 k4 hk4 μ5 H.size h) (cwV 2 ht (G_V q_1234 q_1236 q_25 q_46 q_1237) rfl rfl rfl ⟨rfl, hd_74⟩ ⟨Nat.le_of_ble_eq_true rfl, Nat.le_of_ble_eq_true rfl⟩) ⟨TBX.blind, (T_recv hK hw (kd_of rfl (by decide)) (ent_8 rfl) cl_8), TBX.pre hK hN hX hw⟩ rfl rfl hl.1 rfl (lv_room (Nat.le_of_ble_eq_true rfl)) dX9_isAlike_29 ⟨Nat.le_of_ble_eq_true rfl, Nat.le_of_ble_eq_true rfl⟩) (fun μ13 H locs h hw => ?_)
  refine lv_aload_n hx hb dX9_isAlike_32 rfl (lv_at hl 2 rfl) ?_
  refine gf_X9_42 hx hb ht hown hK hw rfl dX9_isAlike_33 ?_
  refine gf_X9_227 hx hb ht hN hown hK hw rfl dX9_isAlike_36 ?_
  refine lv_iconst (v := (-1 : Int32)) hx hb dX9_isAlike_39 (by decide) ?_
  refine lv_icmp_ne (tgt := 47) hx hb dX9_isAlike_40 (by decide) (fun c14 => ?_) (fun c14 => ?_)
  · have h := h.1 c14
    refine lv_iconst (v := (0 : Int32)) hx hb dX9_isAlike_47 (by decide) ?_
    exact hret H locs ls 48 4 24 _ _ hw h rfl (Nat.le_of_ble_eq_true rfl) (Nat.le_of_ble_eq_true rfl) dX9_isAlike_48
  have h := h.2 c14
  refine lv_iconst (v := (1 : Int32)) hx hb dX9_isAlike_43 (by decide) ?_
  refine lv_goto (tgt := 48) hx hb dX9_isAlike_44 (by decide) ?_
  exact hret H locs ls 48 4 24 _ _ hw h rfl (Nat.le_of_ble_eq_true rfl) (Nat.le_of_ble_eq_true rfl) dX9_isAlike_48
def wp_X9_pairs (μ : TMem) (a1 : Int32) (a2 : Int32) (Q : Int32 → TMem → Prop) (X : String → TMem → Prop) : Prop :=
  wp_X9_machineAt μ a1 (fun (k2 : Nat) (μ1 : TMem) => wp_X9_machineAt μ1 a2 (fun (k4 : Nat) (μ3 : TMem) => wp_X9_meetOrThrow k2 k4 μ3 (fun (μ5 : TMem) => Q (μ5 35 8) μ5) X) X) X
set_option maxHeartbeats 4000000 in
set_option maxRecDepth 100000 in
theorem c_X9_pairs {l : Launch} (hst : l.stackTraces = false) {D : va_G} {ad : Nat → Nat} {cI cM : ClassId}  (μ : TMem) (sz : Nat) (a1 : Int32) (a2 : Int32) {Q : Int32 → TMem → Prop} {X : String → TMem → Prop} (h : wp_X9_pairs μ a1 a2 Q X) : XMi l yX9_pairs (.code yX9_pairs cX9_pairs 5 (Option.some Jvm.ClassFile.FieldType.int)) 6 3 18 [.ref (ad 0), .int a1, .int a2] D ad cI cM sz μ Q X := by
  refine X_meti (by decide +kernel) (Nat.le_of_ble_eq_true rfl) ?_
  intro p e s m below meth c Qc ls hx hb hml hown ht hN hK hX htab hlocks hw hret hl
  have hl : lv_has ls 5 [(0, .ref (ad 0)), (1, .int a1), (2, .int a2)] := hl
  suffices hh : ∀ (H : Heap) (locs : List Loc), TW D ad cI cM s μ H locs → W p l e (RX 6 3 18) s m #[.ref (ad 0), .int a1, .int a2] below meth c H locs 0 0 (vx_MQ below Qc (vx_X (fun _ : TMem => True) (TEX D ad cI cM X) (TA ad s.heap.size)) #[.ref (ad 0), .int a1, .int a2] s 3 18 (TA ad s.heap.size)) (F0 m 0 ls []) from hh _ _ hw
  intro H locs hw
  change wp_X9_machineAt μ a1 (fun (k2 : Nat) (μ1 : TMem) => wp_X9_machineAt μ1 a2 (fun (k4 : Nat) (μ3 : TMem) => wp_X9_meetOrThrow k2 k4 μ3 (fun (μ5 : TMem) => Q (μ5 35 8) μ5) X) X) X at h
  refine lv_aload_n hx hb dX9_pairs_0 rfl (lv_at hl 0 rfl) ?_
  refine lv_iload_n hx hb dX9_pairs_1 rfl (lv_at hl 1 rfl) ?_
  refine X_callo hw htab hlocks (c1 := 1) (n1 := 6) rfl rfl (Nat.le_of_ble_eq_true rfl) (Nat.le_of_ble_eq_true rfl) (vx_runV (own := "Leastreader") (As := [.int a1]) (rest := []) ⟨hx, hb, hml, hown, ht⟩ (c_X9_machineAt hst μ H.size a1 h) (cwV 1 ht (G_V q_314 q_316 q_0 q_46 q_317) rfl rfl rfl ⟨rfl, hd_53⟩ ⟨Nat.le_of_ble_eq_true rfl, Nat.le_of_ble_eq_true rfl⟩) ⟨TBX.blind, (T_recv hK hw (kd_of rfl (by decide)) (ent_8 rfl) cl_8), TBX.pre hK hN hX hw⟩ rfl rfl hl.1 rfl (lv_room (Nat.le_of_ble_eq_true rfl)) dX9_pairs_2 ⟨Nat.le_of_ble_eq_true rfl, Nat.le_of_ble_eq_true rfl⟩) (fun k2 μ1 H locs hk2 h hw => ?_)
  refine lv_astore_n (lv' := [(3, .ref (ad k2)), (0, .ref (ad 0)), (1, .int a1), (2, .int a2)]) hx hb dX9_pairs_5 rfl hl (by decide) rfl (fun ls hl => ?_)
  refine lv_aload_n hx hb dX9_pairs_6 rfl (lv_at hl 1 rfl) ?_
  refine lv_iload_n hx hb dX9_pairs_7 rfl (lv_at hl 3 rfl) ?_
  refine X_callo hw htab hlocks (c1 := 2) (n1 := 12) rfl rfl (Nat.le_of_ble_eq_true rfl) (Nat.le_of_ble_eq_true rfl) (vx_runV (own := "Leastreader") (As := [.int a2]) (rest := []) ⟨hx, hb, hml, hown, ht⟩ (c_X9_machineAt hst μ1 H.size a2 h) (cwV 1 ht (G_V q_314 q_316 q_0 q_46 q_317) rfl rfl rfl ⟨rfl, hd_53⟩ ⟨Nat.le_of_ble_eq_true rfl, Nat.le_of_ble_eq_true rfl⟩) ⟨TBX.blind, (T_recv hK hw (kd_of rfl (by decide)) (ent_8 rfl) cl_8), TBX.pre hK hN hX hw⟩ rfl rfl hl.1 rfl (lv_room (Nat.le_of_ble_eq_true rfl)) dX9_pairs_8 ⟨Nat.le_of_ble_eq_true rfl, Nat.le_of_ble_eq_true rfl⟩) (fun k4 μ3 H locs hk4 h hw => ?_)
  refine lv_astore (lv' := [(4, .ref (ad k4)), (3, .ref (ad k2)), (0, .ref (ad 0)), (1, .int a1), (2, .int a2)]) hx hb dX9_pairs_11 hl (by decide) rfl (fun ls hl => ?_)
  refine lv_aload_n hx hb dX9_pairs_13 rfl (lv_at hl 2 rfl) ?_
  refine lv_aload_n hx hb dX9_pairs_14 rfl (lv_at hl 1 rfl) ?_
  refine lv_aload hx hb dX9_pairs_15 (lv_at hl 0 rfl) ?_
  refine X_callv hw htab hlocks (c1 := 3) (n1 := 18) rfl rfl (Nat.le_of_ble_eq_true rfl) (Nat.le_of_ble_eq_true rfl) (vx_runV (own := "Leastreader") (As := [.ref (ad k2), .ref (ad k4)]) (rest := []) ⟨hx, hb, hml, hown, ht⟩ (c_X9_meetOrThrow hst k2 hk2 k4 hk4 μ3 H.size h) (cwV 2 ht (G_V q_1234 q_1236 q_25 q_46 q_1237) rfl rfl rfl ⟨rfl, hd_74⟩ ⟨Nat.le_of_ble_eq_true rfl, Nat.le_of_ble_eq_true rfl⟩) ⟨TBX.blind, (T_recv hK hw (kd_of rfl (by decide)) (ent_8 rfl) cl_8), TBX.pre hK hN hX hw⟩ rfl rfl hl.1 rfl (lv_room (Nat.le_of_ble_eq_true rfl)) dX9_pairs_17 ⟨Nat.le_of_ble_eq_true rfl, Nat.le_of_ble_eq_true rfl⟩) (fun μ5 H locs h hw => ?_)
  refine lv_aload_n hx hb dX9_pairs_20 rfl (lv_at hl 2 rfl) ?_
  refine gf_X9_42 hx hb ht hown hK hw rfl dX9_pairs_21 ?_
  refine gf_X9_239 hx hb ht hN hown hK hw rfl dX9_pairs_24 ?_
  exact hret H locs ls 27 3 18 _ _ hw h rfl (Nat.le_of_ble_eq_true rfl) (Nat.le_of_ble_eq_true rfl) dX9_pairs_27
def wp_X9_together (μ : TMem) (a1 : Int32) (a2 : Int32) (a3 : Int32) (a4 : Int32) (Q : Int32 → TMem → Prop) (X : String → TMem → Prop) : Prop :=
  wp_X9_machineAt μ a1 (fun (k2 : Nat) (μ1 : TMem) => wp_X9_machineAt μ1 a2 (fun (k4 : Nat) (μ3 : TMem) => wp_X9_checkRange μ3 a3 (0 : Int32) (3 : Int32) (fun (μ5 : TMem) => wp_X9_checkRange μ5 a4 (-1 : Int32) (12 : Int32) (fun (μ6 : TMem) => wp_X9_putTogether k2 k4 μ6 a3 (fun (r8 : Int32) (μ7 : TMem) => (¬ r8 = 0 → ((¬ a4 = (-1 : Int32) → (wp_X8_count 57 μ7 (fun (μ11 : TMem) => wp_X8_from μ11 (0 : Int32) a4 (fun (r12 : Int32) => Q r12 μ11)))) ∧ (a4 = (-1 : Int32) → (Q (μ7 57 1) μ7)))) ∧ (r8 = 0 → (X "java/lang/IllegalStateException" μ7)))) X) X) X) X
set_option maxHeartbeats 4000000 in
set_option maxRecDepth 100000 in
theorem c_X9_together {l : Launch} (hst : l.stackTraces = false) {D : va_G} {ad : Nat → Nat} {cI cM : ClassId}  (μ : TMem) (sz : Nat) (a1 : Int32) (a2 : Int32) (a3 : Int32) (a4 : Int32) {Q : Int32 → TMem → Prop} {X : String → TMem → Prop} (h : wp_X9_together μ a1 a2 a3 a4 Q X) : XMi l yX9_together (.code yX9_together cX9_together 7 (Option.some Jvm.ClassFile.FieldType.int)) 6 5 30 [.ref (ad 0), .int a1, .int a2, .int a3, .int a4] D ad cI cM sz μ Q X := by
  refine X_meti (by decide +kernel) (Nat.le_of_ble_eq_true rfl) ?_
  intro p e s m below meth c Qc ls hx hb hml hown ht hN hK hX htab hlocks hw hret hl
  have hl : lv_has ls 7 [(0, .ref (ad 0)), (1, .int a1), (2, .int a2), (3, .int a3), (4, .int a4)] := hl
  suffices hh : ∀ (H : Heap) (locs : List Loc), TW D ad cI cM s μ H locs → W p l e (RX 6 5 30) s m #[.ref (ad 0), .int a1, .int a2, .int a3, .int a4] below meth c H locs 0 0 (vx_MQ below Qc (vx_X (fun _ : TMem => True) (TEX D ad cI cM X) (TA ad s.heap.size)) #[.ref (ad 0), .int a1, .int a2, .int a3, .int a4] s 5 30 (TA ad s.heap.size)) (F0 m 0 ls []) from hh _ _ hw
  intro H locs hw
  change wp_X9_machineAt μ a1 (fun (k2 : Nat) (μ1 : TMem) => wp_X9_machineAt μ1 a2 (fun (k4 : Nat) (μ3 : TMem) => wp_X9_checkRange μ3 a3 (0 : Int32) (3 : Int32) (fun (μ5 : TMem) => wp_X9_checkRange μ5 a4 (-1 : Int32) (12 : Int32) (fun (μ6 : TMem) => wp_X9_putTogether k2 k4 μ6 a3 (fun (r8 : Int32) (μ7 : TMem) => (¬ r8 = 0 → ((¬ a4 = (-1 : Int32) → (wp_X8_count 57 μ7 (fun (μ11 : TMem) => wp_X8_from μ11 (0 : Int32) a4 (fun (r12 : Int32) => Q r12 μ11)))) ∧ (a4 = (-1 : Int32) → (Q (μ7 57 1) μ7)))) ∧ (r8 = 0 → (X "java/lang/IllegalStateException" μ7)))) X) X) X) X at h
  refine lv_aload_n hx hb dX9_together_0 rfl (lv_at hl 0 rfl) ?_
  refine lv_iload_n hx hb dX9_together_1 rfl (lv_at hl 1 rfl) ?_
  refine X_callo hw htab hlocks (c1 := 1) (n1 := 6) rfl rfl (Nat.le_of_ble_eq_true rfl) (Nat.le_of_ble_eq_true rfl) (vx_runV (own := "Leastreader") (As := [.int a1]) (rest := []) ⟨hx, hb, hml, hown, ht⟩ (c_X9_machineAt hst μ H.size a1 h) (cwV 1 ht (G_V q_314 q_316 q_0 q_46 q_317) rfl rfl rfl ⟨rfl, hd_53⟩ ⟨Nat.le_of_ble_eq_true rfl, Nat.le_of_ble_eq_true rfl⟩) ⟨TBX.blind, (T_recv hK hw (kd_of rfl (by decide)) (ent_8 rfl) cl_8), TBX.pre hK hN hX hw⟩ rfl rfl hl.1 rfl (lv_room (Nat.le_of_ble_eq_true rfl)) dX9_together_2 ⟨Nat.le_of_ble_eq_true rfl, Nat.le_of_ble_eq_true rfl⟩) (fun k2 μ1 H locs hk2 h hw => ?_)
  refine lv_astore (lv' := [(5, .ref (ad k2)), (0, .ref (ad 0)), (1, .int a1), (2, .int a2), (3, .int a3), (4, .int a4)]) hx hb dX9_together_5 hl (by decide) rfl (fun ls hl => ?_)
  refine lv_aload_n hx hb dX9_together_7 rfl (lv_at hl 1 rfl) ?_
  refine lv_iload_n hx hb dX9_together_8 rfl (lv_at hl 3 rfl) ?_
  refine X_callo hw htab hlocks (c1 := 2) (n1 := 12) rfl rfl (Nat.le_of_ble_eq_true rfl) (Nat.le_of_ble_eq_true rfl) (vx_runV (own := "Leastreader") (As := [.int a2]) (rest := []) ⟨hx, hb, hml, hown, ht⟩ (c_X9_machineAt hst μ1 H.size a2 h) (cwV 1 ht (G_V q_314 q_316 q_0 q_46 q_317) rfl rfl rfl ⟨rfl, hd_53⟩ ⟨Nat.le_of_ble_eq_true rfl, Nat.le_of_ble_eq_true rfl⟩) ⟨TBX.blind, (T_recv hK hw (kd_of rfl (by decide)) (ent_8 rfl) cl_8), TBX.pre hK hN hX hw⟩ rfl rfl hl.1 rfl (lv_room (Nat.le_of_ble_eq_true rfl)) dX9_together_9 ⟨Nat.le_of_ble_eq_true rfl, Nat.le_of_ble_eq_true rfl⟩) (fun k4 μ3 H locs hk4 h hw => ?_)
  refine lv_astore (lv' := [(6, .ref (ad k4)), (5, .ref (ad k2)), (0, .ref (ad 0)), (1, .int a1), (2, .int a2), (3, .int a3), (4, .int a4)]) hx hb dX9_together_12 hl (by decide) rfl (fun ls hl => ?_)
  refine lv_iload_n hx hb dX9_together_14 rfl (lv_at hl 5 rfl) ?_
  refine lv_iconst (v := (0 : Int32)) hx hb dX9_together_15 (by decide) ?_
  refine lv_iconst (v := (3 : Int32)) hx hb dX9_together_16 (by decide) ?_
  refine X_callv hw htab hlocks (c1 := 3) (n1 := 18) rfl rfl (Nat.le_of_ble_eq_true rfl) (Nat.le_of_ble_eq_true rfl) (vx_runS (own := "Leastreader") (As := [.int a3, .int (0 : Int32), .int (3 : Int32)]) (rest := []) ⟨hx, hb, hml, hown, ht⟩ (c_X9_checkRange hst μ3 H.size a3 (0 : Int32) (3 : Int32) h) (va_cwS 3 ht (G_S q_597 q_598 q_46 q_599) rfl rfl rfl hd_54 ⟨Nat.le_of_ble_eq_true rfl, Nat.le_of_ble_eq_true rfl⟩) ⟨TBX.blind, TBX.pre hK hN hX hw⟩ rfl rfl hl.1 rfl (lv_room (Nat.le_of_ble_eq_true rfl)) dX9_together_17 ⟨Nat.le_of_ble_eq_true rfl, Nat.le_of_ble_eq_true rfl⟩) (fun μ5 H locs h hw => ?_)
  refine lv_iload hx hb dX9_together_20 (lv_at hl 6 rfl) ?_
  refine lv_iconst (v := (-1 : Int32)) hx hb dX9_together_22 (by decide) ?_
  refine lv_bipush (v := (12 : Int32)) hx hb dX9_together_23 (by decide) ?_
  refine X_callv hw htab hlocks (c1 := 4) (n1 := 24) rfl rfl (Nat.le_of_ble_eq_true rfl) (Nat.le_of_ble_eq_true rfl) (vx_runS (own := "Leastreader") (As := [.int a4, .int (-1 : Int32), .int (12 : Int32)]) (rest := []) ⟨hx, hb, hml, hown, ht⟩ (c_X9_checkRange hst μ5 H.size a4 (-1 : Int32) (12 : Int32) h) (va_cwS 3 ht (G_S q_597 q_598 q_46 q_599) rfl rfl rfl hd_54 ⟨Nat.le_of_ble_eq_true rfl, Nat.le_of_ble_eq_true rfl⟩) ⟨TBX.blind, TBX.pre hK hN hX hw⟩ rfl rfl hl.1 rfl (lv_room (Nat.le_of_ble_eq_true rfl)) dX9_together_25 ⟨Nat.le_of_ble_eq_true rfl, Nat.le_of_ble_eq_true rfl⟩) (fun μ6 H locs h hw => ?_)
  refine lv_aload_n hx hb dX9_together_28 rfl (lv_at hl 2 rfl) ?_
  refine lv_aload hx hb dX9_together_29 (lv_at hl 1 rfl) ?_
  refine lv_aload hx hb dX9_together_31 (lv_at hl 0 rfl) ?_
  refine lv_iload_n hx hb dX9_together_33 rfl (lv_at hl 5 rfl) ?_
  refine T_calli hw (va_runV (own := "Leastreader") (As := [.ref (ad k2), .ref (ad k4), .int a3]) (rest := []) ⟨hx, hb, hml, hown, ht⟩ (c_X9_putTogether k2 hk2 k4 hk4 μ6 H.size a3 h) (cwV 3 ht (G_V q_780 q_782 q_18 q_46 q_783) rfl rfl rfl ⟨rfl, hd_67⟩ ⟨Nat.le_of_ble_eq_true rfl, Nat.le_of_ble_eq_true rfl⟩) ⟨TB.blind, (T_recv hK hw (kd_of rfl (by decide)) (ent_8 rfl) cl_8), TB.pre hK hN hw⟩ rfl rfl hl.1 rfl (lv_room (Nat.le_of_ble_eq_true rfl)) dX9_together_34 ⟨Nat.le_of_ble_eq_true rfl, Nat.le_of_ble_eq_true rfl⟩) (fun r8 μ7 H locs h hw => ?_)
  refine lv_if_ne (tgt := 50) hx hb dX9_together_37 (by decide) (fun c9 => ?_) (fun c9 => ?_)
  · have h := h.1 c9
    refine lv_iload hx hb dX9_together_50 (lv_at hl 6 rfl) ?_
    refine lv_iconst (v := (-1 : Int32)) hx hb dX9_together_52 (by decide) ?_
    refine lv_icmp_ne (tgt := 64) hx hb dX9_together_53 (by decide) (fun c10 => ?_) (fun c10 => ?_)
    · have h := h.1 c10
      refine lv_aload_n hx hb dX9_together_64 rfl (lv_at hl 2 rfl) ?_
      refine gf_X9_49 hx hb ht hown hK hw rfl dX9_together_65 ?_
      refine lv_aload_n hx hb dX9_together_68 rfl (lv_at hl 2 rfl) ?_
      refine gf_X9_66 hx hb ht hown hK hw rfl dX9_together_69 ?_
      refine T_callv hw (va_runV (own := "Leastreader") (As := [.ref (ad 57)]) (rest := []) ⟨hx, hb, hml, hown, ht⟩ (c_X8_count 57 rfl μ7 H.size h) (cwV 1 ht (G_V q_1186 q_1187 q_1188 q_55 q_1189) rfl rfl rfl ⟨rfl, hd_71⟩ ⟨Nat.le_of_ble_eq_true rfl, Nat.le_of_ble_eq_true rfl⟩) ⟨TB.blind, (T_recv hK hw (kd_of rfl (by decide)) (ent_7 rfl) cl_7), TB.pre hK hN hw⟩ rfl rfl hl.1 rfl (lv_room (Nat.le_of_ble_eq_true rfl)) dX9_together_72 ⟨Nat.le_of_ble_eq_true rfl, Nat.le_of_ble_eq_true rfl⟩) (fun μ11 H locs h hw => ?_)
      refine lv_aload_n hx hb dX9_together_75 rfl (lv_at hl 2 rfl) ?_
      refine gf_X9_49 hx hb ht hown hK hw rfl dX9_together_76 ?_
      refine lv_iconst (v := (0 : Int32)) hx hb dX9_together_79 (by decide) ?_
      refine lv_iload hx hb dX9_together_80 (lv_at hl 6 rfl) ?_
      refine T_calli hw (va_runV (own := "Leastreader") (As := [.int (0 : Int32), .int a4]) (rest := []) ⟨hx, hb, hml, hown, ht⟩ (c_X8_from μ11 H.size (0 : Int32) a4 h) (cwV 2 ht (G_V q_1202 q_1198 q_1199 q_55 q_1200) rfl rfl rfl ⟨rfl, hd_51⟩ ⟨Nat.le_of_ble_eq_true rfl, Nat.le_of_ble_eq_true rfl⟩) ⟨TB.blind, (T_recv hK hw (kd_of rfl (by decide)) (ent_7 rfl) cl_7), TB.pre hK hN hw⟩ rfl rfl hl.1 rfl (lv_room (Nat.le_of_ble_eq_true rfl)) dX9_together_82 ⟨Nat.le_of_ble_eq_true rfl, Nat.le_of_ble_eq_true rfl⟩) (fun r12 μ13 H locs h hw => ?_)
      obtain ⟨e14, h⟩ := h
      rw [e14] at hw
      exact hret H locs ls 85 4 24 _ _ hw h rfl (Nat.le_of_ble_eq_true rfl) (Nat.le_of_ble_eq_true rfl) dX9_together_85
    have h := h.2 c10
    refine lv_aload_n hx hb dX9_together_56 rfl (lv_at hl 2 rfl) ?_
    refine gf_X9_66 hx hb ht hown hK hw rfl dX9_together_57 ?_
    refine gf_X9_190 hx hb ht hown hK hw rfl dX9_together_60 ?_
    exact hret H locs ls 63 4 24 _ _ hw h rfl (Nat.le_of_ble_eq_true rfl) (Nat.le_of_ble_eq_true rfl) dX9_together_63
  have h := h.2 c9
  exact X_throw (R := RX 6 5 30) (cells := 4) (slots := 24) (fc := 5) (fn := 30) (cls := "java/lang/IllegalStateException") hx hb hst (hl.1.trans hml.symm) hown (by decide +kernel) (ht _ q_858) (ht _ q_65) (sr_RX9_243 hX.2.2.2) (hat_2 ht hX.2.2.1) hgd_2 hX hw htab hlocks dX9_together_40 dX9_together_43 dX9_together_44 dX9_together_46 dX9_together_49 (Nat.le_of_ble_eq_true rfl) (Nat.le_of_ble_eq_true rfl) (Nat.le_of_ble_eq_true rfl) (Nat.le_of_ble_eq_true rfl) (Nat.le_of_ble_eq_true rfl) (Nat.le_of_ble_eq_true rfl) h
