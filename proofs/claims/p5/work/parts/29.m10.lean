def wp_X3_makeByTurning (k1 : Nat) (k2 : Nat) (μ : TMem) (Q : Int32 → TMem → Prop) : Prop :=
  wp_X2_becomeRound 31 k1 μ (fun (μ1 : TMem) => wp_X3_makeOneWay 31 33 μ1 (fun (r3 : Int32) (μ2 : TMem) => (¬ r3 = 0 → (wp_X2_becomePlain 29 33 μ2 (fun (μ5 : TMem) => wp_X2_becomeRound 31 29 μ5 (fun (μ6 : TMem) => wp_X3_makeOneWay 31 k2 μ6 (fun (r8 : Int32) (μ7 : TMem) => isB r8 ∧ Q r8 μ7))))) ∧ (r3 = 0 → (Q (0 : Int32) μ2))))
set_option maxHeartbeats 4000000 in
set_option maxRecDepth 100000 in
theorem c_X3_makeByTurning {l : Launch} {D : va_G} {ad : Nat → Nat} {cI cM : ClassId} (k1 : Nat) (hk1 : kd k1 = 2) (k2 : Nat) (hk2 : kd k2 = 5) (μ : TMem) (sz : Nat)  {Q : Int32 → TMem → Prop} (h : wp_X3_makeByTurning k1 k2 μ Q) : TMi l yX3_makeByTurning (.code yX3_makeByTurning cX3_makeByTurning 3 (Option.some Jvm.ClassFile.FieldType.boolean)) 3 [.ref (ad 15), .ref (ad k1), .ref (ad k2)] D ad cI cM sz μ Q := by
  refine T_meti (by decide +kernel) (Nat.le_of_ble_eq_true rfl) ?_
  intro p e s m below meth c Z ls hx hb hml hown ht hN hK hw hret hl
  have hl : lv_has ls 3 [(0, .ref (ad 15)), (1, .ref (ad k1)), (2, .ref (ad k2))] := hl
  generalize s.heap = H at hw ⊢
  generalize ([] : List Loc) = locs at hw ⊢
  change wp_X2_becomeRound 31 k1 μ (fun (μ1 : TMem) => wp_X3_makeOneWay 31 33 μ1 (fun (r3 : Int32) (μ2 : TMem) => (¬ r3 = 0 → (wp_X2_becomePlain 29 33 μ2 (fun (μ5 : TMem) => wp_X2_becomeRound 31 29 μ5 (fun (μ6 : TMem) => wp_X3_makeOneWay 31 k2 μ6 (fun (r8 : Int32) (μ7 : TMem) => isB r8 ∧ Q r8 μ7))))) ∧ (r3 = 0 → (Q (0 : Int32) μ2)))) at h
  refine lv_aload_n hx hb dX3_makeByTurning_0 rfl (lv_at hl 0 rfl) ?_
  refine gf_X3_40 hx hb ht hown hK hw rfl dX3_makeByTurning_1 ?_
  refine W.eq (g2 := F0 m 4 ls [.ref (ad 31)]) rfl ?_
  refine lv_aload_n hx hb dX3_makeByTurning_4 rfl (lv_at hl 1 rfl) ?_
  refine T_callv hw (va_runV (own := "Leastreader$Maker") (As := [.ref (ad k1)]) (rest := []) ⟨hx, hb, hml, hown, ht⟩ (c_X2_becomeRound 31 rfl k1 hk1 μ H.size h) (cwV 1 ht (G_V q_436 q_437 q_438 q_48 q_439) rfl rfl rfl ⟨rfl, hd_47⟩ ⟨Nat.le_of_ble_eq_true rfl, Nat.le_of_ble_eq_true rfl⟩) ⟨TB.blind, (T_recv hK hw (kd_of rfl (by decide)) (ent_2 rfl) cl_2), TB.pre hK hN hw⟩ rfl rfl hl.1 rfl (lv_room (Nat.le_of_ble_eq_true rfl)) dX3_makeByTurning_5 ⟨Nat.le_of_ble_eq_true rfl, Nat.le_of_ble_eq_true rfl⟩) (fun μ1 H locs h hw => ?_)
  refine lv_aload_n hx hb dX3_makeByTurning_8 rfl (lv_at hl 0 rfl) ?_
  refine lv_aload_n hx hb dX3_makeByTurning_9 rfl (lv_at hl 0 rfl) ?_
  refine gf_X3_40 hx hb ht hown hK hw rfl dX3_makeByTurning_10 ?_
  refine W.eq (g2 := F0 m 13 ls [.ref (ad 31), .ref (ad 15)]) rfl ?_
  refine lv_aload_n hx hb dX3_makeByTurning_13 rfl (lv_at hl 0 rfl) ?_
  refine gf_X3_46 hx hb ht hown hK hw rfl dX3_makeByTurning_14 ?_
  refine W.eq (g2 := F0 m 17 ls [.ref (ad 33), .ref (ad 31), .ref (ad 15)]) rfl ?_
  refine T_calli hw (va_runV (own := "Leastreader$Maker") (As := [.ref (ad 31), .ref (ad 33)]) (rest := []) ⟨hx, hb, hml, hown, ht⟩ (c_X3_makeOneWay 31 rfl 33 rfl μ1 H.size h) (cwV 2 ht (G_V q_390 q_391 q_392 q_50 q_393) rfl rfl rfl ⟨rfl, hd_15⟩ ⟨Nat.le_of_ble_eq_true rfl, Nat.le_of_ble_eq_true rfl⟩) ⟨TB.blind, (T_recv hK hw (kd_of rfl (by decide)) (ent_3 rfl) cl_3), TB.pre hK hN hw⟩ rfl rfl hl.1 rfl (lv_room (Nat.le_of_ble_eq_true rfl)) dX3_makeByTurning_17 ⟨Nat.le_of_ble_eq_true rfl, Nat.le_of_ble_eq_true rfl⟩) (fun r3 μ2 H locs h hw => ?_)
  refine lv_if_ne (tgt := 25) hx hb dX3_makeByTurning_20 (by decide) (fun c4 => ?_) (fun c4 => ?_)
  · have h := h.1 c4
    refine lv_aload_n hx hb dX3_makeByTurning_25 rfl (lv_at hl 0 rfl) ?_
    refine gf_X3_36 hx hb ht hown hK hw rfl dX3_makeByTurning_26 ?_
    refine W.eq (g2 := F0 m 29 ls [.ref (ad 29)]) rfl ?_
    refine lv_aload_n hx hb dX3_makeByTurning_29 rfl (lv_at hl 0 rfl) ?_
    refine gf_X3_46 hx hb ht hown hK hw rfl dX3_makeByTurning_30 ?_
    refine W.eq (g2 := F0 m 33 ls [.ref (ad 33), .ref (ad 29)]) rfl ?_
    refine T_callv hw (va_runV (own := "Leastreader$Maker") (As := [.ref (ad 33)]) (rest := []) ⟨hx, hb, hml, hown, ht⟩ (c_X2_becomePlain 29 rfl 33 rfl μ2 H.size h) (cwV 1 ht (G_V q_447 q_448 q_449 q_48 q_450) rfl rfl rfl ⟨rfl, hd_2⟩ ⟨Nat.le_of_ble_eq_true rfl, Nat.le_of_ble_eq_true rfl⟩) ⟨TB.blind, (T_recv hK hw (kd_of rfl (by decide)) (ent_2 rfl) cl_2), TB.pre hK hN hw⟩ rfl rfl hl.1 rfl (lv_room (Nat.le_of_ble_eq_true rfl)) dX3_makeByTurning_33 ⟨Nat.le_of_ble_eq_true rfl, Nat.le_of_ble_eq_true rfl⟩) (fun μ5 H locs h hw => ?_)
    refine lv_aload_n hx hb dX3_makeByTurning_36 rfl (lv_at hl 0 rfl) ?_
    refine gf_X3_40 hx hb ht hown hK hw rfl dX3_makeByTurning_37 ?_
    refine W.eq (g2 := F0 m 40 ls [.ref (ad 31)]) rfl ?_
    refine lv_aload_n hx hb dX3_makeByTurning_40 rfl (lv_at hl 0 rfl) ?_
    refine gf_X3_36 hx hb ht hown hK hw rfl dX3_makeByTurning_41 ?_
    refine W.eq (g2 := F0 m 44 ls [.ref (ad 29), .ref (ad 31)]) rfl ?_
    refine T_callv hw (va_runV (own := "Leastreader$Maker") (As := [.ref (ad 29)]) (rest := []) ⟨hx, hb, hml, hown, ht⟩ (c_X2_becomeRound 31 rfl 29 rfl μ5 H.size h) (cwV 1 ht (G_V q_436 q_437 q_438 q_48 q_439) rfl rfl rfl ⟨rfl, hd_47⟩ ⟨Nat.le_of_ble_eq_true rfl, Nat.le_of_ble_eq_true rfl⟩) ⟨TB.blind, (T_recv hK hw (kd_of rfl (by decide)) (ent_2 rfl) cl_2), TB.pre hK hN hw⟩ rfl rfl hl.1 rfl (lv_room (Nat.le_of_ble_eq_true rfl)) dX3_makeByTurning_44 ⟨Nat.le_of_ble_eq_true rfl, Nat.le_of_ble_eq_true rfl⟩) (fun μ6 H locs h hw => ?_)
    refine lv_aload_n hx hb dX3_makeByTurning_47 rfl (lv_at hl 0 rfl) ?_
    refine lv_aload_n hx hb dX3_makeByTurning_48 rfl (lv_at hl 0 rfl) ?_
    refine gf_X3_40 hx hb ht hown hK hw rfl dX3_makeByTurning_49 ?_
    refine W.eq (g2 := F0 m 52 ls [.ref (ad 31), .ref (ad 15)]) rfl ?_
    refine lv_aload_n hx hb dX3_makeByTurning_52 rfl (lv_at hl 2 rfl) ?_
    refine T_calli hw (va_runV (own := "Leastreader$Maker") (As := [.ref (ad 31), .ref (ad k2)]) (rest := []) ⟨hx, hb, hml, hown, ht⟩ (c_X3_makeOneWay 31 rfl k2 hk2 μ6 H.size h) (cwV 2 ht (G_V q_390 q_391 q_392 q_50 q_393) rfl rfl rfl ⟨rfl, hd_15⟩ ⟨Nat.le_of_ble_eq_true rfl, Nat.le_of_ble_eq_true rfl⟩) ⟨TB.blind, (T_recv hK hw (kd_of rfl (by decide)) (ent_3 rfl) cl_3), TB.pre hK hN hw⟩ rfl rfl hl.1 rfl (lv_room (Nat.le_of_ble_eq_true rfl)) dX3_makeByTurning_53 ⟨Nat.le_of_ble_eq_true rfl, Nat.le_of_ble_eq_true rfl⟩) (fun r8 μ7 H locs h hw => ?_)
    obtain ⟨z9, h⟩ := h
    exact hret H locs ls 56 _ _ hw h (isB_n z9) dX3_makeByTurning_56
  have h := h.2 c4
  refine lv_iconst (v := (0 : Int32)) hx hb dX3_makeByTurning_23 (by decide) ?_
  exact hret H locs ls 24 _ _ hw h rfl dX3_makeByTurning_24
def wp_X3_makeBy (k2 : Nat) (k3 : Nat) (μ : TMem) (a1 : Int32) (Q : Int32 → TMem → Prop) : Prop :=
  (¬ a1 = (3 : Int32) → ((¬ a1 = (2 : Int32) → (wp_X3_makeOneWay k2 33 μ (fun (r4 : Int32) (μ3 : TMem) => (¬ r4 = 0 → (∀ J6 : TMem → Prop, (∀ (μ7 : TMem), (wp_X3_makeGroups 33 k3 μ7 (fun (μ8 : TMem) => Q (1 : Int32) μ8)) → J6 μ7) → ((¬ a1 = (1 : Int32) → (wp_X1_findByParting 33 μ3 (fun (μ10 : TMem) => J6 μ10))) ∧ (a1 = (1 : Int32) → (wp_X1_findByPairs 33 μ3 (fun (μ11 : TMem) => J6 μ11)))))) ∧ (r4 = 0 → (Q (0 : Int32) μ3))))) ∧ (a1 = (2 : Int32) → (wp_X3_makeByTurning k2 k3 μ (fun (r13 : Int32) (μ12 : TMem) => isB r13 ∧ Q r13 μ12))))) ∧ (a1 = (3 : Int32) → (wp_X3_makeOneWay k2 k3 μ (fun (r16 : Int32) (μ15 : TMem) => isB r16 ∧ Q r16 μ15)))
set_option maxHeartbeats 4000000 in
set_option maxRecDepth 100000 in
theorem c_X3_makeBy {l : Launch} {D : va_G} {ad : Nat → Nat} {cI cM : ClassId} (k2 : Nat) (hk2 : kd k2 = 2) (k3 : Nat) (hk3 : kd k3 = 5) (μ : TMem) (sz : Nat) (a1 : Int32) {Q : Int32 → TMem → Prop} (h : wp_X3_makeBy k2 k3 μ a1 Q) : TMi l yX3_makeBy (.code yX3_makeBy cX3_makeBy 4 (Option.some Jvm.ClassFile.FieldType.boolean)) 4 [.ref (ad 15), .int a1, .ref (ad k2), .ref (ad k3)] D ad cI cM sz μ Q := by
  refine T_meti (by decide +kernel) (Nat.le_of_ble_eq_true rfl) ?_
  intro p e s m below meth c Z ls hx hb hml hown ht hN hK hw hret hl
  have hl : lv_has ls 4 [(0, .ref (ad 15)), (1, .int a1), (2, .ref (ad k2)), (3, .ref (ad k3))] := hl
  generalize s.heap = H at hw ⊢
  generalize ([] : List Loc) = locs at hw ⊢
  change (¬ a1 = (3 : Int32) → ((¬ a1 = (2 : Int32) → (wp_X3_makeOneWay k2 33 μ (fun (r4 : Int32) (μ3 : TMem) => (¬ r4 = 0 → (∀ J6 : TMem → Prop, (∀ (μ7 : TMem), (wp_X3_makeGroups 33 k3 μ7 (fun (μ8 : TMem) => Q (1 : Int32) μ8)) → J6 μ7) → ((¬ a1 = (1 : Int32) → (wp_X1_findByParting 33 μ3 (fun (μ10 : TMem) => J6 μ10))) ∧ (a1 = (1 : Int32) → (wp_X1_findByPairs 33 μ3 (fun (μ11 : TMem) => J6 μ11)))))) ∧ (r4 = 0 → (Q (0 : Int32) μ3))))) ∧ (a1 = (2 : Int32) → (wp_X3_makeByTurning k2 k3 μ (fun (r13 : Int32) (μ12 : TMem) => isB r13 ∧ Q r13 μ12))))) ∧ (a1 = (3 : Int32) → (wp_X3_makeOneWay k2 k3 μ (fun (r16 : Int32) (μ15 : TMem) => isB r16 ∧ Q r16 μ15))) at h
  refine lv_iload_n hx hb dX3_makeBy_0 rfl (lv_at hl 1 rfl) ?_
  refine lv_iconst (v := (3 : Int32)) hx hb dX3_makeBy_1 (by decide) ?_
  refine lv_icmp_ne (tgt := 12) hx hb dX3_makeBy_2 (by decide) (fun c1 => ?_) (fun c1 => ?_)
  · have h := h.1 c1
    refine lv_iload_n hx hb dX3_makeBy_12 rfl (lv_at hl 1 rfl) ?_
    refine lv_iconst (v := (2 : Int32)) hx hb dX3_makeBy_13 (by decide) ?_
    refine lv_icmp_ne (tgt := 24) hx hb dX3_makeBy_14 (by decide) (fun c2 => ?_) (fun c2 => ?_)
    · have h := h.1 c2
      refine lv_aload_n hx hb dX3_makeBy_24 rfl (lv_at hl 0 rfl) ?_
      refine lv_aload_n hx hb dX3_makeBy_25 rfl (lv_at hl 2 rfl) ?_
      refine lv_aload_n hx hb dX3_makeBy_26 rfl (lv_at hl 0 rfl) ?_
      refine gf_X3_46 hx hb ht hown hK hw rfl dX3_makeBy_27 ?_
      refine W.eq (g2 := F0 m 30 ls [.ref (ad 33), .ref (ad k2), .ref (ad 15)]) rfl ?_
      refine T_calli hw (va_runV (own := "Leastreader$Maker") (As := [.ref (ad k2), .ref (ad 33)]) (rest := []) ⟨hx, hb, hml, hown, ht⟩ (c_X3_makeOneWay k2 hk2 33 rfl μ H.size h) (cwV 2 ht (G_V q_390 q_391 q_392 q_50 q_393) rfl rfl rfl ⟨rfl, hd_15⟩ ⟨Nat.le_of_ble_eq_true rfl, Nat.le_of_ble_eq_true rfl⟩) ⟨TB.blind, (T_recv hK hw (kd_of rfl (by decide)) (ent_3 rfl) cl_3), TB.pre hK hN hw⟩ rfl rfl hl.1 rfl (lv_room (Nat.le_of_ble_eq_true rfl)) dX3_makeBy_30 ⟨Nat.le_of_ble_eq_true rfl, Nat.le_of_ble_eq_true rfl⟩) (fun r4 μ3 H locs h hw => ?_)
      refine lv_if_ne (tgt := 38) hx hb dX3_makeBy_33 (by decide) (fun c5 => ?_) (fun c5 => ?_)
      · have h := h.1 c5
        refine lv_iload_n hx hb dX3_makeBy_38 rfl (lv_at hl 1 rfl) ?_
        refine lv_iconst (v := (1 : Int32)) hx hb dX3_makeBy_39 (by decide) ?_
        have h := h (fun μ7 => ∀ (H : Heap) (locs : List Loc) (ls : Array Slot), TW D ad cI cM s μ7 H locs → lv_has ls 4 [(0, .ref (ad 15)), (3, .ref (ad k3))] → W p l e (RM 4) s m #[.ref (ad 15), .int a1, .ref (ad k2), .ref (ad k3)] below meth c H locs 0 0 Z (F0 m 68 ls [])) (fun μ7 h H locs ls hw hl => by
          refine lv_aload_n hx hb dX3_makeBy_68 rfl (lv_at hl 0 rfl) ?_
          refine lv_aload_n hx hb dX3_makeBy_69 rfl (lv_at hl 0 rfl) ?_
          refine gf_X3_46 hx hb ht hown hK hw rfl dX3_makeBy_70 ?_
          refine W.eq (g2 := F0 m 73 ls [.ref (ad 33), .ref (ad 15)]) rfl ?_
          refine lv_aload_n hx hb dX3_makeBy_73 rfl (lv_at hl 1 rfl) ?_
          refine T_callv hw (va_runV (own := "Leastreader$Maker") (As := [.ref (ad 33), .ref (ad k3)]) (rest := []) ⟨hx, hb, hml, hown, ht⟩ (c_X3_makeGroups 33 rfl k3 hk3 μ7 H.size h) (cwV 2 ht (G_V q_498 q_500 q_10 q_50 q_501) rfl rfl rfl ⟨rfl, hd_25⟩ ⟨Nat.le_of_ble_eq_true rfl, Nat.le_of_ble_eq_true rfl⟩) ⟨TB.blind, (T_recv hK hw (kd_of rfl (by decide)) (ent_3 rfl) cl_3), TB.pre hK hN hw⟩ rfl rfl hl.1 rfl (lv_room (Nat.le_of_ble_eq_true rfl)) dX3_makeBy_74 ⟨Nat.le_of_ble_eq_true rfl, Nat.le_of_ble_eq_true rfl⟩) (fun μ8 H locs h hw => ?_)
          refine lv_iconst (v := (1 : Int32)) hx hb dX3_makeBy_77 (by decide) ?_
          exact hret H locs ls 78 _ _ hw h rfl dX3_makeBy_78)
        refine lv_icmp_ne (tgt := 57) hx hb dX3_makeBy_40 (by decide) (fun c9 => ?_) (fun c9 => ?_)
        · have h := h.1 c9
          refine lv_aload_n hx hb dX3_makeBy_57 rfl (lv_at hl 0 rfl) ?_
          refine gf_X3_29 hx hb ht hown hK hw rfl dX3_makeBy_58 ?_
          refine W.eq (g2 := F0 m 61 ls [.ref (ad 22)]) rfl ?_
          refine lv_aload_n hx hb dX3_makeBy_61 rfl (lv_at hl 0 rfl) ?_
          refine gf_X3_46 hx hb ht hown hK hw rfl dX3_makeBy_62 ?_
          refine W.eq (g2 := F0 m 65 ls [.ref (ad 33), .ref (ad 22)]) rfl ?_
          refine T_callv hw (va_runV (own := "Leastreader$Maker") (As := [.ref (ad 33)]) (rest := []) ⟨hx, hb, hml, hown, ht⟩ (c_X1_findByParting 33 rfl μ3 H.size h) (cwV 1 ht (G_V q_482 q_483 q_484 q_52 q_485) rfl rfl rfl ⟨rfl, hd_24⟩ ⟨Nat.le_of_ble_eq_true rfl, Nat.le_of_ble_eq_true rfl⟩) ⟨TB.blind, (T_recv hK hw (kd_of rfl (by decide)) (ent_1 rfl) cl_1), TB.pre hK hN hw⟩ rfl rfl hl.1 rfl (lv_room (Nat.le_of_ble_eq_true rfl)) dX3_makeBy_65 ⟨Nat.le_of_ble_eq_true rfl, Nat.le_of_ble_eq_true rfl⟩) (fun μ10 H locs h hw => ?_)
          exact h H locs ls hw (lv_sub hl [0, 3] rfl)
        have h := h.2 c9
        refine lv_aload_n hx hb dX3_makeBy_43 rfl (lv_at hl 0 rfl) ?_
        refine gf_X3_29 hx hb ht hown hK hw rfl dX3_makeBy_44 ?_
        refine W.eq (g2 := F0 m 47 ls [.ref (ad 22)]) rfl ?_
        refine lv_aload_n hx hb dX3_makeBy_47 rfl (lv_at hl 0 rfl) ?_
        refine gf_X3_46 hx hb ht hown hK hw rfl dX3_makeBy_48 ?_
        refine W.eq (g2 := F0 m 51 ls [.ref (ad 33), .ref (ad 22)]) rfl ?_
        refine T_callv hw (va_runV (own := "Leastreader$Maker") (As := [.ref (ad 33)]) (rest := []) ⟨hx, hb, hml, hown, ht⟩ (c_X1_findByPairs 33 rfl μ3 H.size h) (cwV 1 ht (G_V q_454 q_455 q_456 q_52 q_457) rfl rfl rfl ⟨rfl, hd_48⟩ ⟨Nat.le_of_ble_eq_true rfl, Nat.le_of_ble_eq_true rfl⟩) ⟨TB.blind, (T_recv hK hw (kd_of rfl (by decide)) (ent_1 rfl) cl_1), TB.pre hK hN hw⟩ rfl rfl hl.1 rfl (lv_room (Nat.le_of_ble_eq_true rfl)) dX3_makeBy_51 ⟨Nat.le_of_ble_eq_true rfl, Nat.le_of_ble_eq_true rfl⟩) (fun μ11 H locs h hw => ?_)
        refine lv_goto (tgt := 68) hx hb dX3_makeBy_54 (by decide) ?_
        exact h H locs ls hw (lv_sub hl [0, 3] rfl)
      have h := h.2 c5
      refine lv_iconst (v := (0 : Int32)) hx hb dX3_makeBy_36 (by decide) ?_
      exact hret H locs ls 37 _ _ hw h rfl dX3_makeBy_37
    have h := h.2 c2
    refine lv_aload_n hx hb dX3_makeBy_17 rfl (lv_at hl 0 rfl) ?_
    refine lv_aload_n hx hb dX3_makeBy_18 rfl (lv_at hl 2 rfl) ?_
    refine lv_aload_n hx hb dX3_makeBy_19 rfl (lv_at hl 3 rfl) ?_
    refine T_calli hw (va_runV (own := "Leastreader$Maker") (As := [.ref (ad k2), .ref (ad k3)]) (rest := []) ⟨hx, hb, hml, hown, ht⟩ (c_X3_makeByTurning k2 hk2 k3 hk3 μ H.size h) (cwV 2 ht (G_V q_432 q_434 q_3 q_50 q_435) rfl rfl rfl ⟨rfl, hd_49⟩ ⟨Nat.le_of_ble_eq_true rfl, Nat.le_of_ble_eq_true rfl⟩) ⟨TB.blind, (T_recv hK hw (kd_of rfl (by decide)) (ent_3 rfl) cl_3), TB.pre hK hN hw⟩ rfl rfl hl.1 rfl (lv_room (Nat.le_of_ble_eq_true rfl)) dX3_makeBy_20 ⟨Nat.le_of_ble_eq_true rfl, Nat.le_of_ble_eq_true rfl⟩) (fun r13 μ12 H locs h hw => ?_)
    obtain ⟨z14, h⟩ := h
    exact hret H locs ls 23 _ _ hw h (isB_n z14) dX3_makeBy_23
  have h := h.2 c1
  refine lv_aload_n hx hb dX3_makeBy_5 rfl (lv_at hl 0 rfl) ?_
  refine lv_aload_n hx hb dX3_makeBy_6 rfl (lv_at hl 2 rfl) ?_
  refine lv_aload_n hx hb dX3_makeBy_7 rfl (lv_at hl 3 rfl) ?_
  refine T_calli hw (va_runV (own := "Leastreader$Maker") (As := [.ref (ad k2), .ref (ad k3)]) (rest := []) ⟨hx, hb, hml, hown, ht⟩ (c_X3_makeOneWay k2 hk2 k3 hk3 μ H.size h) (cwV 2 ht (G_V q_390 q_391 q_392 q_50 q_393) rfl rfl rfl ⟨rfl, hd_15⟩ ⟨Nat.le_of_ble_eq_true rfl, Nat.le_of_ble_eq_true rfl⟩) ⟨TB.blind, (T_recv hK hw (kd_of rfl (by decide)) (ent_3 rfl) cl_3), TB.pre hK hN hw⟩ rfl rfl hl.1 rfl (lv_room (Nat.le_of_ble_eq_true rfl)) dX3_makeBy_8 ⟨Nat.le_of_ble_eq_true rfl, Nat.le_of_ble_eq_true rfl⟩) (fun r16 μ15 H locs h hw => ?_)
  obtain ⟨z17, h⟩ := h
  exact hret H locs ls 11 _ _ hw h (isB_n z17) dX3_makeBy_11
def wp_X5_isSameAs (k0 : Nat) (k1 : Nat) (μ : TMem) (Q : Int32 → Prop) : Prop :=
  wp_X7_isSameTable k0 k1 μ (fun (r1 : Int32) => isB r1 ∧ Q r1)
set_option maxHeartbeats 4000000 in
set_option maxRecDepth 100000 in
theorem c_X5_isSameAs {l : Launch} {D : va_G} {ad : Nat → Nat} {cI cM : ClassId} (k0 : Nat) (hk0 : kd k0 = 5) (k1 : Nat) (hk1 : kd k1 = 5) (μ : TMem) (sz : Nat)  {Q : Int32 → Prop} (h : wp_X5_isSameAs k0 k1 μ Q) : TMi l yX5_isSameAs (.code yX5_isSameAs cX5_isSameAs 2 (Option.some Jvm.ClassFile.FieldType.boolean)) 2 [.ref (ad k0), .ref (ad k1)] D ad cI cM sz μ (fun r μ1 => μ1 = μ ∧ Q r) := by
  refine T_meti (by decide +kernel) (Nat.le_of_ble_eq_true rfl) ?_
  intro p e s m below meth c Z ls hx hb hml hown ht hN hK hw hret hl
  have hl : lv_has ls 2 [(0, .ref (ad k0)), (1, .ref (ad k1))] := hl
  generalize s.heap = H at hw ⊢
  generalize ([] : List Loc) = locs at hw ⊢
  change wp_X7_isSameTable k0 k1 μ (fun (r1 : Int32) => isB r1 ∧ Q r1) at h
  refine lv_aload_n hx hb dX5_isSameAs_0 rfl (lv_at hl 0 rfl) ?_
  refine lv_aload_n hx hb dX5_isSameAs_1 rfl (lv_at hl 1 rfl) ?_
  refine T_calli hw (va_runU (own := "Leastreader$Plain") (As := [.ref (ad k1)]) (rest := []) ⟨hx, hb, hml, hown, ht⟩ (c_X7_isSameTable_5 k0 hk0 k1 hk1 μ H.size h) (va_cwU (owner := "Leastreader$Table") 1 ht (G_U q_520 q_521 q_523 q_524 q_47 q_525) rfl rfl rfl rfl hd_44 ⟨Nat.le_of_ble_eq_true rfl, Nat.le_of_ble_eq_true rfl⟩) ⟨TB.blind, (T_recv hK hw (kd_of hk0 (by decide)) (ent_5 hk0) cl_5), TB.pre hK hN hw⟩ rfl rfl hl.1 rfl (lv_room (Nat.le_of_ble_eq_true rfl)) dX5_isSameAs_2 ⟨Nat.le_of_ble_eq_true rfl, Nat.le_of_ble_eq_true rfl⟩) (fun r1 μ2 H locs h hw => ?_)
  obtain ⟨e3, h⟩ := h
  rw [e3] at hw
  obtain ⟨z4, h⟩ := h
  exact hret H locs ls 5 _ _ hw ⟨rfl, h⟩ (isB_n z4) dX5_isSameAs_5
def wpl_X5_ledInto_15 (k0 : Nat) (μ : TMem) (v8 : Int32) (v10 : Int32) (K47 : Int32 → Prop) : Nat → Int32 → Int32 → Prop
  | 0, _, _ => False
  | n + 1, v7, v9 =>
    ((3 : Int32) ≤ v7 → (K47 v9)) ∧ (¬ (3 : Int32) ≤ v7 → (wp_X7_at k0 μ v8 v7 (fun (r12 : Int32) => wp_X9_isIn v10 r12 (fun (r15 : Int32) => (r15 = 0 → (wpl_X5_ledInto_15 k0 μ v8 v10 K47 n (v7 + (1 : Int32)) v9)) ∧ (¬ r15 = 0 → (wpl_X5_ledInto_15 k0 μ v8 v10 K47 n (v7 + (1 : Int32)) (v9 ||| ((1 : Int32) <<< (v8 &&& 31)))))))))
def wpl_X5_ledInto_4 (k0 : Nat) (μ : TMem) (v4 : Int32) (Q : Int32 → Prop) : Nat → Int32 → Int32 → Prop
  | 0, _, _ => False
  | n + 1, v2, v3 =>
    ((μ k0 1) ≤ v2 → (Q v3)) ∧ (¬ (μ k0 1) ≤ v2 → (∃ n5x, wpl_X5_ledInto_15 k0 μ v2 v4 (fun (u18 : Int32) => wpl_X5_ledInto_4 k0 μ v4 Q n (v2 + (1 : Int32)) u18) n5x (0 : Int32) v3))
def wp_X5_ledInto (k0 : Nat) (μ : TMem) (a1 : Int32) (Q : Int32 → Prop) : Prop :=
  ∃ n0x, wpl_X5_ledInto_4 k0 μ a1 Q n0x (0 : Int32) (0 : Int32)
set_option maxHeartbeats 4000000 in
set_option maxRecDepth 100000 in
theorem c_X5_ledInto {l : Launch} {D : va_G} {ad : Nat → Nat} {cI cM : ClassId} (k0 : Nat) (hk0 : kd k0 = 5) (μ : TMem) (sz : Nat) (a1 : Int32) {Q : Int32 → Prop} (h : wp_X5_ledInto k0 μ a1 Q) : TMi l yX5_ledInto (.code yX5_ledInto cX5_ledInto 5 (Option.some Jvm.ClassFile.FieldType.int)) 1 [.ref (ad k0), .int a1] D ad cI cM sz μ (fun r μ1 => μ1 = μ ∧ Q r) := by
  refine T_meti (by decide +kernel) (Nat.le_of_ble_eq_true rfl) ?_
  intro p e s m below meth c Z ls hx hb hml hown ht hN hK hw hret hl
  have hl : lv_has ls 5 [(0, .ref (ad k0)), (1, .int a1)] := hl
  generalize s.heap = H at hw ⊢
  generalize ([] : List Loc) = locs at hw ⊢
  change ∃ n0x, wpl_X5_ledInto_4 k0 μ a1 Q n0x (0 : Int32) (0 : Int32) at h
  refine lv_iconst (v := (0 : Int32)) hx hb dX5_ledInto_0 (by decide) ?_
  refine lv_istore_n (lv' := [(2, .int (0 : Int32)), (0, .ref (ad k0)), (1, .int a1)]) hx hb dX5_ledInto_1 rfl hl (by decide) rfl (fun ls hl => ?_)
  refine lv_iconst (v := (0 : Int32)) hx hb dX5_ledInto_2 (by decide) ?_
  refine lv_istore_n (lv' := [(3, .int (0 : Int32)), (2, .int (0 : Int32)), (0, .ref (ad k0)), (1, .int a1)]) hx hb dX5_ledInto_3 rfl hl (by decide) rfl (fun ls hl => ?_)
  obtain ⟨n19, h⟩ := h
  have L0 : ∀ (v4 : Int32), ∀ (n : Nat) (v2 : Int32) (v3 : Int32) (H : Heap) (locs : List Loc) (ls : Array Slot), TW D ad cI cM s μ H locs → lv_has ls 5 [(3, .int v2), (2, .int v3), (0, .ref (ad k0)), (1, .int v4)] → wpl_X5_ledInto_4 k0 μ v4 Q n v2 v3 → W p l e (RM 1) s m #[.ref (ad k0), .int a1] below meth c H locs 0 0 Z (F0 m 4 ls []) := by
    intro v4
    intro n
    induction n with
    | zero => intro v2 v3 H locs ls hw hl h; exact False.elim h
    | succ n ih0 =>
      intro v2 v3 H locs ls hw hl h
      change ((μ k0 1) ≤ v2 → (Q v3)) ∧ (¬ (μ k0 1) ≤ v2 → (∃ n5x, wpl_X5_ledInto_15 k0 μ v2 v4 (fun (u18 : Int32) => wpl_X5_ledInto_4 k0 μ v4 Q n (v2 + (1 : Int32)) u18) n5x (0 : Int32) v3)) at h
      refine lv_iload_n hx hb dX5_ledInto_4 rfl (lv_at hl 0 rfl) ?_
      refine lv_aload_n hx hb dX5_ledInto_5 rfl (lv_at hl 2 rfl) ?_
      refine gf_X5_28 hx hb ht hown hK hw hk0 dX5_ledInto_6 ?_
      refine lv_icmp_ge (tgt := 53) hx hb dX5_ledInto_9 (by decide) (fun c5 => ?_) (fun c5 => ?_)
      · have h := h.1 c5
        refine lv_iload_n hx hb dX5_ledInto_53 rfl (lv_at hl 1 rfl) ?_
        exact hret H locs ls 54 _ _ hw ⟨rfl, h⟩ rfl dX5_ledInto_54
      have h := h.2 c5
      refine lv_iconst (v := (0 : Int32)) hx hb dX5_ledInto_12 (by decide) ?_
      refine lv_istore (lv' := [(4, .int (0 : Int32)), (3, .int v2), (2, .int v3), (0, .ref (ad k0)), (1, .int v4)]) hx hb dX5_ledInto_13 hl (by decide) rfl (fun ls hl => ?_)
      obtain ⟨n17, h⟩ := h
      have L5 : ∀ (v8 : Int32) (v10 : Int32) (K47 : Int32 → Prop), (∀ (v9 : Int32) (H : Heap) (locs : List Loc) (ls : Array Slot), TW D ad cI cM s μ H locs → lv_has ls 5 [(3, .int v8), (2, .int v9), (0, .ref (ad k0)), (1, .int v10)] → K47 v9 → W p l e (RM 1) s m #[.ref (ad k0), .int a1] below meth c H locs 0 0 Z (F0 m 47 ls [])) → ∀ (n : Nat) (v7 : Int32) (v9 : Int32) (H : Heap) (locs : List Loc) (ls : Array Slot), TW D ad cI cM s μ H locs → lv_has ls 5 [(4, .int v7), (3, .int v8), (2, .int v9), (0, .ref (ad k0)), (1, .int v10)] → wpl_X5_ledInto_15 k0 μ v8 v10 K47 n v7 v9 → W p l e (RM 1) s m #[.ref (ad k0), .int a1] below meth c H locs 0 0 Z (F0 m 15 ls []) := by
        intro v8 v10 K47 hK47
        intro n
        induction n with
        | zero => intro v7 v9 H locs ls hw hl h; exact False.elim h
        | succ n ih5 =>
          intro v7 v9 H locs ls hw hl h
          change ((3 : Int32) ≤ v7 → (K47 v9)) ∧ (¬ (3 : Int32) ≤ v7 → (wp_X7_at k0 μ v8 v7 (fun (r12 : Int32) => wp_X9_isIn v10 r12 (fun (r15 : Int32) => (r15 = 0 → (wpl_X5_ledInto_15 k0 μ v8 v10 K47 n (v7 + (1 : Int32)) v9)) ∧ (¬ r15 = 0 → (wpl_X5_ledInto_15 k0 μ v8 v10 K47 n (v7 + (1 : Int32)) (v9 ||| ((1 : Int32) <<< (v8 &&& 31))))))))) at h
          refine lv_iload hx hb dX5_ledInto_15 (lv_at hl 0 rfl) ?_
          refine lv_iconst (v := (3 : Int32)) hx hb dX5_ledInto_17 (by decide) ?_
          refine lv_icmp_ge (tgt := 47) hx hb dX5_ledInto_18 (by decide) (fun c11 => ?_) (fun c11 => ?_)
          · have h := h.1 c11
            exact hK47 v9 H locs ls hw (lv_sub hl [1, 2, 3, 4] rfl) h
          have h := h.2 c11
          refine lv_iload_n hx hb dX5_ledInto_21 rfl (lv_at hl 4 rfl) ?_
          refine lv_aload_n hx hb dX5_ledInto_22 rfl (lv_at hl 3 rfl) ?_
          refine lv_iload_n hx hb dX5_ledInto_23 rfl (lv_at hl 1 rfl) ?_
          refine lv_iload hx hb dX5_ledInto_24 (lv_at hl 0 rfl) ?_
          refine T_calli hw (va_runU (own := "Leastreader$Plain") (As := [.int v8, .int v7]) (rest := [.int v10]) ⟨hx, hb, hml, hown, ht⟩ (c_X7_at_5 k0 hk0 μ H.size v8 v7 h) (va_cwU (owner := "Leastreader$Table") 2 ht (G_U q_539 q_452 q_453 q_416 q_47 q_417) rfl rfl rfl rfl hd_0 ⟨Nat.le_of_ble_eq_true rfl, Nat.le_of_ble_eq_true rfl⟩) ⟨TB.blind, (T_recv hK hw (kd_of hk0 (by decide)) (ent_5 hk0) cl_5), TB.pre hK hN hw⟩ rfl rfl hl.1 rfl (lv_room (Nat.le_of_ble_eq_true rfl)) dX5_ledInto_26 ⟨Nat.le_of_ble_eq_true rfl, Nat.le_of_ble_eq_true rfl⟩) (fun r12 μ13 H locs h hw => ?_)
          obtain ⟨e14, h⟩ := h
          rw [e14] at hw
          refine P_calli (va_runSN (own := "Leastreader$Plain") (As := [.int v10, .int r12]) (rest := []) ⟨hx, hb, hml, hown, ht⟩ (c_X9_isIn v10 r12 h) ⟨va_cnB 2 ht (G_ws q_411) rfl rfl rfl (nw_465 hN) (ht _ q_46) hd_5 ⟨Nat.le_of_ble_eq_true rfl, Nat.le_of_ble_eq_true rfl⟩, ht _ q_410, trivial⟩ ⟨PM_blind, PM_pre⟩ rfl rfl hl.1 rfl (lv_room (Nat.le_of_ble_eq_true rfl)) dX5_ledInto_29 ⟨Nat.le_of_ble_eq_true rfl, Nat.le_of_ble_eq_true rfl⟩) (fun r15 h => ?_)
          refine lv_if_eq (tgt := 41) hx hb dX5_ledInto_32 (by decide) (fun c16 => ?_) (fun c16 => ?_)
          · have h := h.1 c16
            refine lv_iinc (v := (v7 + (1 : Int32))) (lv' := [(4, .int (v7 + (1 : Int32))), (3, .int v8), (2, .int v9), (0, .ref (ad k0)), (1, .int v10)]) hx hb dX5_ledInto_41 hl (k := 0) rfl rfl (by decide) rfl (fun ls hl => ?_)
            refine lv_goto (tgt := 15) hx hb dX5_ledInto_44 (by decide) ?_
            exact ih5 (v7 + (1 : Int32)) v9 H locs ls hw (lv_sub hl [0, 1, 2, 3, 4] rfl) h
          have h := h.2 c16
          refine lv_iload_n hx hb dX5_ledInto_35 rfl (lv_at hl 2 rfl) ?_
          refine lv_iconst (v := (1 : Int32)) hx hb dX5_ledInto_36 (by decide) ?_
          refine lv_iload_n hx hb dX5_ledInto_37 rfl (lv_at hl 1 rfl) ?_
          refine lv_ishl hx hb dX5_ledInto_38 ?_
          refine lv_ior hx hb dX5_ledInto_39 ?_
          refine lv_istore_n (lv' := [(2, .int (v9 ||| ((1 : Int32) <<< (v8 &&& 31)))), (4, .int v7), (3, .int v8), (0, .ref (ad k0)), (1, .int v10)]) hx hb dX5_ledInto_40 rfl hl (by decide) rfl (fun ls hl => ?_)
          refine lv_iinc (v := (v7 + (1 : Int32))) (lv' := [(4, .int (v7 + (1 : Int32))), (2, .int (v9 ||| ((1 : Int32) <<< (v8 &&& 31)))), (3, .int v8), (0, .ref (ad k0)), (1, .int v10)]) hx hb dX5_ledInto_41 hl (k := 1) rfl rfl (by decide) rfl (fun ls hl => ?_)
          refine lv_goto (tgt := 15) hx hb dX5_ledInto_44 (by decide) ?_
          exact ih5 (v7 + (1 : Int32)) (v9 ||| ((1 : Int32) <<< (v8 &&& 31))) H locs ls hw (lv_sub hl [0, 2, 1, 3, 4] rfl) h
      refine L5 v2 v4 _ ?_ n17 (0 : Int32) v3 H locs ls hw (lv_sub hl [0, 1, 2, 3, 4] rfl) h
      intro u18 H locs ls hw hl h
      refine lv_iinc (v := (v2 + (1 : Int32))) (lv' := [(3, .int (v2 + (1 : Int32))), (2, .int u18), (0, .ref (ad k0)), (1, .int v4)]) hx hb dX5_ledInto_47 hl (k := 0) rfl rfl (by decide) rfl (fun ls hl => ?_)
      refine lv_goto (tgt := 4) hx hb dX5_ledInto_50 (by decide) ?_
      exact ih0 (v2 + (1 : Int32)) u18 H locs ls hw (lv_sub hl [0, 1, 2, 3] rfl) h
  exact L0 a1 n19 (0 : Int32) (0 : Int32) H locs ls hw (lv_sub hl [0, 1, 2, 3] rfl) h
def wpl_X5_isTakingLongOnes_7 (k0 : Nat) (μ : TMem) (Q : Int32 → Prop) : Nat → Int32 → Int32 → Prop
  | 0, _, _ => False
  | n + 1, v2, v3 =>
    (((2 : Int32) * (μ k0 1)) ≤ v2 → (Q (0 : Int32))) ∧ (¬ ((2 : Int32) * (μ k0 1)) ≤ v2 → (wp_X5_ledInto k0 μ v3 (fun (r5 : Int32) => (v2 < (μ k0 1) → (wpl_X5_isTakingLongOnes_7 k0 μ Q n (v2 + (1 : Int32)) r5)) ∧ (¬ v2 < (μ k0 1) → (wp_X9_isIn r5 (0 : Int32) (fun (r9 : Int32) => (r9 = 0 → (wpl_X5_isTakingLongOnes_7 k0 μ Q n (v2 + (1 : Int32)) r5)) ∧ (¬ r9 = 0 → (Q (1 : Int32)))))))))
def wp_X5_isTakingLongOnes (k0 : Nat) (μ : TMem) (Q : Int32 → Prop) : Prop :=
  ∃ n0x, wpl_X5_isTakingLongOnes_7 k0 μ Q n0x (1 : Int32) (μ k0 2)
set_option maxHeartbeats 4000000 in
set_option maxRecDepth 100000 in
theorem c_X5_isTakingLongOnes {l : Launch} {D : va_G} {ad : Nat → Nat} {cI cM : ClassId} (k0 : Nat) (hk0 : kd k0 = 5) (μ : TMem) (sz : Nat)  {Q : Int32 → Prop} (h : wp_X5_isTakingLongOnes k0 μ Q) : TMi l yX5_isTakingLongOnes (.code yX5_isTakingLongOnes cX5_isTakingLongOnes 3 (Option.some Jvm.ClassFile.FieldType.boolean)) 2 [.ref (ad k0)] D ad cI cM sz μ (fun r μ1 => μ1 = μ ∧ Q r) := by
  refine T_meti (by decide +kernel) (Nat.le_of_ble_eq_true rfl) ?_
  intro p e s m below meth c Z ls hx hb hml hown ht hN hK hw hret hl
  have hl : lv_has ls 3 [(0, .ref (ad k0))] := hl
  generalize s.heap = H at hw ⊢
  generalize ([] : List Loc) = locs at hw ⊢
  change ∃ n0x, wpl_X5_isTakingLongOnes_7 k0 μ Q n0x (1 : Int32) (μ k0 2) at h
  refine lv_aload_n hx hb dX5_isTakingLongOnes_0 rfl (lv_at hl 0 rfl) ?_
  refine gf_X5_9 hx hb ht hown hK hw hk0 dX5_isTakingLongOnes_1 ?_
  refine lv_istore_n (lv' := [(1, .int (μ k0 2)), (0, .ref (ad k0))]) hx hb dX5_isTakingLongOnes_4 rfl hl (by decide) rfl (fun ls hl => ?_)
  refine lv_iconst (v := (1 : Int32)) hx hb dX5_isTakingLongOnes_5 (by decide) ?_
  refine lv_istore_n (lv' := [(2, .int (1 : Int32)), (1, .int (μ k0 2)), (0, .ref (ad k0))]) hx hb dX5_isTakingLongOnes_6 rfl hl (by decide) rfl (fun ls hl => ?_)
  obtain ⟨n11, h⟩ := h
  have L0 : ∀ (n : Nat) (v2 : Int32) (v3 : Int32) (H : Heap) (locs : List Loc) (ls : Array Slot), TW D ad cI cM s μ H locs → lv_has ls 3 [(2, .int v2), (1, .int v3), (0, .ref (ad k0))] → wpl_X5_isTakingLongOnes_7 k0 μ Q n v2 v3 → W p l e (RM 2) s m #[.ref (ad k0)] below meth c H locs 0 0 Z (F0 m 7 ls []) := by
    intro n
    induction n with
    | zero => intro v2 v3 H locs ls hw hl h; exact False.elim h
    | succ n ih0 =>
      intro v2 v3 H locs ls hw hl h
      change (((2 : Int32) * (μ k0 1)) ≤ v2 → (Q (0 : Int32))) ∧ (¬ ((2 : Int32) * (μ k0 1)) ≤ v2 → (wp_X5_ledInto k0 μ v3 (fun (r5 : Int32) => (v2 < (μ k0 1) → (wpl_X5_isTakingLongOnes_7 k0 μ Q n (v2 + (1 : Int32)) r5)) ∧ (¬ v2 < (μ k0 1) → (wp_X9_isIn r5 (0 : Int32) (fun (r9 : Int32) => (r9 = 0 → (wpl_X5_isTakingLongOnes_7 k0 μ Q n (v2 + (1 : Int32)) r5)) ∧ (¬ r9 = 0 → (Q (1 : Int32))))))))) at h
      refine lv_iload_n hx hb dX5_isTakingLongOnes_7 rfl (lv_at hl 0 rfl) ?_
      refine lv_iconst (v := (2 : Int32)) hx hb dX5_isTakingLongOnes_8 (by decide) ?_
      refine lv_aload_n hx hb dX5_isTakingLongOnes_9 rfl (lv_at hl 2 rfl) ?_
      refine gf_X5_28 hx hb ht hown hK hw hk0 dX5_isTakingLongOnes_10 ?_
      refine lv_imul hx hb dX5_isTakingLongOnes_13 ?_
      refine lv_icmp_ge (tgt := 47) hx hb dX5_isTakingLongOnes_14 (by decide) (fun c4 => ?_) (fun c4 => ?_)
      · have h := h.1 c4
        refine lv_iconst (v := (0 : Int32)) hx hb dX5_isTakingLongOnes_47 (by decide) ?_
        exact hret H locs ls 48 _ _ hw ⟨rfl, h⟩ rfl dX5_isTakingLongOnes_48
      have h := h.2 c4
      refine lv_aload_n hx hb dX5_isTakingLongOnes_17 rfl (lv_at hl 2 rfl) ?_
      refine lv_iload_n hx hb dX5_isTakingLongOnes_18 rfl (lv_at hl 1 rfl) ?_
      refine T_calli hw (va_runV (own := "Leastreader$Plain") (As := [.int v3]) (rest := []) ⟨hx, hb, hml, hown, ht⟩ (c_X5_ledInto k0 hk0 μ H.size v3 h) (cwV 1 ht (G_V q_1169 q_1171 q_22 q_53 q_1172) rfl rfl rfl ⟨rfl, hd_50⟩ ⟨Nat.le_of_ble_eq_true rfl, Nat.le_of_ble_eq_true rfl⟩) ⟨TB.blind, (T_recv hK hw (kd_of hk0 (by decide)) (ent_5 hk0) cl_5), TB.pre hK hN hw⟩ rfl rfl hl.1 rfl (lv_room (Nat.le_of_ble_eq_true rfl)) dX5_isTakingLongOnes_19 ⟨Nat.le_of_ble_eq_true rfl, Nat.le_of_ble_eq_true rfl⟩) (fun r5 μ6 H locs h hw => ?_)
      obtain ⟨e7, h⟩ := h
      rw [e7] at hw
      refine lv_istore_n (lv' := [(1, .int r5), (2, .int v2), (0, .ref (ad k0))]) hx hb dX5_isTakingLongOnes_22 rfl hl (by decide) rfl (fun ls hl => ?_)
      refine lv_iload_n hx hb dX5_isTakingLongOnes_23 rfl (lv_at hl 1 rfl) ?_
      refine lv_aload_n hx hb dX5_isTakingLongOnes_24 rfl (lv_at hl 2 rfl) ?_
      refine gf_X5_28 hx hb ht hown hK hw hk0 dX5_isTakingLongOnes_25 ?_
      refine lv_icmp_lt (tgt := 41) hx hb dX5_isTakingLongOnes_28 (by decide) (fun c8 => ?_) (fun c8 => ?_)
      · have h := h.1 c8
        refine lv_iinc (v := (v2 + (1 : Int32))) (lv' := [(2, .int (v2 + (1 : Int32))), (1, .int r5), (0, .ref (ad k0))]) hx hb dX5_isTakingLongOnes_41 hl (k := 1) rfl rfl (by decide) rfl (fun ls hl => ?_)
        refine lv_goto (tgt := 7) hx hb dX5_isTakingLongOnes_44 (by decide) ?_
        exact ih0 (v2 + (1 : Int32)) r5 H locs ls hw (lv_sub hl [0, 1, 2] rfl) h
      have h := h.2 c8
      refine lv_iload_n hx hb dX5_isTakingLongOnes_31 rfl (lv_at hl 0 rfl) ?_
      refine lv_iconst (v := (0 : Int32)) hx hb dX5_isTakingLongOnes_32 (by decide) ?_
      refine P_calli (va_runSN (own := "Leastreader$Plain") (As := [.int r5, .int (0 : Int32)]) (rest := []) ⟨hx, hb, hml, hown, ht⟩ (c_X9_isIn r5 (0 : Int32) h) ⟨va_cnB 2 ht (G_ws q_411) rfl rfl rfl (nw_465 hN) (ht _ q_46) hd_5 ⟨Nat.le_of_ble_eq_true rfl, Nat.le_of_ble_eq_true rfl⟩, ht _ q_410, trivial⟩ ⟨PM_blind, PM_pre⟩ rfl rfl hl.1 rfl (lv_room (Nat.le_of_ble_eq_true rfl)) dX5_isTakingLongOnes_33 ⟨Nat.le_of_ble_eq_true rfl, Nat.le_of_ble_eq_true rfl⟩) (fun r9 h => ?_)
      refine lv_if_eq (tgt := 41) hx hb dX5_isTakingLongOnes_36 (by decide) (fun c10 => ?_) (fun c10 => ?_)
      · have h := h.1 c10
        refine lv_iinc (v := (v2 + (1 : Int32))) (lv' := [(2, .int (v2 + (1 : Int32))), (1, .int r5), (0, .ref (ad k0))]) hx hb dX5_isTakingLongOnes_41 hl (k := 1) rfl rfl (by decide) rfl (fun ls hl => ?_)
        refine lv_goto (tgt := 7) hx hb dX5_isTakingLongOnes_44 (by decide) ?_
        exact ih0 (v2 + (1 : Int32)) r5 H locs ls hw (lv_sub hl [0, 1, 2] rfl) h
      have h := h.2 c10
      refine lv_iconst (v := (1 : Int32)) hx hb dX5_isTakingLongOnes_39 (by decide) ?_
      exact hret H locs ls 40 _ _ hw ⟨rfl, h⟩ rfl dX5_isTakingLongOnes_40
  exact L0 n11 (1 : Int32) (μ k0 2) H locs ls hw (lv_sub hl [0, 1, 2] rfl) h
def wp_X8_from (μ : TMem) (a1 : Int32) (a2 : Int32) (Q : Int32 → Prop) : Prop :=
  wp_X6_at 49 μ ((a2 * (32 : Int32)) + a1) (fun (r1 : Int32) => Q r1)
set_option maxHeartbeats 4000000 in
set_option maxRecDepth 100000 in
theorem c_X8_from {l : Launch} {D : va_G} {ad : Nat → Nat} {cI cM : ClassId}  (μ : TMem) (sz : Nat) (a1 : Int32) (a2 : Int32) {Q : Int32 → Prop} (h : wp_X8_from μ a1 a2 Q) : TMi l yX8_from (.code yX8_from cX8_from 3 (Option.some Jvm.ClassFile.FieldType.int)) 1 [.ref (ad 48), .int a1, .int a2] D ad cI cM sz μ (fun r μ1 => μ1 = μ ∧ Q r) := by
  refine T_meti (by decide +kernel) (Nat.le_of_ble_eq_true rfl) ?_
  intro p e s m below meth c Z ls hx hb hml hown ht hN hK hw hret hl
  have hl : lv_has ls 3 [(0, .ref (ad 48)), (1, .int a1), (2, .int a2)] := hl
  generalize s.heap = H at hw ⊢
  generalize ([] : List Loc) = locs at hw ⊢
  change wp_X6_at 49 μ ((a2 * (32 : Int32)) + a1) (fun (r1 : Int32) => Q r1) at h
  refine lv_aload_n hx hb dX8_from_0 rfl (lv_at hl 0 rfl) ?_
  refine gf_X8_14 hx hb ht hown hK hw rfl dX8_from_1 ?_
  refine W.eq (g2 := F0 m 4 ls [.ref (ad 49)]) rfl ?_
  refine lv_iload_n hx hb dX8_from_4 rfl (lv_at hl 2 rfl) ?_
  refine lv_bipush (v := (32 : Int32)) hx hb dX8_from_5 (by decide) ?_
  refine lv_imul hx hb dX8_from_7 ?_
  refine lv_iload_n hx hb dX8_from_8 rfl (lv_at hl 1 rfl) ?_
  refine lv_iadd hx hb dX8_from_9 ?_
  refine T_calli hw (va_runV (own := "Leastreader$Tails") (As := [.int ((a2 * (32 : Int32)) + a1)]) (rest := []) ⟨hx, hb, hml, hown, ht⟩ (c_X6_at 49 rfl μ H.size ((a2 * (32 : Int32)) + a1) h) (cwV 1 ht (G_V q_1201 q_399 q_400 q_51 q_401) rfl rfl rfl ⟨rfl, hd_8⟩ ⟨Nat.le_of_ble_eq_true rfl, Nat.le_of_ble_eq_true rfl⟩) ⟨TB.blind, (T_recv hK hw (kd_of rfl (by decide)) (ent_6 rfl) cl_6), TB.pre hK hN hw⟩ rfl rfl hl.1 rfl (lv_room (Nat.le_of_ble_eq_true rfl)) dX8_from_10 ⟨Nat.le_of_ble_eq_true rfl, Nat.le_of_ble_eq_true rfl⟩) (fun r1 μ2 H locs h hw => ?_)
  obtain ⟨e3, h⟩ := h
  rw [e3] at hw
  exact hret H locs ls 13 _ _ hw ⟨rfl, h⟩ rfl dX8_from_13
def wpl_X8_sumOver_6 (k1 : Nat) (μ : TMem) (v4 : Int32) (v5 : Int32) (Q : Int32 → Prop) : Nat → Int32 → Int32 → Prop
  | 0, _, _ => False
  | n + 1, v2, v3 =>
    ((3 : Int32) ≤ v2 → (Q v3)) ∧ (¬ (3 : Int32) ≤ v2 → (wp_X7_at k1 μ v4 v2 (fun (r7 : Int32) => wp_X8_from μ r7 v5 (fun (r10 : Int32) => wpl_X8_sumOver_6 k1 μ v4 v5 Q n (v2 + (1 : Int32)) (v3 + r10)))))
def wp_X8_sumOver (k1 : Nat) (μ : TMem) (a2 : Int32) (a3 : Int32) (Q : Int32 → Prop) : Prop :=
  ∃ n0x, wpl_X8_sumOver_6 k1 μ a2 a3 Q n0x (0 : Int32) (0 : Int32)
set_option maxHeartbeats 4000000 in
set_option maxRecDepth 100000 in
theorem c_X8_sumOver {l : Launch} {D : va_G} {ad : Nat → Nat} {cI cM : ClassId} (k1 : Nat) (hk1 : kd k1 = 5) (μ : TMem) (sz : Nat) (a2 : Int32) (a3 : Int32) {Q : Int32 → Prop} (h : wp_X8_sumOver k1 μ a2 a3 Q) : TMi l yX8_sumOver (.code yX8_sumOver cX8_sumOver 6 (Option.some Jvm.ClassFile.FieldType.int)) 2 [.ref (ad 48), .ref (ad k1), .int a2, .int a3] D ad cI cM sz μ (fun r μ1 => μ1 = μ ∧ Q r) := by
  refine T_meti (by decide +kernel) (Nat.le_of_ble_eq_true rfl) ?_
  intro p e s m below meth c Z ls hx hb hml hown ht hN hK hw hret hl
  have hl : lv_has ls 6 [(0, .ref (ad 48)), (1, .ref (ad k1)), (2, .int a2), (3, .int a3)] := hl
  generalize s.heap = H at hw ⊢
  generalize ([] : List Loc) = locs at hw ⊢
  change ∃ n0x, wpl_X8_sumOver_6 k1 μ a2 a3 Q n0x (0 : Int32) (0 : Int32) at h
  refine lv_iconst (v := (0 : Int32)) hx hb dX8_sumOver_0 (by decide) ?_
  refine lv_istore (lv' := [(4, .int (0 : Int32)), (0, .ref (ad 48)), (1, .ref (ad k1)), (2, .int a2), (3, .int a3)]) hx hb dX8_sumOver_1 hl (by decide) rfl (fun ls hl => ?_)
  refine lv_iconst (v := (0 : Int32)) hx hb dX8_sumOver_3 (by decide) ?_
  refine lv_istore (lv' := [(5, .int (0 : Int32)), (4, .int (0 : Int32)), (0, .ref (ad 48)), (1, .ref (ad k1)), (2, .int a2), (3, .int a3)]) hx hb dX8_sumOver_4 hl (by decide) rfl (fun ls hl => ?_)
  obtain ⟨n13, h⟩ := h
  have L0 : ∀ (v4 : Int32) (v5 : Int32), ∀ (n : Nat) (v2 : Int32) (v3 : Int32) (H : Heap) (locs : List Loc) (ls : Array Slot), TW D ad cI cM s μ H locs → lv_has ls 6 [(5, .int v2), (4, .int v3), (0, .ref (ad 48)), (1, .ref (ad k1)), (2, .int v4), (3, .int v5)] → wpl_X8_sumOver_6 k1 μ v4 v5 Q n v2 v3 → W p l e (RM 2) s m #[.ref (ad 48), .ref (ad k1), .int a2, .int a3] below meth c H locs 0 0 Z (F0 m 6 ls []) := by
    intro v4 v5
    intro n
    induction n with
    | zero => intro v2 v3 H locs ls hw hl h; exact False.elim h
    | succ n ih0 =>
      intro v2 v3 H locs ls hw hl h
      change ((3 : Int32) ≤ v2 → (Q v3)) ∧ (¬ (3 : Int32) ≤ v2 → (wp_X7_at k1 μ v4 v2 (fun (r7 : Int32) => wp_X8_from μ r7 v5 (fun (r10 : Int32) => wpl_X8_sumOver_6 k1 μ v4 v5 Q n (v2 + (1 : Int32)) (v3 + r10))))) at h
      refine lv_iload hx hb dX8_sumOver_6 (lv_at hl 0 rfl) ?_
      refine lv_iconst (v := (3 : Int32)) hx hb dX8_sumOver_8 (by decide) ?_
      refine lv_icmp_ge (tgt := 35) hx hb dX8_sumOver_9 (by decide) (fun c6 => ?_) (fun c6 => ?_)
      · have h := h.1 c6
        refine lv_iload hx hb dX8_sumOver_35 (lv_at hl 1 rfl) ?_
        exact hret H locs ls 37 _ _ hw ⟨rfl, h⟩ rfl dX8_sumOver_37
      have h := h.2 c6
      refine lv_iload hx hb dX8_sumOver_12 (lv_at hl 1 rfl) ?_
      refine lv_aload_n hx hb dX8_sumOver_14 rfl (lv_at hl 2 rfl) ?_
      refine lv_aload_n hx hb dX8_sumOver_15 rfl (lv_at hl 3 rfl) ?_
      refine lv_iload_n hx hb dX8_sumOver_16 rfl (lv_at hl 4 rfl) ?_
      refine lv_iload hx hb dX8_sumOver_17 (lv_at hl 0 rfl) ?_
      refine T_calli hw (va_runU (own := "Leastreader$Tails") (As := [.int v4, .int v2]) (rest := [.ref (ad 48), .int v3]) ⟨hx, hb, hml, hown, ht⟩ (c_X7_at_5 k1 hk1 μ H.size v4 v2 h) (va_cwU (owner := "Leastreader$Table") 2 ht (G_U q_1196 q_452 q_453 q_416 q_47 q_417) rfl rfl rfl rfl hd_0 ⟨Nat.le_of_ble_eq_true rfl, Nat.le_of_ble_eq_true rfl⟩) ⟨TB.blind, (T_recv hK hw (kd_of hk1 (by decide)) (ent_5 hk1) cl_5), TB.pre hK hN hw⟩ rfl rfl hl.1 rfl (lv_room (Nat.le_of_ble_eq_true rfl)) dX8_sumOver_19 ⟨Nat.le_of_ble_eq_true rfl, Nat.le_of_ble_eq_true rfl⟩) (fun r7 μ8 H locs h hw => ?_)
      obtain ⟨e9, h⟩ := h
      rw [e9] at hw
      refine lv_iload_n hx hb dX8_sumOver_22 rfl (lv_at hl 5 rfl) ?_
      refine T_calli hw (va_runV (own := "Leastreader$Tails") (As := [.int r7, .int v5]) (rest := [.int v3]) ⟨hx, hb, hml, hown, ht⟩ (c_X8_from μ H.size r7 v5 h) (cwV 2 ht (G_V q_1197 q_1198 q_1199 q_55 q_1200) rfl rfl rfl ⟨rfl, hd_51⟩ ⟨Nat.le_of_ble_eq_true rfl, Nat.le_of_ble_eq_true rfl⟩) ⟨TB.blind, (T_recv hK hw (kd_of rfl (by decide)) (ent_7 rfl) cl_7), TB.pre hK hN hw⟩ rfl rfl hl.1 rfl (lv_room (Nat.le_of_ble_eq_true rfl)) dX8_sumOver_23 ⟨Nat.le_of_ble_eq_true rfl, Nat.le_of_ble_eq_true rfl⟩) (fun r10 μ11 H locs h hw => ?_)
      obtain ⟨e12, h⟩ := h
      rw [e12] at hw
      refine lv_iadd hx hb dX8_sumOver_26 ?_
      refine lv_istore (lv' := [(4, .int (v3 + r10)), (5, .int v2), (0, .ref (ad 48)), (1, .ref (ad k1)), (2, .int v4), (3, .int v5)]) hx hb dX8_sumOver_27 hl (by decide) rfl (fun ls hl => ?_)
      refine lv_iinc (v := (v2 + (1 : Int32))) (lv' := [(5, .int (v2 + (1 : Int32))), (4, .int (v3 + r10)), (0, .ref (ad 48)), (1, .ref (ad k1)), (2, .int v4), (3, .int v5)]) hx hb dX8_sumOver_29 hl (k := 1) rfl rfl (by decide) rfl (fun ls hl => ?_)
      refine lv_goto (tgt := 6) hx hb dX8_sumOver_32 (by decide) ?_
      exact ih0 (v2 + (1 : Int32)) (v3 + r10) H locs ls hw (lv_sub hl [0, 1, 2, 3, 4, 5] rfl) h
  exact L0 a2 a3 n13 (0 : Int32) (0 : Int32) H locs ls hw (lv_sub hl [0, 1, 2, 3, 4, 5] rfl) h
def wpl_X8_count_2 (k1 : Nat) (K37 : TMem → Prop) : Nat → Int32 → TMem → Prop
  | 0, _, _ => False
  | n + 1, v2, μ3 =>
    ((μ3 k1 1) ≤ v2 → (K37 μ3)) ∧ (¬ (μ3 k1 1) ≤ v2 → (wp_X5_isGoal k1 μ3 v2 (fun (r5 : Int32) => ∀ J8 : Int32 → Prop, (∀ (j9 : Int32), (wp_X6_put 49 μ3 v2 j9 (fun (μ10 : TMem) => wpl_X8_count_2 k1 K37 n (v2 + (1 : Int32)) μ10)) → J8 j9) → ((r5 = 0 → (J8 (0 : Int32))) ∧ (¬ r5 = 0 → (J8 (1 : Int32)))))))
def wpl_X8_count_47 (k1 : Nat) (v20 : Int32) (K83 : TMem → Prop) : Nat → Int32 → TMem → Prop
  | 0, _, _ => False
  | n + 1, v19, μ21 =>
    ((μ21 k1 1) ≤ v19 → (K83 μ21)) ∧ (¬ (μ21 k1 1) ≤ v19 → (wp_X8_sumOver k1 μ21 v19 (v20 - (1 : Int32)) (fun (r23 : Int32) => wp_X6_put 49 μ21 ((v20 * (32 : Int32)) + v19) r23 (fun (μ26 : TMem) => wpl_X8_count_47 k1 v20 K83 n (v19 + (1 : Int32)) μ26))))
def wpl_X8_count_39 (k1 : Nat) (Q : TMem → Prop) : Nat → Int32 → TMem → Prop
  | 0, _, _ => False
  | n + 1, v15, μ16 =>
    ((12 : Int32) < v15 → (Q μ16)) ∧ (¬ (12 : Int32) < v15 → (∃ n17x, wpl_X8_count_47 k1 v15 (fun (μ28 : TMem) => wpl_X8_count_39 k1 Q n (v15 + (1 : Int32)) μ28) n17x (0 : Int32) μ16))
def wp_X8_count (k1 : Nat) (μ : TMem) (Q : TMem → Prop) : Prop :=
  ∃ n0x, wpl_X8_count_2 k1 (fun (μ13 : TMem) => ∃ n13x, wpl_X8_count_39 k1 Q n13x (1 : Int32) μ13) n0x (0 : Int32) μ
set_option maxHeartbeats 4000000 in
set_option maxRecDepth 100000 in
theorem c_X8_count {l : Launch} {D : va_G} {ad : Nat → Nat} {cI cM : ClassId} (k1 : Nat) (hk1 : kd k1 = 5) (μ : TMem) (sz : Nat)  {Q : TMem → Prop} (h : wp_X8_count k1 μ Q) : TMv l yX8_count (.code yX8_count cX8_count 4 (Option.none : Option Jvm.ClassFile.FieldType)) 3 [.ref (ad 48), .ref (ad k1)] D ad cI cM sz μ Q := by
  refine T_metv (by decide +kernel) (Nat.le_of_ble_eq_true rfl) ?_
  intro p e s m below meth c Z ls hx hb hml hown ht hN hK hw hret hl
  have hl : lv_has ls 4 [(0, .ref (ad 48)), (1, .ref (ad k1))] := hl
  generalize s.heap = H at hw ⊢
  generalize ([] : List Loc) = locs at hw ⊢
  change ∃ n0x, wpl_X8_count_2 k1 (fun (μ13 : TMem) => ∃ n13x, wpl_X8_count_39 k1 Q n13x (1 : Int32) μ13) n0x (0 : Int32) μ at h
  refine lv_iconst (v := (0 : Int32)) hx hb dX8_count_0 (by decide) ?_
  refine lv_istore_n (lv' := [(2, .int (0 : Int32)), (0, .ref (ad 48)), (1, .ref (ad k1))]) hx hb dX8_count_1 rfl hl (by decide) rfl (fun ls hl => ?_)
  obtain ⟨n12, h⟩ := h
  have L0 : ∀ (K37 : TMem → Prop), (∀ (μ3 : TMem) (H : Heap) (locs : List Loc) (ls : Array Slot), TW D ad cI cM s μ3 H locs → lv_has ls 4 [(0, .ref (ad 48)), (1, .ref (ad k1))] → K37 μ3 → W p l e (RM 3) s m #[.ref (ad 48), .ref (ad k1)] below meth c H locs 0 0 Z (F0 m 37 ls [])) → ∀ (n : Nat) (v2 : Int32) (μ3 : TMem) (H : Heap) (locs : List Loc) (ls : Array Slot), TW D ad cI cM s μ3 H locs → lv_has ls 4 [(2, .int v2), (0, .ref (ad 48)), (1, .ref (ad k1))] → wpl_X8_count_2 k1 K37 n v2 μ3 → W p l e (RM 3) s m #[.ref (ad 48), .ref (ad k1)] below meth c H locs 0 0 Z (F0 m 2 ls []) := by
    intro K37 hK37
    intro n
    induction n with
    | zero => intro v2 μ3 H locs ls hw hl h; exact False.elim h
    | succ n ih0 =>
      intro v2 μ3 H locs ls hw hl h
      change ((μ3 k1 1) ≤ v2 → (K37 μ3)) ∧ (¬ (μ3 k1 1) ≤ v2 → (wp_X5_isGoal k1 μ3 v2 (fun (r5 : Int32) => ∀ J8 : Int32 → Prop, (∀ (j9 : Int32), (wp_X6_put 49 μ3 v2 j9 (fun (μ10 : TMem) => wpl_X8_count_2 k1 K37 n (v2 + (1 : Int32)) μ10)) → J8 j9) → ((r5 = 0 → (J8 (0 : Int32))) ∧ (¬ r5 = 0 → (J8 (1 : Int32))))))) at h
      refine lv_iload_n hx hb dX8_count_2 rfl (lv_at hl 0 rfl) ?_
      refine lv_aload_n hx hb dX8_count_3 rfl (lv_at hl 2 rfl) ?_
      refine gf_X8_24 hx hb ht hown hK hw hk1 dX8_count_4 ?_
      refine lv_icmp_ge (tgt := 37) hx hb dX8_count_7 (by decide) (fun c4 => ?_) (fun c4 => ?_)
      · have h := h.1 c4
        exact hK37 μ3 H locs ls hw (lv_sub hl [1, 2] rfl) h
      have h := h.2 c4
      refine lv_aload_n hx hb dX8_count_10 rfl (lv_at hl 1 rfl) ?_
      refine gf_X8_14 hx hb ht hown hK hw rfl dX8_count_11 ?_
      refine W.eq (g2 := F0 m 14 ls [.ref (ad 49)]) rfl ?_
      refine lv_iload_n hx hb dX8_count_14 rfl (lv_at hl 0 rfl) ?_
      refine lv_aload_n hx hb dX8_count_15 rfl (lv_at hl 2 rfl) ?_
      refine lv_iload_n hx hb dX8_count_16 rfl (lv_at hl 0 rfl) ?_
      refine T_calli hw (va_runV (own := "Leastreader$Tails") (As := [.int v2]) (rest := [.int v2, .ref (ad 49)]) ⟨hx, hb, hml, hown, ht⟩ (c_X5_isGoal k1 hk1 μ3 H.size v2 h) (cwV 1 ht (G_V q_1190 q_462 q_463 q_53 q_464) rfl rfl rfl ⟨rfl, hd_18⟩ ⟨Nat.le_of_ble_eq_true rfl, Nat.le_of_ble_eq_true rfl⟩) ⟨TB.blind, (T_recv hK hw (kd_of hk1 (by decide)) (ent_5 hk1) cl_5), TB.pre hK hN hw⟩ rfl rfl hl.1 rfl (lv_room (Nat.le_of_ble_eq_true rfl)) dX8_count_17 ⟨Nat.le_of_ble_eq_true rfl, Nat.le_of_ble_eq_true rfl⟩) (fun r5 μ6 H locs h hw => ?_)
      obtain ⟨e7, h⟩ := h
      rw [e7] at hw
      have h := h (fun j9 => ∀ (H : Heap) (locs : List Loc) (ls : Array Slot), TW D ad cI cM s μ3 H locs → lv_has ls 4 [(2, .int v2), (0, .ref (ad 48)), (1, .ref (ad k1))] → W p l e (RM 3) s m #[.ref (ad 48), .ref (ad k1)] below meth c H locs 0 0 Z (F0 m 28 ls [.int j9, .int v2, .ref (ad 49)])) (fun j9 h H locs ls hw hl => by
        refine T_callv hw (va_runV (own := "Leastreader$Tails") (As := [.int v2, .int j9]) (rest := []) ⟨hx, hb, hml, hown, ht⟩ (c_X6_put 49 rfl μ3 H.size v2 j9 h) (cwV 2 ht (G_V q_1191 q_395 q_396 q_51 q_397) rfl rfl rfl ⟨rfl, hd_7⟩ ⟨Nat.le_of_ble_eq_true rfl, Nat.le_of_ble_eq_true rfl⟩) ⟨TB.blind, (T_recv hK hw (kd_of rfl (by decide)) (ent_6 rfl) cl_6), TB.pre hK hN hw⟩ rfl rfl hl.1 rfl (lv_room (Nat.le_of_ble_eq_true rfl)) dX8_count_28 ⟨Nat.le_of_ble_eq_true rfl, Nat.le_of_ble_eq_true rfl⟩) (fun μ10 H locs h hw => ?_)
        refine lv_iinc (v := (v2 + (1 : Int32))) (lv' := [(2, .int (v2 + (1 : Int32))), (0, .ref (ad 48)), (1, .ref (ad k1))]) hx hb dX8_count_31 hl (k := 0) rfl rfl (by decide) rfl (fun ls hl => ?_)
        refine lv_goto (tgt := 2) hx hb dX8_count_34 (by decide) ?_
        exact ih0 (v2 + (1 : Int32)) μ10 H locs ls hw (lv_sub hl [0, 1, 2] rfl) h)
      refine lv_if_eq (tgt := 27) hx hb dX8_count_20 (by decide) (fun c11 => ?_) (fun c11 => ?_)
      · have h := h.1 c11
        refine lv_iconst (v := (0 : Int32)) hx hb dX8_count_27 (by decide) ?_
        exact h H locs ls hw (lv_sub hl [0, 1, 2] rfl)
      have h := h.2 c11
      refine lv_iconst (v := (1 : Int32)) hx hb dX8_count_23 (by decide) ?_
      refine lv_goto (tgt := 28) hx hb dX8_count_24 (by decide) ?_
      exact h H locs ls hw (lv_sub hl [0, 1, 2] rfl)
  refine L0 _ ?_ n12 (0 : Int32) μ H locs ls hw (lv_sub hl [0, 1, 2] rfl) h
  intro μ13 H locs ls hw hl h
  refine lv_iconst (v := (1 : Int32)) hx hb dX8_count_37 (by decide) ?_
  refine lv_istore_n (lv' := [(2, .int (1 : Int32)), (0, .ref (ad 48)), (1, .ref (ad k1))]) hx hb dX8_count_38 rfl hl (by decide) rfl (fun ls hl => ?_)
  obtain ⟨n29, h⟩ := h
  have L13 : ∀ (n : Nat) (v15 : Int32) (μ16 : TMem) (H : Heap) (locs : List Loc) (ls : Array Slot), TW D ad cI cM s μ16 H locs → lv_has ls 4 [(2, .int v15), (0, .ref (ad 48)), (1, .ref (ad k1))] → wpl_X8_count_39 k1 Q n v15 μ16 → W p l e (RM 3) s m #[.ref (ad 48), .ref (ad k1)] below meth c H locs 0 0 Z (F0 m 39 ls []) := by
    intro n
    induction n with
    | zero => intro v15 μ16 H locs ls hw hl h; exact False.elim h
    | succ n ih13 =>
      intro v15 μ16 H locs ls hw hl h
      change ((12 : Int32) < v15 → (Q μ16)) ∧ (¬ (12 : Int32) < v15 → (∃ n17x, wpl_X8_count_47 k1 v15 (fun (μ28 : TMem) => wpl_X8_count_39 k1 Q n (v15 + (1 : Int32)) μ28) n17x (0 : Int32) μ16)) at h
      refine lv_iload_n hx hb dX8_count_39 rfl (lv_at hl 0 rfl) ?_
      refine lv_bipush (v := (12 : Int32)) hx hb dX8_count_40 (by decide) ?_
      refine lv_icmp_gt (tgt := 89) hx hb dX8_count_42 (by decide) (fun c17 => ?_) (fun c17 => ?_)
      · have h := h.1 c17
        exact hret H locs ls 89 _ hw h dX8_count_89
      have h := h.2 c17
      refine lv_iconst (v := (0 : Int32)) hx hb dX8_count_45 (by decide) ?_
      refine lv_istore_n (lv' := [(3, .int (0 : Int32)), (2, .int v15), (0, .ref (ad 48)), (1, .ref (ad k1))]) hx hb dX8_count_46 rfl hl (by decide) rfl (fun ls hl => ?_)
      obtain ⟨n27, h⟩ := h
      have L17 : ∀ (v20 : Int32) (K83 : TMem → Prop), (∀ (μ21 : TMem) (H : Heap) (locs : List Loc) (ls : Array Slot), TW D ad cI cM s μ21 H locs → lv_has ls 4 [(2, .int v20), (0, .ref (ad 48)), (1, .ref (ad k1))] → K83 μ21 → W p l e (RM 3) s m #[.ref (ad 48), .ref (ad k1)] below meth c H locs 0 0 Z (F0 m 83 ls [])) → ∀ (n : Nat) (v19 : Int32) (μ21 : TMem) (H : Heap) (locs : List Loc) (ls : Array Slot), TW D ad cI cM s μ21 H locs → lv_has ls 4 [(3, .int v19), (2, .int v20), (0, .ref (ad 48)), (1, .ref (ad k1))] → wpl_X8_count_47 k1 v20 K83 n v19 μ21 → W p l e (RM 3) s m #[.ref (ad 48), .ref (ad k1)] below meth c H locs 0 0 Z (F0 m 47 ls []) := by
        intro v20 K83 hK83
        intro n
        induction n with
        | zero => intro v19 μ21 H locs ls hw hl h; exact False.elim h
        | succ n ih17 =>
          intro v19 μ21 H locs ls hw hl h
          change ((μ21 k1 1) ≤ v19 → (K83 μ21)) ∧ (¬ (μ21 k1 1) ≤ v19 → (wp_X8_sumOver k1 μ21 v19 (v20 - (1 : Int32)) (fun (r23 : Int32) => wp_X6_put 49 μ21 ((v20 * (32 : Int32)) + v19) r23 (fun (μ26 : TMem) => wpl_X8_count_47 k1 v20 K83 n (v19 + (1 : Int32)) μ26)))) at h
          refine lv_iload_n hx hb dX8_count_47 rfl (lv_at hl 0 rfl) ?_
          refine lv_aload_n hx hb dX8_count_48 rfl (lv_at hl 3 rfl) ?_
          refine gf_X8_24 hx hb ht hown hK hw hk1 dX8_count_49 ?_
          refine lv_icmp_ge (tgt := 83) hx hb dX8_count_52 (by decide) (fun c22 => ?_) (fun c22 => ?_)
          · have h := h.1 c22
            exact hK83 μ21 H locs ls hw (lv_sub hl [1, 2, 3] rfl) h
          have h := h.2 c22
          refine lv_aload_n hx hb dX8_count_55 rfl (lv_at hl 2 rfl) ?_
          refine gf_X8_14 hx hb ht hown hK hw rfl dX8_count_56 ?_
          refine W.eq (g2 := F0 m 59 ls [.ref (ad 49)]) rfl ?_
          refine lv_iload_n hx hb dX8_count_59 rfl (lv_at hl 1 rfl) ?_
          refine lv_bipush (v := (32 : Int32)) hx hb dX8_count_60 (by decide) ?_
          refine lv_imul hx hb dX8_count_62 ?_
          refine lv_iload_n hx hb dX8_count_63 rfl (lv_at hl 0 rfl) ?_
          refine lv_iadd hx hb dX8_count_64 ?_
          refine lv_aload_n hx hb dX8_count_65 rfl (lv_at hl 2 rfl) ?_
          refine lv_aload_n hx hb dX8_count_66 rfl (lv_at hl 3 rfl) ?_
          refine lv_iload_n hx hb dX8_count_67 rfl (lv_at hl 0 rfl) ?_
          refine lv_iload_n hx hb dX8_count_68 rfl (lv_at hl 1 rfl) ?_
          refine lv_iconst (v := (1 : Int32)) hx hb dX8_count_69 (by decide) ?_
          refine lv_isub hx hb dX8_count_70 ?_
          refine T_calli hw (va_runV (own := "Leastreader$Tails") (As := [.ref (ad k1), .int v19, .int (v20 - (1 : Int32))]) (rest := [.int ((v20 * (32 : Int32)) + v19), .ref (ad 49)]) ⟨hx, hb, hml, hown, ht⟩ (c_X8_sumOver k1 hk1 μ21 H.size v19 (v20 - (1 : Int32)) h) (cwV 3 ht (G_V q_1192 q_1194 q_23 q_55 q_1195) rfl rfl rfl ⟨rfl, hd_52⟩ ⟨Nat.le_of_ble_eq_true rfl, Nat.le_of_ble_eq_true rfl⟩) ⟨TB.blind, (T_recv hK hw (kd_of rfl (by decide)) (ent_7 rfl) cl_7), TB.pre hK hN hw⟩ rfl rfl hl.1 rfl (lv_room (Nat.le_of_ble_eq_true rfl)) dX8_count_71 ⟨Nat.le_of_ble_eq_true rfl, Nat.le_of_ble_eq_true rfl⟩) (fun r23 μ24 H locs h hw => ?_)
          obtain ⟨e25, h⟩ := h
          rw [e25] at hw
          refine T_callv hw (va_runV (own := "Leastreader$Tails") (As := [.int ((v20 * (32 : Int32)) + v19), .int r23]) (rest := []) ⟨hx, hb, hml, hown, ht⟩ (c_X6_put 49 rfl μ21 H.size ((v20 * (32 : Int32)) + v19) r23 h) (cwV 2 ht (G_V q_1191 q_395 q_396 q_51 q_397) rfl rfl rfl ⟨rfl, hd_7⟩ ⟨Nat.le_of_ble_eq_true rfl, Nat.le_of_ble_eq_true rfl⟩) ⟨TB.blind, (T_recv hK hw (kd_of rfl (by decide)) (ent_6 rfl) cl_6), TB.pre hK hN hw⟩ rfl rfl hl.1 rfl (lv_room (Nat.le_of_ble_eq_true rfl)) dX8_count_74 ⟨Nat.le_of_ble_eq_true rfl, Nat.le_of_ble_eq_true rfl⟩) (fun μ26 H locs h hw => ?_)
          refine lv_iinc (v := (v19 + (1 : Int32))) (lv' := [(3, .int (v19 + (1 : Int32))), (2, .int v20), (0, .ref (ad 48)), (1, .ref (ad k1))]) hx hb dX8_count_77 hl (k := 0) rfl rfl (by decide) rfl (fun ls hl => ?_)
          refine lv_goto (tgt := 47) hx hb dX8_count_80 (by decide) ?_
          exact ih17 (v19 + (1 : Int32)) μ26 H locs ls hw (lv_sub hl [0, 1, 2, 3] rfl) h
      refine L17 v15 _ ?_ n27 (0 : Int32) μ16 H locs ls hw (lv_sub hl [0, 1, 2, 3] rfl) h
      intro μ28 H locs ls hw hl h
      refine lv_iinc (v := (v15 + (1 : Int32))) (lv' := [(2, .int (v15 + (1 : Int32))), (0, .ref (ad 48)), (1, .ref (ad k1))]) hx hb dX8_count_83 hl (k := 0) rfl rfl (by decide) rfl (fun ls hl => ?_)
      refine lv_goto (tgt := 39) hx hb dX8_count_86 (by decide) ?_
      exact ih13 (v15 + (1 : Int32)) μ28 H locs ls hw (lv_sub hl [0, 1, 2] rfl) h
  exact L13 n29 (1 : Int32) μ13 H locs ls hw (lv_sub hl [0, 1, 2] rfl) h
