def wp_X9_house (μ : TMem) (a1 : Int32) (Q : Int32 → TMem → Prop) (X : String → TMem → Prop) : Prop :=
  wp_X9_checkRange μ a1 (0 : Int32) (2 : Int32) (fun (μ1 : TMem) => (a1 = (0 : Int32) → (Q (μ1 0 11) μ1)) ∧ (¬ a1 = (0 : Int32) → (a1 = (1 : Int32) → (Q (μ1 0 12) μ1)) ∧ (¬ a1 = (1 : Int32) → (Q (μ1 0 13) μ1)))) X
set_option maxHeartbeats 4000000 in
set_option maxRecDepth 100000 in
theorem c_X9_house {l : Launch} (hst : l.stackTraces = false) {D : va_G} {ad : Nat → Nat} {cI cM : ClassId}  (μ : TMem) (sz : Nat) (a1 : Int32) {Q : Int32 → TMem → Prop} {X : String → TMem → Prop} (h : wp_X9_house μ a1 Q X) : XMi l yX9_house (.code yX9_house cX9_house 2 (Option.some Jvm.ClassFile.FieldType.int)) 1 1 6 [.ref (ad 0), .int a1] D ad cI cM sz μ Q X := by
  refine X_meti (by decide +kernel) (Nat.le_of_ble_eq_true rfl) ?_
  intro p e s m below meth c Qc ls hx hb hml hown ht hN hK hX htab hlocks hw hret hl
  have hl : lv_has ls 2 [(0, .ref (ad 0)), (1, .int a1)] := hl
  suffices hh : ∀ (H : Heap) (locs : List Loc), TW D ad cI cM s μ H locs → W p l e (RX 1 1 6) s m #[.ref (ad 0), .int a1] below meth c H locs 0 0 (vx_MQ below Qc (vx_X (fun _ : TMem => True) (TEX D ad cI cM X) (TA ad s.heap.size)) #[.ref (ad 0), .int a1] s 1 6 (TA ad s.heap.size)) (F0 m 0 ls []) from hh _ _ hw
  intro H locs hw
  change wp_X9_checkRange μ a1 (0 : Int32) (2 : Int32) (fun (μ1 : TMem) => (a1 = (0 : Int32) → (Q (μ1 0 11) μ1)) ∧ (¬ a1 = (0 : Int32) → (a1 = (1 : Int32) → (Q (μ1 0 12) μ1)) ∧ (¬ a1 = (1 : Int32) → (Q (μ1 0 13) μ1)))) X at h
  refine lv_iload_n hx hb dX9_house_0 rfl (lv_at hl 1 rfl) ?_
  refine lv_iconst (v := (0 : Int32)) hx hb dX9_house_1 (by decide) ?_
  refine lv_iconst (v := (2 : Int32)) hx hb dX9_house_2 (by decide) ?_
  refine X_callv hw htab hlocks (c1 := 1) (n1 := 6) rfl rfl (Nat.le_of_ble_eq_true rfl) (Nat.le_of_ble_eq_true rfl) (vx_runS (own := "Leastreader") (As := [.int a1, .int (0 : Int32), .int (2 : Int32)]) (rest := []) ⟨hx, hb, hml, hown, ht⟩ (c_X9_checkRange hst μ H.size a1 (0 : Int32) (2 : Int32) h) (va_cwS 3 ht (G_S q_597 q_598 q_46 q_599) rfl rfl rfl hd_54 ⟨Nat.le_of_ble_eq_true rfl, Nat.le_of_ble_eq_true rfl⟩) ⟨TBX.blind, TBX.pre hK hN hX hw⟩ rfl rfl hl.1 rfl (lv_room (Nat.le_of_ble_eq_true rfl)) dX9_house_3 ⟨Nat.le_of_ble_eq_true rfl, Nat.le_of_ble_eq_true rfl⟩) (fun μ1 H locs h hw => ?_)
  refine lv_iload_n hx hb dX9_house_6 rfl (lv_at hl 1 rfl) ?_
  by_cases c3 : a1 = (0 : Int32)
  · have h := h.1 c3
    refine lv_lookup (tgt := 32) (off := 25) hx hb dX9_house_7 (by decide) (by rw [c3] <;> rfl) (by decide) ?_
    refine lv_aload_n hx hb dX9_house_32 rfl (lv_at hl 0 rfl) ?_
    refine gf_X9_246 hx hb ht hown hK hw rfl dX9_house_33 ?_
    exact hret H locs ls 36 1 6 _ _ hw h rfl (Nat.le_of_ble_eq_true rfl) (Nat.le_of_ble_eq_true rfl) dX9_house_36
  have h := h.2 c3
  by_cases c4 : a1 = (1 : Int32)
  · have h := h.1 c4
    refine lv_lookup (tgt := 37) (off := 30) hx hb dX9_house_7 (by decide) (by rw [c4] <;> rfl) (by decide) ?_
    refine lv_aload_n hx hb dX9_house_37 rfl (lv_at hl 0 rfl) ?_
    refine gf_X9_249 hx hb ht hown hK hw rfl dX9_house_38 ?_
    exact hret H locs ls 41 1 6 _ _ hw h rfl (Nat.le_of_ble_eq_true rfl) (Nat.le_of_ble_eq_true rfl) dX9_house_41
  have h := h.2 c4
  have hlk : ∀ j : Int, True := fun _ => trivial
  have nc3 : ¬ (a1).toInt = 0 := fun q => c3 (by rw [← Int32.ofInt_toInt (a1), q]; decide)
  have nc4 : ¬ (a1).toInt = 1 := fun q => c4 (by rw [← Int32.ofInt_toInt (a1), q]; decide)
  refine lv_lookup (tgt := 42) (off := 35) hx hb dX9_house_7 (by decide) (by simp [Op.lookupswitch.offset, nc3, Ne.symm nc3, nc4, Ne.symm nc4]) (by decide) ?_
  refine lv_aload_n hx hb dX9_house_42 rfl (lv_at hl 0 rfl) ?_
  refine gf_X9_252 hx hb ht hown hK hw rfl dX9_house_43 ?_
  exact hret H locs ls 46 1 6 _ _ hw h rfl (Nat.le_of_ble_eq_true rfl) (Nat.le_of_ble_eq_true rfl) dX9_house_46
def wp_X9_isSound (μ : TMem) (Q : Int32 → TMem → Prop) (X : String → TMem → Prop) : Prop :=
  wp_X9_machineAt μ (0 : Int32) (fun (k2 : Nat) (μ1 : TMem) => wp_X3_makeBy k2 57 μ1 (0 : Int32) (fun (r4 : Int32) (μ3 : TMem) => (¬ r4 = 0 → (wp_X3_makeBy k2 51 μ3 (1 : Int32) (fun (r7 : Int32) (μ6 : TMem) => (r7 = 0 → (Q (0 : Int32) μ6)) ∧ (¬ r7 = 0 → (wp_X5_isSameAs 51 57 μ6 (fun (r9 : Int32) => (¬ r9 = 0 → (wp_X3_makeBy k2 51 μ6 (2 : Int32) (fun (r14 : Int32) (μ13 : TMem) => (r14 = 0 → (wp_X2_becomePlain 12 57 μ13 (fun (μ16 : TMem) => wp_X3_makeBy 12 51 μ16 (0 : Int32) (fun (r18 : Int32) (μ17 : TMem) => (r18 = 0 → (Q (0 : Int32) μ17)) ∧ (¬ r18 = 0 → (wp_X5_isSameAs 51 57 μ17 (fun (r20 : Int32) => (¬ r20 = 0 → (wp_X9_isTakingTheSame k2 μ17 (fun (r24 : Int32) => isB r24 ∧ Q r24 μ17))) ∧ (r20 = 0 → (Q (0 : Int32) μ17))))))))) ∧ (¬ r14 = 0 → (wp_X5_isSameAs 51 57 μ13 (fun (r28 : Int32) => (¬ r28 = 0 → (wp_X2_becomePlain 12 57 μ13 (fun (μ32 : TMem) => wp_X3_makeBy 12 51 μ32 (0 : Int32) (fun (r34 : Int32) (μ33 : TMem) => (r34 = 0 → (Q (0 : Int32) μ33)) ∧ (¬ r34 = 0 → (wp_X5_isSameAs 51 57 μ33 (fun (r36 : Int32) => (¬ r36 = 0 → (wp_X9_isTakingTheSame k2 μ33 (fun (r40 : Int32) => isB r40 ∧ Q r40 μ33))) ∧ (r36 = 0 → (Q (0 : Int32) μ33))))))))) ∧ (r28 = 0 → (Q (0 : Int32) μ13)))))))) ∧ (r9 = 0 → (Q (0 : Int32) μ6)))))))) ∧ (r4 = 0 → (Q (1 : Int32) μ3)))) X
set_option maxHeartbeats 4000000 in
set_option maxRecDepth 100000 in
theorem c_X9_isSound {l : Launch} (hst : l.stackTraces = false) {D : va_G} {ad : Nat → Nat} {cI cM : ClassId}  (μ : TMem) (sz : Nat)  {Q : Int32 → TMem → Prop} {X : String → TMem → Prop} (h : wp_X9_isSound μ Q X) : XMi l yX9_isSound (.code yX9_isSound cX9_isSound 2 (Option.some Jvm.ClassFile.FieldType.boolean)) 5 1 6 [.ref (ad 0)] D ad cI cM sz μ Q X := by
  refine X_meti (by decide +kernel) (Nat.le_of_ble_eq_true rfl) ?_
  intro p e s m below meth c Qc ls hx hb hml hown ht hN hK hX htab hlocks hw hret hl
  have hl : lv_has ls 2 [(0, .ref (ad 0))] := hl
  suffices hh : ∀ (H : Heap) (locs : List Loc), TW D ad cI cM s μ H locs → W p l e (RX 5 1 6) s m #[.ref (ad 0)] below meth c H locs 0 0 (vx_MQ below Qc (vx_X (fun _ : TMem => True) (TEX D ad cI cM X) (TA ad s.heap.size)) #[.ref (ad 0)] s 1 6 (TA ad s.heap.size)) (F0 m 0 ls []) from hh _ _ hw
  intro H locs hw
  change wp_X9_machineAt μ (0 : Int32) (fun (k2 : Nat) (μ1 : TMem) => wp_X3_makeBy k2 57 μ1 (0 : Int32) (fun (r4 : Int32) (μ3 : TMem) => (¬ r4 = 0 → (wp_X3_makeBy k2 51 μ3 (1 : Int32) (fun (r7 : Int32) (μ6 : TMem) => (r7 = 0 → (Q (0 : Int32) μ6)) ∧ (¬ r7 = 0 → (wp_X5_isSameAs 51 57 μ6 (fun (r9 : Int32) => (¬ r9 = 0 → (wp_X3_makeBy k2 51 μ6 (2 : Int32) (fun (r14 : Int32) (μ13 : TMem) => (r14 = 0 → (wp_X2_becomePlain 12 57 μ13 (fun (μ16 : TMem) => wp_X3_makeBy 12 51 μ16 (0 : Int32) (fun (r18 : Int32) (μ17 : TMem) => (r18 = 0 → (Q (0 : Int32) μ17)) ∧ (¬ r18 = 0 → (wp_X5_isSameAs 51 57 μ17 (fun (r20 : Int32) => (¬ r20 = 0 → (wp_X9_isTakingTheSame k2 μ17 (fun (r24 : Int32) => isB r24 ∧ Q r24 μ17))) ∧ (r20 = 0 → (Q (0 : Int32) μ17))))))))) ∧ (¬ r14 = 0 → (wp_X5_isSameAs 51 57 μ13 (fun (r28 : Int32) => (¬ r28 = 0 → (wp_X2_becomePlain 12 57 μ13 (fun (μ32 : TMem) => wp_X3_makeBy 12 51 μ32 (0 : Int32) (fun (r34 : Int32) (μ33 : TMem) => (r34 = 0 → (Q (0 : Int32) μ33)) ∧ (¬ r34 = 0 → (wp_X5_isSameAs 51 57 μ33 (fun (r36 : Int32) => (¬ r36 = 0 → (wp_X9_isTakingTheSame k2 μ33 (fun (r40 : Int32) => isB r40 ∧ Q r40 μ33))) ∧ (r36 = 0 → (Q (0 : Int32) μ33))))))))) ∧ (r28 = 0 → (Q (0 : Int32) μ13)))))))) ∧ (r9 = 0 → (Q (0 : Int32) μ6)))))))) ∧ (r4 = 0 → (Q (1 : Int32) μ3)))) X at h
  refine lv_aload_n hx hb dX9_isSound_0 rfl (lv_at hl 0 rfl) ?_
  refine lv_iconst (v := (0 : Int32)) hx hb dX9_isSound_1 (by decide) ?_
  refine X_callo hw htab hlocks (c1 := 1) (n1 := 6) rfl rfl (Nat.le_of_ble_eq_true rfl) (Nat.le_of_ble_eq_true rfl) (vx_runV (own := "Leastreader") (As := [.int (0 : Int32)]) (rest := []) ⟨hx, hb, hml, hown, ht⟩ (c_X9_machineAt hst μ H.size (0 : Int32) h) (cwV 1 ht (G_V q_314 q_316 q_0 q_46 q_317) rfl rfl rfl ⟨rfl, hd_53⟩ ⟨Nat.le_of_ble_eq_true rfl, Nat.le_of_ble_eq_true rfl⟩) ⟨TBX.blind, (T_recv hK hw (kd_of rfl (by decide)) (ent_8 rfl) cl_8), TBX.pre hK hN hX hw⟩ rfl rfl hl.1 rfl (lv_room (Nat.le_of_ble_eq_true rfl)) dX9_isSound_2 ⟨Nat.le_of_ble_eq_true rfl, Nat.le_of_ble_eq_true rfl⟩) (fun k2 μ1 H locs hk2 h hw => ?_)
  refine lv_astore_n (lv' := [(1, .ref (ad k2)), (0, .ref (ad 0))]) hx hb dX9_isSound_5 rfl hl (by decide) rfl (fun ls hl => ?_)
  refine lv_aload_n hx hb dX9_isSound_6 rfl (lv_at hl 1 rfl) ?_
  refine gf_X9_35 hx hb ht hown hK hw rfl dX9_isSound_7 ?_
  refine lv_iconst (v := (0 : Int32)) hx hb dX9_isSound_10 (by decide) ?_
  refine lv_aload_n hx hb dX9_isSound_11 rfl (lv_at hl 0 rfl) ?_
  refine lv_aload_n hx hb dX9_isSound_12 rfl (lv_at hl 1 rfl) ?_
  refine gf_X9_66 hx hb ht hown hK hw rfl dX9_isSound_13 ?_
  refine T_calli hw (va_runV (own := "Leastreader") (As := [.int (0 : Int32), .ref (ad k2), .ref (ad 57)]) (rest := []) ⟨hx, hb, hml, hown, ht⟩ (c_X3_makeBy k2 hk2 57 rfl μ1 H.size (0 : Int32) h) (cwV 3 ht (G_V q_386 q_387 q_388 q_50 q_389) rfl rfl rfl ⟨rfl, hd_65⟩ ⟨Nat.le_of_ble_eq_true rfl, Nat.le_of_ble_eq_true rfl⟩) ⟨TB.blind, (T_recv hK hw (kd_of rfl (by decide)) (ent_3 rfl) cl_3), TB.pre hK hN hw⟩ rfl rfl hl.1 rfl (lv_room (Nat.le_of_ble_eq_true rfl)) dX9_isSound_16 ⟨Nat.le_of_ble_eq_true rfl, Nat.le_of_ble_eq_true rfl⟩) (fun r4 μ3 H locs h hw => ?_)
  refine lv_if_ne (tgt := 24) hx hb dX9_isSound_19 (by decide) (fun c5 => ?_) (fun c5 => ?_)
  · have h := h.1 c5
    refine lv_aload_n hx hb dX9_isSound_24 rfl (lv_at hl 1 rfl) ?_
    refine gf_X9_35 hx hb ht hown hK hw rfl dX9_isSound_25 ?_
    refine lv_iconst (v := (1 : Int32)) hx hb dX9_isSound_28 (by decide) ?_
    refine lv_aload_n hx hb dX9_isSound_29 rfl (lv_at hl 0 rfl) ?_
    refine lv_aload_n hx hb dX9_isSound_30 rfl (lv_at hl 1 rfl) ?_
    refine gf_X9_56 hx hb ht hown hK hw rfl dX9_isSound_31 ?_
    refine T_calli hw (va_runV (own := "Leastreader") (As := [.int (1 : Int32), .ref (ad k2), .ref (ad 51)]) (rest := []) ⟨hx, hb, hml, hown, ht⟩ (c_X3_makeBy k2 hk2 51 rfl μ3 H.size (1 : Int32) h) (cwV 3 ht (G_V q_386 q_387 q_388 q_50 q_389) rfl rfl rfl ⟨rfl, hd_65⟩ ⟨Nat.le_of_ble_eq_true rfl, Nat.le_of_ble_eq_true rfl⟩) ⟨TB.blind, (T_recv hK hw (kd_of rfl (by decide)) (ent_3 rfl) cl_3), TB.pre hK hN hw⟩ rfl rfl hl.1 rfl (lv_room (Nat.le_of_ble_eq_true rfl)) dX9_isSound_34 ⟨Nat.le_of_ble_eq_true rfl, Nat.le_of_ble_eq_true rfl⟩) (fun r7 μ6 H locs h hw => ?_)
    refine lv_if_eq (tgt := 54) hx hb dX9_isSound_37 (by decide) (fun c8 => ?_) (fun c8 => ?_)
    · have h := h.1 c8
      refine lv_iconst (v := (0 : Int32)) hx hb dX9_isSound_54 (by decide) ?_
      exact hret H locs ls 55 1 6 _ _ hw h rfl (Nat.le_of_ble_eq_true rfl) (Nat.le_of_ble_eq_true rfl) dX9_isSound_55
    have h := h.2 c8
    refine lv_aload_n hx hb dX9_isSound_40 rfl (lv_at hl 1 rfl) ?_
    refine gf_X9_56 hx hb ht hown hK hw rfl dX9_isSound_41 ?_
    refine lv_aload_n hx hb dX9_isSound_44 rfl (lv_at hl 1 rfl) ?_
    refine gf_X9_66 hx hb ht hown hK hw rfl dX9_isSound_45 ?_
    refine T_calli hw (va_runV (own := "Leastreader") (As := [.ref (ad 57)]) (rest := []) ⟨hx, hb, hml, hown, ht⟩ (c_X5_isSameAs 51 rfl 57 rfl μ6 H.size h) (cwV 1 ht (G_V q_516 q_517 q_518 q_53 q_519) rfl rfl rfl ⟨rfl, hd_73⟩ ⟨Nat.le_of_ble_eq_true rfl, Nat.le_of_ble_eq_true rfl⟩) ⟨TB.blind, (T_recv hK hw (kd_of rfl (by decide)) (ent_5 rfl) cl_5), TB.pre hK hN hw⟩ rfl rfl hl.1 rfl (lv_room (Nat.le_of_ble_eq_true rfl)) dX9_isSound_48 ⟨Nat.le_of_ble_eq_true rfl, Nat.le_of_ble_eq_true rfl⟩) (fun r9 μ10 H locs h hw => ?_)
    obtain ⟨e11, h⟩ := h
    rw [e11] at hw
    refine lv_if_ne (tgt := 56) hx hb dX9_isSound_51 (by decide) (fun c12 => ?_) (fun c12 => ?_)
    · have h := h.1 c12
      refine lv_aload_n hx hb dX9_isSound_56 rfl (lv_at hl 1 rfl) ?_
      refine gf_X9_35 hx hb ht hown hK hw rfl dX9_isSound_57 ?_
      refine lv_iconst (v := (2 : Int32)) hx hb dX9_isSound_60 (by decide) ?_
      refine lv_aload_n hx hb dX9_isSound_61 rfl (lv_at hl 0 rfl) ?_
      refine lv_aload_n hx hb dX9_isSound_62 rfl (lv_at hl 1 rfl) ?_
      refine gf_X9_56 hx hb ht hown hK hw rfl dX9_isSound_63 ?_
      refine T_calli hw (va_runV (own := "Leastreader") (As := [.int (2 : Int32), .ref (ad k2), .ref (ad 51)]) (rest := []) ⟨hx, hb, hml, hown, ht⟩ (c_X3_makeBy k2 hk2 51 rfl μ6 H.size (2 : Int32) h) (cwV 3 ht (G_V q_386 q_387 q_388 q_50 q_389) rfl rfl rfl ⟨rfl, hd_65⟩ ⟨Nat.le_of_ble_eq_true rfl, Nat.le_of_ble_eq_true rfl⟩) ⟨TB.blind, (T_recv hK hw (kd_of rfl (by decide)) (ent_3 rfl) cl_3), TB.pre hK hN hw⟩ rfl rfl hl.1 rfl (lv_room (Nat.le_of_ble_eq_true rfl)) dX9_isSound_66 ⟨Nat.le_of_ble_eq_true rfl, Nat.le_of_ble_eq_true rfl⟩) (fun r14 μ13 H locs h hw => ?_)
      refine lv_if_eq (tgt := 88) hx hb dX9_isSound_69 (by decide) (fun c15 => ?_) (fun c15 => ?_)
      · have h := h.1 c15
        refine lv_aload_n hx hb dX9_isSound_88 rfl (lv_at hl 1 rfl) ?_
        refine gf_X9_22 hx hb ht hown hK hw rfl dX9_isSound_89 ?_
        refine lv_aload_n hx hb dX9_isSound_92 rfl (lv_at hl 1 rfl) ?_
        refine gf_X9_66 hx hb ht hown hK hw rfl dX9_isSound_93 ?_
        refine T_callv hw (va_runV (own := "Leastreader") (As := [.ref (ad 57)]) (rest := []) ⟨hx, hb, hml, hown, ht⟩ (c_X2_becomePlain 12 rfl 57 rfl μ13 H.size h) (cwV 1 ht (G_V q_527 q_448 q_449 q_48 q_450) rfl rfl rfl ⟨rfl, hd_2⟩ ⟨Nat.le_of_ble_eq_true rfl, Nat.le_of_ble_eq_true rfl⟩) ⟨TB.blind, (T_recv hK hw (kd_of rfl (by decide)) (ent_2 rfl) cl_2), TB.pre hK hN hw⟩ rfl rfl hl.1 rfl (lv_room (Nat.le_of_ble_eq_true rfl)) dX9_isSound_96 ⟨Nat.le_of_ble_eq_true rfl, Nat.le_of_ble_eq_true rfl⟩) (fun μ16 H locs h hw => ?_)
        refine lv_aload_n hx hb dX9_isSound_99 rfl (lv_at hl 1 rfl) ?_
        refine gf_X9_35 hx hb ht hown hK hw rfl dX9_isSound_100 ?_
        refine lv_iconst (v := (0 : Int32)) hx hb dX9_isSound_103 (by decide) ?_
        refine lv_aload_n hx hb dX9_isSound_104 rfl (lv_at hl 1 rfl) ?_
        refine gf_X9_22 hx hb ht hown hK hw rfl dX9_isSound_105 ?_
        refine lv_aload_n hx hb dX9_isSound_108 rfl (lv_at hl 1 rfl) ?_
        refine gf_X9_56 hx hb ht hown hK hw rfl dX9_isSound_109 ?_
        refine T_calli hw (va_runV (own := "Leastreader") (As := [.int (0 : Int32), .ref (ad 12), .ref (ad 51)]) (rest := []) ⟨hx, hb, hml, hown, ht⟩ (c_X3_makeBy 12 rfl 51 rfl μ16 H.size (0 : Int32) h) (cwV 3 ht (G_V q_386 q_387 q_388 q_50 q_389) rfl rfl rfl ⟨rfl, hd_65⟩ ⟨Nat.le_of_ble_eq_true rfl, Nat.le_of_ble_eq_true rfl⟩) ⟨TB.blind, (T_recv hK hw (kd_of rfl (by decide)) (ent_3 rfl) cl_3), TB.pre hK hN hw⟩ rfl rfl hl.1 rfl (lv_room (Nat.le_of_ble_eq_true rfl)) dX9_isSound_112 ⟨Nat.le_of_ble_eq_true rfl, Nat.le_of_ble_eq_true rfl⟩) (fun r18 μ17 H locs h hw => ?_)
        refine lv_if_eq (tgt := 132) hx hb dX9_isSound_115 (by decide) (fun c19 => ?_) (fun c19 => ?_)
        · have h := h.1 c19
          refine lv_iconst (v := (0 : Int32)) hx hb dX9_isSound_132 (by decide) ?_
          exact hret H locs ls 133 1 6 _ _ hw h rfl (Nat.le_of_ble_eq_true rfl) (Nat.le_of_ble_eq_true rfl) dX9_isSound_133
        have h := h.2 c19
        refine lv_aload_n hx hb dX9_isSound_118 rfl (lv_at hl 1 rfl) ?_
        refine gf_X9_56 hx hb ht hown hK hw rfl dX9_isSound_119 ?_
        refine lv_aload_n hx hb dX9_isSound_122 rfl (lv_at hl 1 rfl) ?_
        refine gf_X9_66 hx hb ht hown hK hw rfl dX9_isSound_123 ?_
        refine T_calli hw (va_runV (own := "Leastreader") (As := [.ref (ad 57)]) (rest := []) ⟨hx, hb, hml, hown, ht⟩ (c_X5_isSameAs 51 rfl 57 rfl μ17 H.size h) (cwV 1 ht (G_V q_516 q_517 q_518 q_53 q_519) rfl rfl rfl ⟨rfl, hd_73⟩ ⟨Nat.le_of_ble_eq_true rfl, Nat.le_of_ble_eq_true rfl⟩) ⟨TB.blind, (T_recv hK hw (kd_of rfl (by decide)) (ent_5 rfl) cl_5), TB.pre hK hN hw⟩ rfl rfl hl.1 rfl (lv_room (Nat.le_of_ble_eq_true rfl)) dX9_isSound_126 ⟨Nat.le_of_ble_eq_true rfl, Nat.le_of_ble_eq_true rfl⟩) (fun r20 μ21 H locs h hw => ?_)
        obtain ⟨e22, h⟩ := h
        rw [e22] at hw
        refine lv_if_ne (tgt := 134) hx hb dX9_isSound_129 (by decide) (fun c23 => ?_) (fun c23 => ?_)
        · have h := h.1 c23
          refine lv_aload_n hx hb dX9_isSound_134 rfl (lv_at hl 1 rfl) ?_
          refine lv_aload_n hx hb dX9_isSound_135 rfl (lv_at hl 0 rfl) ?_
          refine T_calli hw (va_runV (own := "Leastreader") (As := [.ref (ad k2)]) (rest := []) ⟨hx, hb, hml, hown, ht⟩ (c_X9_isTakingTheSame k2 hk2 μ17 H.size h) (cwV 1 ht (G_V q_528 q_530 q_12 q_46 q_531) rfl rfl rfl ⟨rfl, hd_75⟩ ⟨Nat.le_of_ble_eq_true rfl, Nat.le_of_ble_eq_true rfl⟩) ⟨TB.blind, (T_recv hK hw (kd_of rfl (by decide)) (ent_8 rfl) cl_8), TB.pre hK hN hw⟩ rfl rfl hl.1 rfl (lv_room (Nat.le_of_ble_eq_true rfl)) dX9_isSound_136 ⟨Nat.le_of_ble_eq_true rfl, Nat.le_of_ble_eq_true rfl⟩) (fun r24 μ25 H locs h hw => ?_)
          obtain ⟨e26, h⟩ := h
          rw [e26] at hw
          obtain ⟨z27, h⟩ := h
          exact hret H locs ls 139 1 6 _ _ hw h (isB_n z27) (Nat.le_of_ble_eq_true rfl) (Nat.le_of_ble_eq_true rfl) dX9_isSound_139
        have h := h.2 c23
        refine lv_iconst (v := (0 : Int32)) hx hb dX9_isSound_132 (by decide) ?_
        exact hret H locs ls 133 1 6 _ _ hw h rfl (Nat.le_of_ble_eq_true rfl) (Nat.le_of_ble_eq_true rfl) dX9_isSound_133
      have h := h.2 c15
      refine lv_aload_n hx hb dX9_isSound_72 rfl (lv_at hl 1 rfl) ?_
      refine gf_X9_56 hx hb ht hown hK hw rfl dX9_isSound_73 ?_
      refine lv_aload_n hx hb dX9_isSound_76 rfl (lv_at hl 1 rfl) ?_
      refine gf_X9_66 hx hb ht hown hK hw rfl dX9_isSound_77 ?_
      refine T_calli hw (va_runV (own := "Leastreader") (As := [.ref (ad 57)]) (rest := []) ⟨hx, hb, hml, hown, ht⟩ (c_X5_isSameAs 51 rfl 57 rfl μ13 H.size h) (cwV 1 ht (G_V q_516 q_517 q_518 q_53 q_519) rfl rfl rfl ⟨rfl, hd_73⟩ ⟨Nat.le_of_ble_eq_true rfl, Nat.le_of_ble_eq_true rfl⟩) ⟨TB.blind, (T_recv hK hw (kd_of rfl (by decide)) (ent_5 rfl) cl_5), TB.pre hK hN hw⟩ rfl rfl hl.1 rfl (lv_room (Nat.le_of_ble_eq_true rfl)) dX9_isSound_80 ⟨Nat.le_of_ble_eq_true rfl, Nat.le_of_ble_eq_true rfl⟩) (fun r28 μ29 H locs h hw => ?_)
      obtain ⟨e30, h⟩ := h
      rw [e30] at hw
      refine lv_if_ne (tgt := 88) hx hb dX9_isSound_83 (by decide) (fun c31 => ?_) (fun c31 => ?_)
      · have h := h.1 c31
        refine lv_aload_n hx hb dX9_isSound_88 rfl (lv_at hl 1 rfl) ?_
        refine gf_X9_22 hx hb ht hown hK hw rfl dX9_isSound_89 ?_
        refine lv_aload_n hx hb dX9_isSound_92 rfl (lv_at hl 1 rfl) ?_
        refine gf_X9_66 hx hb ht hown hK hw rfl dX9_isSound_93 ?_
        refine T_callv hw (va_runV (own := "Leastreader") (As := [.ref (ad 57)]) (rest := []) ⟨hx, hb, hml, hown, ht⟩ (c_X2_becomePlain 12 rfl 57 rfl μ13 H.size h) (cwV 1 ht (G_V q_527 q_448 q_449 q_48 q_450) rfl rfl rfl ⟨rfl, hd_2⟩ ⟨Nat.le_of_ble_eq_true rfl, Nat.le_of_ble_eq_true rfl⟩) ⟨TB.blind, (T_recv hK hw (kd_of rfl (by decide)) (ent_2 rfl) cl_2), TB.pre hK hN hw⟩ rfl rfl hl.1 rfl (lv_room (Nat.le_of_ble_eq_true rfl)) dX9_isSound_96 ⟨Nat.le_of_ble_eq_true rfl, Nat.le_of_ble_eq_true rfl⟩) (fun μ32 H locs h hw => ?_)
        refine lv_aload_n hx hb dX9_isSound_99 rfl (lv_at hl 1 rfl) ?_
        refine gf_X9_35 hx hb ht hown hK hw rfl dX9_isSound_100 ?_
        refine lv_iconst (v := (0 : Int32)) hx hb dX9_isSound_103 (by decide) ?_
        refine lv_aload_n hx hb dX9_isSound_104 rfl (lv_at hl 1 rfl) ?_
        refine gf_X9_22 hx hb ht hown hK hw rfl dX9_isSound_105 ?_
        refine lv_aload_n hx hb dX9_isSound_108 rfl (lv_at hl 1 rfl) ?_
        refine gf_X9_56 hx hb ht hown hK hw rfl dX9_isSound_109 ?_
        refine T_calli hw (va_runV (own := "Leastreader") (As := [.int (0 : Int32), .ref (ad 12), .ref (ad 51)]) (rest := []) ⟨hx, hb, hml, hown, ht⟩ (c_X3_makeBy 12 rfl 51 rfl μ32 H.size (0 : Int32) h) (cwV 3 ht (G_V q_386 q_387 q_388 q_50 q_389) rfl rfl rfl ⟨rfl, hd_65⟩ ⟨Nat.le_of_ble_eq_true rfl, Nat.le_of_ble_eq_true rfl⟩) ⟨TB.blind, (T_recv hK hw (kd_of rfl (by decide)) (ent_3 rfl) cl_3), TB.pre hK hN hw⟩ rfl rfl hl.1 rfl (lv_room (Nat.le_of_ble_eq_true rfl)) dX9_isSound_112 ⟨Nat.le_of_ble_eq_true rfl, Nat.le_of_ble_eq_true rfl⟩) (fun r34 μ33 H locs h hw => ?_)
        refine lv_if_eq (tgt := 132) hx hb dX9_isSound_115 (by decide) (fun c35 => ?_) (fun c35 => ?_)
        · have h := h.1 c35
          refine lv_iconst (v := (0 : Int32)) hx hb dX9_isSound_132 (by decide) ?_
          exact hret H locs ls 133 1 6 _ _ hw h rfl (Nat.le_of_ble_eq_true rfl) (Nat.le_of_ble_eq_true rfl) dX9_isSound_133
        have h := h.2 c35
        refine lv_aload_n hx hb dX9_isSound_118 rfl (lv_at hl 1 rfl) ?_
        refine gf_X9_56 hx hb ht hown hK hw rfl dX9_isSound_119 ?_
        refine lv_aload_n hx hb dX9_isSound_122 rfl (lv_at hl 1 rfl) ?_
        refine gf_X9_66 hx hb ht hown hK hw rfl dX9_isSound_123 ?_
        refine T_calli hw (va_runV (own := "Leastreader") (As := [.ref (ad 57)]) (rest := []) ⟨hx, hb, hml, hown, ht⟩ (c_X5_isSameAs 51 rfl 57 rfl μ33 H.size h) (cwV 1 ht (G_V q_516 q_517 q_518 q_53 q_519) rfl rfl rfl ⟨rfl, hd_73⟩ ⟨Nat.le_of_ble_eq_true rfl, Nat.le_of_ble_eq_true rfl⟩) ⟨TB.blind, (T_recv hK hw (kd_of rfl (by decide)) (ent_5 rfl) cl_5), TB.pre hK hN hw⟩ rfl rfl hl.1 rfl (lv_room (Nat.le_of_ble_eq_true rfl)) dX9_isSound_126 ⟨Nat.le_of_ble_eq_true rfl, Nat.le_of_ble_eq_true rfl⟩) (fun r36 μ37 H locs h hw => ?_)
        obtain ⟨e38, h⟩ := h
        rw [e38] at hw
        refine lv_if_ne (tgt := 134) hx hb dX9_isSound_129 (by decide) (fun c39 => ?_) (fun c39 => ?_)
        · have h := h.1 c39
          refine lv_aload_n hx hb dX9_isSound_134 rfl (lv_at hl 1 rfl) ?_
          refine lv_aload_n hx hb dX9_isSound_135 rfl (lv_at hl 0 rfl) ?_
          refine T_calli hw (va_runV (own := "Leastreader") (As := [.ref (ad k2)]) (rest := []) ⟨hx, hb, hml, hown, ht⟩ (c_X9_isTakingTheSame k2 hk2 μ33 H.size h) (cwV 1 ht (G_V q_528 q_530 q_12 q_46 q_531) rfl rfl rfl ⟨rfl, hd_75⟩ ⟨Nat.le_of_ble_eq_true rfl, Nat.le_of_ble_eq_true rfl⟩) ⟨TB.blind, (T_recv hK hw (kd_of rfl (by decide)) (ent_8 rfl) cl_8), TB.pre hK hN hw⟩ rfl rfl hl.1 rfl (lv_room (Nat.le_of_ble_eq_true rfl)) dX9_isSound_136 ⟨Nat.le_of_ble_eq_true rfl, Nat.le_of_ble_eq_true rfl⟩) (fun r40 μ41 H locs h hw => ?_)
          obtain ⟨e42, h⟩ := h
          rw [e42] at hw
          obtain ⟨z43, h⟩ := h
          exact hret H locs ls 139 1 6 _ _ hw h (isB_n z43) (Nat.le_of_ble_eq_true rfl) (Nat.le_of_ble_eq_true rfl) dX9_isSound_139
        have h := h.2 c39
        refine lv_iconst (v := (0 : Int32)) hx hb dX9_isSound_132 (by decide) ?_
        exact hret H locs ls 133 1 6 _ _ hw h rfl (Nat.le_of_ble_eq_true rfl) (Nat.le_of_ble_eq_true rfl) dX9_isSound_133
      have h := h.2 c31
      refine lv_iconst (v := (0 : Int32)) hx hb dX9_isSound_86 (by decide) ?_
      exact hret H locs ls 87 1 6 _ _ hw h rfl (Nat.le_of_ble_eq_true rfl) (Nat.le_of_ble_eq_true rfl) dX9_isSound_87
    have h := h.2 c12
    refine lv_iconst (v := (0 : Int32)) hx hb dX9_isSound_54 (by decide) ?_
    exact hret H locs ls 55 1 6 _ _ hw h rfl (Nat.le_of_ble_eq_true rfl) (Nat.le_of_ble_eq_true rfl) dX9_isSound_55
  have h := h.2 c5
  refine lv_iconst (v := (1 : Int32)) hx hb dX9_isSound_22 (by decide) ?_
  exact hret H locs ls 23 1 6 _ _ hw h rfl (Nat.le_of_ble_eq_true rfl) (Nat.le_of_ble_eq_true rfl) dX9_isSound_23
def wpl_X9_digest_6 (μ : TMem) (K32 : Int64 → Prop) : Nat → Int32 → Int64 → Prop
  | 0, _, _ => False
  | n + 1, v2, v3 =>
    ((4 : Int32) ≤ v2 → (K32 v3)) ∧ (¬ (4 : Int32) ≤ v2 → (vp_in v2 4 ∧ (wp_X9_addMachine (2 + 2 * v2.toNatClampNeg) μ v3 (fun (r6 : Int64) => wpl_X9_digest_6 μ K32 n (v2 + (1 : Int32)) r6))))
def wp_X9_digest (μ : TMem) (Q : Int64 → TMem → Prop) (X : String → TMem → Prop) : Prop :=
  ∃ n0x, wpl_X9_digest_6 μ (fun (u10 : Int64) => wp_X9_isSound μ (fun (r12 : Int32) (μ11 : TMem) => (r12 = 0 → (Q ((((((((u10 * (31 : Int64)) + (μ 0 11).toInt64) * (31 : Int64)) + (μ 0 12).toInt64) * (31 : Int64)) + (μ 0 13).toInt64) * (31 : Int64)) + (0 : Int32).toInt64) μ11)) ∧ (¬ r12 = 0 → (Q ((((((((u10 * (31 : Int64)) + (μ 0 11).toInt64) * (31 : Int64)) + (μ 0 12).toInt64) * (31 : Int64)) + (μ 0 13).toInt64) * (31 : Int64)) + (1 : Int32).toInt64) μ11))) X) n0x (0 : Int32) (8025 : Int64)
set_option maxHeartbeats 4000000 in
set_option maxRecDepth 100000 in
theorem c_X9_digest {l : Launch} (hst : l.stackTraces = false) {D : va_G} {ad : Nat → Nat} {cI cM : ClassId}  (μ : TMem) (sz : Nat)  {Q : Int64 → TMem → Prop} {X : String → TMem → Prop} (h : wp_X9_digest μ Q X) : XMl l yX9_digest (.code yX9_digest cX9_digest 4 (Option.some Jvm.ClassFile.FieldType.long)) 6 1 6 [.ref (ad 0)] D ad cI cM sz μ Q X := by
  refine X_metl (by decide +kernel) (Nat.le_of_ble_eq_true rfl) ?_
  intro p e s m below meth c Qc ls hx hb hml hown ht hN hK hX htab hlocks hw hret hl
  have hl : lv_has ls 4 [(0, .ref (ad 0))] := hl
  suffices hh : ∀ (H : Heap) (locs : List Loc), TW D ad cI cM s μ H locs → W p l e (RX 6 1 6) s m #[.ref (ad 0)] below meth c H locs 0 0 (vx_MQ below Qc (vx_X (fun _ : TMem => True) (TEX D ad cI cM X) (TA ad s.heap.size)) #[.ref (ad 0)] s 1 6 (TA ad s.heap.size)) (F0 m 0 ls []) from hh _ _ hw
  intro H locs hw
  change ∃ n0x, wpl_X9_digest_6 μ (fun (u10 : Int64) => wp_X9_isSound μ (fun (r12 : Int32) (μ11 : TMem) => (r12 = 0 → (Q ((((((((u10 * (31 : Int64)) + (μ 0 11).toInt64) * (31 : Int64)) + (μ 0 12).toInt64) * (31 : Int64)) + (μ 0 13).toInt64) * (31 : Int64)) + (0 : Int32).toInt64) μ11)) ∧ (¬ r12 = 0 → (Q ((((((((u10 * (31 : Int64)) + (μ 0 11).toInt64) * (31 : Int64)) + (μ 0 12).toInt64) * (31 : Int64)) + (μ 0 13).toInt64) * (31 : Int64)) + (1 : Int32).toInt64) μ11))) X) n0x (0 : Int32) (8025 : Int64) at h
  refine lv_ldc2 (v := (8025 : Int64)) hx hb hown (ht _ q_554) dX9_digest_0 ?_
  refine lv_lstore_n (lv' := [(1, .long (8025 : Int64)), (0, .ref (ad 0))]) hx hb dX9_digest_3 rfl hl (by decide) rfl (fun ls hl => ?_)
  refine lv_iconst (v := (0 : Int32)) hx hb dX9_digest_4 (by decide) ?_
  refine lv_istore_n (lv' := [(3, .int (0 : Int32)), (1, .long (8025 : Int64)), (0, .ref (ad 0))]) hx hb dX9_digest_5 rfl hl (by decide) rfl (fun ls hl => ?_)
  obtain ⟨n9, h⟩ := h
  have L0 : ∀ (K32 : Int64 → Prop), (∀ (v3 : Int64) (H : Heap) (locs : List Loc) (ls : Array Slot), TW D ad cI cM s μ H locs → lv_has ls 4 [(1, .long v3), (0, .ref (ad 0))] → K32 v3 → W p l e (RX 6 1 6) s m #[.ref (ad 0)] below meth c H locs 0 0 (vx_MQ below Qc (vx_X (fun _ : TMem => True) (TEX D ad cI cM X) (TA ad s.heap.size)) #[.ref (ad 0)] s 1 6 (TA ad s.heap.size)) (F0 m 32 ls [])) → ∀ (n : Nat) (v2 : Int32) (v3 : Int64) (H : Heap) (locs : List Loc) (ls : Array Slot), TW D ad cI cM s μ H locs → lv_has ls 4 [(3, .int v2), (1, .long v3), (0, .ref (ad 0))] → wpl_X9_digest_6 μ K32 n v2 v3 → W p l e (RX 6 1 6) s m #[.ref (ad 0)] below meth c H locs 0 0 (vx_MQ below Qc (vx_X (fun _ : TMem => True) (TEX D ad cI cM X) (TA ad s.heap.size)) #[.ref (ad 0)] s 1 6 (TA ad s.heap.size)) (F0 m 6 ls []) := by
    intro K32 hK32
    intro n
    induction n with
    | zero => intro v2 v3 H locs ls hw hl h; exact False.elim h
    | succ n ih0 =>
      intro v2 v3 H locs ls hw hl h
      change ((4 : Int32) ≤ v2 → (K32 v3)) ∧ (¬ (4 : Int32) ≤ v2 → (vp_in v2 4 ∧ (wp_X9_addMachine (2 + 2 * v2.toNatClampNeg) μ v3 (fun (r6 : Int64) => wpl_X9_digest_6 μ K32 n (v2 + (1 : Int32)) r6)))) at h
      refine lv_iload_n hx hb dX9_digest_6 rfl (lv_at hl 0 rfl) ?_
      refine lv_aload_n hx hb dX9_digest_7 rfl (lv_at hl 2 rfl) ?_
      refine gf_X9_11 hx hb ht hown hK hw rfl dX9_digest_8 ?_
      refine t_mlen hx hb hK hw dX9_digest_11 ?_
      refine lv_icmp_ge (tgt := 32) hx hb dX9_digest_12 (by decide) (fun c4 => ?_) (fun c4 => ?_)
      · have h := h.1 c4
        exact hK32 v3 H locs ls hw (lv_sub hl [1, 2] rfl) h
      have h := h.2 c4
      refine lv_lload_n hx hb dX9_digest_15 rfl (lv_at hl 1 rfl) ?_
      refine lv_aload_n hx hb dX9_digest_16 rfl (lv_at hl 2 rfl) ?_
      refine gf_X9_11 hx hb ht hown hK hw rfl dX9_digest_17 ?_
      refine lv_iload_n hx hb dX9_digest_20 rfl (lv_at hl 0 rfl) ?_
      obtain ⟨z5, h⟩ := h
      refine t_ald hx hb hK hw z5 dX9_digest_21 ?_
      refine T_calll hw (va_runS (own := "Leastreader") (As := [.long v3, .ref (ad (2 + 2 * v2.toNatClampNeg))]) (rest := []) ⟨hx, hb, hml, hown, ht⟩ (c_X9_addMachine (2 + 2 * v2.toNatClampNeg) (kd_ma _ (vp_lt z5)) μ H.size v3 h) (va_cwS 2 ht (G_S q_555 q_556 q_46 q_557) rfl rfl rfl hd_76 ⟨Nat.le_of_ble_eq_true rfl, Nat.le_of_ble_eq_true rfl⟩) ⟨TB.blind, TB.pre hK hN hw⟩ rfl rfl hl.1 rfl (lv_room (Nat.le_of_ble_eq_true rfl)) dX9_digest_22 ⟨Nat.le_of_ble_eq_true rfl, Nat.le_of_ble_eq_true rfl⟩) (fun r6 μ7 H locs h hw => ?_)
      obtain ⟨e8, h⟩ := h
      rw [e8] at hw
      refine lv_lstore_n (lv' := [(1, .long r6), (3, .int v2), (0, .ref (ad 0))]) hx hb dX9_digest_25 rfl hl (by decide) rfl (fun ls hl => ?_)
      refine lv_iinc (v := (v2 + (1 : Int32))) (lv' := [(3, .int (v2 + (1 : Int32))), (1, .long r6), (0, .ref (ad 0))]) hx hb dX9_digest_26 hl (k := 1) rfl rfl (by decide) rfl (fun ls hl => ?_)
      refine lv_goto (tgt := 6) hx hb dX9_digest_29 (by decide) ?_
      exact ih0 (v2 + (1 : Int32)) r6 H locs ls hw (lv_sub hl [0, 1, 2] rfl) h
  refine L0 _ ?_ n9 (0 : Int32) (8025 : Int64) H locs ls hw (lv_sub hl [0, 1, 2] rfl) h
  intro u10 H locs ls hw hl h
  refine lv_lload_n hx hb dX9_digest_32 rfl (lv_at hl 0 rfl) ?_
  refine lv_ldc2 (v := (31 : Int64)) hx hb hown (ht _ q_558) dX9_digest_33 ?_
  refine lv_lmul hx hb dX9_digest_36 ?_
  refine lv_aload_n hx hb dX9_digest_37 rfl (lv_at hl 1 rfl) ?_
  refine gf_X9_246 hx hb ht hown hK hw rfl dX9_digest_38 ?_
  refine lv_i2l hx hb dX9_digest_41 rfl ?_
  refine lv_ladd hx hb dX9_digest_42 ?_
  refine lv_lstore_n (lv' := [(1, .long ((u10 * (31 : Int64)) + (μ 0 11).toInt64)), (0, .ref (ad 0))]) hx hb dX9_digest_43 rfl hl (by decide) rfl (fun ls hl => ?_)
  refine lv_lload_n hx hb dX9_digest_44 rfl (lv_at hl 0 rfl) ?_
  refine lv_ldc2 (v := (31 : Int64)) hx hb hown (ht _ q_558) dX9_digest_45 ?_
  refine lv_lmul hx hb dX9_digest_48 ?_
  refine lv_aload_n hx hb dX9_digest_49 rfl (lv_at hl 1 rfl) ?_
  refine gf_X9_249 hx hb ht hown hK hw rfl dX9_digest_50 ?_
  refine lv_i2l hx hb dX9_digest_53 rfl ?_
  refine lv_ladd hx hb dX9_digest_54 ?_
  refine lv_lstore_n (lv' := [(1, .long ((((u10 * (31 : Int64)) + (μ 0 11).toInt64) * (31 : Int64)) + (μ 0 12).toInt64)), (0, .ref (ad 0))]) hx hb dX9_digest_55 rfl hl (by decide) rfl (fun ls hl => ?_)
  refine lv_lload_n hx hb dX9_digest_56 rfl (lv_at hl 0 rfl) ?_
  refine lv_ldc2 (v := (31 : Int64)) hx hb hown (ht _ q_558) dX9_digest_57 ?_
  refine lv_lmul hx hb dX9_digest_60 ?_
  refine lv_aload_n hx hb dX9_digest_61 rfl (lv_at hl 1 rfl) ?_
  refine gf_X9_252 hx hb ht hown hK hw rfl dX9_digest_62 ?_
  refine lv_i2l hx hb dX9_digest_65 rfl ?_
  refine lv_ladd hx hb dX9_digest_66 ?_
  refine lv_lstore_n (lv' := [(1, .long ((((((u10 * (31 : Int64)) + (μ 0 11).toInt64) * (31 : Int64)) + (μ 0 12).toInt64) * (31 : Int64)) + (μ 0 13).toInt64)), (0, .ref (ad 0))]) hx hb dX9_digest_67 rfl hl (by decide) rfl (fun ls hl => ?_)
  refine lv_lload_n hx hb dX9_digest_68 rfl (lv_at hl 0 rfl) ?_
  refine lv_ldc2 (v := (31 : Int64)) hx hb hown (ht _ q_558) dX9_digest_69 ?_
  refine lv_lmul hx hb dX9_digest_72 ?_
  refine lv_aload_n hx hb dX9_digest_73 rfl (lv_at hl 1 rfl) ?_
  refine X_calli hw htab hlocks (c1 := 1) (n1 := 6) rfl rfl (Nat.le_of_ble_eq_true rfl) (Nat.le_of_ble_eq_true rfl) (vx_runV (own := "Leastreader") (As := []) (rest := [.long (((((((u10 * (31 : Int64)) + (μ 0 11).toInt64) * (31 : Int64)) + (μ 0 12).toInt64) * (31 : Int64)) + (μ 0 13).toInt64) * (31 : Int64))]) ⟨hx, hb, hml, hown, ht⟩ (c_X9_isSound hst μ H.size h) (cwV 0 ht (G_V q_574 q_311 q_312 q_46 q_313) rfl rfl rfl ⟨rfl, hd_77⟩ ⟨Nat.le_of_ble_eq_true rfl, Nat.le_of_ble_eq_true rfl⟩) ⟨TBX.blind, (T_recv hK hw (kd_of rfl (by decide)) (ent_8 rfl) cl_8), TBX.pre hK hN hX hw⟩ rfl rfl hl.1 rfl (lv_room (Nat.le_of_ble_eq_true rfl)) dX9_digest_74 ⟨Nat.le_of_ble_eq_true rfl, Nat.le_of_ble_eq_true rfl⟩) (fun r12 μ11 H locs h hw => ?_)
  refine lv_if_eq (tgt := 84) hx hb dX9_digest_77 (by decide) (fun c13 => ?_) (fun c13 => ?_)
  · have h := h.1 c13
    refine lv_iconst (v := (0 : Int32)) hx hb dX9_digest_84 (by decide) ?_
    refine lv_i2l hx hb dX9_digest_85 rfl ?_
    refine lv_ladd hx hb dX9_digest_86 ?_
    exact hret H locs ls 87 1 6 _ _ hw h (Nat.le_of_ble_eq_true rfl) (Nat.le_of_ble_eq_true rfl) dX9_digest_87
  have h := h.2 c13
  refine lv_iconst (v := (1 : Int32)) hx hb dX9_digest_80 (by decide) ?_
  refine lv_goto (tgt := 85) hx hb dX9_digest_81 (by decide) ?_
  refine lv_i2l hx hb dX9_digest_85 rfl ?_
  refine lv_ladd hx hb dX9_digest_86 ?_
  exact hret H locs ls 87 1 6 _ _ hw h (Nat.le_of_ble_eq_true rfl) (Nat.le_of_ble_eq_true rfl) dX9_digest_87
