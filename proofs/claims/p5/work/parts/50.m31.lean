def wp_X9_machineAt (μ : TMem) (a1 : Int32) (Q : Nat → TMem → Prop) (X : String → TMem → Prop) : Prop :=
  (a1 < 0 → (X "java/lang/IndexOutOfBoundsException" μ)) ∧ (¬ a1 < 0 → ((a1 < (4 : Int32) → (vp_in a1 4 ∧ (Q (2 + 2 * a1.toNatClampNeg) μ))) ∧ (¬ a1 < (4 : Int32) → (X "java/lang/IndexOutOfBoundsException" μ))))
set_option maxHeartbeats 4000000 in
set_option maxRecDepth 100000 in
theorem c_X9_machineAt {l : Launch} (hst : l.stackTraces = false) {D : va_G} {ad : Nat → Nat} {cI cM : ClassId}  (μ : TMem) (sz : Nat) (a1 : Int32) {Q : Nat → TMem → Prop} {X : String → TMem → Prop} (h : wp_X9_machineAt μ a1 Q X) : XMo l yX9_machineAt (.code yX9_machineAt cX9_machineAt 2 (Option.some (Jvm.ClassFile.FieldType.object "Leastreader$Machine"))) 0 1 6 [.ref (ad 0), .int a1] D ad cI cM sz μ Q X := by
  refine X_meto (by decide +kernel) (Nat.le_of_ble_eq_true rfl) ?_
  intro p e s m below meth c Qc ls hx hb hml hown ht hN hK hX htab hlocks hw hret hl
  have hl : lv_has ls 2 [(0, .ref (ad 0)), (1, .int a1)] := hl
  suffices hh : ∀ (H : Heap) (locs : List Loc), TW D ad cI cM s μ H locs → W p l e (RX 0 1 6) s m #[.ref (ad 0), .int a1] below meth c H locs 0 0 (vx_MQ below Qc (vx_X (fun _ : TMem => True) (TEX D ad cI cM X) (TA ad s.heap.size)) #[.ref (ad 0), .int a1] s 1 6 (TA ad s.heap.size)) (F0 m 0 ls []) from hh _ _ hw
  intro H locs hw
  change (a1 < 0 → (X "java/lang/IndexOutOfBoundsException" μ)) ∧ (¬ a1 < 0 → ((a1 < (4 : Int32) → (vp_in a1 4 ∧ (Q (2 + 2 * a1.toNatClampNeg) μ))) ∧ (¬ a1 < (4 : Int32) → (X "java/lang/IndexOutOfBoundsException" μ)))) at h
  refine lv_iload_n hx hb dX9_machineAt_0 rfl (lv_at hl 1 rfl) ?_
  refine lv_if_lt (tgt := 13) hx hb dX9_machineAt_1 (by decide) (fun c1 => ?_) (fun c1 => ?_)
  · have h := h.1 c1
    exact X_throwW (R := RX 0 1 6) (cells := 0) (slots := 0) (fc := 1) (fn := 6) (cls := "java/lang/IndexOutOfBoundsException") hx hb hst (hl.1.trans hml.symm) hown (by decide +kernel) (ht _ q_318) (ht _ q_61) (sr_RX9_274 hX.2.2.2) (hat_0 ht hX.2.2.1) hgd_0 hX hw htab hlocks dX9_machineAt_13 dX9_machineAt_16 dX9_machineAt_17 dX9_machineAt_20 dX9_machineAt_23 (Nat.le_of_ble_eq_true rfl) (Nat.le_of_ble_eq_true rfl) (Nat.le_of_ble_eq_true rfl) (Nat.le_of_ble_eq_true rfl) (Nat.le_of_ble_eq_true rfl) (Nat.le_of_ble_eq_true rfl) h
  have h := h.2 c1
  refine lv_iload_n hx hb dX9_machineAt_4 rfl (lv_at hl 1 rfl) ?_
  refine lv_aload_n hx hb dX9_machineAt_5 rfl (lv_at hl 0 rfl) ?_
  refine gf_X9_11 hx hb ht hown hK hw rfl dX9_machineAt_6 ?_
  refine t_mlen hx hb hK hw dX9_machineAt_9 ?_
  refine lv_icmp_lt (tgt := 24) hx hb dX9_machineAt_10 (by decide) (fun c2 => ?_) (fun c2 => ?_)
  · have h := h.1 c2
    refine lv_aload_n hx hb dX9_machineAt_24 rfl (lv_at hl 0 rfl) ?_
    refine gf_X9_11 hx hb ht hown hK hw rfl dX9_machineAt_25 ?_
    refine lv_iload_n hx hb dX9_machineAt_28 rfl (lv_at hl 1 rfl) ?_
    obtain ⟨z3, h⟩ := h
    refine t_ald hx hb hK hw z3 dX9_machineAt_29 ?_
    exact hret H locs ls 30 0 0 _ _ hw h (kd_ma _ (vp_lt z3)) (Nat.le_of_ble_eq_true rfl) (Nat.le_of_ble_eq_true rfl) dX9_machineAt_30
  have h := h.2 c2
  exact X_throwW (R := RX 0 1 6) (cells := 0) (slots := 0) (fc := 1) (fn := 6) (cls := "java/lang/IndexOutOfBoundsException") hx hb hst (hl.1.trans hml.symm) hown (by decide +kernel) (ht _ q_318) (ht _ q_61) (sr_RX9_274 hX.2.2.2) (hat_0 ht hX.2.2.1) hgd_0 hX hw htab hlocks dX9_machineAt_13 dX9_machineAt_16 dX9_machineAt_17 dX9_machineAt_20 dX9_machineAt_23 (Nat.le_of_ble_eq_true rfl) (Nat.le_of_ble_eq_true rfl) (Nat.le_of_ble_eq_true rfl) (Nat.le_of_ble_eq_true rfl) (Nat.le_of_ble_eq_true rfl) (Nat.le_of_ble_eq_true rfl) h
def wp_X9_checkRange (μ : TMem) (a0 : Int32) (a1 : Int32) (a2 : Int32) (Q : TMem → Prop) (X : String → TMem → Prop) : Prop :=
  (a0 < a1 → (X "java/lang/IllegalArgumentException" μ)) ∧ (¬ a0 < a1 → ((a0 ≤ a2 → (Q μ)) ∧ (¬ a0 ≤ a2 → (X "java/lang/IllegalArgumentException" μ))))
set_option maxHeartbeats 4000000 in
set_option maxRecDepth 100000 in
theorem c_X9_checkRange {l : Launch} (hst : l.stackTraces = false) {D : va_G} {ad : Nat → Nat} {cI cM : ClassId}  (μ : TMem) (sz : Nat) (a0 : Int32) (a1 : Int32) (a2 : Int32) {Q : TMem → Prop} {X : String → TMem → Prop} (h : wp_X9_checkRange μ a0 a1 a2 Q X) : XMv l yX9_checkRange (.code yX9_checkRange cX9_checkRange 3 (Option.none : Option Jvm.ClassFile.FieldType)) 0 1 6 [.int a0, .int a1, .int a2] D ad cI cM sz μ Q X := by
  refine X_metv (by decide +kernel) (Nat.le_of_ble_eq_true rfl) ?_
  intro p e s m below meth c Qc ls hx hb hml hown ht hN hK hX htab hlocks hw hret hl
  have hl : lv_has ls 3 [(0, .int a0), (1, .int a1), (2, .int a2)] := hl
  suffices hh : ∀ (H : Heap) (locs : List Loc), TW D ad cI cM s μ H locs → W p l e (RX 0 1 6) s m #[.int a0, .int a1, .int a2] below meth c H locs 0 0 (vx_MQ below Qc (vx_X (fun _ : TMem => True) (TEX D ad cI cM X) (TA ad s.heap.size)) #[.int a0, .int a1, .int a2] s 1 6 (TA ad s.heap.size)) (F0 m 0 ls []) from hh _ _ hw
  intro H locs hw
  change (a0 < a1 → (X "java/lang/IllegalArgumentException" μ)) ∧ (¬ a0 < a1 → ((a0 ≤ a2 → (Q μ)) ∧ (¬ a0 ≤ a2 → (X "java/lang/IllegalArgumentException" μ)))) at h
  refine lv_iload_n hx hb dX9_checkRange_0 rfl (lv_at hl 0 rfl) ?_
  refine lv_iload_n hx hb dX9_checkRange_1 rfl (lv_at hl 1 rfl) ?_
  refine lv_icmp_lt (tgt := 10) hx hb dX9_checkRange_2 (by decide) (fun c1 => ?_) (fun c1 => ?_)
  · have h := h.1 c1
    exact X_throwW (R := RX 0 1 6) (cells := 0) (slots := 0) (fc := 1) (fn := 6) (cls := "java/lang/IllegalArgumentException") hx hb hst (hl.1.trans hml.symm) hown (by decide +kernel) (ht _ q_600) (ht _ q_62) (sr_RX9_282 hX.2.2.2) (hat_1 ht hX.2.2.1) hgd_1 hX hw htab hlocks dX9_checkRange_10 dX9_checkRange_13 dX9_checkRange_14 dX9_checkRange_17 dX9_checkRange_20 (Nat.le_of_ble_eq_true rfl) (Nat.le_of_ble_eq_true rfl) (Nat.le_of_ble_eq_true rfl) (Nat.le_of_ble_eq_true rfl) (Nat.le_of_ble_eq_true rfl) (Nat.le_of_ble_eq_true rfl) h
  have h := h.2 c1
  refine lv_iload_n hx hb dX9_checkRange_5 rfl (lv_at hl 0 rfl) ?_
  refine lv_iload_n hx hb dX9_checkRange_6 rfl (lv_at hl 2 rfl) ?_
  refine lv_icmp_le (tgt := 21) hx hb dX9_checkRange_7 (by decide) (fun c2 => ?_) (fun c2 => ?_)
  · have h := h.1 c2
    exact hret H locs ls 21 0 0 _ hw h (Nat.le_of_ble_eq_true rfl) (Nat.le_of_ble_eq_true rfl) dX9_checkRange_21
  have h := h.2 c2
  exact X_throwW (R := RX 0 1 6) (cells := 0) (slots := 0) (fc := 1) (fn := 6) (cls := "java/lang/IllegalArgumentException") hx hb hst (hl.1.trans hml.symm) hown (by decide +kernel) (ht _ q_600) (ht _ q_62) (sr_RX9_282 hX.2.2.2) (hat_1 ht hX.2.2.1) hgd_1 hX hw htab hlocks dX9_checkRange_10 dX9_checkRange_13 dX9_checkRange_14 dX9_checkRange_17 dX9_checkRange_20 (Nat.le_of_ble_eq_true rfl) (Nat.le_of_ble_eq_true rfl) (Nat.le_of_ble_eq_true rfl) (Nat.le_of_ble_eq_true rfl) (Nat.le_of_ble_eq_true rfl) (Nat.le_of_ble_eq_true rfl) h
def wp_X9_begin (μ : TMem) (a1 : Int32) (a2 : Int32) (Q : Int32 → TMem → Prop) (X : String → TMem → Prop) : Prop :=
  wp_X9_machineAt μ a1 (fun (k2 : Nat) (μ1 : TMem) => wp_X9_checkRange μ1 a2 (1 : Int32) (7 : Int32) (fun (μ3 : TMem) => wp_X2_countArrows k2 μ3 (fun (r4 : Int32) => wp_X2_clear k2 μ3 a2 (fun (μ7 : TMem) => wp_X9_acted μ7 r4 (fun (r9 : Int32) (μ8 : TMem) => Q r9 μ8)))) X) X
set_option maxHeartbeats 4000000 in
set_option maxRecDepth 100000 in
theorem c_X9_begin {l : Launch} (hst : l.stackTraces = false) {D : va_G} {ad : Nat → Nat} {cI cM : ClassId}  (μ : TMem) (sz : Nat) (a1 : Int32) (a2 : Int32) {Q : Int32 → TMem → Prop} {X : String → TMem → Prop} (h : wp_X9_begin μ a1 a2 Q X) : XMi l yX9_begin (.code yX9_begin cX9_begin 5 (Option.some Jvm.ClassFile.FieldType.int)) 3 2 12 [.ref (ad 0), .int a1, .int a2] D ad cI cM sz μ Q X := by
  refine X_meti (by decide +kernel) (Nat.le_of_ble_eq_true rfl) ?_
  intro p e s m below meth c Qc ls hx hb hml hown ht hN hK hX htab hlocks hw hret hl
  have hl : lv_has ls 5 [(0, .ref (ad 0)), (1, .int a1), (2, .int a2)] := hl
  suffices hh : ∀ (H : Heap) (locs : List Loc), TW D ad cI cM s μ H locs → W p l e (RX 3 2 12) s m #[.ref (ad 0), .int a1, .int a2] below meth c H locs 0 0 (vx_MQ below Qc (vx_X (fun _ : TMem => True) (TEX D ad cI cM X) (TA ad s.heap.size)) #[.ref (ad 0), .int a1, .int a2] s 2 12 (TA ad s.heap.size)) (F0 m 0 ls []) from hh _ _ hw
  intro H locs hw
  change wp_X9_machineAt μ a1 (fun (k2 : Nat) (μ1 : TMem) => wp_X9_checkRange μ1 a2 (1 : Int32) (7 : Int32) (fun (μ3 : TMem) => wp_X2_countArrows k2 μ3 (fun (r4 : Int32) => wp_X2_clear k2 μ3 a2 (fun (μ7 : TMem) => wp_X9_acted μ7 r4 (fun (r9 : Int32) (μ8 : TMem) => Q r9 μ8)))) X) X at h
  refine lv_aload_n hx hb dX9_begin_0 rfl (lv_at hl 0 rfl) ?_
  refine lv_iload_n hx hb dX9_begin_1 rfl (lv_at hl 1 rfl) ?_
  refine X_callo hw htab hlocks (c1 := 1) (n1 := 6) rfl rfl (Nat.le_of_ble_eq_true rfl) (Nat.le_of_ble_eq_true rfl) (vx_runV (own := "Leastreader") (As := [.int a1]) (rest := []) ⟨hx, hb, hml, hown, ht⟩ (c_X9_machineAt hst μ H.size a1 h) (cwV 1 ht (G_V q_314 q_316 q_0 q_46 q_317) rfl rfl rfl ⟨rfl, hd_53⟩ ⟨Nat.le_of_ble_eq_true rfl, Nat.le_of_ble_eq_true rfl⟩) ⟨TBX.blind, (T_recv hK hw (kd_of rfl (by decide)) (ent_8 rfl) cl_8), TBX.pre hK hN hX hw⟩ rfl rfl hl.1 rfl (lv_room (Nat.le_of_ble_eq_true rfl)) dX9_begin_2 ⟨Nat.le_of_ble_eq_true rfl, Nat.le_of_ble_eq_true rfl⟩) (fun k2 μ1 H locs hk2 h hw => ?_)
  refine lv_astore_n (lv' := [(3, .ref (ad k2)), (0, .ref (ad 0)), (1, .int a1), (2, .int a2)]) hx hb dX9_begin_5 rfl hl (by decide) rfl (fun ls hl => ?_)
  refine lv_iload_n hx hb dX9_begin_6 rfl (lv_at hl 3 rfl) ?_
  refine lv_iconst (v := (1 : Int32)) hx hb dX9_begin_7 (by decide) ?_
  refine lv_bipush (v := (7 : Int32)) hx hb dX9_begin_8 (by decide) ?_
  refine X_callv hw htab hlocks (c1 := 2) (n1 := 12) rfl rfl (Nat.le_of_ble_eq_true rfl) (Nat.le_of_ble_eq_true rfl) (vx_runS (own := "Leastreader") (As := [.int a2, .int (1 : Int32), .int (7 : Int32)]) (rest := []) ⟨hx, hb, hml, hown, ht⟩ (c_X9_checkRange hst μ1 H.size a2 (1 : Int32) (7 : Int32) h) (va_cwS 3 ht (G_S q_597 q_598 q_46 q_599) rfl rfl rfl hd_54 ⟨Nat.le_of_ble_eq_true rfl, Nat.le_of_ble_eq_true rfl⟩) ⟨TBX.blind, TBX.pre hK hN hX hw⟩ rfl rfl hl.1 rfl (lv_room (Nat.le_of_ble_eq_true rfl)) dX9_begin_10 ⟨Nat.le_of_ble_eq_true rfl, Nat.le_of_ble_eq_true rfl⟩) (fun μ3 H locs h hw => ?_)
  refine lv_aload_n hx hb dX9_begin_13 rfl (lv_at hl 0 rfl) ?_
  refine T_calli hw (va_runV (own := "Leastreader") (As := []) (rest := []) ⟨hx, hb, hml, hown, ht⟩ (c_X2_countArrows k2 hk2 μ3 H.size h) (cwV 0 ht (G_V q_559 q_560 q_561 q_48 q_562) rfl rfl rfl ⟨rfl, hd_34⟩ ⟨Nat.le_of_ble_eq_true rfl, Nat.le_of_ble_eq_true rfl⟩) ⟨TB.blind, (T_recv hK hw (kd_of hk2 (by decide)) (ent_2 hk2) cl_2), TB.pre hK hN hw⟩ rfl rfl hl.1 rfl (lv_room (Nat.le_of_ble_eq_true rfl)) dX9_begin_14 ⟨Nat.le_of_ble_eq_true rfl, Nat.le_of_ble_eq_true rfl⟩) (fun r4 μ5 H locs h hw => ?_)
  obtain ⟨e6, h⟩ := h
  rw [e6] at hw
  refine lv_istore (lv' := [(4, .int r4), (3, .ref (ad k2)), (0, .ref (ad 0)), (1, .int a1), (2, .int a2)]) hx hb dX9_begin_17 hl (by decide) rfl (fun ls hl => ?_)
  refine lv_aload_n hx hb dX9_begin_19 rfl (lv_at hl 1 rfl) ?_
  refine lv_iload_n hx hb dX9_begin_20 rfl (lv_at hl 4 rfl) ?_
  refine T_callv hw (va_runV (own := "Leastreader") (As := [.int a2]) (rest := []) ⟨hx, hb, hml, hown, ht⟩ (c_X2_clear k2 hk2 μ3 H.size a2 h) (cwV 1 ht (G_V q_616 q_617 q_618 q_48 q_619) rfl rfl rfl ⟨rfl, hd_55⟩ ⟨Nat.le_of_ble_eq_true rfl, Nat.le_of_ble_eq_true rfl⟩) ⟨TB.blind, (T_recv hK hw (kd_of hk2 (by decide)) (ent_2 hk2) cl_2), TB.pre hK hN hw⟩ rfl rfl hl.1 rfl (lv_room (Nat.le_of_ble_eq_true rfl)) dX9_begin_21 ⟨Nat.le_of_ble_eq_true rfl, Nat.le_of_ble_eq_true rfl⟩) (fun μ7 H locs h hw => ?_)
  refine lv_aload_n hx hb dX9_begin_24 rfl (lv_at hl 2 rfl) ?_
  refine lv_iload hx hb dX9_begin_25 (lv_at hl 0 rfl) ?_
  refine T_calli hw (va_runV (own := "Leastreader") (As := [.int r4]) (rest := []) ⟨hx, hb, hml, hown, ht⟩ (c_X9_acted μ7 H.size r4 h) (cwV 1 ht (G_V q_624 q_626 q_13 q_46 q_627) rfl rfl rfl ⟨rfl, hd_3⟩ ⟨Nat.le_of_ble_eq_true rfl, Nat.le_of_ble_eq_true rfl⟩) ⟨TB.blind, (T_recv hK hw (kd_of rfl (by decide)) (ent_8 rfl) cl_8), TB.pre hK hN hw⟩ rfl rfl hl.1 rfl (lv_room (Nat.le_of_ble_eq_true rfl)) dX9_begin_27 ⟨Nat.le_of_ble_eq_true rfl, Nat.le_of_ble_eq_true rfl⟩) (fun r9 μ8 H locs h hw => ?_)
  exact hret H locs ls 30 2 12 _ _ hw h rfl (Nat.le_of_ble_eq_true rfl) (Nat.le_of_ble_eq_true rfl) dX9_begin_30
def wp_X9_checkState (k0 : Nat) (μ : TMem) (a1 : Int32) (Q : TMem → Prop) (X : String → TMem → Prop) : Prop :=
  (a1 < 0 → (X "java/lang/IndexOutOfBoundsException" μ)) ∧ (¬ a1 < 0 → ((a1 < (μ k0 1) → (Q μ)) ∧ (¬ a1 < (μ k0 1) → (X "java/lang/IndexOutOfBoundsException" μ))))
set_option maxHeartbeats 4000000 in
set_option maxRecDepth 100000 in
theorem c_X9_checkState {l : Launch} (hst : l.stackTraces = false) {D : va_G} {ad : Nat → Nat} {cI cM : ClassId} (k0 : Nat) (hk0 : kd k0 = 2) (μ : TMem) (sz : Nat) (a1 : Int32) {Q : TMem → Prop} {X : String → TMem → Prop} (h : wp_X9_checkState k0 μ a1 Q X) : XMv l yX9_checkState (.code yX9_checkState cX9_checkState 2 (Option.none : Option Jvm.ClassFile.FieldType)) 0 1 6 [.ref (ad k0), .int a1] D ad cI cM sz μ Q X := by
  refine X_metv (by decide +kernel) (Nat.le_of_ble_eq_true rfl) ?_
  intro p e s m below meth c Qc ls hx hb hml hown ht hN hK hX htab hlocks hw hret hl
  have hl : lv_has ls 2 [(0, .ref (ad k0)), (1, .int a1)] := hl
  suffices hh : ∀ (H : Heap) (locs : List Loc), TW D ad cI cM s μ H locs → W p l e (RX 0 1 6) s m #[.ref (ad k0), .int a1] below meth c H locs 0 0 (vx_MQ below Qc (vx_X (fun _ : TMem => True) (TEX D ad cI cM X) (TA ad s.heap.size)) #[.ref (ad k0), .int a1] s 1 6 (TA ad s.heap.size)) (F0 m 0 ls []) from hh _ _ hw
  intro H locs hw
  change (a1 < 0 → (X "java/lang/IndexOutOfBoundsException" μ)) ∧ (¬ a1 < 0 → ((a1 < (μ k0 1) → (Q μ)) ∧ (¬ a1 < (μ k0 1) → (X "java/lang/IndexOutOfBoundsException" μ)))) at h
  refine lv_iload_n hx hb dX9_checkState_0 rfl (lv_at hl 1 rfl) ?_
  refine lv_if_lt (tgt := 12) hx hb dX9_checkState_1 (by decide) (fun c1 => ?_) (fun c1 => ?_)
  · have h := h.1 c1
    exact X_throwW (R := RX 0 1 6) (cells := 0) (slots := 0) (fc := 1) (fn := 6) (cls := "java/lang/IndexOutOfBoundsException") hx hb hst (hl.1.trans hml.symm) hown (by decide +kernel) (ht _ q_318) (ht _ q_61) (sr_RX9_277 hX.2.2.2) (hat_0 ht hX.2.2.1) hgd_0 hX hw htab hlocks dX9_checkState_12 dX9_checkState_15 dX9_checkState_16 dX9_checkState_19 dX9_checkState_22 (Nat.le_of_ble_eq_true rfl) (Nat.le_of_ble_eq_true rfl) (Nat.le_of_ble_eq_true rfl) (Nat.le_of_ble_eq_true rfl) (Nat.le_of_ble_eq_true rfl) (Nat.le_of_ble_eq_true rfl) h
  have h := h.2 c1
  refine lv_iload_n hx hb dX9_checkState_4 rfl (lv_at hl 1 rfl) ?_
  refine lv_aload_n hx hb dX9_checkState_5 rfl (lv_at hl 0 rfl) ?_
  refine gf_X9_151 hx hb ht hown hK hw hk0 dX9_checkState_6 ?_
  refine lv_icmp_lt (tgt := 23) hx hb dX9_checkState_9 (by decide) (fun c2 => ?_) (fun c2 => ?_)
  · have h := h.1 c2
    exact hret H locs ls 23 0 0 _ hw h (Nat.le_of_ble_eq_true rfl) (Nat.le_of_ble_eq_true rfl) dX9_checkState_23
  have h := h.2 c2
  exact X_throwW (R := RX 0 1 6) (cells := 0) (slots := 0) (fc := 1) (fn := 6) (cls := "java/lang/IndexOutOfBoundsException") hx hb hst (hl.1.trans hml.symm) hown (by decide +kernel) (ht _ q_318) (ht _ q_61) (sr_RX9_277 hX.2.2.2) (hat_0 ht hX.2.2.1) hgd_0 hX hw htab hlocks dX9_checkState_12 dX9_checkState_15 dX9_checkState_16 dX9_checkState_19 dX9_checkState_22 (Nat.le_of_ble_eq_true rfl) (Nat.le_of_ble_eq_true rfl) (Nat.le_of_ble_eq_true rfl) (Nat.le_of_ble_eq_true rfl) (Nat.le_of_ble_eq_true rfl) (Nat.le_of_ble_eq_true rfl) h
def wp_X9_checkSign (μ : TMem) (a0 : Int32) (Q : TMem → Prop) (X : String → TMem → Prop) : Prop :=
  wp_X9_checkRange μ a0 (0 : Int32) (2 : Int32) (fun (μ1 : TMem) => Q μ1) X
set_option maxHeartbeats 4000000 in
set_option maxRecDepth 100000 in
theorem c_X9_checkSign {l : Launch} (hst : l.stackTraces = false) {D : va_G} {ad : Nat → Nat} {cI cM : ClassId}  (μ : TMem) (sz : Nat) (a0 : Int32) {Q : TMem → Prop} {X : String → TMem → Prop} (h : wp_X9_checkSign μ a0 Q X) : XMv l yX9_checkSign (.code yX9_checkSign cX9_checkSign 1 (Option.none : Option Jvm.ClassFile.FieldType)) 1 1 6 [.int a0] D ad cI cM sz μ Q X := by
  refine X_metv (by decide +kernel) (Nat.le_of_ble_eq_true rfl) ?_
  intro p e s m below meth c Qc ls hx hb hml hown ht hN hK hX htab hlocks hw hret hl
  have hl : lv_has ls 1 [(0, .int a0)] := hl
  suffices hh : ∀ (H : Heap) (locs : List Loc), TW D ad cI cM s μ H locs → W p l e (RX 1 1 6) s m #[.int a0] below meth c H locs 0 0 (vx_MQ below Qc (vx_X (fun _ : TMem => True) (TEX D ad cI cM X) (TA ad s.heap.size)) #[.int a0] s 1 6 (TA ad s.heap.size)) (F0 m 0 ls []) from hh _ _ hw
  intro H locs hw
  change wp_X9_checkRange μ a0 (0 : Int32) (2 : Int32) (fun (μ1 : TMem) => Q μ1) X at h
  refine lv_iload_n hx hb dX9_checkSign_0 rfl (lv_at hl 0 rfl) ?_
  refine lv_iconst (v := (0 : Int32)) hx hb dX9_checkSign_1 (by decide) ?_
  refine lv_iconst (v := (2 : Int32)) hx hb dX9_checkSign_2 (by decide) ?_
  refine X_callv hw htab hlocks (c1 := 1) (n1 := 6) rfl rfl (Nat.le_of_ble_eq_true rfl) (Nat.le_of_ble_eq_true rfl) (vx_runS (own := "Leastreader") (As := [.int a0, .int (0 : Int32), .int (2 : Int32)]) (rest := []) ⟨hx, hb, hml, hown, ht⟩ (c_X9_checkRange hst μ H.size a0 (0 : Int32) (2 : Int32) h) (va_cwS 3 ht (G_S q_597 q_598 q_46 q_599) rfl rfl rfl hd_54 ⟨Nat.le_of_ble_eq_true rfl, Nat.le_of_ble_eq_true rfl⟩) ⟨TBX.blind, TBX.pre hK hN hX hw⟩ rfl rfl hl.1 rfl (lv_room (Nat.le_of_ble_eq_true rfl)) dX9_checkSign_3 ⟨Nat.le_of_ble_eq_true rfl, Nat.le_of_ble_eq_true rfl⟩) (fun μ1 H locs h hw => ?_)
  exact hret H locs ls 6 1 6 _ hw h (Nat.le_of_ble_eq_true rfl) (Nat.le_of_ble_eq_true rfl) dX9_checkSign_6
def wp_X9_arrow (μ : TMem) (a1 : Int32) (a2 : Int32) (a3 : Int32) (a4 : Int32) (a5 : Int32) (Q : Int32 → TMem → Prop) (X : String → TMem → Prop) : Prop :=
  wp_X9_machineAt μ a1 (fun (k2 : Nat) (μ1 : TMem) => wp_X9_checkState k2 μ1 a2 (fun (μ3 : TMem) => wp_X9_checkState k2 μ3 a4 (fun (μ4 : TMem) => wp_X9_checkSign μ4 a3 (fun (μ5 : TMem) => wp_X7_at k2 μ5 a2 a3 (fun (r6 : Int32) => wp_X9_withOrWithout r6 a4 a5 (fun (r9 : Int32) => wp_X7_put k2 μ5 a2 a3 r9 (fun (μ10 : TMem) => (r9 = r6 → (wp_X9_acted μ10 (0 : Int32) (fun (r13 : Int32) (μ12 : TMem) => Q r13 μ12))) ∧ (¬ r9 = r6 → (wp_X9_acted μ10 (1 : Int32) (fun (r15 : Int32) (μ14 : TMem) => Q r15 μ14))))))) X) X) X) X
set_option maxHeartbeats 4000000 in
set_option maxRecDepth 100000 in
theorem c_X9_arrow {l : Launch} (hst : l.stackTraces = false) {D : va_G} {ad : Nat → Nat} {cI cM : ClassId}  (μ : TMem) (sz : Nat) (a1 : Int32) (a2 : Int32) (a3 : Int32) (a4 : Int32) (a5 : Int32) {Q : Int32 → TMem → Prop} {X : String → TMem → Prop} (h : wp_X9_arrow μ a1 a2 a3 a4 a5 Q X) : XMi l yX9_arrow (.code yX9_arrow cX9_arrow 9 (Option.some Jvm.ClassFile.FieldType.int)) 2 4 24 [.ref (ad 0), .int a1, .int a2, .int a3, .int a4, .int a5] D ad cI cM sz μ Q X := by
  refine X_meti (by decide +kernel) (Nat.le_of_ble_eq_true rfl) ?_
  intro p e s m below meth c Qc ls hx hb hml hown ht hN hK hX htab hlocks hw hret hl
  have hl : lv_has ls 9 [(0, .ref (ad 0)), (1, .int a1), (2, .int a2), (3, .int a3), (4, .int a4), (5, .int a5)] := hl
  suffices hh : ∀ (H : Heap) (locs : List Loc), TW D ad cI cM s μ H locs → W p l e (RX 2 4 24) s m #[.ref (ad 0), .int a1, .int a2, .int a3, .int a4, .int a5] below meth c H locs 0 0 (vx_MQ below Qc (vx_X (fun _ : TMem => True) (TEX D ad cI cM X) (TA ad s.heap.size)) #[.ref (ad 0), .int a1, .int a2, .int a3, .int a4, .int a5] s 4 24 (TA ad s.heap.size)) (F0 m 0 ls []) from hh _ _ hw
  intro H locs hw
  change wp_X9_machineAt μ a1 (fun (k2 : Nat) (μ1 : TMem) => wp_X9_checkState k2 μ1 a2 (fun (μ3 : TMem) => wp_X9_checkState k2 μ3 a4 (fun (μ4 : TMem) => wp_X9_checkSign μ4 a3 (fun (μ5 : TMem) => wp_X7_at k2 μ5 a2 a3 (fun (r6 : Int32) => wp_X9_withOrWithout r6 a4 a5 (fun (r9 : Int32) => wp_X7_put k2 μ5 a2 a3 r9 (fun (μ10 : TMem) => (r9 = r6 → (wp_X9_acted μ10 (0 : Int32) (fun (r13 : Int32) (μ12 : TMem) => Q r13 μ12))) ∧ (¬ r9 = r6 → (wp_X9_acted μ10 (1 : Int32) (fun (r15 : Int32) (μ14 : TMem) => Q r15 μ14))))))) X) X) X) X at h
  refine lv_aload_n hx hb dX9_arrow_0 rfl (lv_at hl 0 rfl) ?_
  refine lv_iload_n hx hb dX9_arrow_1 rfl (lv_at hl 1 rfl) ?_
  refine X_callo hw htab hlocks (c1 := 1) (n1 := 6) rfl rfl (Nat.le_of_ble_eq_true rfl) (Nat.le_of_ble_eq_true rfl) (vx_runV (own := "Leastreader") (As := [.int a1]) (rest := []) ⟨hx, hb, hml, hown, ht⟩ (c_X9_machineAt hst μ H.size a1 h) (cwV 1 ht (G_V q_314 q_316 q_0 q_46 q_317) rfl rfl rfl ⟨rfl, hd_53⟩ ⟨Nat.le_of_ble_eq_true rfl, Nat.le_of_ble_eq_true rfl⟩) ⟨TBX.blind, (T_recv hK hw (kd_of rfl (by decide)) (ent_8 rfl) cl_8), TBX.pre hK hN hX hw⟩ rfl rfl hl.1 rfl (lv_room (Nat.le_of_ble_eq_true rfl)) dX9_arrow_2 ⟨Nat.le_of_ble_eq_true rfl, Nat.le_of_ble_eq_true rfl⟩) (fun k2 μ1 H locs hk2 h hw => ?_)
  refine lv_astore (lv' := [(6, .ref (ad k2)), (0, .ref (ad 0)), (1, .int a1), (2, .int a2), (3, .int a3), (4, .int a4), (5, .int a5)]) hx hb dX9_arrow_5 hl (by decide) rfl (fun ls hl => ?_)
  refine lv_aload hx hb dX9_arrow_7 (lv_at hl 0 rfl) ?_
  refine lv_iload_n hx hb dX9_arrow_9 rfl (lv_at hl 3 rfl) ?_
  refine X_callv hw htab hlocks (c1 := 2) (n1 := 12) rfl rfl (Nat.le_of_ble_eq_true rfl) (Nat.le_of_ble_eq_true rfl) (vx_runS (own := "Leastreader") (As := [.ref (ad k2), .int a2]) (rest := []) ⟨hx, hb, hml, hown, ht⟩ (c_X9_checkState hst k2 hk2 μ1 H.size a2 h) (va_cwS 2 ht (G_S q_635 q_636 q_46 q_637) rfl rfl rfl hd_56 ⟨Nat.le_of_ble_eq_true rfl, Nat.le_of_ble_eq_true rfl⟩) ⟨TBX.blind, TBX.pre hK hN hX hw⟩ rfl rfl hl.1 rfl (lv_room (Nat.le_of_ble_eq_true rfl)) dX9_arrow_10 ⟨Nat.le_of_ble_eq_true rfl, Nat.le_of_ble_eq_true rfl⟩) (fun μ3 H locs h hw => ?_)
  refine lv_aload hx hb dX9_arrow_13 (lv_at hl 0 rfl) ?_
  refine lv_iload hx hb dX9_arrow_15 (lv_at hl 5 rfl) ?_
  refine X_callv hw htab hlocks (c1 := 3) (n1 := 18) rfl rfl (Nat.le_of_ble_eq_true rfl) (Nat.le_of_ble_eq_true rfl) (vx_runS (own := "Leastreader") (As := [.ref (ad k2), .int a4]) (rest := []) ⟨hx, hb, hml, hown, ht⟩ (c_X9_checkState hst k2 hk2 μ3 H.size a4 h) (va_cwS 2 ht (G_S q_635 q_636 q_46 q_637) rfl rfl rfl hd_56 ⟨Nat.le_of_ble_eq_true rfl, Nat.le_of_ble_eq_true rfl⟩) ⟨TBX.blind, TBX.pre hK hN hX hw⟩ rfl rfl hl.1 rfl (lv_room (Nat.le_of_ble_eq_true rfl)) dX9_arrow_17 ⟨Nat.le_of_ble_eq_true rfl, Nat.le_of_ble_eq_true rfl⟩) (fun μ4 H locs h hw => ?_)
  refine lv_iload_n hx hb dX9_arrow_20 rfl (lv_at hl 4 rfl) ?_
  refine X_callv hw htab hlocks (c1 := 4) (n1 := 24) rfl rfl (Nat.le_of_ble_eq_true rfl) (Nat.le_of_ble_eq_true rfl) (vx_runS (own := "Leastreader") (As := [.int a3]) (rest := []) ⟨hx, hb, hml, hown, ht⟩ (c_X9_checkSign hst μ4 H.size a3 h) (va_cwS 1 ht (G_S q_639 q_640 q_46 q_641) rfl rfl rfl hd_57 ⟨Nat.le_of_ble_eq_true rfl, Nat.le_of_ble_eq_true rfl⟩) ⟨TBX.blind, TBX.pre hK hN hX hw⟩ rfl rfl hl.1 rfl (lv_room (Nat.le_of_ble_eq_true rfl)) dX9_arrow_21 ⟨Nat.le_of_ble_eq_true rfl, Nat.le_of_ble_eq_true rfl⟩) (fun μ5 H locs h hw => ?_)
  refine lv_aload hx hb dX9_arrow_24 (lv_at hl 0 rfl) ?_
  refine lv_iload_n hx hb dX9_arrow_26 rfl (lv_at hl 3 rfl) ?_
  refine lv_iload_n hx hb dX9_arrow_27 rfl (lv_at hl 4 rfl) ?_
  refine T_calli hw (va_runU (own := "Leastreader") (As := [.int a2, .int a3]) (rest := []) ⟨hx, hb, hml, hown, ht⟩ (c_X7_at_2 k2 hk2 μ5 H.size a2 a3 h) (va_cwU (owner := "Leastreader$Table") 2 ht (G_U q_573 q_413 q_415 q_416 q_47 q_417) rfl rfl rfl rfl hd_0 ⟨Nat.le_of_ble_eq_true rfl, Nat.le_of_ble_eq_true rfl⟩) ⟨TB.blind, (T_recv hK hw (kd_of hk2 (by decide)) (ent_2 hk2) cl_2), TB.pre hK hN hw⟩ rfl rfl hl.1 rfl (lv_room (Nat.le_of_ble_eq_true rfl)) dX9_arrow_28 ⟨Nat.le_of_ble_eq_true rfl, Nat.le_of_ble_eq_true rfl⟩) (fun r6 μ7 H locs h hw => ?_)
  obtain ⟨e8, h⟩ := h
  rw [e8] at hw
  refine lv_istore (lv' := [(7, .int r6), (6, .ref (ad k2)), (0, .ref (ad 0)), (1, .int a1), (2, .int a2), (3, .int a3), (4, .int a4), (5, .int a5)]) hx hb dX9_arrow_31 hl (by decide) rfl (fun ls hl => ?_)
  refine lv_iload hx hb dX9_arrow_33 (lv_at hl 0 rfl) ?_
  refine lv_iload hx hb dX9_arrow_35 (lv_at hl 6 rfl) ?_
  refine lv_iload hx hb dX9_arrow_37 (lv_at hl 7 rfl) ?_
  refine P_calli (va_runS (own := "Leastreader") (As := [.int r6, .int a4, .int a5]) (rest := []) ⟨hx, hb, hml, hown, ht⟩ (c_X9_withOrWithout r6 a4 a5 h) (va_cwS 3 ht (G_S q_642 q_403 q_46 q_404) rfl rfl rfl hd_9 ⟨Nat.le_of_ble_eq_true rfl, Nat.le_of_ble_eq_true rfl⟩) ⟨PM_blind, PM_pre⟩ rfl rfl hl.1 rfl (lv_room (Nat.le_of_ble_eq_true rfl)) dX9_arrow_39 ⟨Nat.le_of_ble_eq_true rfl, Nat.le_of_ble_eq_true rfl⟩) (fun r9 h => ?_)
  refine lv_istore (lv' := [(8, .int r9), (7, .int r6), (6, .ref (ad k2)), (0, .ref (ad 0)), (1, .int a1), (2, .int a2), (3, .int a3), (4, .int a4), (5, .int a5)]) hx hb dX9_arrow_42 hl (by decide) rfl (fun ls hl => ?_)
  refine lv_aload hx hb dX9_arrow_44 (lv_at hl 2 rfl) ?_
  refine lv_iload_n hx hb dX9_arrow_46 rfl (lv_at hl 5 rfl) ?_
  refine lv_iload_n hx hb dX9_arrow_47 rfl (lv_at hl 6 rfl) ?_
  refine lv_iload hx hb dX9_arrow_48 (lv_at hl 0 rfl) ?_
  refine T_callv hw (va_runU (own := "Leastreader") (As := [.int a2, .int a3, .int r9]) (rest := []) ⟨hx, hb, hml, hown, ht⟩ (c_X7_put_2 k2 hk2 μ5 H.size a2 a3 r9 h) (va_cwU (owner := "Leastreader$Table") 3 ht (G_U q_643 q_445 q_446 q_430 q_47 q_431) rfl rfl rfl rfl hd_1 ⟨Nat.le_of_ble_eq_true rfl, Nat.le_of_ble_eq_true rfl⟩) ⟨TB.blind, (T_recv hK hw (kd_of hk2 (by decide)) (ent_2 hk2) cl_2), TB.pre hK hN hw⟩ rfl rfl hl.1 rfl (lv_room (Nat.le_of_ble_eq_true rfl)) dX9_arrow_50 ⟨Nat.le_of_ble_eq_true rfl, Nat.le_of_ble_eq_true rfl⟩) (fun μ10 H locs h hw => ?_)
  refine lv_aload_n hx hb dX9_arrow_53 rfl (lv_at hl 3 rfl) ?_
  refine lv_iload hx hb dX9_arrow_54 (lv_at hl 0 rfl) ?_
  refine lv_iload hx hb dX9_arrow_56 (lv_at hl 1 rfl) ?_
  refine lv_icmp_eq (tgt := 65) hx hb dX9_arrow_58 (by decide) (fun c11 => ?_) (fun c11 => ?_)
  · have h := h.1 c11
    refine lv_iconst (v := (0 : Int32)) hx hb dX9_arrow_65 (by decide) ?_
    refine T_calli hw (va_runV (own := "Leastreader") (As := [.int (0 : Int32)]) (rest := []) ⟨hx, hb, hml, hown, ht⟩ (c_X9_acted μ10 H.size (0 : Int32) h) (cwV 1 ht (G_V q_624 q_626 q_13 q_46 q_627) rfl rfl rfl ⟨rfl, hd_3⟩ ⟨Nat.le_of_ble_eq_true rfl, Nat.le_of_ble_eq_true rfl⟩) ⟨TB.blind, (T_recv hK hw (kd_of rfl (by decide)) (ent_8 rfl) cl_8), TB.pre hK hN hw⟩ rfl rfl hl.1 rfl (lv_room (Nat.le_of_ble_eq_true rfl)) dX9_arrow_66 ⟨Nat.le_of_ble_eq_true rfl, Nat.le_of_ble_eq_true rfl⟩) (fun r13 μ12 H locs h hw => ?_)
    exact hret H locs ls 69 4 24 _ _ hw h rfl (Nat.le_of_ble_eq_true rfl) (Nat.le_of_ble_eq_true rfl) dX9_arrow_69
  have h := h.2 c11
  refine lv_iconst (v := (1 : Int32)) hx hb dX9_arrow_61 (by decide) ?_
  refine lv_goto (tgt := 66) hx hb dX9_arrow_62 (by decide) ?_
  refine T_calli hw (va_runV (own := "Leastreader") (As := [.int (1 : Int32)]) (rest := []) ⟨hx, hb, hml, hown, ht⟩ (c_X9_acted μ10 H.size (1 : Int32) h) (cwV 1 ht (G_V q_624 q_626 q_13 q_46 q_627) rfl rfl rfl ⟨rfl, hd_3⟩ ⟨Nat.le_of_ble_eq_true rfl, Nat.le_of_ble_eq_true rfl⟩) ⟨TB.blind, (T_recv hK hw (kd_of rfl (by decide)) (ent_8 rfl) cl_8), TB.pre hK hN hw⟩ rfl rfl hl.1 rfl (lv_room (Nat.le_of_ble_eq_true rfl)) dX9_arrow_66 ⟨Nat.le_of_ble_eq_true rfl, Nat.le_of_ble_eq_true rfl⟩) (fun r15 μ14 H locs h hw => ?_)
  exact hret H locs ls 69 4 24 _ _ hw h rfl (Nat.le_of_ble_eq_true rfl) (Nat.le_of_ble_eq_true rfl) dX9_arrow_69
def wp_X9_lead (μ : TMem) (a1 : Int32) (a2 : Int32) (a3 : Int32) (a4 : Int32) (Q : Int32 → TMem → Prop) (X : String → TMem → Prop) : Prop :=
  wp_X9_machineAt μ a1 (fun (k2 : Nat) (μ1 : TMem) => wp_X9_checkState k2 μ1 a2 (fun (μ3 : TMem) => wp_X9_checkState k2 μ3 a4 (fun (μ4 : TMem) => wp_X9_checkSign μ4 a3 (fun (μ5 : TMem) => wp_X7_at k2 μ5 a2 a3 (fun (r6 : Int32) => wp_X7_put k2 μ5 a2 a3 ((1 : Int32) <<< (a4 &&& 31)) (fun (μ9 : TMem) => wp_J6_bitCount_0f7a4 r6 (fun (r10 : Int32) => wp_X9_acted μ9 r10 (fun (r12 : Int32) (μ11 : TMem) => Q r12 μ11))))) X) X) X) X
set_option maxHeartbeats 4000000 in
set_option maxRecDepth 100000 in
theorem c_X9_lead {l : Launch} (hst : l.stackTraces = false) {D : va_G} {ad : Nat → Nat} {cI cM : ClassId}  (μ : TMem) (sz : Nat) (a1 : Int32) (a2 : Int32) (a3 : Int32) (a4 : Int32) {Q : Int32 → TMem → Prop} {X : String → TMem → Prop} (h : wp_X9_lead μ a1 a2 a3 a4 Q X) : XMi l yX9_lead (.code yX9_lead cX9_lead 7 (Option.some Jvm.ClassFile.FieldType.int)) 2 4 24 [.ref (ad 0), .int a1, .int a2, .int a3, .int a4] D ad cI cM sz μ Q X := by
  refine X_meti (by decide +kernel) (Nat.le_of_ble_eq_true rfl) ?_
  intro p e s m below meth c Qc ls hx hb hml hown ht hN hK hX htab hlocks hw hret hl
  have hl : lv_has ls 7 [(0, .ref (ad 0)), (1, .int a1), (2, .int a2), (3, .int a3), (4, .int a4)] := hl
  suffices hh : ∀ (H : Heap) (locs : List Loc), TW D ad cI cM s μ H locs → W p l e (RX 2 4 24) s m #[.ref (ad 0), .int a1, .int a2, .int a3, .int a4] below meth c H locs 0 0 (vx_MQ below Qc (vx_X (fun _ : TMem => True) (TEX D ad cI cM X) (TA ad s.heap.size)) #[.ref (ad 0), .int a1, .int a2, .int a3, .int a4] s 4 24 (TA ad s.heap.size)) (F0 m 0 ls []) from hh _ _ hw
  intro H locs hw
  change wp_X9_machineAt μ a1 (fun (k2 : Nat) (μ1 : TMem) => wp_X9_checkState k2 μ1 a2 (fun (μ3 : TMem) => wp_X9_checkState k2 μ3 a4 (fun (μ4 : TMem) => wp_X9_checkSign μ4 a3 (fun (μ5 : TMem) => wp_X7_at k2 μ5 a2 a3 (fun (r6 : Int32) => wp_X7_put k2 μ5 a2 a3 ((1 : Int32) <<< (a4 &&& 31)) (fun (μ9 : TMem) => wp_J6_bitCount_0f7a4 r6 (fun (r10 : Int32) => wp_X9_acted μ9 r10 (fun (r12 : Int32) (μ11 : TMem) => Q r12 μ11))))) X) X) X) X at h
  refine lv_aload_n hx hb dX9_lead_0 rfl (lv_at hl 0 rfl) ?_
  refine lv_iload_n hx hb dX9_lead_1 rfl (lv_at hl 1 rfl) ?_
  refine X_callo hw htab hlocks (c1 := 1) (n1 := 6) rfl rfl (Nat.le_of_ble_eq_true rfl) (Nat.le_of_ble_eq_true rfl) (vx_runV (own := "Leastreader") (As := [.int a1]) (rest := []) ⟨hx, hb, hml, hown, ht⟩ (c_X9_machineAt hst μ H.size a1 h) (cwV 1 ht (G_V q_314 q_316 q_0 q_46 q_317) rfl rfl rfl ⟨rfl, hd_53⟩ ⟨Nat.le_of_ble_eq_true rfl, Nat.le_of_ble_eq_true rfl⟩) ⟨TBX.blind, (T_recv hK hw (kd_of rfl (by decide)) (ent_8 rfl) cl_8), TBX.pre hK hN hX hw⟩ rfl rfl hl.1 rfl (lv_room (Nat.le_of_ble_eq_true rfl)) dX9_lead_2 ⟨Nat.le_of_ble_eq_true rfl, Nat.le_of_ble_eq_true rfl⟩) (fun k2 μ1 H locs hk2 h hw => ?_)
  refine lv_astore (lv' := [(5, .ref (ad k2)), (0, .ref (ad 0)), (1, .int a1), (2, .int a2), (3, .int a3), (4, .int a4)]) hx hb dX9_lead_5 hl (by decide) rfl (fun ls hl => ?_)
  refine lv_aload hx hb dX9_lead_7 (lv_at hl 0 rfl) ?_
  refine lv_iload_n hx hb dX9_lead_9 rfl (lv_at hl 3 rfl) ?_
  refine X_callv hw htab hlocks (c1 := 2) (n1 := 12) rfl rfl (Nat.le_of_ble_eq_true rfl) (Nat.le_of_ble_eq_true rfl) (vx_runS (own := "Leastreader") (As := [.ref (ad k2), .int a2]) (rest := []) ⟨hx, hb, hml, hown, ht⟩ (c_X9_checkState hst k2 hk2 μ1 H.size a2 h) (va_cwS 2 ht (G_S q_635 q_636 q_46 q_637) rfl rfl rfl hd_56 ⟨Nat.le_of_ble_eq_true rfl, Nat.le_of_ble_eq_true rfl⟩) ⟨TBX.blind, TBX.pre hK hN hX hw⟩ rfl rfl hl.1 rfl (lv_room (Nat.le_of_ble_eq_true rfl)) dX9_lead_10 ⟨Nat.le_of_ble_eq_true rfl, Nat.le_of_ble_eq_true rfl⟩) (fun μ3 H locs h hw => ?_)
  refine lv_aload hx hb dX9_lead_13 (lv_at hl 0 rfl) ?_
  refine lv_iload hx hb dX9_lead_15 (lv_at hl 5 rfl) ?_
  refine X_callv hw htab hlocks (c1 := 3) (n1 := 18) rfl rfl (Nat.le_of_ble_eq_true rfl) (Nat.le_of_ble_eq_true rfl) (vx_runS (own := "Leastreader") (As := [.ref (ad k2), .int a4]) (rest := []) ⟨hx, hb, hml, hown, ht⟩ (c_X9_checkState hst k2 hk2 μ3 H.size a4 h) (va_cwS 2 ht (G_S q_635 q_636 q_46 q_637) rfl rfl rfl hd_56 ⟨Nat.le_of_ble_eq_true rfl, Nat.le_of_ble_eq_true rfl⟩) ⟨TBX.blind, TBX.pre hK hN hX hw⟩ rfl rfl hl.1 rfl (lv_room (Nat.le_of_ble_eq_true rfl)) dX9_lead_17 ⟨Nat.le_of_ble_eq_true rfl, Nat.le_of_ble_eq_true rfl⟩) (fun μ4 H locs h hw => ?_)
  refine lv_iload_n hx hb dX9_lead_20 rfl (lv_at hl 4 rfl) ?_
  refine X_callv hw htab hlocks (c1 := 4) (n1 := 24) rfl rfl (Nat.le_of_ble_eq_true rfl) (Nat.le_of_ble_eq_true rfl) (vx_runS (own := "Leastreader") (As := [.int a3]) (rest := []) ⟨hx, hb, hml, hown, ht⟩ (c_X9_checkSign hst μ4 H.size a3 h) (va_cwS 1 ht (G_S q_639 q_640 q_46 q_641) rfl rfl rfl hd_57 ⟨Nat.le_of_ble_eq_true rfl, Nat.le_of_ble_eq_true rfl⟩) ⟨TBX.blind, TBX.pre hK hN hX hw⟩ rfl rfl hl.1 rfl (lv_room (Nat.le_of_ble_eq_true rfl)) dX9_lead_21 ⟨Nat.le_of_ble_eq_true rfl, Nat.le_of_ble_eq_true rfl⟩) (fun μ5 H locs h hw => ?_)
  refine lv_aload hx hb dX9_lead_24 (lv_at hl 0 rfl) ?_
  refine lv_iload_n hx hb dX9_lead_26 rfl (lv_at hl 3 rfl) ?_
  refine lv_iload_n hx hb dX9_lead_27 rfl (lv_at hl 4 rfl) ?_
  refine T_calli hw (va_runU (own := "Leastreader") (As := [.int a2, .int a3]) (rest := []) ⟨hx, hb, hml, hown, ht⟩ (c_X7_at_2 k2 hk2 μ5 H.size a2 a3 h) (va_cwU (owner := "Leastreader$Table") 2 ht (G_U q_573 q_413 q_415 q_416 q_47 q_417) rfl rfl rfl rfl hd_0 ⟨Nat.le_of_ble_eq_true rfl, Nat.le_of_ble_eq_true rfl⟩) ⟨TB.blind, (T_recv hK hw (kd_of hk2 (by decide)) (ent_2 hk2) cl_2), TB.pre hK hN hw⟩ rfl rfl hl.1 rfl (lv_room (Nat.le_of_ble_eq_true rfl)) dX9_lead_28 ⟨Nat.le_of_ble_eq_true rfl, Nat.le_of_ble_eq_true rfl⟩) (fun r6 μ7 H locs h hw => ?_)
  obtain ⟨e8, h⟩ := h
  rw [e8] at hw
  refine lv_istore (lv' := [(6, .int r6), (5, .ref (ad k2)), (0, .ref (ad 0)), (1, .int a1), (2, .int a2), (3, .int a3), (4, .int a4)]) hx hb dX9_lead_31 hl (by decide) rfl (fun ls hl => ?_)
  refine lv_aload hx hb dX9_lead_33 (lv_at hl 1 rfl) ?_
  refine lv_iload_n hx hb dX9_lead_35 rfl (lv_at hl 4 rfl) ?_
  refine lv_iload_n hx hb dX9_lead_36 rfl (lv_at hl 5 rfl) ?_
  refine lv_iconst (v := (1 : Int32)) hx hb dX9_lead_37 (by decide) ?_
  refine lv_iload hx hb dX9_lead_38 (lv_at hl 6 rfl) ?_
  refine lv_ishl hx hb dX9_lead_40 ?_
  refine T_callv hw (va_runU (own := "Leastreader") (As := [.int a2, .int a3, .int ((1 : Int32) <<< (a4 &&& 31))]) (rest := []) ⟨hx, hb, hml, hown, ht⟩ (c_X7_put_2 k2 hk2 μ5 H.size a2 a3 ((1 : Int32) <<< (a4 &&& 31)) h) (va_cwU (owner := "Leastreader$Table") 3 ht (G_U q_643 q_445 q_446 q_430 q_47 q_431) rfl rfl rfl rfl hd_1 ⟨Nat.le_of_ble_eq_true rfl, Nat.le_of_ble_eq_true rfl⟩) ⟨TB.blind, (T_recv hK hw (kd_of hk2 (by decide)) (ent_2 hk2) cl_2), TB.pre hK hN hw⟩ rfl rfl hl.1 rfl (lv_room (Nat.le_of_ble_eq_true rfl)) dX9_lead_41 ⟨Nat.le_of_ble_eq_true rfl, Nat.le_of_ble_eq_true rfl⟩) (fun μ9 H locs h hw => ?_)
  refine lv_aload_n hx hb dX9_lead_44 rfl (lv_at hl 2 rfl) ?_
  refine lv_iload hx hb dX9_lead_45 (lv_at hl 0 rfl) ?_
  refine P_calli (va_runS (own := "Leastreader") (As := [.int r6]) (rest := [.ref (ad 0)]) ⟨hx, hb, hml, hown, ht⟩ (c_J6_bitCount_0f7a4 r6 h) (va_cwS 1 ht (G_S q_651 q_564 q_63 q_565) rfl rfl rfl hd_33 ⟨Nat.le_of_ble_eq_true rfl, Nat.le_of_ble_eq_true rfl⟩) ⟨PM_blind, PM_pre⟩ rfl rfl hl.1 rfl (lv_room (Nat.le_of_ble_eq_true rfl)) dX9_lead_47 ⟨Nat.le_of_ble_eq_true rfl, Nat.le_of_ble_eq_true rfl⟩) (fun r10 h => ?_)
  refine T_calli hw (va_runV (own := "Leastreader") (As := [.int r10]) (rest := []) ⟨hx, hb, hml, hown, ht⟩ (c_X9_acted μ9 H.size r10 h) (cwV 1 ht (G_V q_624 q_626 q_13 q_46 q_627) rfl rfl rfl ⟨rfl, hd_3⟩ ⟨Nat.le_of_ble_eq_true rfl, Nat.le_of_ble_eq_true rfl⟩) ⟨TB.blind, (T_recv hK hw (kd_of rfl (by decide)) (ent_8 rfl) cl_8), TB.pre hK hN hw⟩ rfl rfl hl.1 rfl (lv_room (Nat.le_of_ble_eq_true rfl)) dX9_lead_50 ⟨Nat.le_of_ble_eq_true rfl, Nat.le_of_ble_eq_true rfl⟩) (fun r12 μ11 H locs h hw => ?_)
  exact hret H locs ls 53 4 24 _ _ hw h rfl (Nat.le_of_ble_eq_true rfl) (Nat.le_of_ble_eq_true rfl) dX9_lead_53
def wp_X9_mark (μ : TMem) (a1 : Int32) (a2 : Int32) (a3 : Int32) (a4 : Int32) (Q : Int32 → TMem → Prop) (X : String → TMem → Prop) : Prop :=
  wp_X9_machineAt μ a1 (fun (k2 : Nat) (μ1 : TMem) => wp_X9_checkState k2 μ1 a2 (fun (μ3 : TMem) => (a3 = 0 → (wp_X9_withOrWithout (μ3 k2 3) a2 a4 (fun (r5 : Int32) => (a3 = 0 → ((r5 = (μ3 k2 3) → (wp_X9_acted (tms μ3 k2 3 r5) (0 : Int32) (fun (r9 : Int32) (μ8 : TMem) => Q r9 μ8))) ∧ (¬ r5 = (μ3 k2 3) → (wp_X9_acted (tms μ3 k2 3 r5) (1 : Int32) (fun (r11 : Int32) (μ10 : TMem) => Q r11 μ10))))) ∧ (¬ a3 = 0 → ((r5 = (μ3 k2 3) → (wp_X9_acted (tms μ3 k2 2 r5) (0 : Int32) (fun (r14 : Int32) (μ13 : TMem) => Q r14 μ13))) ∧ (¬ r5 = (μ3 k2 3) → (wp_X9_acted (tms μ3 k2 2 r5) (1 : Int32) (fun (r16 : Int32) (μ15 : TMem) => Q r16 μ15)))))))) ∧ (¬ a3 = 0 → (wp_X9_withOrWithout (μ3 k2 2) a2 a4 (fun (r17 : Int32) => (a3 = 0 → ((r17 = (μ3 k2 2) → (wp_X9_acted (tms μ3 k2 3 r17) (0 : Int32) (fun (r21 : Int32) (μ20 : TMem) => Q r21 μ20))) ∧ (¬ r17 = (μ3 k2 2) → (wp_X9_acted (tms μ3 k2 3 r17) (1 : Int32) (fun (r23 : Int32) (μ22 : TMem) => Q r23 μ22))))) ∧ (¬ a3 = 0 → ((r17 = (μ3 k2 2) → (wp_X9_acted (tms μ3 k2 2 r17) (0 : Int32) (fun (r26 : Int32) (μ25 : TMem) => Q r26 μ25))) ∧ (¬ r17 = (μ3 k2 2) → (wp_X9_acted (tms μ3 k2 2 r17) (1 : Int32) (fun (r28 : Int32) (μ27 : TMem) => Q r28 μ27))))))))) X) X
set_option maxHeartbeats 4000000 in
set_option maxRecDepth 100000 in
theorem c_X9_mark {l : Launch} (hst : l.stackTraces = false) {D : va_G} {ad : Nat → Nat} {cI cM : ClassId}  (μ : TMem) (sz : Nat) (a1 : Int32) (a2 : Int32) (a3 : Int32) (a4 : Int32) {Q : Int32 → TMem → Prop} {X : String → TMem → Prop} (h : wp_X9_mark μ a1 a2 a3 a4 Q X) : XMi l yX9_mark (.code yX9_mark cX9_mark 8 (Option.some Jvm.ClassFile.FieldType.int)) 1 2 12 [.ref (ad 0), .int a1, .int a2, .int a3, .int a4] D ad cI cM sz μ Q X := by
  refine X_meti (by decide +kernel) (Nat.le_of_ble_eq_true rfl) ?_
  intro p e s m below meth c Qc ls hx hb hml hown ht hN hK hX htab hlocks hw hret hl
  have hl : lv_has ls 8 [(0, .ref (ad 0)), (1, .int a1), (2, .int a2), (3, .int a3), (4, .int a4)] := hl
  suffices hh : ∀ (H : Heap) (locs : List Loc), TW D ad cI cM s μ H locs → W p l e (RX 1 2 12) s m #[.ref (ad 0), .int a1, .int a2, .int a3, .int a4] below meth c H locs 0 0 (vx_MQ below Qc (vx_X (fun _ : TMem => True) (TEX D ad cI cM X) (TA ad s.heap.size)) #[.ref (ad 0), .int a1, .int a2, .int a3, .int a4] s 2 12 (TA ad s.heap.size)) (F0 m 0 ls []) from hh _ _ hw
  intro H locs hw
  change wp_X9_machineAt μ a1 (fun (k2 : Nat) (μ1 : TMem) => wp_X9_checkState k2 μ1 a2 (fun (μ3 : TMem) => (a3 = 0 → (wp_X9_withOrWithout (μ3 k2 3) a2 a4 (fun (r5 : Int32) => (a3 = 0 → ((r5 = (μ3 k2 3) → (wp_X9_acted (tms μ3 k2 3 r5) (0 : Int32) (fun (r9 : Int32) (μ8 : TMem) => Q r9 μ8))) ∧ (¬ r5 = (μ3 k2 3) → (wp_X9_acted (tms μ3 k2 3 r5) (1 : Int32) (fun (r11 : Int32) (μ10 : TMem) => Q r11 μ10))))) ∧ (¬ a3 = 0 → ((r5 = (μ3 k2 3) → (wp_X9_acted (tms μ3 k2 2 r5) (0 : Int32) (fun (r14 : Int32) (μ13 : TMem) => Q r14 μ13))) ∧ (¬ r5 = (μ3 k2 3) → (wp_X9_acted (tms μ3 k2 2 r5) (1 : Int32) (fun (r16 : Int32) (μ15 : TMem) => Q r16 μ15)))))))) ∧ (¬ a3 = 0 → (wp_X9_withOrWithout (μ3 k2 2) a2 a4 (fun (r17 : Int32) => (a3 = 0 → ((r17 = (μ3 k2 2) → (wp_X9_acted (tms μ3 k2 3 r17) (0 : Int32) (fun (r21 : Int32) (μ20 : TMem) => Q r21 μ20))) ∧ (¬ r17 = (μ3 k2 2) → (wp_X9_acted (tms μ3 k2 3 r17) (1 : Int32) (fun (r23 : Int32) (μ22 : TMem) => Q r23 μ22))))) ∧ (¬ a3 = 0 → ((r17 = (μ3 k2 2) → (wp_X9_acted (tms μ3 k2 2 r17) (0 : Int32) (fun (r26 : Int32) (μ25 : TMem) => Q r26 μ25))) ∧ (¬ r17 = (μ3 k2 2) → (wp_X9_acted (tms μ3 k2 2 r17) (1 : Int32) (fun (r28 : Int32) (μ27 : TMem) => Q r28 μ27))))))))) X) X at h
  refine lv_aload_n hx hb dX9_mark_0 rfl (lv_at hl 0 rfl) ?_
  refine lv_iload_n hx hb dX9_mark_1 rfl (lv_at hl 1 rfl) ?_
  refine X_callo hw htab hlocks (c1 := 1) (n1 := 6) rfl rfl (Nat.le_of_ble_eq_true rfl) (Nat.le_of_ble_eq_true rfl) (vx_runV (own := "Leastreader") (As := [.int a1]) (rest := []) ⟨hx, hb, hml, hown, ht⟩ (c_X9_machineAt hst μ H.size a1 h) (cwV 1 ht (G_V q_314 q_316 q_0 q_46 q_317) rfl rfl rfl ⟨rfl, hd_53⟩ ⟨Nat.le_of_ble_eq_true rfl, Nat.le_of_ble_eq_true rfl⟩) ⟨TBX.blind, (T_recv hK hw (kd_of rfl (by decide)) (ent_8 rfl) cl_8), TBX.pre hK hN hX hw⟩ rfl rfl hl.1 rfl (lv_room (Nat.le_of_ble_eq_true rfl)) dX9_mark_2 ⟨Nat.le_of_ble_eq_true rfl, Nat.le_of_ble_eq_true rfl⟩) (fun k2 μ1 H locs hk2 h hw => ?_)
  refine lv_astore (lv' := [(5, .ref (ad k2)), (0, .ref (ad 0)), (1, .int a1), (2, .int a2), (3, .int a3), (4, .int a4)]) hx hb dX9_mark_5 hl (by decide) rfl (fun ls hl => ?_)
  refine lv_aload hx hb dX9_mark_7 (lv_at hl 0 rfl) ?_
  refine lv_iload_n hx hb dX9_mark_9 rfl (lv_at hl 3 rfl) ?_
  refine X_callv hw htab hlocks (c1 := 2) (n1 := 12) rfl rfl (Nat.le_of_ble_eq_true rfl) (Nat.le_of_ble_eq_true rfl) (vx_runS (own := "Leastreader") (As := [.ref (ad k2), .int a2]) (rest := []) ⟨hx, hb, hml, hown, ht⟩ (c_X9_checkState hst k2 hk2 μ1 H.size a2 h) (va_cwS 2 ht (G_S q_635 q_636 q_46 q_637) rfl rfl rfl hd_56 ⟨Nat.le_of_ble_eq_true rfl, Nat.le_of_ble_eq_true rfl⟩) ⟨TBX.blind, TBX.pre hK hN hX hw⟩ rfl rfl hl.1 rfl (lv_room (Nat.le_of_ble_eq_true rfl)) dX9_mark_10 ⟨Nat.le_of_ble_eq_true rfl, Nat.le_of_ble_eq_true rfl⟩) (fun μ3 H locs h hw => ?_)
  refine lv_iload_n hx hb dX9_mark_13 rfl (lv_at hl 4 rfl) ?_
  refine lv_if_eq (tgt := 25) hx hb dX9_mark_14 (by decide) (fun c4 => ?_) (fun c4 => ?_)
  · have h := h.1 c4
    refine lv_aload hx hb dX9_mark_25 (lv_at hl 0 rfl) ?_
    refine gf_X9_115 hx hb ht hN hown hK hw hk2 dX9_mark_27 ?_
    refine lv_istore (lv' := [(6, .int (μ3 k2 3)), (5, .ref (ad k2)), (0, .ref (ad 0)), (1, .int a1), (2, .int a2), (3, .int a3), (4, .int a4)]) hx hb dX9_mark_30 hl (by decide) rfl (fun ls hl => ?_)
    refine lv_iload hx hb dX9_mark_32 (lv_at hl 0 rfl) ?_
    refine lv_iload_n hx hb dX9_mark_34 rfl (lv_at hl 4 rfl) ?_
    refine lv_iload hx hb dX9_mark_35 (lv_at hl 6 rfl) ?_
    refine P_calli (va_runS (own := "Leastreader") (As := [.int (μ3 k2 3), .int a2, .int a4]) (rest := []) ⟨hx, hb, hml, hown, ht⟩ (c_X9_withOrWithout (μ3 k2 3) a2 a4 h) (va_cwS 3 ht (G_S q_642 q_403 q_46 q_404) rfl rfl rfl hd_9 ⟨Nat.le_of_ble_eq_true rfl, Nat.le_of_ble_eq_true rfl⟩) ⟨PM_blind, PM_pre⟩ rfl rfl hl.1 rfl (lv_room (Nat.le_of_ble_eq_true rfl)) dX9_mark_37 ⟨Nat.le_of_ble_eq_true rfl, Nat.le_of_ble_eq_true rfl⟩) (fun r5 h => ?_)
    refine lv_istore (lv' := [(7, .int r5), (6, .int (μ3 k2 3)), (5, .ref (ad k2)), (0, .ref (ad 0)), (1, .int a1), (2, .int a2), (3, .int a3), (4, .int a4)]) hx hb dX9_mark_40 hl (by decide) rfl (fun ls hl => ?_)
    refine lv_iload_n hx hb dX9_mark_42 rfl (lv_at hl 6 rfl) ?_
    refine lv_if_eq (tgt := 56) hx hb dX9_mark_43 (by decide) (fun c6 => ?_) (fun c6 => ?_)
    · have h := h.1 c6
      refine lv_aload hx hb dX9_mark_56 (lv_at hl 2 rfl) ?_
      refine lv_iload hx hb dX9_mark_58 (lv_at hl 0 rfl) ?_
      refine pgf_X9_115 hx hb ht hN hown hK hw hk2 dX9_mark_60 (fun H locs hw => ?_)
      refine lv_aload_n hx hb dX9_mark_63 rfl (lv_at hl 3 rfl) ?_
      refine lv_iload hx hb dX9_mark_64 (lv_at hl 0 rfl) ?_
      refine lv_iload hx hb dX9_mark_66 (lv_at hl 1 rfl) ?_
      refine lv_icmp_eq (tgt := 75) hx hb dX9_mark_68 (by decide) (fun c7 => ?_) (fun c7 => ?_)
      · have h := h.1 c7
        refine lv_iconst (v := (0 : Int32)) hx hb dX9_mark_75 (by decide) ?_
        refine T_calli hw (va_runV (own := "Leastreader") (As := [.int (0 : Int32)]) (rest := []) ⟨hx, hb, hml, hown, ht⟩ (c_X9_acted (tms μ3 k2 3 r5) H.size (0 : Int32) h) (cwV 1 ht (G_V q_624 q_626 q_13 q_46 q_627) rfl rfl rfl ⟨rfl, hd_3⟩ ⟨Nat.le_of_ble_eq_true rfl, Nat.le_of_ble_eq_true rfl⟩) ⟨TB.blind, (T_recv hK hw (kd_of rfl (by decide)) (ent_8 rfl) cl_8), TB.pre hK hN hw⟩ rfl rfl hl.1 rfl (lv_room (Nat.le_of_ble_eq_true rfl)) dX9_mark_76 ⟨Nat.le_of_ble_eq_true rfl, Nat.le_of_ble_eq_true rfl⟩) (fun r9 μ8 H locs h hw => ?_)
        exact hret H locs ls 79 2 12 _ _ hw h rfl (Nat.le_of_ble_eq_true rfl) (Nat.le_of_ble_eq_true rfl) dX9_mark_79
      have h := h.2 c7
      refine lv_iconst (v := (1 : Int32)) hx hb dX9_mark_71 (by decide) ?_
      refine lv_goto (tgt := 76) hx hb dX9_mark_72 (by decide) ?_
      refine T_calli hw (va_runV (own := "Leastreader") (As := [.int (1 : Int32)]) (rest := []) ⟨hx, hb, hml, hown, ht⟩ (c_X9_acted (tms μ3 k2 3 r5) H.size (1 : Int32) h) (cwV 1 ht (G_V q_624 q_626 q_13 q_46 q_627) rfl rfl rfl ⟨rfl, hd_3⟩ ⟨Nat.le_of_ble_eq_true rfl, Nat.le_of_ble_eq_true rfl⟩) ⟨TB.blind, (T_recv hK hw (kd_of rfl (by decide)) (ent_8 rfl) cl_8), TB.pre hK hN hw⟩ rfl rfl hl.1 rfl (lv_room (Nat.le_of_ble_eq_true rfl)) dX9_mark_76 ⟨Nat.le_of_ble_eq_true rfl, Nat.le_of_ble_eq_true rfl⟩) (fun r11 μ10 H locs h hw => ?_)
      exact hret H locs ls 79 2 12 _ _ hw h rfl (Nat.le_of_ble_eq_true rfl) (Nat.le_of_ble_eq_true rfl) dX9_mark_79
    have h := h.2 c6
    refine lv_aload hx hb dX9_mark_46 (lv_at hl 2 rfl) ?_
    refine lv_iload hx hb dX9_mark_48 (lv_at hl 0 rfl) ?_
    refine pgf_X9_111 hx hb ht hown hK hw hk2 dX9_mark_50 (fun H locs hw => ?_)
    refine lv_goto (tgt := 63) hx hb dX9_mark_53 (by decide) ?_
    refine lv_aload_n hx hb dX9_mark_63 rfl (lv_at hl 3 rfl) ?_
    refine lv_iload hx hb dX9_mark_64 (lv_at hl 0 rfl) ?_
    refine lv_iload hx hb dX9_mark_66 (lv_at hl 1 rfl) ?_
    refine lv_icmp_eq (tgt := 75) hx hb dX9_mark_68 (by decide) (fun c12 => ?_) (fun c12 => ?_)
    · have h := h.1 c12
      refine lv_iconst (v := (0 : Int32)) hx hb dX9_mark_75 (by decide) ?_
      refine T_calli hw (va_runV (own := "Leastreader") (As := [.int (0 : Int32)]) (rest := []) ⟨hx, hb, hml, hown, ht⟩ (c_X9_acted (tms μ3 k2 2 r5) H.size (0 : Int32) h) (cwV 1 ht (G_V q_624 q_626 q_13 q_46 q_627) rfl rfl rfl ⟨rfl, hd_3⟩ ⟨Nat.le_of_ble_eq_true rfl, Nat.le_of_ble_eq_true rfl⟩) ⟨TB.blind, (T_recv hK hw (kd_of rfl (by decide)) (ent_8 rfl) cl_8), TB.pre hK hN hw⟩ rfl rfl hl.1 rfl (lv_room (Nat.le_of_ble_eq_true rfl)) dX9_mark_76 ⟨Nat.le_of_ble_eq_true rfl, Nat.le_of_ble_eq_true rfl⟩) (fun r14 μ13 H locs h hw => ?_)
      exact hret H locs ls 79 2 12 _ _ hw h rfl (Nat.le_of_ble_eq_true rfl) (Nat.le_of_ble_eq_true rfl) dX9_mark_79
    have h := h.2 c12
    refine lv_iconst (v := (1 : Int32)) hx hb dX9_mark_71 (by decide) ?_
    refine lv_goto (tgt := 76) hx hb dX9_mark_72 (by decide) ?_
    refine T_calli hw (va_runV (own := "Leastreader") (As := [.int (1 : Int32)]) (rest := []) ⟨hx, hb, hml, hown, ht⟩ (c_X9_acted (tms μ3 k2 2 r5) H.size (1 : Int32) h) (cwV 1 ht (G_V q_624 q_626 q_13 q_46 q_627) rfl rfl rfl ⟨rfl, hd_3⟩ ⟨Nat.le_of_ble_eq_true rfl, Nat.le_of_ble_eq_true rfl⟩) ⟨TB.blind, (T_recv hK hw (kd_of rfl (by decide)) (ent_8 rfl) cl_8), TB.pre hK hN hw⟩ rfl rfl hl.1 rfl (lv_room (Nat.le_of_ble_eq_true rfl)) dX9_mark_76 ⟨Nat.le_of_ble_eq_true rfl, Nat.le_of_ble_eq_true rfl⟩) (fun r16 μ15 H locs h hw => ?_)
    exact hret H locs ls 79 2 12 _ _ hw h rfl (Nat.le_of_ble_eq_true rfl) (Nat.le_of_ble_eq_true rfl) dX9_mark_79
  have h := h.2 c4
  refine lv_aload hx hb dX9_mark_17 (lv_at hl 0 rfl) ?_
  refine gf_X9_111 hx hb ht hown hK hw hk2 dX9_mark_19 ?_
  refine lv_goto (tgt := 30) hx hb dX9_mark_22 (by decide) ?_
  refine lv_istore (lv' := [(6, .int (μ3 k2 2)), (5, .ref (ad k2)), (0, .ref (ad 0)), (1, .int a1), (2, .int a2), (3, .int a3), (4, .int a4)]) hx hb dX9_mark_30 hl (by decide) rfl (fun ls hl => ?_)
  refine lv_iload hx hb dX9_mark_32 (lv_at hl 0 rfl) ?_
  refine lv_iload_n hx hb dX9_mark_34 rfl (lv_at hl 4 rfl) ?_
  refine lv_iload hx hb dX9_mark_35 (lv_at hl 6 rfl) ?_
  refine P_calli (va_runS (own := "Leastreader") (As := [.int (μ3 k2 2), .int a2, .int a4]) (rest := []) ⟨hx, hb, hml, hown, ht⟩ (c_X9_withOrWithout (μ3 k2 2) a2 a4 h) (va_cwS 3 ht (G_S q_642 q_403 q_46 q_404) rfl rfl rfl hd_9 ⟨Nat.le_of_ble_eq_true rfl, Nat.le_of_ble_eq_true rfl⟩) ⟨PM_blind, PM_pre⟩ rfl rfl hl.1 rfl (lv_room (Nat.le_of_ble_eq_true rfl)) dX9_mark_37 ⟨Nat.le_of_ble_eq_true rfl, Nat.le_of_ble_eq_true rfl⟩) (fun r17 h => ?_)
  refine lv_istore (lv' := [(7, .int r17), (6, .int (μ3 k2 2)), (5, .ref (ad k2)), (0, .ref (ad 0)), (1, .int a1), (2, .int a2), (3, .int a3), (4, .int a4)]) hx hb dX9_mark_40 hl (by decide) rfl (fun ls hl => ?_)
  refine lv_iload_n hx hb dX9_mark_42 rfl (lv_at hl 6 rfl) ?_
  refine lv_if_eq (tgt := 56) hx hb dX9_mark_43 (by decide) (fun c18 => ?_) (fun c18 => ?_)
  · have h := h.1 c18
    refine lv_aload hx hb dX9_mark_56 (lv_at hl 2 rfl) ?_
    refine lv_iload hx hb dX9_mark_58 (lv_at hl 0 rfl) ?_
    refine pgf_X9_115 hx hb ht hN hown hK hw hk2 dX9_mark_60 (fun H locs hw => ?_)
    refine lv_aload_n hx hb dX9_mark_63 rfl (lv_at hl 3 rfl) ?_
    refine lv_iload hx hb dX9_mark_64 (lv_at hl 0 rfl) ?_
    refine lv_iload hx hb dX9_mark_66 (lv_at hl 1 rfl) ?_
    refine lv_icmp_eq (tgt := 75) hx hb dX9_mark_68 (by decide) (fun c19 => ?_) (fun c19 => ?_)
    · have h := h.1 c19
      refine lv_iconst (v := (0 : Int32)) hx hb dX9_mark_75 (by decide) ?_
      refine T_calli hw (va_runV (own := "Leastreader") (As := [.int (0 : Int32)]) (rest := []) ⟨hx, hb, hml, hown, ht⟩ (c_X9_acted (tms μ3 k2 3 r17) H.size (0 : Int32) h) (cwV 1 ht (G_V q_624 q_626 q_13 q_46 q_627) rfl rfl rfl ⟨rfl, hd_3⟩ ⟨Nat.le_of_ble_eq_true rfl, Nat.le_of_ble_eq_true rfl⟩) ⟨TB.blind, (T_recv hK hw (kd_of rfl (by decide)) (ent_8 rfl) cl_8), TB.pre hK hN hw⟩ rfl rfl hl.1 rfl (lv_room (Nat.le_of_ble_eq_true rfl)) dX9_mark_76 ⟨Nat.le_of_ble_eq_true rfl, Nat.le_of_ble_eq_true rfl⟩) (fun r21 μ20 H locs h hw => ?_)
      exact hret H locs ls 79 2 12 _ _ hw h rfl (Nat.le_of_ble_eq_true rfl) (Nat.le_of_ble_eq_true rfl) dX9_mark_79
    have h := h.2 c19
    refine lv_iconst (v := (1 : Int32)) hx hb dX9_mark_71 (by decide) ?_
    refine lv_goto (tgt := 76) hx hb dX9_mark_72 (by decide) ?_
    refine T_calli hw (va_runV (own := "Leastreader") (As := [.int (1 : Int32)]) (rest := []) ⟨hx, hb, hml, hown, ht⟩ (c_X9_acted (tms μ3 k2 3 r17) H.size (1 : Int32) h) (cwV 1 ht (G_V q_624 q_626 q_13 q_46 q_627) rfl rfl rfl ⟨rfl, hd_3⟩ ⟨Nat.le_of_ble_eq_true rfl, Nat.le_of_ble_eq_true rfl⟩) ⟨TB.blind, (T_recv hK hw (kd_of rfl (by decide)) (ent_8 rfl) cl_8), TB.pre hK hN hw⟩ rfl rfl hl.1 rfl (lv_room (Nat.le_of_ble_eq_true rfl)) dX9_mark_76 ⟨Nat.le_of_ble_eq_true rfl, Nat.le_of_ble_eq_true rfl⟩) (fun r23 μ22 H locs h hw => ?_)
    exact hret H locs ls 79 2 12 _ _ hw h rfl (Nat.le_of_ble_eq_true rfl) (Nat.le_of_ble_eq_true rfl) dX9_mark_79
  have h := h.2 c18
  refine lv_aload hx hb dX9_mark_46 (lv_at hl 2 rfl) ?_
  refine lv_iload hx hb dX9_mark_48 (lv_at hl 0 rfl) ?_
  refine pgf_X9_111 hx hb ht hown hK hw hk2 dX9_mark_50 (fun H locs hw => ?_)
  refine lv_goto (tgt := 63) hx hb dX9_mark_53 (by decide) ?_
  refine lv_aload_n hx hb dX9_mark_63 rfl (lv_at hl 3 rfl) ?_
  refine lv_iload hx hb dX9_mark_64 (lv_at hl 0 rfl) ?_
  refine lv_iload hx hb dX9_mark_66 (lv_at hl 1 rfl) ?_
  refine lv_icmp_eq (tgt := 75) hx hb dX9_mark_68 (by decide) (fun c24 => ?_) (fun c24 => ?_)
  · have h := h.1 c24
    refine lv_iconst (v := (0 : Int32)) hx hb dX9_mark_75 (by decide) ?_
    refine T_calli hw (va_runV (own := "Leastreader") (As := [.int (0 : Int32)]) (rest := []) ⟨hx, hb, hml, hown, ht⟩ (c_X9_acted (tms μ3 k2 2 r17) H.size (0 : Int32) h) (cwV 1 ht (G_V q_624 q_626 q_13 q_46 q_627) rfl rfl rfl ⟨rfl, hd_3⟩ ⟨Nat.le_of_ble_eq_true rfl, Nat.le_of_ble_eq_true rfl⟩) ⟨TB.blind, (T_recv hK hw (kd_of rfl (by decide)) (ent_8 rfl) cl_8), TB.pre hK hN hw⟩ rfl rfl hl.1 rfl (lv_room (Nat.le_of_ble_eq_true rfl)) dX9_mark_76 ⟨Nat.le_of_ble_eq_true rfl, Nat.le_of_ble_eq_true rfl⟩) (fun r26 μ25 H locs h hw => ?_)
    exact hret H locs ls 79 2 12 _ _ hw h rfl (Nat.le_of_ble_eq_true rfl) (Nat.le_of_ble_eq_true rfl) dX9_mark_79
  have h := h.2 c24
  refine lv_iconst (v := (1 : Int32)) hx hb dX9_mark_71 (by decide) ?_
  refine lv_goto (tgt := 76) hx hb dX9_mark_72 (by decide) ?_
  refine T_calli hw (va_runV (own := "Leastreader") (As := [.int (1 : Int32)]) (rest := []) ⟨hx, hb, hml, hown, ht⟩ (c_X9_acted (tms μ3 k2 2 r17) H.size (1 : Int32) h) (cwV 1 ht (G_V q_624 q_626 q_13 q_46 q_627) rfl rfl rfl ⟨rfl, hd_3⟩ ⟨Nat.le_of_ble_eq_true rfl, Nat.le_of_ble_eq_true rfl⟩) ⟨TB.blind, (T_recv hK hw (kd_of rfl (by decide)) (ent_8 rfl) cl_8), TB.pre hK hN hw⟩ rfl rfl hl.1 rfl (lv_room (Nat.le_of_ble_eq_true rfl)) dX9_mark_76 ⟨Nat.le_of_ble_eq_true rfl, Nat.le_of_ble_eq_true rfl⟩) (fun r28 μ27 H locs h hw => ?_)
  exact hret H locs ls 79 2 12 _ _ hw h rfl (Nat.le_of_ble_eq_true rfl) (Nat.le_of_ble_eq_true rfl) dX9_mark_79
