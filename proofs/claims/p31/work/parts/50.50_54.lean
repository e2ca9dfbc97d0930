/-! part 50.m31 -/
section
def wp_X9_machineAt (μ : TMem) (a1 : Int32) (Q : Nat → TMem → Prop) (X : String → TMem → Prop) : Prop :=
  (a1 < 0 → (X "java/lang/IndexOutOfBoundsException" μ)) ∧ (¬ a1 < 0 → ((a1 < (4 : Int32) → (vp_in a1 4 ∧ (Q (2 + 2 * a1.toNatClampNeg) μ))) ∧ (¬ a1 < (4 : Int32) → (X "java/lang/IndexOutOfBoundsException" μ))))
set_option maxHeartbeats 4000000 in
set_option maxRecDepth 100000 in
theorem c_X9_machineAt {l : Launch} (hst : l.stackTraces = false) {D : va_G} {ad : Nat → Nat} {cI cM : ClassId}  (μ : TMem) (sz : Nat) (a1 : Int32) {Q : Nat → TMem → Prop} {X : String → TMem → Prop} (h : wp_X9_machineAt μ a1 Q X) : XMo l yX9_machineAt (.code yX9_machineAt cX9_machineAt 2 (Option.some (Jvm.ClassFile.FieldType.object "Leastreader$Machine"))) 0 1 6 [.ref (ad 0), .int a1] D ad cI cM sz μ Q X := by
  refine X_meto (by decide +kernel) (Nat.le_of_ble_eq_true rfl) ?_
  intro p e s m below meth c Qc ls hx hb hml hown ht hN hK hX htab hlocks hw hret hl
  have hl : lv_has ls 2 [(0, .ref (ad 0)), (1, .int a1)] := hl
  suffices hh : ∀ (H : Heap) (locs : List Loc), TW D ad cI cM s μ H locs → W p l e (RX 0 1 6) s m #[.ref (ad 0), .int a1] below meth c H locs 0 0 (vx_MQ below Qc (vx_X (fun _ : TMem => True) (TEX D ad cI cM X) (TA ad s.heap.size)) #[.ref (ad 0), .int a1] s 1 6 (TA ad s.heap.size)) (F0 m 0 ls []) from hh _ _ hw
  intro H locs hw
  change (a1 < 0 → (X "java/lang/IndexOutOfBoundsException" μ)) ∧ (¬ a1 < 0 → ((a1 < (4 : Int32) → (vp_in a1 4 ∧ (Q (2 + 2 * a1.toNatClampNeg) μ))) ∧ (¬ a1 < (4 : Int32) → (X "java/lang/IndexOutOfBoundsException" μ)))) at h
  refine lv_iload_n hx hb dX9_machineAt_0 rfl (lv_at hl 1 rfl) ?_
  refine lv_if_lt (tgt := 13) hx hb dX9_machineAt_1 (by decide) (fun c1 => ?_) (fun c1 => ?_)
  · have h := h.1 c1
    exact X_throwW (R := RX 0 1 6) (cells := 0) (slots := 0) (fc := 1) (fn := 6) (cls := "java/lang/IndexOutOfBoundsException") hx hb hst (hl.1.trans hml.symm) hown (by decide +kernel) (ht _ q_318) (ht _ q_61) (sr_RX9_274 hX.2.2.2) (hat_0 ht hX.2.2.1) hgd_0 hX hw htab hlocks dX9_machineAt_13 dX9_machineAt_16 dX9_machineAt_17 dX9_machineAt_20 dX9_machineAt_23 (Nat.le_of_ble_eq_true rfl) (Nat.le_of_ble_eq_true rfl) (Nat.le_of_ble_eq_true rfl) (Nat.le_of_ble_eq_true rfl) (Nat.le_of_ble_eq_true rfl) (Nat.le_of_ble_eq_true rfl) h
  have h := h.2 c1
  refine lv_iload_n hx hb dX9_machineAt_4 rfl (lv_at hl 1 rfl) ?_
  refine lv_aload_n hx hb dX9_machineAt_5 rfl (lv_at hl 0 rfl) ?_
  refine gf_X9_11 hx hb ht hown hK hw rfl dX9_machineAt_6 ?_
  refine t_mlen hx hb hK hw dX9_machineAt_9 ?_
  refine lv_icmp_lt (tgt := 24) hx hb dX9_machineAt_10 (by decide) (fun c2 => ?_) (fun c2 => ?_)
  · have h := h.1 c2
    refine lv_aload_n hx hb dX9_machineAt_24 rfl (lv_at hl 0 rfl) ?_
    refine gf_X9_11 hx hb ht hown hK hw rfl dX9_machineAt_25 ?_
    refine lv_iload_n hx hb dX9_machineAt_28 rfl (lv_at hl 1 rfl) ?_
    obtain ⟨z3, h⟩ := h
    refine t_ald hx hb hK hw z3 dX9_machineAt_29 ?_
    exact hret H locs ls 30 0 0 _ _ hw h (kd_ma _ (vp_lt z3)) (Nat.le_of_ble_eq_true rfl) (Nat.le_of_ble_eq_true rfl) dX9_machineAt_30
  have h := h.2 c2
  exact X_throwW (R := RX 0 1 6) (cells := 0) (slots := 0) (fc := 1) (fn := 6) (cls := "java/lang/IndexOutOfBoundsException") hx hb hst (hl.1.trans hml.symm) hown (by decide +kernel) (ht _ q_318) (ht _ q_61) (sr_RX9_274 hX.2.2.2) (hat_0 ht hX.2.2.1) hgd_0 hX hw htab hlocks dX9_machineAt_13 dX9_machineAt_16 dX9_machineAt_17 dX9_machineAt_20 dX9_machineAt_23 (Nat.le_of_ble_eq_true rfl) (Nat.le_of_ble_eq_true rfl) (Nat.le_of_ble_eq_true rfl) (Nat.le_of_ble_eq_true rfl) (Nat.le_of_ble_eq_true rfl) (Nat.le_of_ble_eq_true rfl) h
def wp_X9_checkRange (μ : TMem) (a0 : Int32) (a1 : Int32) (a2 : Int32) (Q : TMem → Prop) (X : String → TMem → Prop) : Prop :=
  (a0 < a1 → (X "java/lang/IllegalArgumentException" μ)) ∧ (¬ a0 < a1 → ((a0 ≤ a2 → (Q μ)) ∧ (¬ a0 ≤ a2 → (X "java/lang/IllegalArgumentException" μ))))
set_option maxHeartbeats 4000000 in
set_option maxRecDepth 100000 in
theorem c_X9_checkRange {l : Launch} (hst : l.stackTraces = false) {D : va_G} {ad : Nat → Nat} {cI cM : ClassId}  (μ : TMem) (sz : Nat) (a0 : Int32) (a1 : Int32) (a2 : Int32) {Q : TMem → Prop} {X : String → TMem → Prop} (h : wp_X9_checkRange μ a0 a1 a2 Q X) : XMv l yX9_checkRange (.code yX9_checkRange cX9_checkRange 3 (Option.none : Option Jvm.ClassFile.FieldType)) 0 1 6 [.int a0, .int a1, .int a2] D ad cI cM sz μ Q X := by
  refine X_metv (by decide +kernel) (Nat.le_of_ble_eq_true rfl) ?_
  intro p e s m below meth c Qc ls hx hb hml hown ht hN hK hX htab hlocks hw hret hl
  have hl : lv_has ls 3 [(0, .int a0), (1, .int a1), (2, .int a2)] := hl
  suffices hh : ∀ (H : Heap) (locs : List Loc), TW D ad cI cM s μ H locs → W p l e (RX 0 1 6) s m #[.int a0, .int a1, .int a2] below meth c H locs 0 0 (vx_MQ below Qc (vx_X (fun _ : TMem => True) (TEX D ad cI cM X) (TA ad s.heap.size)) #[.int a0, .int a1, .int a2] s 1 6 (TA ad s.heap.size)) (F0 m 0 ls []) from hh _ _ hw
  intro H locs hw
  change (a0 < a1 → (X "java/lang/IllegalArgumentException" μ)) ∧ (¬ a0 < a1 → ((a0 ≤ a2 → (Q μ)) ∧ (¬ a0 ≤ a2 → (X "java/lang/IllegalArgumentException" μ)))) at h
  refine lv_iload_n hx hb dX9_checkRange_0 rfl (lv_at hl 0 rfl) ?_
  refine lv_iload_n hx hb dX9_checkRange_1 rfl (lv_at hl 1 rfl) ?_
  refine lv_icmp_lt (tgt := 10) hx hb dX9_checkRange_2 (by decide) (fun c1 => ?_) (fun c1 => ?_)
  · have h := h.1 c1
    exact X_throwW (R := RX 0 1 6) (cells := 0) (slots := 0) (fc := 1) (fn := 6) (cls := "java/lang/IllegalArgumentException") hx hb hst (hl.1.trans hml.symm) hown (by decide +kernel) (ht _ q_600) (ht _ q_62) (sr_RX9_282 hX.2.2.2) (hat_1 ht hX.2.2.1) hgd_1 hX hw htab hlocks dX9_checkRange_10 dX9_checkRange_13 dX9_checkRange_14 dX9_checkRange_17 dX9_checkRange_20 (Nat.le_of_ble_eq_true rfl) (Nat.le_of_ble_eq_true rfl) (Nat.le_of_ble_eq_true rfl) (Nat.le_of_ble_eq_true rfl) (Nat.le_of_ble_eq_true rfl) (Nat.le_of_ble_eq_true rfl) h
  have h := h.2 c1
  refine lv_iload_n hx hb dX9_checkRange_5 rfl (lv_at hl 0 rfl) ?_
  refine lv_iload_n hx hb dX9_checkRange_6 rfl (lv_at hl 2 rfl) ?_
  refine lv_icmp_le (tgt := 21) hx hb dX9_checkRange_7 (by decide) (fun c2 => ?_) (fun c2 => ?_)
  · have h := h.1 c2
    exact hret H locs ls 21 0 0 _ hw h (Nat.le_of_ble_eq_true rfl) (Nat.le_of_ble_eq_true rfl) dX9_checkRange_21
  have h := h.2 c2
  exact X_throwW (R := RX 0 1 6) (cells := 0) (slots := 0) (fc := 1) (fn := 6) (cls := "java/lang/IllegalArgumentException") hx hb hst (hl.1.trans hml.symm) hown (by decide +kernel) (ht _ q_600) (ht _ q_62) (sr_RX9_282 hX.2.2.2) (hat_1 ht hX.2.2.1) hgd_1 hX hw htab hlocks dX9_checkRange_10 dX9_checkRange_13 dX9_checkRange_14 dX9_checkRange_17 dX9_checkRange_20 (Nat.le_of_ble_eq_true rfl) (Nat.le_of_ble_eq_true rfl) (Nat.le_of_ble_eq_true rfl) (Nat.le_of_ble_eq_true rfl) (Nat.le_of_ble_eq_true rfl) (Nat.le_of_ble_eq_true rfl) h
def wp_X9_begin (μ : TMem) (a1 : Int32) (a2 : Int32) (Q : Int32 → TMem → Prop) (X : String → TMem → Prop) : Prop :=
  wp_X9_machineAt μ a1 (fun (k2 : Nat) (μ1 : TMem) => wp_X9_checkRange μ1 a2 (1 : Int32) (7 : Int32) (fun (μ3 : TMem) => wp_X2_countArrows k2 μ3 (fun (r4 : Int32) => wp_X2_clear k2 μ3 a2 (fun (μ7 : TMem) => wp_X9_acted μ7 r4 (fun (r9 : Int32) (μ8 : TMem) => Q r9 μ8)))) X) X
set_option maxHeartbeats 4000000 in
set_option maxRecDepth 100000 in
theorem c_X9_begin {l : Launch} (hst : l.stackTraces = false) {D : va_G} {ad : Nat → Nat} {cI cM : ClassId}  (μ : TMem) (sz : Nat) (a1 : Int32) (a2 : Int32) {Q : Int32 → TMem → Prop} {X : String → TMem → Prop} (h : wp_X9_begin μ a1 a2 Q X) : XMi l yX9_begin (.code yX9_begin cX9_begin 5 (Option.some Jvm.ClassFile.FieldType.int)) 3 2 12 [.ref (ad 0), .int a1, .int a2] D ad cI cM sz μ Q X := by
  refine X_meti (by decide +kernel) (Nat.le_of_ble_eq_true rfl) ?_
  intro p e s m below meth c Qc ls hx hb hml hown ht hN hK hX htab hlocks hw hret hl
  have hl : lv_has ls 5 [(0, .ref (ad 0)), (1, .int a1), (2, .int a2)] := hl
  suffices hh : ∀ (H : Heap) (locs : List Loc), TW D ad cI cM s μ H locs → W p l e (RX 3 2 12) s m #[.ref (ad 0), .int a1, .int a2] below meth c H locs 0 0 (vx_MQ below Qc (vx_X (fun _ : TMem => True) (TEX D ad cI cM X) (TA ad s.heap.size)) #[.ref (ad 0), .int a1, .int a2] s 2 12 (TA ad s.heap.size)) (F0 m 0 ls []) from hh _ _ hw
  intro H locs hw
  change wp_X9_machineAt μ a1 (fun (k2 : Nat) (μ1 : TMem) => wp_X9_checkRange μ1 a2 (1 : Int32) (7 : Int32) (fun (μ3 : TMem) => wp_X2_countArrows k2 μ3 (fun (r4 : Int32) => wp_X2_clear k2 μ3 a2 (fun (μ7 : TMem) => wp_X9_acted μ7 r4 (fun (r9 : Int32) (μ8 : TMem) => Q r9 μ8)))) X) X at h
  refine lv_aload_n hx hb dX9_begin_0 rfl (lv_at hl 0 rfl) ?_
  refine lv_iload_n hx hb dX9_begin_1 rfl (lv_at hl 1 rfl) ?_
  refine X_callo hw htab hlocks (c1 := 1) (n1 := 6) rfl rfl (Nat.le_of_ble_eq_true rfl) (Nat.le_of_ble_eq_true rfl) (vx_runV (own := "Leastreader") (As := [.int a1]) (rest := []) ⟨hx, hb, hml, hown, ht⟩ (c_X9_machineAt hst μ H.size a1 h) (cwV 1 ht (G_V q_314 q_316 q_0 q_46 q_317) rfl rfl rfl ⟨rfl, hd_53⟩ ⟨Nat.le_of_ble_eq_true rfl, Nat.le_of_ble_eq_true rfl⟩) ⟨TBX.blind, (T_recv hK hw (kd_of rfl (by decide)) (ent_8 rfl) cl_8), TBX.pre hK hN hX hw⟩ rfl rfl hl.1 rfl (lv_room (Nat.le_of_ble_eq_true rfl)) dX9_begin_2 ⟨Nat.le_of_ble_eq_true rfl, Nat.le_of_ble_eq_true rfl⟩) (fun k2 μ1 H locs hk2 h hw => ?_)
  refine lv_astore_n (lv' := [(3, .ref (ad k2)), (0, .ref (ad 0)), (1, .int a1), (2, .int a2)]) hx hb dX9_begin_5 rfl hl (by decide) rfl (fun ls hl => ?_)
  refine lv_iload_n hx hb dX9_begin_6 rfl (lv_at hl 3 rfl) ?_
  refine lv_iconst (v := (1 : Int32)) hx hb dX9_begin_7 (by decide) ?_
  refine lv_bipush (v := (7 : Int32)) hx hb dX9_begin_8 (by decide) ?_
  refine X_callv hw htab hlocks (c1 := 2) (n1 := 12) rfl rfl (Nat.le_of_ble_eq_true rfl) (Nat.le_of_ble_eq_true rfl) (vx_runS (own := "Leastreader") (As := [.int a2, .int (1 : Int32), .int (7 : Int32)]) (rest := []) ⟨hx, hb, hml, hown, ht⟩ (c_X9_checkRange hst μ1 H.size a2 (1 : Int32) (7 : Int32) h) (va_cwS 3 ht (G_S q_597 q_598 q_46 q_599) rfl rfl rfl hd_54 ⟨Nat.le_of_ble_eq_true rfl, Nat.le_of_ble_eq_true rfl⟩) ⟨TBX.blind, TBX.pre hK hN hX hw⟩ rfl rfl hl.1 rfl (lv_room (Nat.le_of_ble_eq_true rfl)) dX9_begin_10 ⟨Nat.le_of_ble_eq_true rfl, Nat.le_of_ble_eq_true rfl⟩) (fun μ3 H locs h hw => ?_)
  refine lv_aload_n hx hb dX9_begin_13 rfl (lv_at hl 0 rfl) ?_
  refine T_calli hw (va_runV (own := "Leastreader") (As := []) (rest := []) ⟨hx, hb, hml, hown, ht⟩ (c_X2_countArrows k2 hk2 μ3 H.size h) (cwV 0 ht (G_V q_559 q_560 q_561 q_48 q_562) rfl rfl rfl ⟨rfl, hd_34⟩ ⟨Nat.le_of_ble_eq_true rfl, Nat.le_of_ble_eq_true rfl⟩) ⟨TB.blind, (T_recv hK hw (kd_of hk2 (by decide)) (ent_2 hk2) cl_2), TB.pre hK hN hw⟩ rfl rfl hl.1 rfl (lv_room (Nat.le_of_ble_eq_true rfl)) dX9_begin_14 ⟨Nat.le_of_ble_eq_true rfl, Nat.le_of_ble_eq_true rfl⟩) (fun r4 μ5 H locs h hw => ?_)
  obtain ⟨e6, h⟩ := h
  rw [e6] at hw
  refine lv_istore (lv' := [(4, .int r4), (3, .ref (ad k2)), (0, .ref (ad 0)), (1, .int a1), (2, .int a2)]) hx hb dX9_begin_17 hl (by decide) rfl (fun ls hl => ?_)
  refine lv_aload_n hx hb dX9_begin_19 rfl (lv_at hl 1 rfl) ?_
  refine lv_iload_n hx hb dX9_begin_20 rfl (lv_at hl 4 rfl) ?_
  refine T_callv hw (va_runV (own := "Leastreader") (As := [.int a2]) (rest := []) ⟨hx, hb, hml, hown, ht⟩ (c_X2_clear k2 hk2 μ3 H.size a2 h) (cwV 1 ht (G_V q_616 q_617 q_618 q_48 q_619) rfl rfl rfl ⟨rfl, hd_55⟩ ⟨Nat.le_of_ble_eq_true rfl, Nat.le_of_ble_eq_true rfl⟩) ⟨TB.blind, (T_recv hK hw (kd_of hk2 (by decide)) (ent_2 hk2) cl_2), TB.pre hK hN hw⟩ rfl rfl hl.1 rfl (lv_room (Nat.le_of_ble_eq_true rfl)) dX9_begin_21 ⟨Nat.le_of_ble_eq_true rfl, Nat.le_of_ble_eq_true rfl⟩) (fun μ7 H locs h hw => ?_)
  refine lv_aload_n hx hb dX9_begin_24 rfl (lv_at hl 2 rfl) ?_
  refine lv_iload hx hb dX9_begin_25 (lv_at hl 0 rfl) ?_
  refine T_calli hw (va_runV (own := "Leastreader") (As := [.int r4]) (rest := []) ⟨hx, hb, hml, hown, ht⟩ (c_X9_acted μ7 H.size r4 h) (cwV 1 ht (G_V q_624 q_626 q_13 q_46 q_627) rfl rfl rfl ⟨rfl, hd_3⟩ ⟨Nat.le_of_ble_eq_true rfl, Nat.le_of_ble_eq_true rfl⟩) ⟨TB.blind, (T_recv hK hw (kd_of rfl (by decide)) (ent_8 rfl) cl_8), TB.pre hK hN hw⟩ rfl rfl hl.1 rfl (lv_room (Nat.le_of_ble_eq_true rfl)) dX9_begin_27 ⟨Nat.le_of_ble_eq_true rfl, Nat.le_of_ble_eq_true rfl⟩) (fun r9 μ8 H locs h hw => ?_)
  exact hret H locs ls 30 2 12 _ _ hw h rfl (Nat.le_of_ble_eq_true rfl) (Nat.le_of_ble_eq_true rfl) dX9_begin_30
def wp_X9_checkState (k0 : Nat) (μ : TMem) (a1 : Int32) (Q : TMem → Prop) (X : String → TMem → Prop) : Prop :=
  (a1 < 0 → (X "java/lang/IndexOutOfBoundsException" μ)) ∧ (¬ a1 < 0 → ((a1 < (μ k0 1) → (Q μ)) ∧ (¬ a1 < (μ k0 1) → (X "java/lang/IndexOutOfBoundsException" μ))))
set_option maxHeartbeats 4000000 in
set_option maxRecDepth 100000 in
theorem c_X9_checkState {l : Launch} (hst : l.stackTraces = false) {D : va_G} {ad : Nat → Nat} {cI cM : ClassId} (k0 : Nat) (hk0 : kd k0 = 2) (μ : TMem) (sz : Nat) (a1 : Int32) {Q : TMem → Prop} {X : String → TMem → Prop} (h : wp_X9_checkState k0 μ a1 Q X) : XMv l yX9_checkState (.code yX9_checkState cX9_checkState 2 (Option.none : Option Jvm.ClassFile.FieldType)) 0 1 6 [.ref (ad k0), .int a1] D ad cI cM sz μ Q X := by
  refine X_metv (by decide +kernel) (Nat.le_of_ble_eq_true rfl) ?_
  intro p e s m below meth c Qc ls hx hb hml hown ht hN hK hX htab hlocks hw hret hl
  have hl : lv_has ls 2 [(0, .ref (ad k0)), (1, .int a1)] := hl
  suffices hh : ∀ (H : Heap) (locs : List Loc), TW D ad cI cM s μ H locs → W p l e (RX 0 1 6) s m #[.ref (ad k0), .int a1] below meth c H locs 0 0 (vx_MQ below Qc (vx_X (fun _ : TMem => True) (TEX D ad cI cM X) (TA ad s.heap.size)) #[.ref (ad k0), .int a1] s 1 6 (TA ad s.heap.size)) (F0 m 0 ls []) from hh _ _ hw
  intro H locs hw
  change (a1 < 0 → (X "java/lang/IndexOutOfBoundsException" μ)) ∧ (¬ a1 < 0 → ((a1 < (μ k0 1) → (Q μ)) ∧ (¬ a1 < (μ k0 1) → (X "java/lang/IndexOutOfBoundsException" μ)))) at h
  refine lv_iload_n hx hb dX9_checkState_0 rfl (lv_at hl 1 rfl) ?_
  refine lv_if_lt (tgt := 12) hx hb dX9_checkState_1 (by decide) (fun c1 => ?_) (fun c1 => ?_)
  · have h := h.1 c1
    exact X_throwW (R := RX 0 1 6) (cells := 0) (slots := 0) (fc := 1) (fn := 6) (cls := "java/lang/IndexOutOfBoundsException") hx hb hst (hl.1.trans hml.symm) hown (by decide +kernel) (ht _ q_318) (ht _ q_61) (sr_RX9_277 hX.2.2.2) (hat_0 ht hX.2.2.1) hgd_0 hX hw htab hlocks dX9_checkState_12 dX9_checkState_15 dX9_checkState_16 dX9_checkState_19 dX9_checkState_22 (Nat.le_of_ble_eq_true rfl) (Nat.le_of_ble_eq_true rfl) (Nat.le_of_ble_eq_true rfl) (Nat.le_of_ble_eq_true rfl) (Nat.le_of_ble_eq_true rfl) (Nat.le_of_ble_eq_true rfl) h
  have h := h.2 c1
  refine lv_iload_n hx hb dX9_checkState_4 rfl (lv_at hl 1 rfl) ?_
  refine lv_aload_n hx hb dX9_checkState_5 rfl (lv_at hl 0 rfl) ?_
  refine gf_X9_151 hx hb ht hown hK hw hk0 dX9_checkState_6 ?_
  refine lv_icmp_lt (tgt := 23) hx hb dX9_checkState_9 (by decide) (fun c2 => ?_) (fun c2 => ?_)
  · have h := h.1 c2
    exact hret H locs ls 23 0 0 _ hw h (Nat.le_of_ble_eq_true rfl) (Nat.le_of_ble_eq_true rfl) dX9_checkState_23
  have h := h.2 c2
  exact X_throwW (R := RX 0 1 6) (cells := 0) (slots := 0) (fc := 1) (fn := 6) (cls := "java/lang/IndexOutOfBoundsException") hx hb hst (hl.1.trans hml.symm) hown (by decide +kernel) (ht _ q_318) (ht _ q_61) (sr_RX9_277 hX.2.2.2) (hat_0 ht hX.2.2.1) hgd_0 hX hw htab hlocks dX9_checkState_12 dX9_checkState_15 dX9_checkState_16 dX9_checkState_19 dX9_checkState_22 (Nat.le_of_ble_eq_true rfl) (Nat.le_of_ble_eq_true rfl) (Nat.le_of_ble_eq_true rfl) (Nat.le_of_ble_eq_true rfl) (Nat.le_of_ble_eq_true rfl) (Nat.le_of_ble_eq_true rfl) h
def wp_X9_checkSign (μ : TMem) (a0 : Int32) (Q : TMem → Prop) (X : String → TMem → Prop) : Prop :=
  wp_X9_checkRange μ a0 (0 : Int32) (2 : Int32) (fun (μ1 : TMem) => Q μ1) X
set_option maxHeartbeats 4000000 in
set_option maxRecDepth 100000 in
theorem c_X9_checkSign {l : Launch} (hst : l.stackTraces = false) {D : va_G} {ad : Nat → Nat} {cI cM : ClassId}  (μ : TMem) (sz : Nat) (a0 : Int32) {Q : TMem → Prop} {X : String → TMem → Prop} (h : wp_X9_checkSign μ a0 Q X) : XMv l yX9_checkSign (.code yX9_checkSign cX9_checkSign 1 (Option.none : Option Jvm.ClassFile.FieldType)) 1 1 6 [.int a0] D ad cI cM sz μ Q X := by
  refine X_metv (by decide +kernel) (Nat.le_of_ble_eq_true rfl) ?_
  intro p e s m below meth c Qc ls hx hb hml hown ht hN hK hX htab hlocks hw hret hl
  have hl : lv_has ls 1 [(0, .int a0)] := hl
  suffices hh : ∀ (H : Heap) (locs : List Loc), TW D ad cI cM s μ H locs → W p l e (RX 1 1 6) s m #[.int a0] below meth c H locs 0 0 (vx_MQ below Qc (vx_X (fun _ : TMem => True) (TEX D ad cI cM X) (TA ad s.heap.size)) #[.int a0] s 1 6 (TA ad s.heap.size)) (F0 m 0 ls []) from hh _ _ hw
  intro H locs hw
  change wp_X9_checkRange μ a0 (0 : Int32) (2 : Int32) (fun (μ1 : TMem) => Q μ1) X at h
  refine lv_iload_n hx hb dX9_checkSign_0 rfl (lv_at hl 0 rfl) ?_
  refine lv_iconst (v := (0 : Int32)) hx hb dX9_checkSign_1 (by decide) ?_
  refine lv_iconst (v := (2 : Int32)) hx hb dX9_checkSign_2 (by decide) ?_
  refine X_callv hw htab hlocks (c1 := 1) (n1 := 6) rfl rfl (Nat.le_of_ble_eq_true rfl) (Nat.le_of_ble_eq_true rfl) (vx_runS (own := "Leastreader") (As := [.int a0, .int (0 : Int32), .int (2 : Int32)]) (rest := []) ⟨hx, hb, hml, hown, ht⟩ (c_X9_checkRange hst μ H.size a0 (0 : Int32) (2 : Int32) h) (va_cwS 3 ht (G_S q_597 q_598 q_46 q_599) rfl rfl rfl hd_54 ⟨Nat.le_of_ble_eq_true rfl, Nat.le_of_ble_eq_true rfl⟩) ⟨TBX.blind, TBX.pre hK hN hX hw⟩ rfl rfl hl.1 rfl (lv_room (Nat.le_of_ble_eq_true rfl)) dX9_checkSign_3 ⟨Nat.le_of_ble_eq_true rfl, Nat.le_of_ble_eq_true rfl⟩) (fun μ1 H locs h hw => ?_)
  exact hret H locs ls 6 1 6 _ hw h (Nat.le_of_ble_eq_true rfl) (Nat.le_of_ble_eq_true rfl) dX9_checkSign_6
def wp_X9_arrow (μ : TMem) (a1 : Int32) (a2 : Int32) (a3 : Int32) (a4 : Int32) (a5 : Int32) (Q : Int32 → TMem → Prop) (X : String → TMem → Prop) : Prop :=
  wp_X9_machineAt μ a1 (fun (k2 : Nat) (μ1 : TMem) => wp_X9_checkState k2 μ1 a2 (fun (μ3 : TMem) => wp_X9_checkState k2 μ3 a4 (fun (μ4 : TMem) => wp_X9_checkSign μ4 a3 (fun (μ5 : TMem) => wp_X7_at k2 μ5 a2 a3 (fun (r6 : Int32) => wp_X9_withOrWithout r6 a4 a5 (fun (r9 : Int32) => wp_X7_put k2 μ5 a2 a3 r9 (fun (μ10 : TMem) => (r9 = r6 → (wp_X9_acted μ10 (0 : Int32) (fun (r13 : Int32) (μ12 : TMem) => Q r13 μ12))) ∧ (¬ r9 = r6 → (wp_X9_acted μ10 (1 : Int32) (fun (r15 : Int32) (μ14 : TMem) => Q r15 μ14))))))) X) X) X) X
set_option maxHeartbeats 4000000 in
set_option maxRecDepth 100000 in
theorem c_X9_arrow {l : Launch} (hst : l.stackTraces = false) {D : va_G} {ad : Nat → Nat} {cI cM : ClassId}  (μ : TMem) (sz : Nat) (a1 : Int32) (a2 : Int32) (a3 : Int32) (a4 : Int32) (a5 : Int32) {Q : Int32 → TMem → Prop} {X : String → TMem → Prop} (h : wp_X9_arrow μ a1 a2 a3 a4 a5 Q X) : XMi l yX9_arrow (.code yX9_arrow cX9_arrow 9 (Option.some Jvm.ClassFile.FieldType.int)) 2 4 24 [.ref (ad 0), .int a1, .int a2, .int a3, .int a4, .int a5] D ad cI cM sz μ Q X := by
  refine X_meti (by decide +kernel) (Nat.le_of_ble_eq_true rfl) ?_
  intro p e s m below meth c Qc ls hx hb hml hown ht hN hK hX htab hlocks hw hret hl
  have hl : lv_has ls 9 [(0, .ref (ad 0)), (1, .int a1), (2, .int a2), (3, .int a3), (4, .int a4), (5, .int a5)] := hl
  suffices hh : ∀ (H : Heap) (locs : List Loc), TW D ad cI cM s μ H locs → W p l e (RX 2 4 24) s m #[.ref (ad 0), .int a1, .int a2, .int a3, .int a4, .int a5] below meth c H locs 0 0 (vx_MQ below Qc (vx_X (fun _ : TMem => True) (TEX D ad cI cM X) (TA ad s.heap.size)) #[.ref (ad 0), .int a1, .int a2, .int a3, .int a4, .int a5] s 4 24 (TA ad s.heap.size)) (F0 m 0 ls []) from hh _ _ hw
  intro H locs hw
  change wp_X9_machineAt μ a1 (fun (k2 : Nat) (μ1 : TMem) => wp_X9_checkState k2 μ1 a2 (fun (μ3 : TMem) => wp_X9_checkState k2 μ3 a4 (fun (μ4 : TMem) => wp_X9_checkSign μ4 a3 (fun (μ5 : TMem) => wp_X7_at k2 μ5 a2 a3 (fun (r6 : Int32) => wp_X9_withOrWithout r6 a4 a5 (fun (r9 : Int32) => wp_X7_put k2 μ5 a2 a3 r9 (fun (μ10 : TMem) => (r9 = r6 → (wp_X9_acted μ10 (0 : Int32) (fun (r13 : Int32) (μ12 : TMem) => Q r13 μ12))) ∧ (¬ r9 = r6 → (wp_X9_acted μ10 (1 : Int32) (fun (r15 : Int32) (μ14 : TMem) => Q r15 μ14))))))) X) X) X) X at h
  refine lv_aload_n hx hb dX9_arrow_0 rfl (lv_at hl 0 rfl) ?_
  refine lv_iload_n hx hb dX9_arrow_1 rfl (lv_at hl 1 rfl) ?_
  refine X_callo hw htab hlocks (c1 := 1) (n1 := 6) rfl rfl (Nat.le_of_ble_eq_true rfl) (Nat.le_of_ble_eq_true rfl) (vx_runV (own := "Leastreader") (As := [.int a1]) (rest := []) ⟨hx, hb, hml, hown, ht⟩ (c_X9_machineAt hst μ H.size a1 h) (cwV 1 ht (G_V q_314 q_316 q_0 q_46 q_317) rfl rfl rfl ⟨rfl, hd_53⟩ ⟨Nat.le_of_ble_eq_true rfl, Nat.le_of_ble_eq_true rfl⟩) ⟨TBX.blind, (T_recv hK hw (kd_of rfl (by decide)) (ent_8 rfl) cl_8), TBX.pre hK hN hX hw⟩ rfl rfl hl.1 rfl (lv_room (Nat.le_of_ble_eq_true rfl)) dX9_arrow_2 ⟨Nat.le_of_ble_eq_true rfl, Nat.le_of_ble_eq_true rfl⟩) (fun k2 μ1 H locs hk2 h hw => ?_)
  refine lv_astore (lv' := [(6, .ref (ad k2)), (0, .ref (ad 0)), (1, .int a1), (2, .int a2), (3, .int a3), (4, .int a4), (5, .int a5)]) hx hb dX9_arrow_5 hl (by decide) rfl (fun ls hl => ?_)
  refine lv_aload hx hb dX9_arrow_7 (lv_at hl 0 rfl) ?_
  refine lv_iload_n hx hb dX9_arrow_9 rfl (lv_at hl 3 rfl) ?_
  refine X_callv hw htab hlocks (c1 := 2) (n1 := 12) rfl rfl (Nat.le_of_ble_eq_true rfl) (Nat.le_of_ble_eq_true rfl) (vx_runS (own := "Leastreader") (As := [.ref (ad k2), .int a2]) (rest := []) ⟨hx, hb, hml, hown, ht⟩ (c_X9_checkState hst k2 hk2 μ1 H.size a2 h) (va_cwS 2 ht (G_S q_635 q_636 q_46 q_637) rfl rfl rfl hd_56 ⟨Nat.le_of_ble_eq_true rfl, Nat.le_of_ble_eq_true rfl⟩) ⟨TBX.blind, TBX.pre hK hN hX hw⟩ rfl rfl hl.1 rfl (lv_room (Nat.le_of_ble_eq_true rfl)) dX9_arrow_10 ⟨Nat.le_of_ble_eq_true rfl, Nat.le_of_ble_eq_true rfl⟩) (fun μ3 H locs h hw => ?_)
  refine lv_aload hx hb dX9_arrow_13 (lv_at hl 0 rfl) ?_
  refine lv_iload hx hb dX9_arrow_15 (lv_at hl 5 rfl) ?_
  refine X_callv hw htab hlocks (c1 := 3) (n1 := 18) rfl rfl (Nat.le_of_ble_eq_true rfl) (Nat.le_of_ble_eq_true rfl) (vx_runS (own := "Leastreader") (As := [.ref (ad k2), .int a4]) (rest := []) ⟨hx, hb, hml, hown, ht⟩ (c_X9_checkState hst k2 hk2 μ3 H.size a4 h) (va_cwS 2 ht (G_S q_635 q_636 q_46 q_637) rfl rfl rfl hd_56 ⟨Nat.le_of_ble_eq_true rfl, Nat.le_of_ble_eq_true rfl⟩) ⟨TBX.blind, TBX.pre hK hN hX hw⟩ rfl rfl hl.1 rfl (lv_room (Nat.le_of_ble_eq_true rfl)) dX9_arrow_17 ⟨Nat.le_of_ble_eq_true rfl, Nat.le_of_ble_eq_true rfl⟩) (fun μ4 H locs h hw => ?_)
  refine lv_iload_n hx hb dX9_arrow_20 rfl (lv_at hl 4 rfl) ?_
  refine X_callv hw htab hlocks (c1 := 4) (n1 := 24) rfl rfl (Nat.le_of_ble_eq_true rfl) (Nat.le_of_ble_eq_true rfl) (vx_runS (own := "Leastreader") (As := [.int a3]) (rest := []) ⟨hx, hb, hml, hown, ht⟩ (c_X9_checkSign hst μ4 H.size a3 h) (va_cwS 1 ht (G_S q_639 q_640 q_46 q_641) rfl rfl rfl hd_57 ⟨Nat.le_of_ble_eq_true rfl, Nat.le_of_ble_eq_true rfl⟩) ⟨TBX.blind, TBX.pre hK hN hX hw⟩ rfl rfl hl.1 rfl (lv_room (Nat.le_of_ble_eq_true rfl)) dX9_arrow_21 ⟨Nat.le_of_ble_eq_true rfl, Nat.le_of_ble_eq_true rfl⟩) (fun μ5 H locs h hw => ?_)
  refine lv_aload hx hb dX9_arrow_24 (lv_at hl 0 rfl) ?_
  refine lv_iload_n hx hb dX9_arrow_26 rfl (lv_at hl 3 rfl) ?_
  refine lv_iload_n hx hb dX9_arrow_27 rfl (lv_at hl 4 rfl) ?_
  refine T_calli hw (va_runU (own := "Leastreader") (As := [.int a2, .int a3]) (rest := []) ⟨hx, hb, hml, hown, ht⟩ (c_X7_at_2 k2 hk2 μ5 H.size a2 a3 h) (va_cwU (owner := "Leastreader$Table") 2 ht (G_U q_573 q_413 q_415 q_416 q_47 q_417) rfl rfl rfl rfl hd_0 ⟨Nat.le_of_ble_eq_true rfl, Nat.le_of_ble_eq_true rfl⟩) ⟨TB.blind, (T_recv hK hw (kd_of hk2 (by decide)) (ent_2 hk2) cl_2), TB.pre hK hN hw⟩ rfl rfl hl.1 rfl (lv_room (Nat.le_of_ble_eq_true rfl)) dX9_arrow_28 ⟨Nat.le_of_ble_eq_true rfl, Nat.le_of_ble_eq_true rfl⟩) (fun r6 μ7 H locs h hw => ?_)
  obtain ⟨e8, h⟩ := h
  rw [e8] at hw
  refine lv_istore (lv' := [(7, .int r6), (6, .ref (ad k2)), (0, .ref (ad 0)), (1, .int a1), (2, .int a2), (3, .int a3), (4, .int a4), (5, .int a5)]) hx hb dX9_arrow_31 hl (by decide) rfl (fun ls hl => ?_)
  refine lv_iload hx hb dX9_arrow_33 (lv_at hl 0 rfl) ?_
  refine lv_iload hx hb dX9_arrow_35 (lv_at hl 6 rfl) ?_
  refine lv_iload hx hb dX9_arrow_37 (lv_at hl 7 rfl) ?_
  refine P_calli (va_runS (own := "Leastreader") (As := [.int r6, .int a4, .int a5]) (rest := []) ⟨hx, hb, hml, hown, ht⟩ (c_X9_withOrWithout r6 a4 a5 h) (va_cwS 3 ht (G_S q_642 q_403 q_46 q_404) rfl rfl rfl hd_9 ⟨Nat.le_of_ble_eq_true rfl, Nat.le_of_ble_eq_true rfl⟩) ⟨PM_blind, PM_pre⟩ rfl rfl hl.1 rfl (lv_room (Nat.le_of_ble_eq_true rfl)) dX9_arrow_39 ⟨Nat.le_of_ble_eq_true rfl, Nat.le_of_ble_eq_true rfl⟩) (fun r9 h => ?_)
  refine lv_istore (lv' := [(8, .int r9), (7, .int r6), (6, .ref (ad k2)), (0, .ref (ad 0)), (1, .int a1), (2, .int a2), (3, .int a3), (4, .int a4), (5, .int a5)]) hx hb dX9_arrow_42 hl (by decide) rfl (fun ls hl => ?_)
  refine lv_aload hx hb dX9_arrow_44 (lv_at hl 2 rfl) ?_
  refine lv_iload_n hx hb dX9_arrow_46 rfl (lv_at hl 5 rfl) ?_
  refine lv_iload_n hx hb dX9_arrow_47 rfl (lv_at hl 6 rfl) ?_
  refine lv_iload hx hb dX9_arrow_48 (lv_at hl 0 rfl) ?_
  refine T_callv hw (va_runU (own := "Leastreader") (As := [.int a2, .int a3, .int r9]) (rest := []) ⟨hx, hb, hml, hown, ht⟩ (c_X7_put_2 k2 hk2 μ5 H.size a2 a3 r9 h) (va_cwU (owner := "Leastreader$Table") 3 ht (G_U q_643 q_445 q_446 q_430 q_47 q_431) rfl rfl rfl rfl hd_1 ⟨Nat.le_of_ble_eq_true rfl, Nat.le_of_ble_eq_true rfl⟩) ⟨TB.blind, (T_recv hK hw (kd_of hk2 (by decide)) (ent_2 hk2) cl_2), TB.pre hK hN hw⟩ rfl rfl hl.1 rfl (lv_room (Nat.le_of_ble_eq_true rfl)) dX9_arrow_50 ⟨Nat.le_of_ble_eq_true rfl, Nat.le_of_ble_eq_true rfl⟩) (fun μ10 H locs h hw => ?_)
  refine lv_aload_n hx hb dX9_arrow_53 rfl (lv_at hl 3 rfl) ?_
  refine lv_iload hx hb dX9_arrow_54 (lv_at hl 0 rfl) ?_
  refine lv_iload hx hb dX9_arrow_56 (lv_at hl 1 rfl) ?_
  refine lv_icmp_eq (tgt := 65) hx hb dX9_arrow_58 (by decide) (fun c11 => ?_) (fun c11 => ?_)
  · have h := h.1 c11
    refine lv_iconst (v := (0 : Int32)) hx hb dX9_arrow_65 (by decide) ?_
    refine T_calli hw (va_runV (own := "Leastreader") (As := [.int (0 : Int32)]) (rest := []) ⟨hx, hb, hml, hown, ht⟩ (c_X9_acted μ10 H.size (0 : Int32) h) (cwV 1 ht (G_V q_624 q_626 q_13 q_46 q_627) rfl rfl rfl ⟨rfl, hd_3⟩ ⟨Nat.le_of_ble_eq_true rfl, Nat.le_of_ble_eq_true rfl⟩) ⟨TB.blind, (T_recv hK hw (kd_of rfl (by decide)) (ent_8 rfl) cl_8), TB.pre hK hN hw⟩ rfl rfl hl.1 rfl (lv_room (Nat.le_of_ble_eq_true rfl)) dX9_arrow_66 ⟨Nat.le_of_ble_eq_true rfl, Nat.le_of_ble_eq_true rfl⟩) (fun r13 μ12 H locs h hw => ?_)
    exact hret H locs ls 69 4 24 _ _ hw h rfl (Nat.le_of_ble_eq_true rfl) (Nat.le_of_ble_eq_true rfl) dX9_arrow_69
  have h := h.2 c11
  refine lv_iconst (v := (1 : Int32)) hx hb dX9_arrow_61 (by decide) ?_
  refine lv_goto (tgt := 66) hx hb dX9_arrow_62 (by decide) ?_
  refine T_calli hw (va_runV (own := "Leastreader") (As := [.int (1 : Int32)]) (rest := []) ⟨hx, hb, hml, hown, ht⟩ (c_X9_acted μ10 H.size (1 : Int32) h) (cwV 1 ht (G_V q_624 q_626 q_13 q_46 q_627) rfl rfl rfl ⟨rfl, hd_3⟩ ⟨Nat.le_of_ble_eq_true rfl, Nat.le_of_ble_eq_true rfl⟩) ⟨TB.blind, (T_recv hK hw (kd_of rfl (by decide)) (ent_8 rfl) cl_8), TB.pre hK hN hw⟩ rfl rfl hl.1 rfl (lv_room (Nat.le_of_ble_eq_true rfl)) dX9_arrow_66 ⟨Nat.le_of_ble_eq_true rfl, Nat.le_of_ble_eq_true rfl⟩) (fun r15 μ14 H locs h hw => ?_)
  exact hret H locs ls 69 4 24 _ _ hw h rfl (Nat.le_of_ble_eq_true rfl) (Nat.le_of_ble_eq_true rfl) dX9_arrow_69
def wp_X9_lead (μ : TMem) (a1 : Int32) (a2 : Int32) (a3 : Int32) (a4 : Int32) (Q : Int32 → TMem → Prop) (X : String → TMem → Prop) : Prop :=
  wp_X9_machineAt μ a1 (fun (k2 : Nat) (μ1 : TMem) => wp_X9_checkState k2 μ1 a2 (fun (μ3 : TMem) => wp_X9_checkState k2 μ3 a4 (fun (μ4 : TMem) => wp_X9_checkSign μ4 a3 (fun (μ5 : TMem) => wp_X7_at k2 μ5 a2 a3 (fun (r6 : Int32) => wp_X7_put k2 μ5 a2 a3 ((1 : Int32) <<< (a4 &&& 31)) (fun (μ9 : TMem) => wp_J6_bitCount_0f7a4 r6 (fun (r10 : Int32) => wp_X9_acted μ9 r10 (fun (r12 : Int32) (μ11 : TMem) => Q r12 μ11))))) X) X) X) X
set_option maxHeartbeats 4000000 in
set_option maxRecDepth 100000 in
theorem c_X9_lead {l : Launch} (hst : l.stackTraces = false) {D : va_G} {ad : Nat → Nat} {cI cM : ClassId}  (μ : TMem) (sz : Nat) (a1 : Int32) (a2 : Int32) (a3 : Int32) (a4 : Int32) {Q : Int32 → TMem → Prop} {X : String → TMem → Prop} (h : wp_X9_lead μ a1 a2 a3 a4 Q X) : XMi l yX9_lead (.code yX9_lead cX9_lead 7 (Option.some Jvm.ClassFile.FieldType.int)) 2 4 24 [.ref (ad 0), .int a1, .int a2, .int a3, .int a4] D ad cI cM sz μ Q X := by
  refine X_meti (by decide +kernel) (Nat.le_of_ble_eq_true rfl) ?_
  intro p e s m below meth c Qc ls hx hb hml hown ht hN hK hX htab hlocks hw hret hl
  have hl : lv_has ls 7 [(0, .ref (ad 0)), (1, .int a1), (2, .int a2), (3, .int a3), (4, .int a4)] := hl
  suffices hh : ∀ (H : Heap) (locs : List Loc), TW D ad cI cM s μ H locs → W p l e (RX 2 4 24) s m #[.ref (ad 0), .int a1, .int a2, .int a3, .int a4] below meth c H locs 0 0 (vx_MQ below Qc (vx_X (fun _ : TMem => True) (TEX D ad cI cM X) (TA ad s.heap.size)) #[.ref (ad 0), .int a1, .int a2, .int a3, .int a4] s 4 24 (TA ad s.heap.size)) (F0 m 0 ls []) from hh _ _ hw
  intro H locs hw
  change wp_X9_machineAt μ a1 (fun (k2 : Nat) (μ1 : TMem) => wp_X9_checkState k2 μ1 a2 (fun (μ3 : TMem) => wp_X9_checkState k2 μ3 a4 (fun (μ4 : TMem) => wp_X9_checkSign μ4 a3 (fun (μ5 : TMem) => wp_X7_at k2 μ5 a2 a3 (fun (r6 : Int32) => wp_X7_put k2 μ5 a2 a3 ((1 : Int32) <<< (a4 &&& 31)) (fun (μ9 : TMem) => wp_J6_bitCount_0f7a4 r6 (fun (r10 : Int32) => wp_X9_acted μ9 r10 (fun (r12 : Int32) (μ11 : TMem) => Q r12 μ11))))) X) X) X) X at h
  refine lv_aload_n hx hb dX9_lead_0 rfl (lv_at hl 0 rfl) ?_
  refine lv_iload_n hx hb dX9_lead_1 rfl (lv_at hl 1 rfl) ?_
  refine X_callo hw htab hlocks (c1 := 1) (n1 := 6) rfl rfl (Nat.le_of_ble_eq_true rfl) (Nat.le_of_ble_eq_true rfl) (vx_runV (own := "Leastreader") (As := [.int a1]) (rest := []) ⟨hx, hb, hml, hown, ht⟩ (c_X9_machineAt hst μ H.size a1 h) (cwV 1 ht (G_V q_314 q_316 q_0 q_46 q_317) rfl rfl rfl ⟨rfl, hd_53⟩ ⟨Nat.le_of_ble_eq_true rfl, Nat.le_of_ble_eq_true rfl⟩) ⟨TBX.blind, (T_recv hK hw (kd_of rfl (by decide)) (ent_8 rfl) cl_8), TBX.pre hK hN hX hw⟩ rfl rfl hl.1 rfl (lv_room (Nat.le_of_ble_eq_true rfl)) dX9_lead_2 ⟨Nat.le_of_ble_eq_true rfl, Nat.le_of_ble_eq_true rfl⟩) (fun k2 μ1 H locs hk2 h hw => ?_)
  refine lv_astore (lv' := [(5, .ref (ad k2)), (0, .ref (ad 0)), (1, .int a1), (2, .int a2), (3, .int a3), (4, .int a4)]) hx hb dX9_lead_5 hl (by decide) rfl (fun ls hl => ?_)
  refine lv_aload hx hb dX9_lead_7 (lv_at hl 0 rfl) ?_
  refine lv_iload_n hx hb dX9_lead_9 rfl (lv_at hl 3 rfl) ?_
  refine X_callv hw htab hlocks (c1 := 2) (n1 := 12) rfl rfl (Nat.le_of_ble_eq_true rfl) (Nat.le_of_ble_eq_true rfl) (vx_runS (own := "Leastreader") (As := [.ref (ad k2), .int a2]) (rest := []) ⟨hx, hb, hml, hown, ht⟩ (c_X9_checkState hst k2 hk2 μ1 H.size a2 h) (va_cwS 2 ht (G_S q_635 q_636 q_46 q_637) rfl rfl rfl hd_56 ⟨Nat.le_of_ble_eq_true rfl, Nat.le_of_ble_eq_true rfl⟩) ⟨TBX.blind, TBX.pre hK hN hX hw⟩ rfl rfl hl.1 rfl (lv_room (Nat.le_of_ble_eq_true rfl)) dX9_lead_10 ⟨Nat.le_of_ble_eq_true rfl, Nat.le_of_ble_eq_true rfl⟩) (fun μ3 H locs h hw => ?_)
  refine lv_aload hx hb dX9_lead_13 (lv_at hl 0 rfl) ?_
  refine lv_iload hx hb dX9_lead_15 (lv_at hl 5 rfl) ?_
  refine X_callv hw htab hlocks (c1 := 3) (n1 := 18) rfl rfl (Nat.le_of_ble_eq_true rfl) (Nat.le_of_ble_eq_true rfl) (vx_runS (own := "Leastreader") (As := [.ref (ad k2), .int a4]) (rest := []) ⟨hx, hb, hml, hown, ht⟩ (c_X9_checkState hst k2 hk2 μ3 H.size a4 h) (va_cwS 2 ht (G_S q_635 q_636 q_46 q_637) rfl rfl rfl hd_56 ⟨Nat.le_of_ble_eq_true rfl, Nat.le_of_ble_eq_true rfl⟩) ⟨TBX.blind, TBX.pre hK hN hX hw⟩ rfl rfl hl.1 rfl (lv_room (Nat.le_of_ble_eq_true rfl)) dX9_lead_17 ⟨Nat.le_of_ble_eq_true rfl, Nat.le_of_ble_eq_true rfl⟩) (fun μ4 H locs h hw => ?_)
  refine lv_iload_n hx hb dX9_lead_20 rfl (lv_at hl 4 rfl) ?_
  refine X_callv hw htab hlocks (c1 := 4) (n1 := 24) rfl rfl (Nat.le_of_ble_eq_true rfl) (Nat.le_of_ble_eq_true rfl) (vx_runS (own := "Leastreader") (As := [.int a3]) (rest := []) ⟨hx, hb, hml, hown, ht⟩ (c_X9_checkSign hst μ4 H.size a3 h) (va_cwS 1 ht (G_S q_639 q_640 q_46 q_641) rfl rfl rfl hd_57 ⟨Nat.le_of_ble_eq_true rfl, Nat.le_of_ble_eq_true rfl⟩) ⟨TBX.blind, TBX.pre hK hN hX hw⟩ rfl rfl hl.1 rfl (lv_room (Nat.le_of_ble_eq_true rfl)) dX9_lead_21 ⟨Nat.le_of_ble_eq_true rfl, Nat.le_of_ble_eq_true rfl⟩) (fun μ5 H locs h hw => ?_)
  refine lv_aload hx hb dX9_lead_24 (lv_at hl 0 rfl) ?_
  refine lv_iload_n hx hb dX9_lead_26 rfl (lv_at hl 3 rfl) ?_
  refine lv_iload_n hx hb dX9_lead_27 rfl (lv_at hl 4 rfl) ?_
  refine T_calli hw (va_runU (own := "Leastreader") (As := [.int a2, .int a3]) (rest := []) ⟨hx, hb, hml, hown, ht⟩ (c_X7_at_2 k2 hk2 μ5 H.size a2 a3 h) (va_cwU (owner := "Leastreader$Table") 2 ht (G_U q_573 q_413 q_415 q_416 q_47 q_417) rfl rfl rfl rfl hd_0 ⟨Nat.le_of_ble_eq_true rfl, Nat.le_of_ble_eq_true rfl⟩) ⟨TB.blind, (T_recv hK hw (kd_of hk2 (by decide)) (ent_2 hk2) cl_2), TB.pre hK hN hw⟩ rfl rfl hl.1 rfl (lv_room (Nat.le_of_ble_eq_true rfl)) dX9_lead_28 ⟨Nat.le_of_ble_eq_true rfl, Nat.le_of_ble_eq_true rfl⟩) (fun r6 μ7 H locs h hw => ?_)
  obtain ⟨e8, h⟩ := h
  rw [e8] at hw
  refine lv_istore (lv' := [(6, .int r6), (5, .ref (ad k2)), (0, .ref (ad 0)), (1, .int a1), (2, .int a2), (3, .int a3), (4, .int a4)]) hx hb dX9_lead_31 hl (by decide) rfl (fun ls hl => ?_)
  refine lv_aload hx hb dX9_lead_33 (lv_at hl 1 rfl) ?_
  refine lv_iload_n hx hb dX9_lead_35 rfl (lv_at hl 4 rfl) ?_
  refine lv_iload_n hx hb dX9_lead_36 rfl (lv_at hl 5 rfl) ?_
  refine lv_iconst (v := (1 : Int32)) hx hb dX9_lead_37 (by decide) ?_
  refine lv_iload hx hb dX9_lead_38 (lv_at hl 6 rfl) ?_
  refine lv_ishl hx hb dX9_lead_40 ?_
  refine T_callv hw (va_runU (own := "Leastreader") (As := [.int a2, .int a3, .int ((1 : Int32) <<< (a4 &&& 31))]) (rest := []) ⟨hx, hb, hml, hown, ht⟩ (c_X7_put_2 k2 hk2 μ5 H.size a2 a3 ((1 : Int32) <<< (a4 &&& 31)) h) (va_cwU (owner := "Leastreader$Table") 3 ht (G_U q_643 q_445 q_446 q_430 q_47 q_431) rfl rfl rfl rfl hd_1 ⟨Nat.le_of_ble_eq_true rfl, Nat.le_of_ble_eq_true rfl⟩) ⟨TB.blind, (T_recv hK hw (kd_of hk2 (by decide)) (ent_2 hk2) cl_2), TB.pre hK hN hw⟩ rfl rfl hl.1 rfl (lv_room (Nat.le_of_ble_eq_true rfl)) dX9_lead_41 ⟨Nat.le_of_ble_eq_true rfl, Nat.le_of_ble_eq_true rfl⟩) (fun μ9 H locs h hw => ?_)
  refine lv_aload_n hx hb dX9_lead_44 rfl (lv_at hl 2 rfl) ?_
  refine lv_iload hx hb dX9_lead_45 (lv_at hl 0 rfl) ?_
  refine P_calli (va_runS (own := "Leastreader") (As := [.int r6]) (rest := [.ref (ad 0)]) ⟨hx, hb, hml, hown, ht⟩ (c_J6_bitCount_0f7a4 r6 h) (va_cwS 1 ht (G_S q_651 q_564 q_63 q_565) rfl rfl rfl hd_33 ⟨Nat.le_of_ble_eq_true rfl, Nat.le_of_ble_eq_true rfl⟩) ⟨PM_blind, PM_pre⟩ rfl rfl hl.1 rfl (lv_room (Nat.le_of_ble_eq_true rfl)) dX9_lead_47 ⟨Nat.le_of_ble_eq_true rfl, Nat.le_of_ble_eq_true rfl⟩) (fun r10 h => ?_)
  refine T_calli hw (va_runV (own := "Leastreader") (As := [.int r10]) (rest := []) ⟨hx, hb, hml, hown, ht⟩ (c_X9_acted μ9 H.size r10 h) (cwV 1 ht (G_V q_624 q_626 q_13 q_46 q_627) rfl rfl rfl ⟨rfl, hd_3⟩ ⟨Nat.le_of_ble_eq_true rfl, Nat.le_of_ble_eq_true rfl⟩) ⟨TB.blind, (T_recv hK hw (kd_of rfl (by decide)) (ent_8 rfl) cl_8), TB.pre hK hN hw⟩ rfl rfl hl.1 rfl (lv_room (Nat.le_of_ble_eq_true rfl)) dX9_lead_50 ⟨Nat.le_of_ble_eq_true rfl, Nat.le_of_ble_eq_true rfl⟩) (fun r12 μ11 H locs h hw => ?_)
  exact hret H locs ls 53 4 24 _ _ hw h rfl (Nat.le_of_ble_eq_true rfl) (Nat.le_of_ble_eq_true rfl) dX9_lead_53
def wp_X9_mark (μ : TMem) (a1 : Int32) (a2 : Int32) (a3 : Int32) (a4 : Int32) (Q : Int32 → TMem → Prop) (X : String → TMem → Prop) : Prop :=
  wp_X9_machineAt μ a1 (fun (k2 : Nat) (μ1 : TMem) => wp_X9_checkState k2 μ1 a2 (fun (μ3 : TMem) => (a3 = 0 → (wp_X9_withOrWithout (μ3 k2 3) a2 a4 (fun (r5 : Int32) => (a3 = 0 → ((r5 = (μ3 k2 3) → (wp_X9_acted (tms μ3 k2 3 r5) (0 : Int32) (fun (r9 : Int32) (μ8 : TMem) => Q r9 μ8))) ∧ (¬ r5 = (μ3 k2 3) → (wp_X9_acted (tms μ3 k2 3 r5) (1 : Int32) (fun (r11 : Int32) (μ10 : TMem) => Q r11 μ10))))) ∧ (¬ a3 = 0 → ((r5 = (μ3 k2 3) → (wp_X9_acted (tms μ3 k2 2 r5) (0 : Int32) (fun (r14 : Int32) (μ13 : TMem) => Q r14 μ13))) ∧ (¬ r5 = (μ3 k2 3) → (wp_X9_acted (tms μ3 k2 2 r5) (1 : Int32) (fun (r16 : Int32) (μ15 : TMem) => Q r16 μ15)))))))) ∧ (¬ a3 = 0 → (wp_X9_withOrWithout (μ3 k2 2) a2 a4 (fun (r17 : Int32) => (a3 = 0 → ((r17 = (μ3 k2 2) → (wp_X9_acted (tms μ3 k2 3 r17) (0 : Int32) (fun (r21 : Int32) (μ20 : TMem) => Q r21 μ20))) ∧ (¬ r17 = (μ3 k2 2) → (wp_X9_acted (tms μ3 k2 3 r17) (1 : Int32) (fun (r23 : Int32) (μ22 : TMem) => Q r23 μ22))))) ∧ (¬ a3 = 0 → ((r17 = (μ3 k2 2) → (wp_X9_acted (tms μ3 k2 2 r17) (0 : Int32) (fun (r26 : Int32) (μ25 : TMem) => Q r26 μ25))) ∧ (¬ r17 = (μ3 k2 2) → (wp_X9_acted (tms μ3 k2 2 r17) (1 : Int32) (fun (r28 : Int32) (μ27 : TMem) => Q r28 μ27))))))))) X) X
set_option maxHeartbeats 4000000 in
set_option maxRecDepth 100000 in
theorem c_X9_mark {l : Launch} (hst : l.stackTraces = false) {D : va_G} {ad : Nat → Nat} {cI cM : ClassId}  (μ : TMem) (sz : Nat) (a1 : Int32) (a2 : Int32) (a3 : Int32) (a4 : Int32) {Q : Int32 → TMem → Prop} {X : String → TMem → Prop} (h : wp_X9_mark μ a1 a2 a3 a4 Q X) : XMi l yX9_mark (.code yX9_mark cX9_mark 8 (Option.some Jvm.ClassFile.FieldType.int)) 1 2 12 [.ref (ad 0), .int a1, .int a2, .int a3, .int a4] D ad cI cM sz μ Q X := by
  refine X_meti (by decide +kernel) (Nat.le_of_ble_eq_true rfl) ?_
  intro p e s m below meth c Qc ls hx hb hml hown ht hN hK hX htab hlocks hw hret hl
  have hl : lv_has ls 8 [(0, .ref (ad 0)), (1, .int a1), (2, .int a2), (3, .int a3), (4, .int a4)] := hl
  suffices hh : ∀ (H : Heap) (locs : List Loc), TW D ad cI cM s μ H locs → W p l e (RX 1 2 12) s m #[.ref (ad 0), .int a1, .int a2, .int a3, .int a4] below meth c H locs 0 0 (vx_MQ below Qc (vx_X (fun _ : TMem => True) (TEX D ad cI cM X) (TA ad s.heap.size)) #[.ref (ad 0), .int a1, .int a2, .int a3, .int a4] s 2 12 (TA ad s.heap.size)) (F0 m 0 ls []) from hh _ _ hw
  intro H locs hw
  change wp_X9_machineAt μ a1 (fun (k2 : Nat) (μ1 : TMem) => wp_X9_checkState k2 μ1 a2 (fun (μ3 : TMem) => (a3 = 0 → (wp_X9_withOrWithout (μ3 k2 3) a2 a4 (fun (r5 : Int32) => (a3 = 0 → ((r5 = (μ3 k2 3) → (wp_X9_acted (tms μ3 k2 3 r5) (0 : Int32) (fun (r9 : Int32) (μ8 : TMem) => Q r9 μ8))) ∧ (¬ r5 = (μ3 k2 3) → (wp_X9_acted (tms μ3 k2 3 r5) (1 : Int32) (fun (r11 : Int32) (μ10 : TMem) => Q r11 μ10))))) ∧ (¬ a3 = 0 → ((r5 = (μ3 k2 3) → (wp_X9_acted (tms μ3 k2 2 r5) (0 : Int32) (fun (r14 : Int32) (μ13 : TMem) => Q r14 μ13))) ∧ (¬ r5 = (μ3 k2 3) → (wp_X9_acted (tms μ3 k2 2 r5) (1 : Int32) (fun (r16 : Int32) (μ15 : TMem) => Q r16 μ15)))))))) ∧ (¬ a3 = 0 → (wp_X9_withOrWithout (μ3 k2 2) a2 a4 (fun (r17 : Int32) => (a3 = 0 → ((r17 = (μ3 k2 2) → (wp_X9_acted (tms μ3 k2 3 r17) (0 : Int32) (fun (r21 : Int32) (μ20 : TMem) => Q r21 μ20))) ∧ (¬ r17 = (μ3 k2 2) → (wp_X9_acted (tms μ3 k2 3 r17) (1 : Int32) (fun (r23 : Int32) (μ22 : TMem) => Q r23 μ22))))) ∧ (¬ a3 = 0 → ((r17 = (μ3 k2 2) → (wp_X9_acted (tms μ3 k2 2 r17) (0 : Int32) (fun (r26 : Int32) (μ25 : TMem) => Q r26 μ25))) ∧ (¬ r17 = (μ3 k2 2) → (wp_X9_acted (tms μ3 k2 2 r17) (1 : Int32) (fun (r28 : Int32) (μ27 : TMem) => Q r28 μ27))))))))) X) X at h
  refine lv_aload_n hx hb dX9_mark_0 rfl (lv_at hl 0 rfl) ?_
  refine lv_iload_n hx hb dX9_mark_1 rfl (lv_at hl 1 rfl) ?_
  refine X_callo hw htab hlocks (c1 := 1) (n1 := 6) rfl rfl (Nat.le_of_ble_eq_true rfl) (Nat.le_of_ble_eq_true rfl) (vx_runV (own := "Leastreader") (As := [.int a1]) (rest := []) ⟨hx, hb, hml, hown, ht⟩ (c_X9_machineAt hst μ H.size a1 h) (cwV 1 ht (G_V q_314 q_316 q_0 q_46 q_317) rfl rfl rfl ⟨rfl, hd_53⟩ ⟨Nat.le_of_ble_eq_true rfl, Nat.le_of_ble_eq_true rfl⟩) ⟨TBX.blind, (T_recv hK hw (kd_of rfl (by decide)) (ent_8 rfl) cl_8), TBX.pre hK hN hX hw⟩ rfl rfl hl.1 rfl (lv_room (Nat.le_of_ble_eq_true rfl)) dX9_mark_2 ⟨Nat.le_of_ble_eq_true rfl, Nat.le_of_ble_eq_true rfl⟩) (fun k2 μ1 H locs hk2 h hw => ?_)
  refine lv_astore (lv' := [(5, .ref (ad k2)), (0, .ref (ad 0)), (1, .int a1), (2, .int a2), (3, .int a3), (4, .int a4)]) hx hb dX9_mark_5 hl (by decide) rfl (fun ls hl => ?_)
  refine lv_aload hx hb dX9_mark_7 (lv_at hl 0 rfl) ?_
  refine lv_iload_n hx hb dX9_mark_9 rfl (lv_at hl 3 rfl) ?_
  refine X_callv hw htab hlocks (c1 := 2) (n1 := 12) rfl rfl (Nat.le_of_ble_eq_true rfl) (Nat.le_of_ble_eq_true rfl) (vx_runS (own := "Leastreader") (As := [.ref (ad k2), .int a2]) (rest := []) ⟨hx, hb, hml, hown, ht⟩ (c_X9_checkState hst k2 hk2 μ1 H.size a2 h) (va_cwS 2 ht (G_S q_635 q_636 q_46 q_637) rfl rfl rfl hd_56 ⟨Nat.le_of_ble_eq_true rfl, Nat.le_of_ble_eq_true rfl⟩) ⟨TBX.blind, TBX.pre hK hN hX hw⟩ rfl rfl hl.1 rfl (lv_room (Nat.le_of_ble_eq_true rfl)) dX9_mark_10 ⟨Nat.le_of_ble_eq_true rfl, Nat.le_of_ble_eq_true rfl⟩) (fun μ3 H locs h hw => ?_)
  refine lv_iload_n hx hb dX9_mark_13 rfl (lv_at hl 4 rfl) ?_
  refine lv_if_eq (tgt := 25) hx hb dX9_mark_14 (by decide) (fun c4 => ?_) (fun c4 => ?_)
  · have h := h.1 c4
    refine lv_aload hx hb dX9_mark_25 (lv_at hl 0 rfl) ?_
    refine gf_X9_115 hx hb ht hN hown hK hw hk2 dX9_mark_27 ?_
    refine lv_istore (lv' := [(6, .int (μ3 k2 3)), (5, .ref (ad k2)), (0, .ref (ad 0)), (1, .int a1), (2, .int a2), (3, .int a3), (4, .int a4)]) hx hb dX9_mark_30 hl (by decide) rfl (fun ls hl => ?_)
    refine lv_iload hx hb dX9_mark_32 (lv_at hl 0 rfl) ?_
    refine lv_iload_n hx hb dX9_mark_34 rfl (lv_at hl 4 rfl) ?_
    refine lv_iload hx hb dX9_mark_35 (lv_at hl 6 rfl) ?_
    refine P_calli (va_runS (own := "Leastreader") (As := [.int (μ3 k2 3), .int a2, .int a4]) (rest := []) ⟨hx, hb, hml, hown, ht⟩ (c_X9_withOrWithout (μ3 k2 3) a2 a4 h) (va_cwS 3 ht (G_S q_642 q_403 q_46 q_404) rfl rfl rfl hd_9 ⟨Nat.le_of_ble_eq_true rfl, Nat.le_of_ble_eq_true rfl⟩) ⟨PM_blind, PM_pre⟩ rfl rfl hl.1 rfl (lv_room (Nat.le_of_ble_eq_true rfl)) dX9_mark_37 ⟨Nat.le_of_ble_eq_true rfl, Nat.le_of_ble_eq_true rfl⟩) (fun r5 h => ?_)
    refine lv_istore (lv' := [(7, .int r5), (6, .int (μ3 k2 3)), (5, .ref (ad k2)), (0, .ref (ad 0)), (1, .int a1), (2, .int a2), (3, .int a3), (4, .int a4)]) hx hb dX9_mark_40 hl (by decide) rfl (fun ls hl => ?_)
    refine lv_iload_n hx hb dX9_mark_42 rfl (lv_at hl 6 rfl) ?_
    refine lv_if_eq (tgt := 56) hx hb dX9_mark_43 (by decide) (fun c6 => ?_) (fun c6 => ?_)
    · have h := h.1 c6
      refine lv_aload hx hb dX9_mark_56 (lv_at hl 2 rfl) ?_
      refine lv_iload hx hb dX9_mark_58 (lv_at hl 0 rfl) ?_
      refine pgf_X9_115 hx hb ht hN hown hK hw hk2 dX9_mark_60 (fun H locs hw => ?_)
      refine lv_aload_n hx hb dX9_mark_63 rfl (lv_at hl 3 rfl) ?_
      refine lv_iload hx hb dX9_mark_64 (lv_at hl 0 rfl) ?_
      refine lv_iload hx hb dX9_mark_66 (lv_at hl 1 rfl) ?_
      refine lv_icmp_eq (tgt := 75) hx hb dX9_mark_68 (by decide) (fun c7 => ?_) (fun c7 => ?_)
      · have h := h.1 c7
        refine lv_iconst (v := (0 : Int32)) hx hb dX9_mark_75 (by decide) ?_
        refine T_calli hw (va_runV (own := "Leastreader") (As := [.int (0 : Int32)]) (rest := []) ⟨hx, hb, hml, hown, ht⟩ (c_X9_acted (tms μ3 k2 3 r5) H.size (0 : Int32) h) (cwV 1 ht (G_V q_624 q_626 q_13 q_46 q_627) rfl rfl rfl ⟨rfl, hd_3⟩ ⟨Nat.le_of_ble_eq_true rfl, Nat.le_of_ble_eq_true rfl⟩) ⟨TB.blind, (T_recv hK hw (kd_of rfl (by decide)) (ent_8 rfl) cl_8), TB.pre hK hN hw⟩ rfl rfl hl.1 rfl (lv_room (Nat.le_of_ble_eq_true rfl)) dX9_mark_76 ⟨Nat.le_of_ble_eq_true rfl, Nat.le_of_ble_eq_true rfl⟩) (fun r9 μ8 H locs h hw => ?_)
        exact hret H locs ls 79 2 12 _ _ hw h rfl (Nat.le_of_ble_eq_true rfl) (Nat.le_of_ble_eq_true rfl) dX9_mark_79
      have h := h.2 c7
      refine lv_iconst (v := (1 : Int32)) hx hb dX9_mark_71 (by decide) ?_
      refine lv_goto (tgt := 76) hx hb dX9_mark_72 (by decide) ?_
      refine T_calli hw (va_runV (own := "Leastreader") (As := [.int (1 : Int32)]) (rest := []) ⟨hx, hb, hml, hown, ht⟩ (c_X9_acted (tms μ3 k2 3 r5) H.size (1 : Int32) h) (cwV 1 ht (G_V q_624 q_626 q_13 q_46 q_627) rfl rfl rfl ⟨rfl, hd_3⟩ ⟨Nat.le_of_ble_eq_true rfl, Nat.le_of_ble_eq_true rfl⟩) ⟨TB.blind, (T_recv hK hw (kd_of rfl (by decide)) (ent_8 rfl) cl_8), TB.pre hK hN hw⟩ rfl rfl hl.1 rfl (lv_room (Nat.le_of_ble_eq_true rfl)) dX9_mark_76 ⟨Nat.le_of_ble_eq_true rfl, Nat.le_of_ble_eq_true rfl⟩) (fun r11 μ10 H locs h hw => ?_)
      exact hret H locs ls 79 2 12 _ _ hw h rfl (Nat.le_of_ble_eq_true rfl) (Nat.le_of_ble_eq_true rfl) dX9_mark_79
    have h := h.2 c6
    refine lv_aload hx hb dX9_mark_46 (lv_at hl 2 rfl) ?_
    refine lv_iload hx hb dX9_mark_48 (lv_at hl 0 rfl) ?_
    refine pgf_X9_111 hx hb ht hown hK hw hk2 dX9_mark_50 (fun H locs hw => ?_)
    refine lv_goto (tgt := 63) hx hb dX9_mark_53 (by decide) ?_
    refine lv_aload_n hx hb dX9_mark_63 rfl (lv_at hl 3 rfl) ?_
    refine lv_iload hx hb dX9_mark_64 (lv_at hl 0 rfl) ?_
    refine lv_iload hx hb dX9_mark_66 (lv_at hl 1 rfl) ?_
    refine lv_icmp_eq (tgt := 75) hx hb dX9_mark_68 (by decide) (fun c12 => ?_) (fun c12 => ?_)
    · have h := h.1 c12
      refine lv_iconst (v := (0 : Int32)) hx hb dX9_mark_75 (by decide) ?_
      refine T_calli hw (va_runV (own := "Leastreader") (As := [.int (0 : Int32)]) (rest := []) ⟨hx, hb, hml, hown, ht⟩ (c_X9_acted (tms μ3 k2 2 r5) H.size (0 : Int32) h) (cwV 1 ht (G_V q_624 q_626 q_13 q_46 q_627) rfl rfl rfl ⟨rfl, hd_3⟩ ⟨Nat.le_of_ble_eq_true rfl, Nat.le_of_ble_eq_true rfl⟩) ⟨TB.blind, (T_recv hK hw (kd_of rfl (by decide)) (ent_8 rfl) cl_8), TB.pre hK hN hw⟩ rfl rfl hl.1 rfl (lv_room (Nat.le_of_ble_eq_true rfl)) dX9_mark_76 ⟨Nat.le_of_ble_eq_true rfl, Nat.le_of_ble_eq_true rfl⟩) (fun r14 μ13 H locs h hw => ?_)
      exact hret H locs ls 79 2 12 _ _ hw h rfl (Nat.le_of_ble_eq_true rfl) (Nat.le_of_ble_eq_true rfl) dX9_mark_79
    have h := h.2 c12
    refine lv_iconst (v := (1 : Int32)) hx hb dX9_mark_71 (by decide) ?_
    refine lv_goto (tgt := 76) hx hb dX9_mark_72 (by decide) ?_
    refine T_calli hw (va_runV (own := "Leastreader") (As := [.int (1 : Int32)]) (rest := []) ⟨hx, hb, hml, hown, ht⟩ (c_X9_acted (tms μ3 k2 2 r5) H.size (1 : Int32) h) (cwV 1 ht (G_V q_624 q_626 q_13 q_46 q_627) rfl rfl rfl ⟨rfl, hd_3⟩ ⟨Nat.le_of_ble_eq_true rfl, Nat.le_of_ble_eq_true rfl⟩) ⟨TB.blind, (T_recv hK hw (kd_of rfl (by decide)) (ent_8 rfl) cl_8), TB.pre hK hN hw⟩ rfl rfl hl.1 rfl (lv_room (Nat.le_of_ble_eq_true rfl)) dX9_mark_76 ⟨Nat.le_of_ble_eq_true rfl, Nat.le_of_ble_eq_true rfl⟩) (fun r16 μ15 H locs h hw => ?_)
    exact hret H locs ls 79 2 12 _ _ hw h rfl (Nat.le_of_ble_eq_true rfl) (Nat.le_of_ble_eq_true rfl) dX9_mark_79
  have h := h.2 c4
  refine lv_aload hx hb dX9_mark_17 (lv_at hl 0 rfl) ?_
  refine gf_X9_111 hx hb ht hown hK hw hk2 dX9_mark_19 ?_
  refine lv_goto (tgt := 30) hx hb dX9_mark_22 (by decide) ?_
  refine lv_istore (lv' := [(6, .int (μ3 k2 2)), (5, .ref (ad k2)), (0, .ref (ad 0)), (1, .int a1), (2, .int a2), (3, .int a3), (4, .int a4)]) hx hb dX9_mark_30 hl (by decide) rfl (fun ls hl => ?_)
  refine lv_iload hx hb dX9_mark_32 (lv_at hl 0 rfl) ?_
  refine lv_iload_n hx hb dX9_mark_34 rfl (lv_at hl 4 rfl) ?_
  refine lv_iload hx hb dX9_mark_35 (lv_at hl 6 rfl) ?_
  refine P_calli (va_runS (own := "Leastreader") (As := [.int (μ3 k2 2), .int a2, .int a4]) (rest := []) ⟨hx, hb, hml, hown, ht⟩ (c_X9_withOrWithout (μ3 k2 2) a2 a4 h) (va_cwS 3 ht (G_S q_642 q_403 q_46 q_404) rfl rfl rfl hd_9 ⟨Nat.le_of_ble_eq_true rfl, Nat.le_of_ble_eq_true rfl⟩) ⟨PM_blind, PM_pre⟩ rfl rfl hl.1 rfl (lv_room (Nat.le_of_ble_eq_true rfl)) dX9_mark_37 ⟨Nat.le_of_ble_eq_true rfl, Nat.le_of_ble_eq_true rfl⟩) (fun r17 h => ?_)
  refine lv_istore (lv' := [(7, .int r17), (6, .int (μ3 k2 2)), (5, .ref (ad k2)), (0, .ref (ad 0)), (1, .int a1), (2, .int a2), (3, .int a3), (4, .int a4)]) hx hb dX9_mark_40 hl (by decide) rfl (fun ls hl => ?_)
  refine lv_iload_n hx hb dX9_mark_42 rfl (lv_at hl 6 rfl) ?_
  refine lv_if_eq (tgt := 56) hx hb dX9_mark_43 (by decide) (fun c18 => ?_) (fun c18 => ?_)
  · have h := h.1 c18
    refine lv_aload hx hb dX9_mark_56 (lv_at hl 2 rfl) ?_
    refine lv_iload hx hb dX9_mark_58 (lv_at hl 0 rfl) ?_
    refine pgf_X9_115 hx hb ht hN hown hK hw hk2 dX9_mark_60 (fun H locs hw => ?_)
    refine lv_aload_n hx hb dX9_mark_63 rfl (lv_at hl 3 rfl) ?_
    refine lv_iload hx hb dX9_mark_64 (lv_at hl 0 rfl) ?_
    refine lv_iload hx hb dX9_mark_66 (lv_at hl 1 rfl) ?_
    refine lv_icmp_eq (tgt := 75) hx hb dX9_mark_68 (by decide) (fun c19 => ?_) (fun c19 => ?_)
    · have h := h.1 c19
      refine lv_iconst (v := (0 : Int32)) hx hb dX9_mark_75 (by decide) ?_
      refine T_calli hw (va_runV (own := "Leastreader") (As := [.int (0 : Int32)]) (rest := []) ⟨hx, hb, hml, hown, ht⟩ (c_X9_acted (tms μ3 k2 3 r17) H.size (0 : Int32) h) (cwV 1 ht (G_V q_624 q_626 q_13 q_46 q_627) rfl rfl rfl ⟨rfl, hd_3⟩ ⟨Nat.le_of_ble_eq_true rfl, Nat.le_of_ble_eq_true rfl⟩) ⟨TB.blind, (T_recv hK hw (kd_of rfl (by decide)) (ent_8 rfl) cl_8), TB.pre hK hN hw⟩ rfl rfl hl.1 rfl (lv_room (Nat.le_of_ble_eq_true rfl)) dX9_mark_76 ⟨Nat.le_of_ble_eq_true rfl, Nat.le_of_ble_eq_true rfl⟩) (fun r21 μ20 H locs h hw => ?_)
      exact hret H locs ls 79 2 12 _ _ hw h rfl (Nat.le_of_ble_eq_true rfl) (Nat.le_of_ble_eq_true rfl) dX9_mark_79
    have h := h.2 c19
    refine lv_iconst (v := (1 : Int32)) hx hb dX9_mark_71 (by decide) ?_
    refine lv_goto (tgt := 76) hx hb dX9_mark_72 (by decide) ?_
    refine T_calli hw (va_runV (own := "Leastreader") (As := [.int (1 : Int32)]) (rest := []) ⟨hx, hb, hml, hown, ht⟩ (c_X9_acted (tms μ3 k2 3 r17) H.size (1 : Int32) h) (cwV 1 ht (G_V q_624 q_626 q_13 q_46 q_627) rfl rfl rfl ⟨rfl, hd_3⟩ ⟨Nat.le_of_ble_eq_true rfl, Nat.le_of_ble_eq_true rfl⟩) ⟨TB.blind, (T_recv hK hw (kd_of rfl (by decide)) (ent_8 rfl) cl_8), TB.pre hK hN hw⟩ rfl rfl hl.1 rfl (lv_room (Nat.le_of_ble_eq_true rfl)) dX9_mark_76 ⟨Nat.le_of_ble_eq_true rfl, Nat.le_of_ble_eq_true rfl⟩) (fun r23 μ22 H locs h hw => ?_)
    exact hret H locs ls 79 2 12 _ _ hw h rfl (Nat.le_of_ble_eq_true rfl) (Nat.le_of_ble_eq_true rfl) dX9_mark_79
  have h := h.2 c18
  refine lv_aload hx hb dX9_mark_46 (lv_at hl 2 rfl) ?_
  refine lv_iload hx hb dX9_mark_48 (lv_at hl 0 rfl) ?_
  refine pgf_X9_111 hx hb ht hown hK hw hk2 dX9_mark_50 (fun H locs hw => ?_)
  refine lv_goto (tgt := 63) hx hb dX9_mark_53 (by decide) ?_
  refine lv_aload_n hx hb dX9_mark_63 rfl (lv_at hl 3 rfl) ?_
  refine lv_iload hx hb dX9_mark_64 (lv_at hl 0 rfl) ?_
  refine lv_iload hx hb dX9_mark_66 (lv_at hl 1 rfl) ?_
  refine lv_icmp_eq (tgt := 75) hx hb dX9_mark_68 (by decide) (fun c24 => ?_) (fun c24 => ?_)
  · have h := h.1 c24
    refine lv_iconst (v := (0 : Int32)) hx hb dX9_mark_75 (by decide) ?_
    refine T_calli hw (va_runV (own := "Leastreader") (As := [.int (0 : Int32)]) (rest := []) ⟨hx, hb, hml, hown, ht⟩ (c_X9_acted (tms μ3 k2 2 r17) H.size (0 : Int32) h) (cwV 1 ht (G_V q_624 q_626 q_13 q_46 q_627) rfl rfl rfl ⟨rfl, hd_3⟩ ⟨Nat.le_of_ble_eq_true rfl, Nat.le_of_ble_eq_true rfl⟩) ⟨TB.blind, (T_recv hK hw (kd_of rfl (by decide)) (ent_8 rfl) cl_8), TB.pre hK hN hw⟩ rfl rfl hl.1 rfl (lv_room (Nat.le_of_ble_eq_true rfl)) dX9_mark_76 ⟨Nat.le_of_ble_eq_true rfl, Nat.le_of_ble_eq_true rfl⟩) (fun r26 μ25 H locs h hw => ?_)
    exact hret H locs ls 79 2 12 _ _ hw h rfl (Nat.le_of_ble_eq_true rfl) (Nat.le_of_ble_eq_true rfl) dX9_mark_79
  have h := h.2 c24
  refine lv_iconst (v := (1 : Int32)) hx hb dX9_mark_71 (by decide) ?_
  refine lv_goto (tgt := 76) hx hb dX9_mark_72 (by decide) ?_
  refine T_calli hw (va_runV (own := "Leastreader") (As := [.int (1 : Int32)]) (rest := []) ⟨hx, hb, hml, hown, ht⟩ (c_X9_acted (tms μ3 k2 2 r17) H.size (1 : Int32) h) (cwV 1 ht (G_V q_624 q_626 q_13 q_46 q_627) rfl rfl rfl ⟨rfl, hd_3⟩ ⟨Nat.le_of_ble_eq_true rfl, Nat.le_of_ble_eq_true rfl⟩) ⟨TB.blind, (T_recv hK hw (kd_of rfl (by decide)) (ent_8 rfl) cl_8), TB.pre hK hN hw⟩ rfl rfl hl.1 rfl (lv_room (Nat.le_of_ble_eq_true rfl)) dX9_mark_76 ⟨Nat.le_of_ble_eq_true rfl, Nat.le_of_ble_eq_true rfl⟩) (fun r28 μ27 H locs h hw => ?_)
  exact hret H locs ls 79 2 12 _ _ hw h rfl (Nat.le_of_ble_eq_true rfl) (Nat.le_of_ble_eq_true rfl) dX9_mark_79
end
/-! part 51.m32 -/
section
def wp_X9_sow (μ : TMem) (a1 : Int32) (a2 : Int32) (a3 : Int32) (a4 : Int32) (Q : Int32 → TMem → Prop) (X : String → TMem → Prop) : Prop :=
  wp_X9_machineAt μ a1 (fun (k2 : Nat) (μ1 : TMem) => wp_X9_checkRange μ1 a2 (0 : Int32) (65535 : Int32) (fun (μ3 : TMem) => wp_X9_checkRange μ3 a3 (1 : Int32) (7 : Int32) (fun (μ4 : TMem) => wp_X9_checkRange μ4 a4 (0 : Int32) (6 : Int32) (fun (μ5 : TMem) => wp_X0_restart μ5 a2 (fun (μ6 : TMem) => wp_X2_clear k2 μ6 a3 (fun (μ7 : TMem) => wp_X2_sowArrows k2 μ7 a4 (fun (μ8 : TMem) => wp_X2_sowGoals k2 μ8 (fun (μ9 : TMem) => wp_X2_countArrows k2 μ9 (fun (r10 : Int32) => wp_X9_acted μ9 r10 (fun (r14 : Int32) (μ13 : TMem) => Q r14 μ13))))))) X) X) X) X
set_option maxHeartbeats 4000000 in
set_option maxRecDepth 100000 in
theorem c_X9_sow {l : Launch} (hst : l.stackTraces = false) {D : va_G} {ad : Nat → Nat} {cI cM : ClassId}  (μ : TMem) (sz : Nat) (a1 : Int32) (a2 : Int32) (a3 : Int32) (a4 : Int32) {Q : Int32 → TMem → Prop} {X : String → TMem → Prop} (h : wp_X9_sow μ a1 a2 a3 a4 Q X) : XMi l yX9_sow (.code yX9_sow cX9_sow 6 (Option.some Jvm.ClassFile.FieldType.int)) 3 4 24 [.ref (ad 0), .int a1, .int a2, .int a3, .int a4] D ad cI cM sz μ Q X := by
  refine X_meti (by decide +kernel) (Nat.le_of_ble_eq_true rfl) ?_
  intro p e s m below meth c Qc ls hx hb hml hown ht hN hK hX htab hlocks hw hret hl
  have hl : lv_has ls 6 [(0, .ref (ad 0)), (1, .int a1), (2, .int a2), (3, .int a3), (4, .int a4)] := hl
  suffices hh : ∀ (H : Heap) (locs : List Loc), TW D ad cI cM s μ H locs → W p l e (RX 3 4 24) s m #[.ref (ad 0), .int a1, .int a2, .int a3, .int a4] below meth c H locs 0 0 (vx_MQ below Qc (vx_X (fun _ : TMem => True) (TEX D ad cI cM X) (TA ad s.heap.size)) #[.ref (ad 0), .int a1, .int a2, .int a3, .int a4] s 4 24 (TA ad s.heap.size)) (F0 m 0 ls []) from hh _ _ hw
  intro H locs hw
  change wp_X9_machineAt μ a1 (fun (k2 : Nat) (μ1 : TMem) => wp_X9_checkRange μ1 a2 (0 : Int32) (65535 : Int32) (fun (μ3 : TMem) => wp_X9_checkRange μ3 a3 (1 : Int32) (7 : Int32) (fun (μ4 : TMem) => wp_X9_checkRange μ4 a4 (0 : Int32) (6 : Int32) (fun (μ5 : TMem) => wp_X0_restart μ5 a2 (fun (μ6 : TMem) => wp_X2_clear k2 μ6 a3 (fun (μ7 : TMem) => wp_X2_sowArrows k2 μ7 a4 (fun (μ8 : TMem) => wp_X2_sowGoals k2 μ8 (fun (μ9 : TMem) => wp_X2_countArrows k2 μ9 (fun (r10 : Int32) => wp_X9_acted μ9 r10 (fun (r14 : Int32) (μ13 : TMem) => Q r14 μ13))))))) X) X) X) X at h
  refine lv_aload_n hx hb dX9_sow_0 rfl (lv_at hl 0 rfl) ?_
  refine lv_iload_n hx hb dX9_sow_1 rfl (lv_at hl 1 rfl) ?_
  refine X_callo hw htab hlocks (c1 := 1) (n1 := 6) rfl rfl (Nat.le_of_ble_eq_true rfl) (Nat.le_of_ble_eq_true rfl) (vx_runV (own := "Leastreader") (As := [.int a1]) (rest := []) ⟨hx, hb, hml, hown, ht⟩ (c_X9_machineAt hst μ H.size a1 h) (cwV 1 ht (G_V q_314 q_316 q_0 q_46 q_317) rfl rfl rfl ⟨rfl, hd_53⟩ ⟨Nat.le_of_ble_eq_true rfl, Nat.le_of_ble_eq_true rfl⟩) ⟨TBX.blind, (T_recv hK hw (kd_of rfl (by decide)) (ent_8 rfl) cl_8), TBX.pre hK hN hX hw⟩ rfl rfl hl.1 rfl (lv_room (Nat.le_of_ble_eq_true rfl)) dX9_sow_2 ⟨Nat.le_of_ble_eq_true rfl, Nat.le_of_ble_eq_true rfl⟩) (fun k2 μ1 H locs hk2 h hw => ?_)
  refine lv_astore (lv' := [(5, .ref (ad k2)), (0, .ref (ad 0)), (1, .int a1), (2, .int a2), (3, .int a3), (4, .int a4)]) hx hb dX9_sow_5 hl (by decide) rfl (fun ls hl => ?_)
  refine lv_iload_n hx hb dX9_sow_7 rfl (lv_at hl 3 rfl) ?_
  refine lv_iconst (v := (0 : Int32)) hx hb dX9_sow_8 (by decide) ?_
  refine lv_ldc (v := (65535 : Int32)) hx hb hown (ht _ q_666) dX9_sow_9 ?_
  refine X_callv hw htab hlocks (c1 := 2) (n1 := 12) rfl rfl (Nat.le_of_ble_eq_true rfl) (Nat.le_of_ble_eq_true rfl) (vx_runS (own := "Leastreader") (As := [.int a2, .int (0 : Int32), .int (65535 : Int32)]) (rest := []) ⟨hx, hb, hml, hown, ht⟩ (c_X9_checkRange hst μ1 H.size a2 (0 : Int32) (65535 : Int32) h) (va_cwS 3 ht (G_S q_597 q_598 q_46 q_599) rfl rfl rfl hd_54 ⟨Nat.le_of_ble_eq_true rfl, Nat.le_of_ble_eq_true rfl⟩) ⟨TBX.blind, TBX.pre hK hN hX hw⟩ rfl rfl hl.1 rfl (lv_room (Nat.le_of_ble_eq_true rfl)) dX9_sow_11 ⟨Nat.le_of_ble_eq_true rfl, Nat.le_of_ble_eq_true rfl⟩) (fun μ3 H locs h hw => ?_)
  refine lv_iload_n hx hb dX9_sow_14 rfl (lv_at hl 4 rfl) ?_
  refine lv_iconst (v := (1 : Int32)) hx hb dX9_sow_15 (by decide) ?_
  refine lv_bipush (v := (7 : Int32)) hx hb dX9_sow_16 (by decide) ?_
  refine X_callv hw htab hlocks (c1 := 3) (n1 := 18) rfl rfl (Nat.le_of_ble_eq_true rfl) (Nat.le_of_ble_eq_true rfl) (vx_runS (own := "Leastreader") (As := [.int a3, .int (1 : Int32), .int (7 : Int32)]) (rest := []) ⟨hx, hb, hml, hown, ht⟩ (c_X9_checkRange hst μ3 H.size a3 (1 : Int32) (7 : Int32) h) (va_cwS 3 ht (G_S q_597 q_598 q_46 q_599) rfl rfl rfl hd_54 ⟨Nat.le_of_ble_eq_true rfl, Nat.le_of_ble_eq_true rfl⟩) ⟨TBX.blind, TBX.pre hK hN hX hw⟩ rfl rfl hl.1 rfl (lv_room (Nat.le_of_ble_eq_true rfl)) dX9_sow_18 ⟨Nat.le_of_ble_eq_true rfl, Nat.le_of_ble_eq_true rfl⟩) (fun μ4 H locs h hw => ?_)
  refine lv_iload hx hb dX9_sow_21 (lv_at hl 5 rfl) ?_
  refine lv_iconst (v := (0 : Int32)) hx hb dX9_sow_23 (by decide) ?_
  refine lv_bipush (v := (6 : Int32)) hx hb dX9_sow_24 (by decide) ?_
  refine X_callv hw htab hlocks (c1 := 4) (n1 := 24) rfl rfl (Nat.le_of_ble_eq_true rfl) (Nat.le_of_ble_eq_true rfl) (vx_runS (own := "Leastreader") (As := [.int a4, .int (0 : Int32), .int (6 : Int32)]) (rest := []) ⟨hx, hb, hml, hown, ht⟩ (c_X9_checkRange hst μ4 H.size a4 (0 : Int32) (6 : Int32) h) (va_cwS 3 ht (G_S q_597 q_598 q_46 q_599) rfl rfl rfl hd_54 ⟨Nat.le_of_ble_eq_true rfl, Nat.le_of_ble_eq_true rfl⟩) ⟨TBX.blind, TBX.pre hK hN hX hw⟩ rfl rfl hl.1 rfl (lv_room (Nat.le_of_ble_eq_true rfl)) dX9_sow_26 ⟨Nat.le_of_ble_eq_true rfl, Nat.le_of_ble_eq_true rfl⟩) (fun μ5 H locs h hw => ?_)
  refine lv_aload_n hx hb dX9_sow_29 rfl (lv_at hl 1 rfl) ?_
  refine gf_X9_28 hx hb ht hown hK hw rfl dX9_sow_30 ?_
  refine lv_iload_n hx hb dX9_sow_33 rfl (lv_at hl 3 rfl) ?_
  refine T_callv hw (va_runV (own := "Leastreader") (As := [.int a2]) (rest := []) ⟨hx, hb, hml, hown, ht⟩ (c_X0_restart μ5 H.size a2 h) (cwV 1 ht (G_V q_667 q_668 q_669 q_49 q_670) rfl rfl rfl ⟨rfl, hd_58⟩ ⟨Nat.le_of_ble_eq_true rfl, Nat.le_of_ble_eq_true rfl⟩) ⟨TB.blind, (T_recv hK hw (kd_of rfl (by decide)) (ent_0 rfl) cl_0), TB.pre hK hN hw⟩ rfl rfl hl.1 rfl (lv_room (Nat.le_of_ble_eq_true rfl)) dX9_sow_34 ⟨Nat.le_of_ble_eq_true rfl, Nat.le_of_ble_eq_true rfl⟩) (fun μ6 H locs h hw => ?_)
  refine lv_aload hx hb dX9_sow_37 (lv_at hl 0 rfl) ?_
  refine lv_iload_n hx hb dX9_sow_39 rfl (lv_at hl 4 rfl) ?_
  refine T_callv hw (va_runV (own := "Leastreader") (As := [.int a3]) (rest := []) ⟨hx, hb, hml, hown, ht⟩ (c_X2_clear k2 hk2 μ6 H.size a3 h) (cwV 1 ht (G_V q_616 q_617 q_618 q_48 q_619) rfl rfl rfl ⟨rfl, hd_55⟩ ⟨Nat.le_of_ble_eq_true rfl, Nat.le_of_ble_eq_true rfl⟩) ⟨TB.blind, (T_recv hK hw (kd_of hk2 (by decide)) (ent_2 hk2) cl_2), TB.pre hK hN hw⟩ rfl rfl hl.1 rfl (lv_room (Nat.le_of_ble_eq_true rfl)) dX9_sow_40 ⟨Nat.le_of_ble_eq_true rfl, Nat.le_of_ble_eq_true rfl⟩) (fun μ7 H locs h hw => ?_)
  refine lv_aload hx hb dX9_sow_43 (lv_at hl 0 rfl) ?_
  refine lv_aload_n hx hb dX9_sow_45 rfl (lv_at hl 1 rfl) ?_
  refine gf_X9_28 hx hb ht hown hK hw rfl dX9_sow_46 ?_
  refine lv_iload hx hb dX9_sow_49 (lv_at hl 5 rfl) ?_
  refine T_callv hw (va_runV (own := "Leastreader") (As := [.ref (ad 14), .int a4]) (rest := []) ⟨hx, hb, hml, hown, ht⟩ (c_X2_sowArrows k2 hk2 μ7 H.size a4 h) (cwV 2 ht (G_V q_671 q_672 q_673 q_48 q_674) rfl rfl rfl ⟨rfl, hd_59⟩ ⟨Nat.le_of_ble_eq_true rfl, Nat.le_of_ble_eq_true rfl⟩) ⟨TB.blind, (T_recv hK hw (kd_of hk2 (by decide)) (ent_2 hk2) cl_2), TB.pre hK hN hw⟩ rfl rfl hl.1 rfl (lv_room (Nat.le_of_ble_eq_true rfl)) dX9_sow_51 ⟨Nat.le_of_ble_eq_true rfl, Nat.le_of_ble_eq_true rfl⟩) (fun μ8 H locs h hw => ?_)
  refine lv_aload hx hb dX9_sow_54 (lv_at hl 0 rfl) ?_
  refine lv_aload_n hx hb dX9_sow_56 rfl (lv_at hl 1 rfl) ?_
  refine gf_X9_28 hx hb ht hown hK hw rfl dX9_sow_57 ?_
  refine T_callv hw (va_runV (own := "Leastreader") (As := [.ref (ad 14)]) (rest := []) ⟨hx, hb, hml, hown, ht⟩ (c_X2_sowGoals k2 hk2 μ8 H.size h) (cwV 1 ht (G_V q_688 q_689 q_690 q_48 q_691) rfl rfl rfl ⟨rfl, hd_60⟩ ⟨Nat.le_of_ble_eq_true rfl, Nat.le_of_ble_eq_true rfl⟩) ⟨TB.blind, (T_recv hK hw (kd_of hk2 (by decide)) (ent_2 hk2) cl_2), TB.pre hK hN hw⟩ rfl rfl hl.1 rfl (lv_room (Nat.le_of_ble_eq_true rfl)) dX9_sow_60 ⟨Nat.le_of_ble_eq_true rfl, Nat.le_of_ble_eq_true rfl⟩) (fun μ9 H locs h hw => ?_)
  refine lv_aload_n hx hb dX9_sow_63 rfl (lv_at hl 1 rfl) ?_
  refine lv_aload hx hb dX9_sow_64 (lv_at hl 0 rfl) ?_
  refine T_calli hw (va_runV (own := "Leastreader") (As := []) (rest := [.ref (ad 0)]) ⟨hx, hb, hml, hown, ht⟩ (c_X2_countArrows k2 hk2 μ9 H.size h) (cwV 0 ht (G_V q_559 q_560 q_561 q_48 q_562) rfl rfl rfl ⟨rfl, hd_34⟩ ⟨Nat.le_of_ble_eq_true rfl, Nat.le_of_ble_eq_true rfl⟩) ⟨TB.blind, (T_recv hK hw (kd_of hk2 (by decide)) (ent_2 hk2) cl_2), TB.pre hK hN hw⟩ rfl rfl hl.1 rfl (lv_room (Nat.le_of_ble_eq_true rfl)) dX9_sow_66 ⟨Nat.le_of_ble_eq_true rfl, Nat.le_of_ble_eq_true rfl⟩) (fun r10 μ11 H locs h hw => ?_)
  obtain ⟨e12, h⟩ := h
  rw [e12] at hw
  refine T_calli hw (va_runV (own := "Leastreader") (As := [.int r10]) (rest := []) ⟨hx, hb, hml, hown, ht⟩ (c_X9_acted μ9 H.size r10 h) (cwV 1 ht (G_V q_624 q_626 q_13 q_46 q_627) rfl rfl rfl ⟨rfl, hd_3⟩ ⟨Nat.le_of_ble_eq_true rfl, Nat.le_of_ble_eq_true rfl⟩) ⟨TB.blind, (T_recv hK hw (kd_of rfl (by decide)) (ent_8 rfl) cl_8), TB.pre hK hN hw⟩ rfl rfl hl.1 rfl (lv_room (Nat.le_of_ble_eq_true rfl)) dX9_sow_69 ⟨Nat.le_of_ble_eq_true rfl, Nat.le_of_ble_eq_true rfl⟩) (fun r14 μ13 H locs h hw => ?_)
  exact hret H locs ls 72 4 24 _ _ hw h rfl (Nat.le_of_ble_eq_true rfl) (Nat.le_of_ble_eq_true rfl) dX9_sow_72
def wp_X9_copy (μ : TMem) (a1 : Int32) (a2 : Int32) (Q : Int32 → TMem → Prop) (X : String → TMem → Prop) : Prop :=
  wp_X9_machineAt μ a1 (fun (k2 : Nat) (μ1 : TMem) => wp_X9_machineAt μ1 a2 (fun (k4 : Nat) (μ3 : TMem) => wp_X2_isSameAs k4 k2 μ3 (fun (r5 : Int32) => wp_X2_become k4 k2 μ3 (fun (μ8 : TMem) => (r5 = 0 → (wp_X9_acted μ8 (1 : Int32) (fun (r11 : Int32) (μ10 : TMem) => Q r11 μ10))) ∧ (¬ r5 = 0 → (wp_X9_acted μ8 (0 : Int32) (fun (r13 : Int32) (μ12 : TMem) => Q r13 μ12)))))) X) X
set_option maxHeartbeats 4000000 in
set_option maxRecDepth 100000 in
theorem c_X9_copy {l : Launch} (hst : l.stackTraces = false) {D : va_G} {ad : Nat → Nat} {cI cM : ClassId}  (μ : TMem) (sz : Nat) (a1 : Int32) (a2 : Int32) {Q : Int32 → TMem → Prop} {X : String → TMem → Prop} (h : wp_X9_copy μ a1 a2 Q X) : XMi l yX9_copy (.code yX9_copy cX9_copy 6 (Option.some Jvm.ClassFile.FieldType.int)) 3 2 12 [.ref (ad 0), .int a1, .int a2] D ad cI cM sz μ Q X := by
  refine X_meti (by decide +kernel) (Nat.le_of_ble_eq_true rfl) ?_
  intro p e s m below meth c Qc ls hx hb hml hown ht hN hK hX htab hlocks hw hret hl
  have hl : lv_has ls 6 [(0, .ref (ad 0)), (1, .int a1), (2, .int a2)] := hl
  suffices hh : ∀ (H : Heap) (locs : List Loc), TW D ad cI cM s μ H locs → W p l e (RX 3 2 12) s m #[.ref (ad 0), .int a1, .int a2] below meth c H locs 0 0 (vx_MQ below Qc (vx_X (fun _ : TMem => True) (TEX D ad cI cM X) (TA ad s.heap.size)) #[.ref (ad 0), .int a1, .int a2] s 2 12 (TA ad s.heap.size)) (F0 m 0 ls []) from hh _ _ hw
  intro H locs hw
  change wp_X9_machineAt μ a1 (fun (k2 : Nat) (μ1 : TMem) => wp_X9_machineAt μ1 a2 (fun (k4 : Nat) (μ3 : TMem) => wp_X2_isSameAs k4 k2 μ3 (fun (r5 : Int32) => wp_X2_become k4 k2 μ3 (fun (μ8 : TMem) => (r5 = 0 → (wp_X9_acted μ8 (1 : Int32) (fun (r11 : Int32) (μ10 : TMem) => Q r11 μ10))) ∧ (¬ r5 = 0 → (wp_X9_acted μ8 (0 : Int32) (fun (r13 : Int32) (μ12 : TMem) => Q r13 μ12)))))) X) X at h
  refine lv_aload_n hx hb dX9_copy_0 rfl (lv_at hl 0 rfl) ?_
  refine lv_iload_n hx hb dX9_copy_1 rfl (lv_at hl 1 rfl) ?_
  refine X_callo hw htab hlocks (c1 := 1) (n1 := 6) rfl rfl (Nat.le_of_ble_eq_true rfl) (Nat.le_of_ble_eq_true rfl) (vx_runV (own := "Leastreader") (As := [.int a1]) (rest := []) ⟨hx, hb, hml, hown, ht⟩ (c_X9_machineAt hst μ H.size a1 h) (cwV 1 ht (G_V q_314 q_316 q_0 q_46 q_317) rfl rfl rfl ⟨rfl, hd_53⟩ ⟨Nat.le_of_ble_eq_true rfl, Nat.le_of_ble_eq_true rfl⟩) ⟨TBX.blind, (T_recv hK hw (kd_of rfl (by decide)) (ent_8 rfl) cl_8), TBX.pre hK hN hX hw⟩ rfl rfl hl.1 rfl (lv_room (Nat.le_of_ble_eq_true rfl)) dX9_copy_2 ⟨Nat.le_of_ble_eq_true rfl, Nat.le_of_ble_eq_true rfl⟩) (fun k2 μ1 H locs hk2 h hw => ?_)
  refine lv_astore_n (lv' := [(3, .ref (ad k2)), (0, .ref (ad 0)), (1, .int a1), (2, .int a2)]) hx hb dX9_copy_5 rfl hl (by decide) rfl (fun ls hl => ?_)
  refine lv_aload_n hx hb dX9_copy_6 rfl (lv_at hl 1 rfl) ?_
  refine lv_iload_n hx hb dX9_copy_7 rfl (lv_at hl 3 rfl) ?_
  refine X_callo hw htab hlocks (c1 := 2) (n1 := 12) rfl rfl (Nat.le_of_ble_eq_true rfl) (Nat.le_of_ble_eq_true rfl) (vx_runV (own := "Leastreader") (As := [.int a2]) (rest := []) ⟨hx, hb, hml, hown, ht⟩ (c_X9_machineAt hst μ1 H.size a2 h) (cwV 1 ht (G_V q_314 q_316 q_0 q_46 q_317) rfl rfl rfl ⟨rfl, hd_53⟩ ⟨Nat.le_of_ble_eq_true rfl, Nat.le_of_ble_eq_true rfl⟩) ⟨TBX.blind, (T_recv hK hw (kd_of rfl (by decide)) (ent_8 rfl) cl_8), TBX.pre hK hN hX hw⟩ rfl rfl hl.1 rfl (lv_room (Nat.le_of_ble_eq_true rfl)) dX9_copy_8 ⟨Nat.le_of_ble_eq_true rfl, Nat.le_of_ble_eq_true rfl⟩) (fun k4 μ3 H locs hk4 h hw => ?_)
  refine lv_astore (lv' := [(4, .ref (ad k4)), (3, .ref (ad k2)), (0, .ref (ad 0)), (1, .int a1), (2, .int a2)]) hx hb dX9_copy_11 hl (by decide) rfl (fun ls hl => ?_)
  refine lv_aload hx hb dX9_copy_13 (lv_at hl 0 rfl) ?_
  refine lv_aload_n hx hb dX9_copy_15 rfl (lv_at hl 1 rfl) ?_
  refine T_calli hw (va_runV (own := "Leastreader") (As := [.ref (ad k2)]) (rest := []) ⟨hx, hb, hml, hown, ht⟩ (c_X2_isSameAs k4 hk4 k2 hk2 μ3 H.size h) (cwV 1 ht (G_V q_699 q_700 q_701 q_48 q_702) rfl rfl rfl ⟨rfl, hd_61⟩ ⟨Nat.le_of_ble_eq_true rfl, Nat.le_of_ble_eq_true rfl⟩) ⟨TB.blind, (T_recv hK hw (kd_of hk4 (by decide)) (ent_2 hk4) cl_2), TB.pre hK hN hw⟩ rfl rfl hl.1 rfl (lv_room (Nat.le_of_ble_eq_true rfl)) dX9_copy_16 ⟨Nat.le_of_ble_eq_true rfl, Nat.le_of_ble_eq_true rfl⟩) (fun r5 μ6 H locs h hw => ?_)
  obtain ⟨e7, h⟩ := h
  rw [e7] at hw
  refine lv_istore (lv' := [(5, .int r5), (4, .ref (ad k4)), (3, .ref (ad k2)), (0, .ref (ad 0)), (1, .int a1), (2, .int a2)]) hx hb dX9_copy_19 hl (by decide) rfl (fun ls hl => ?_)
  refine lv_aload hx hb dX9_copy_21 (lv_at hl 1 rfl) ?_
  refine lv_aload_n hx hb dX9_copy_23 rfl (lv_at hl 2 rfl) ?_
  refine T_callv hw (va_runV (own := "Leastreader") (As := [.ref (ad k2)]) (rest := []) ⟨hx, hb, hml, hown, ht⟩ (c_X2_become k4 hk4 k2 hk2 μ3 H.size h) (cwV 1 ht (G_V q_706 q_707 q_708 q_48 q_709) rfl rfl rfl ⟨rfl, hd_62⟩ ⟨Nat.le_of_ble_eq_true rfl, Nat.le_of_ble_eq_true rfl⟩) ⟨TB.blind, (T_recv hK hw (kd_of hk4 (by decide)) (ent_2 hk4) cl_2), TB.pre hK hN hw⟩ rfl rfl hl.1 rfl (lv_room (Nat.le_of_ble_eq_true rfl)) dX9_copy_24 ⟨Nat.le_of_ble_eq_true rfl, Nat.le_of_ble_eq_true rfl⟩) (fun μ8 H locs h hw => ?_)
  refine lv_aload_n hx hb dX9_copy_27 rfl (lv_at hl 3 rfl) ?_
  refine lv_iload hx hb dX9_copy_28 (lv_at hl 0 rfl) ?_
  refine lv_if_eq (tgt := 37) hx hb dX9_copy_30 (by decide) (fun c9 => ?_) (fun c9 => ?_)
  · have h := h.1 c9
    refine lv_iconst (v := (1 : Int32)) hx hb dX9_copy_37 (by decide) ?_
    refine T_calli hw (va_runV (own := "Leastreader") (As := [.int (1 : Int32)]) (rest := []) ⟨hx, hb, hml, hown, ht⟩ (c_X9_acted μ8 H.size (1 : Int32) h) (cwV 1 ht (G_V q_624 q_626 q_13 q_46 q_627) rfl rfl rfl ⟨rfl, hd_3⟩ ⟨Nat.le_of_ble_eq_true rfl, Nat.le_of_ble_eq_true rfl⟩) ⟨TB.blind, (T_recv hK hw (kd_of rfl (by decide)) (ent_8 rfl) cl_8), TB.pre hK hN hw⟩ rfl rfl hl.1 rfl (lv_room (Nat.le_of_ble_eq_true rfl)) dX9_copy_38 ⟨Nat.le_of_ble_eq_true rfl, Nat.le_of_ble_eq_true rfl⟩) (fun r11 μ10 H locs h hw => ?_)
    exact hret H locs ls 41 2 12 _ _ hw h rfl (Nat.le_of_ble_eq_true rfl) (Nat.le_of_ble_eq_true rfl) dX9_copy_41
  have h := h.2 c9
  refine lv_iconst (v := (0 : Int32)) hx hb dX9_copy_33 (by decide) ?_
  refine lv_goto (tgt := 38) hx hb dX9_copy_34 (by decide) ?_
  refine T_calli hw (va_runV (own := "Leastreader") (As := [.int (0 : Int32)]) (rest := []) ⟨hx, hb, hml, hown, ht⟩ (c_X9_acted μ8 H.size (0 : Int32) h) (cwV 1 ht (G_V q_624 q_626 q_13 q_46 q_627) rfl rfl rfl ⟨rfl, hd_3⟩ ⟨Nat.le_of_ble_eq_true rfl, Nat.le_of_ble_eq_true rfl⟩) ⟨TB.blind, (T_recv hK hw (kd_of rfl (by decide)) (ent_8 rfl) cl_8), TB.pre hK hN hw⟩ rfl rfl hl.1 rfl (lv_room (Nat.le_of_ble_eq_true rfl)) dX9_copy_38 ⟨Nat.le_of_ble_eq_true rfl, Nat.le_of_ble_eq_true rfl⟩) (fun r13 μ12 H locs h hw => ?_)
  exact hret H locs ls 41 2 12 _ _ hw h rfl (Nat.le_of_ble_eq_true rfl) (Nat.le_of_ble_eq_true rfl) dX9_copy_41
def wp_X9_swap (μ : TMem) (a1 : Int32) (a2 : Int32) (Q : Int32 → TMem → Prop) (X : String → TMem → Prop) : Prop :=
  wp_X9_machineAt μ a1 (fun (k2 : Nat) (μ1 : TMem) => wp_X9_machineAt μ1 a2 (fun (k4 : Nat) (μ3 : TMem) => wp_X2_isSameAs k2 k4 μ3 (fun (r5 : Int32) => wp_X2_become 10 k2 μ3 (fun (μ8 : TMem) => wp_X2_become k2 k4 μ8 (fun (μ9 : TMem) => wp_X2_become k4 10 μ9 (fun (μ10 : TMem) => (r5 = 0 → (wp_X9_acted μ10 (1 : Int32) (fun (r13 : Int32) (μ12 : TMem) => Q r13 μ12))) ∧ (¬ r5 = 0 → (wp_X9_acted μ10 (0 : Int32) (fun (r15 : Int32) (μ14 : TMem) => Q r15 μ14)))))))) X) X
set_option maxHeartbeats 4000000 in
set_option maxRecDepth 100000 in
theorem c_X9_swap {l : Launch} (hst : l.stackTraces = false) {D : va_G} {ad : Nat → Nat} {cI cM : ClassId}  (μ : TMem) (sz : Nat) (a1 : Int32) (a2 : Int32) {Q : Int32 → TMem → Prop} {X : String → TMem → Prop} (h : wp_X9_swap μ a1 a2 Q X) : XMi l yX9_swap (.code yX9_swap cX9_swap 6 (Option.some Jvm.ClassFile.FieldType.int)) 3 2 12 [.ref (ad 0), .int a1, .int a2] D ad cI cM sz μ Q X := by
  refine X_meti (by decide +kernel) (Nat.le_of_ble_eq_true rfl) ?_
  intro p e s m below meth c Qc ls hx hb hml hown ht hN hK hX htab hlocks hw hret hl
  have hl : lv_has ls 6 [(0, .ref (ad 0)), (1, .int a1), (2, .int a2)] := hl
  suffices hh : ∀ (H : Heap) (locs : List Loc), TW D ad cI cM s μ H locs → W p l e (RX 3 2 12) s m #[.ref (ad 0), .int a1, .int a2] below meth c H locs 0 0 (vx_MQ below Qc (vx_X (fun _ : TMem => True) (TEX D ad cI cM X) (TA ad s.heap.size)) #[.ref (ad 0), .int a1, .int a2] s 2 12 (TA ad s.heap.size)) (F0 m 0 ls []) from hh _ _ hw
  intro H locs hw
  change wp_X9_machineAt μ a1 (fun (k2 : Nat) (μ1 : TMem) => wp_X9_machineAt μ1 a2 (fun (k4 : Nat) (μ3 : TMem) => wp_X2_isSameAs k2 k4 μ3 (fun (r5 : Int32) => wp_X2_become 10 k2 μ3 (fun (μ8 : TMem) => wp_X2_become k2 k4 μ8 (fun (μ9 : TMem) => wp_X2_become k4 10 μ9 (fun (μ10 : TMem) => (r5 = 0 → (wp_X9_acted μ10 (1 : Int32) (fun (r13 : Int32) (μ12 : TMem) => Q r13 μ12))) ∧ (¬ r5 = 0 → (wp_X9_acted μ10 (0 : Int32) (fun (r15 : Int32) (μ14 : TMem) => Q r15 μ14)))))))) X) X at h
  refine lv_aload_n hx hb dX9_swap_0 rfl (lv_at hl 0 rfl) ?_
  refine lv_iload_n hx hb dX9_swap_1 rfl (lv_at hl 1 rfl) ?_
  refine X_callo hw htab hlocks (c1 := 1) (n1 := 6) rfl rfl (Nat.le_of_ble_eq_true rfl) (Nat.le_of_ble_eq_true rfl) (vx_runV (own := "Leastreader") (As := [.int a1]) (rest := []) ⟨hx, hb, hml, hown, ht⟩ (c_X9_machineAt hst μ H.size a1 h) (cwV 1 ht (G_V q_314 q_316 q_0 q_46 q_317) rfl rfl rfl ⟨rfl, hd_53⟩ ⟨Nat.le_of_ble_eq_true rfl, Nat.le_of_ble_eq_true rfl⟩) ⟨TBX.blind, (T_recv hK hw (kd_of rfl (by decide)) (ent_8 rfl) cl_8), TBX.pre hK hN hX hw⟩ rfl rfl hl.1 rfl (lv_room (Nat.le_of_ble_eq_true rfl)) dX9_swap_2 ⟨Nat.le_of_ble_eq_true rfl, Nat.le_of_ble_eq_true rfl⟩) (fun k2 μ1 H locs hk2 h hw => ?_)
  refine lv_astore_n (lv' := [(3, .ref (ad k2)), (0, .ref (ad 0)), (1, .int a1), (2, .int a2)]) hx hb dX9_swap_5 rfl hl (by decide) rfl (fun ls hl => ?_)
  refine lv_aload_n hx hb dX9_swap_6 rfl (lv_at hl 1 rfl) ?_
  refine lv_iload_n hx hb dX9_swap_7 rfl (lv_at hl 3 rfl) ?_
  refine X_callo hw htab hlocks (c1 := 2) (n1 := 12) rfl rfl (Nat.le_of_ble_eq_true rfl) (Nat.le_of_ble_eq_true rfl) (vx_runV (own := "Leastreader") (As := [.int a2]) (rest := []) ⟨hx, hb, hml, hown, ht⟩ (c_X9_machineAt hst μ1 H.size a2 h) (cwV 1 ht (G_V q_314 q_316 q_0 q_46 q_317) rfl rfl rfl ⟨rfl, hd_53⟩ ⟨Nat.le_of_ble_eq_true rfl, Nat.le_of_ble_eq_true rfl⟩) ⟨TBX.blind, (T_recv hK hw (kd_of rfl (by decide)) (ent_8 rfl) cl_8), TBX.pre hK hN hX hw⟩ rfl rfl hl.1 rfl (lv_room (Nat.le_of_ble_eq_true rfl)) dX9_swap_8 ⟨Nat.le_of_ble_eq_true rfl, Nat.le_of_ble_eq_true rfl⟩) (fun k4 μ3 H locs hk4 h hw => ?_)
  refine lv_astore (lv' := [(4, .ref (ad k4)), (3, .ref (ad k2)), (0, .ref (ad 0)), (1, .int a1), (2, .int a2)]) hx hb dX9_swap_11 hl (by decide) rfl (fun ls hl => ?_)
  refine lv_aload_n hx hb dX9_swap_13 rfl (lv_at hl 1 rfl) ?_
  refine lv_aload hx hb dX9_swap_14 (lv_at hl 0 rfl) ?_
  refine T_calli hw (va_runV (own := "Leastreader") (As := [.ref (ad k4)]) (rest := []) ⟨hx, hb, hml, hown, ht⟩ (c_X2_isSameAs k2 hk2 k4 hk4 μ3 H.size h) (cwV 1 ht (G_V q_699 q_700 q_701 q_48 q_702) rfl rfl rfl ⟨rfl, hd_61⟩ ⟨Nat.le_of_ble_eq_true rfl, Nat.le_of_ble_eq_true rfl⟩) ⟨TB.blind, (T_recv hK hw (kd_of hk2 (by decide)) (ent_2 hk2) cl_2), TB.pre hK hN hw⟩ rfl rfl hl.1 rfl (lv_room (Nat.le_of_ble_eq_true rfl)) dX9_swap_16 ⟨Nat.le_of_ble_eq_true rfl, Nat.le_of_ble_eq_true rfl⟩) (fun r5 μ6 H locs h hw => ?_)
  obtain ⟨e7, h⟩ := h
  rw [e7] at hw
  refine lv_istore (lv' := [(5, .int r5), (4, .ref (ad k4)), (3, .ref (ad k2)), (0, .ref (ad 0)), (1, .int a1), (2, .int a2)]) hx hb dX9_swap_19 hl (by decide) rfl (fun ls hl => ?_)
  refine lv_aload_n hx hb dX9_swap_21 rfl (lv_at hl 3 rfl) ?_
  refine gf_X9_18 hx hb ht hown hK hw rfl dX9_swap_22 ?_
  refine lv_aload_n hx hb dX9_swap_25 rfl (lv_at hl 2 rfl) ?_
  refine T_callv hw (va_runV (own := "Leastreader") (As := [.ref (ad k2)]) (rest := []) ⟨hx, hb, hml, hown, ht⟩ (c_X2_become 10 rfl k2 hk2 μ3 H.size h) (cwV 1 ht (G_V q_706 q_707 q_708 q_48 q_709) rfl rfl rfl ⟨rfl, hd_62⟩ ⟨Nat.le_of_ble_eq_true rfl, Nat.le_of_ble_eq_true rfl⟩) ⟨TB.blind, (T_recv hK hw (kd_of rfl (by decide)) (ent_2 rfl) cl_2), TB.pre hK hN hw⟩ rfl rfl hl.1 rfl (lv_room (Nat.le_of_ble_eq_true rfl)) dX9_swap_26 ⟨Nat.le_of_ble_eq_true rfl, Nat.le_of_ble_eq_true rfl⟩) (fun μ8 H locs h hw => ?_)
  refine lv_aload_n hx hb dX9_swap_29 rfl (lv_at hl 2 rfl) ?_
  refine lv_aload hx hb dX9_swap_30 (lv_at hl 1 rfl) ?_
  refine T_callv hw (va_runV (own := "Leastreader") (As := [.ref (ad k4)]) (rest := []) ⟨hx, hb, hml, hown, ht⟩ (c_X2_become k2 hk2 k4 hk4 μ8 H.size h) (cwV 1 ht (G_V q_706 q_707 q_708 q_48 q_709) rfl rfl rfl ⟨rfl, hd_62⟩ ⟨Nat.le_of_ble_eq_true rfl, Nat.le_of_ble_eq_true rfl⟩) ⟨TB.blind, (T_recv hK hw (kd_of hk2 (by decide)) (ent_2 hk2) cl_2), TB.pre hK hN hw⟩ rfl rfl hl.1 rfl (lv_room (Nat.le_of_ble_eq_true rfl)) dX9_swap_32 ⟨Nat.le_of_ble_eq_true rfl, Nat.le_of_ble_eq_true rfl⟩) (fun μ9 H locs h hw => ?_)
  refine lv_aload hx hb dX9_swap_35 (lv_at hl 1 rfl) ?_
  refine lv_aload_n hx hb dX9_swap_37 rfl (lv_at hl 3 rfl) ?_
  refine gf_X9_18 hx hb ht hown hK hw rfl dX9_swap_38 ?_
  refine T_callv hw (va_runV (own := "Leastreader") (As := [.ref (ad 10)]) (rest := []) ⟨hx, hb, hml, hown, ht⟩ (c_X2_become k4 hk4 10 rfl μ9 H.size h) (cwV 1 ht (G_V q_706 q_707 q_708 q_48 q_709) rfl rfl rfl ⟨rfl, hd_62⟩ ⟨Nat.le_of_ble_eq_true rfl, Nat.le_of_ble_eq_true rfl⟩) ⟨TB.blind, (T_recv hK hw (kd_of hk4 (by decide)) (ent_2 hk4) cl_2), TB.pre hK hN hw⟩ rfl rfl hl.1 rfl (lv_room (Nat.le_of_ble_eq_true rfl)) dX9_swap_41 ⟨Nat.le_of_ble_eq_true rfl, Nat.le_of_ble_eq_true rfl⟩) (fun μ10 H locs h hw => ?_)
  refine lv_aload_n hx hb dX9_swap_44 rfl (lv_at hl 3 rfl) ?_
  refine lv_iload hx hb dX9_swap_45 (lv_at hl 0 rfl) ?_
  refine lv_if_eq (tgt := 54) hx hb dX9_swap_47 (by decide) (fun c11 => ?_) (fun c11 => ?_)
  · have h := h.1 c11
    refine lv_iconst (v := (1 : Int32)) hx hb dX9_swap_54 (by decide) ?_
    refine T_calli hw (va_runV (own := "Leastreader") (As := [.int (1 : Int32)]) (rest := []) ⟨hx, hb, hml, hown, ht⟩ (c_X9_acted μ10 H.size (1 : Int32) h) (cwV 1 ht (G_V q_624 q_626 q_13 q_46 q_627) rfl rfl rfl ⟨rfl, hd_3⟩ ⟨Nat.le_of_ble_eq_true rfl, Nat.le_of_ble_eq_true rfl⟩) ⟨TB.blind, (T_recv hK hw (kd_of rfl (by decide)) (ent_8 rfl) cl_8), TB.pre hK hN hw⟩ rfl rfl hl.1 rfl (lv_room (Nat.le_of_ble_eq_true rfl)) dX9_swap_55 ⟨Nat.le_of_ble_eq_true rfl, Nat.le_of_ble_eq_true rfl⟩) (fun r13 μ12 H locs h hw => ?_)
    exact hret H locs ls 58 2 12 _ _ hw h rfl (Nat.le_of_ble_eq_true rfl) (Nat.le_of_ble_eq_true rfl) dX9_swap_58
  have h := h.2 c11
  refine lv_iconst (v := (0 : Int32)) hx hb dX9_swap_50 (by decide) ?_
  refine lv_goto (tgt := 55) hx hb dX9_swap_51 (by decide) ?_
  refine T_calli hw (va_runV (own := "Leastreader") (As := [.int (0 : Int32)]) (rest := []) ⟨hx, hb, hml, hown, ht⟩ (c_X9_acted μ10 H.size (0 : Int32) h) (cwV 1 ht (G_V q_624 q_626 q_13 q_46 q_627) rfl rfl rfl ⟨rfl, hd_3⟩ ⟨Nat.le_of_ble_eq_true rfl, Nat.le_of_ble_eq_true rfl⟩) ⟨TB.blind, (T_recv hK hw (kd_of rfl (by decide)) (ent_8 rfl) cl_8), TB.pre hK hN hw⟩ rfl rfl hl.1 rfl (lv_room (Nat.le_of_ble_eq_true rfl)) dX9_swap_55 ⟨Nat.le_of_ble_eq_true rfl, Nat.le_of_ble_eq_true rfl⟩) (fun r15 μ14 H locs h hw => ?_)
  exact hret H locs ls 58 2 12 _ _ hw h rfl (Nat.le_of_ble_eq_true rfl) (Nat.le_of_ble_eq_true rfl) dX9_swap_58
def wp_X9_turn (μ : TMem) (a1 : Int32) (Q : Int32 → TMem → Prop) (X : String → TMem → Prop) : Prop :=
  wp_X9_machineAt μ a1 (fun (k2 : Nat) (μ1 : TMem) => wp_X2_become 10 k2 μ1 (fun (μ3 : TMem) => wp_X2_becomeRound k2 10 μ3 (fun (μ4 : TMem) => wp_X2_countArrows k2 μ4 (fun (r5 : Int32) => wp_X9_acted μ4 r5 (fun (r9 : Int32) (μ8 : TMem) => Q r9 μ8))))) X
set_option maxHeartbeats 4000000 in
set_option maxRecDepth 100000 in
theorem c_X9_turn {l : Launch} (hst : l.stackTraces = false) {D : va_G} {ad : Nat → Nat} {cI cM : ClassId}  (μ : TMem) (sz : Nat) (a1 : Int32) {Q : Int32 → TMem → Prop} {X : String → TMem → Prop} (h : wp_X9_turn μ a1 Q X) : XMi l yX9_turn (.code yX9_turn cX9_turn 3 (Option.some Jvm.ClassFile.FieldType.int)) 3 1 6 [.ref (ad 0), .int a1] D ad cI cM sz μ Q X := by
  refine X_meti (by decide +kernel) (Nat.le_of_ble_eq_true rfl) ?_
  intro p e s m below meth c Qc ls hx hb hml hown ht hN hK hX htab hlocks hw hret hl
  have hl : lv_has ls 3 [(0, .ref (ad 0)), (1, .int a1)] := hl
  suffices hh : ∀ (H : Heap) (locs : List Loc), TW D ad cI cM s μ H locs → W p l e (RX 3 1 6) s m #[.ref (ad 0), .int a1] below meth c H locs 0 0 (vx_MQ below Qc (vx_X (fun _ : TMem => True) (TEX D ad cI cM X) (TA ad s.heap.size)) #[.ref (ad 0), .int a1] s 1 6 (TA ad s.heap.size)) (F0 m 0 ls []) from hh _ _ hw
  intro H locs hw
  change wp_X9_machineAt μ a1 (fun (k2 : Nat) (μ1 : TMem) => wp_X2_become 10 k2 μ1 (fun (μ3 : TMem) => wp_X2_becomeRound k2 10 μ3 (fun (μ4 : TMem) => wp_X2_countArrows k2 μ4 (fun (r5 : Int32) => wp_X9_acted μ4 r5 (fun (r9 : Int32) (μ8 : TMem) => Q r9 μ8))))) X at h
  refine lv_aload_n hx hb dX9_turn_0 rfl (lv_at hl 0 rfl) ?_
  refine lv_iload_n hx hb dX9_turn_1 rfl (lv_at hl 1 rfl) ?_
  refine X_callo hw htab hlocks (c1 := 1) (n1 := 6) rfl rfl (Nat.le_of_ble_eq_true rfl) (Nat.le_of_ble_eq_true rfl) (vx_runV (own := "Leastreader") (As := [.int a1]) (rest := []) ⟨hx, hb, hml, hown, ht⟩ (c_X9_machineAt hst μ H.size a1 h) (cwV 1 ht (G_V q_314 q_316 q_0 q_46 q_317) rfl rfl rfl ⟨rfl, hd_53⟩ ⟨Nat.le_of_ble_eq_true rfl, Nat.le_of_ble_eq_true rfl⟩) ⟨TBX.blind, (T_recv hK hw (kd_of rfl (by decide)) (ent_8 rfl) cl_8), TBX.pre hK hN hX hw⟩ rfl rfl hl.1 rfl (lv_room (Nat.le_of_ble_eq_true rfl)) dX9_turn_2 ⟨Nat.le_of_ble_eq_true rfl, Nat.le_of_ble_eq_true rfl⟩) (fun k2 μ1 H locs hk2 h hw => ?_)
  refine lv_astore_n (lv' := [(2, .ref (ad k2)), (0, .ref (ad 0)), (1, .int a1)]) hx hb dX9_turn_5 rfl hl (by decide) rfl (fun ls hl => ?_)
  refine lv_aload_n hx hb dX9_turn_6 rfl (lv_at hl 1 rfl) ?_
  refine gf_X9_18 hx hb ht hown hK hw rfl dX9_turn_7 ?_
  refine lv_aload_n hx hb dX9_turn_10 rfl (lv_at hl 0 rfl) ?_
  refine T_callv hw (va_runV (own := "Leastreader") (As := [.ref (ad k2)]) (rest := []) ⟨hx, hb, hml, hown, ht⟩ (c_X2_become 10 rfl k2 hk2 μ1 H.size h) (cwV 1 ht (G_V q_706 q_707 q_708 q_48 q_709) rfl rfl rfl ⟨rfl, hd_62⟩ ⟨Nat.le_of_ble_eq_true rfl, Nat.le_of_ble_eq_true rfl⟩) ⟨TB.blind, (T_recv hK hw (kd_of rfl (by decide)) (ent_2 rfl) cl_2), TB.pre hK hN hw⟩ rfl rfl hl.1 rfl (lv_room (Nat.le_of_ble_eq_true rfl)) dX9_turn_11 ⟨Nat.le_of_ble_eq_true rfl, Nat.le_of_ble_eq_true rfl⟩) (fun μ3 H locs h hw => ?_)
  refine lv_aload_n hx hb dX9_turn_14 rfl (lv_at hl 0 rfl) ?_
  refine lv_aload_n hx hb dX9_turn_15 rfl (lv_at hl 1 rfl) ?_
  refine gf_X9_18 hx hb ht hown hK hw rfl dX9_turn_16 ?_
  refine T_callv hw (va_runV (own := "Leastreader") (As := [.ref (ad 10)]) (rest := []) ⟨hx, hb, hml, hown, ht⟩ (c_X2_becomeRound k2 hk2 10 rfl μ3 H.size h) (cwV 1 ht (G_V q_724 q_437 q_438 q_48 q_439) rfl rfl rfl ⟨rfl, hd_47⟩ ⟨Nat.le_of_ble_eq_true rfl, Nat.le_of_ble_eq_true rfl⟩) ⟨TB.blind, (T_recv hK hw (kd_of hk2 (by decide)) (ent_2 hk2) cl_2), TB.pre hK hN hw⟩ rfl rfl hl.1 rfl (lv_room (Nat.le_of_ble_eq_true rfl)) dX9_turn_19 ⟨Nat.le_of_ble_eq_true rfl, Nat.le_of_ble_eq_true rfl⟩) (fun μ4 H locs h hw => ?_)
  refine lv_aload_n hx hb dX9_turn_22 rfl (lv_at hl 1 rfl) ?_
  refine lv_aload_n hx hb dX9_turn_23 rfl (lv_at hl 0 rfl) ?_
  refine T_calli hw (va_runV (own := "Leastreader") (As := []) (rest := [.ref (ad 0)]) ⟨hx, hb, hml, hown, ht⟩ (c_X2_countArrows k2 hk2 μ4 H.size h) (cwV 0 ht (G_V q_559 q_560 q_561 q_48 q_562) rfl rfl rfl ⟨rfl, hd_34⟩ ⟨Nat.le_of_ble_eq_true rfl, Nat.le_of_ble_eq_true rfl⟩) ⟨TB.blind, (T_recv hK hw (kd_of hk2 (by decide)) (ent_2 hk2) cl_2), TB.pre hK hN hw⟩ rfl rfl hl.1 rfl (lv_room (Nat.le_of_ble_eq_true rfl)) dX9_turn_24 ⟨Nat.le_of_ble_eq_true rfl, Nat.le_of_ble_eq_true rfl⟩) (fun r5 μ6 H locs h hw => ?_)
  obtain ⟨e7, h⟩ := h
  rw [e7] at hw
  refine T_calli hw (va_runV (own := "Leastreader") (As := [.int r5]) (rest := []) ⟨hx, hb, hml, hown, ht⟩ (c_X9_acted μ4 H.size r5 h) (cwV 1 ht (G_V q_624 q_626 q_13 q_46 q_627) rfl rfl rfl ⟨rfl, hd_3⟩ ⟨Nat.le_of_ble_eq_true rfl, Nat.le_of_ble_eq_true rfl⟩) ⟨TB.blind, (T_recv hK hw (kd_of rfl (by decide)) (ent_8 rfl) cl_8), TB.pre hK hN hw⟩ rfl rfl hl.1 rfl (lv_room (Nat.le_of_ble_eq_true rfl)) dX9_turn_27 ⟨Nat.le_of_ble_eq_true rfl, Nat.le_of_ble_eq_true rfl⟩) (fun r9 μ8 H locs h hw => ?_)
  exact hret H locs ls 30 1 6 _ _ hw h rfl (Nat.le_of_ble_eq_true rfl) (Nat.le_of_ble_eq_true rfl) dX9_turn_30
def wp_X9_other (μ : TMem) (a1 : Int32) (Q : Int32 → TMem → Prop) (X : String → TMem → Prop) : Prop :=
  wp_X9_machineAt μ a1 (fun (k2 : Nat) (μ1 : TMem) => wp_X2_isPlain k2 μ1 (fun (r3 : Int32) => (¬ r3 = 0 → (wp_X2_allStates k2 μ1 (fun (r7 : Int32) => wp_J6_bitCount_0f7a4 ((tms μ1 k2 2 (r7 &&& ((μ1 k2 2) ^^^ (-1 : Int32)))) k2 2) (fun (r10 : Int32) => wp_X9_acted (tms μ1 k2 2 (r7 &&& ((μ1 k2 2) ^^^ (-1 : Int32)))) r10 (fun (r12 : Int32) (μ11 : TMem) => Q r12 μ11))))) ∧ (r3 = 0 → (wp_X9_refuse μ1 (fun (r14 : Int32) (μ13 : TMem) => Q r14 μ13))))) X
set_option maxHeartbeats 4000000 in
set_option maxRecDepth 100000 in
theorem c_X9_other {l : Launch} (hst : l.stackTraces = false) {D : va_G} {ad : Nat → Nat} {cI cM : ClassId}  (μ : TMem) (sz : Nat) (a1 : Int32) {Q : Int32 → TMem → Prop} {X : String → TMem → Prop} (h : wp_X9_other μ a1 Q X) : XMi l yX9_other (.code yX9_other cX9_other 3 (Option.some Jvm.ClassFile.FieldType.int)) 2 1 6 [.ref (ad 0), .int a1] D ad cI cM sz μ Q X := by
  refine X_meti (by decide +kernel) (Nat.le_of_ble_eq_true rfl) ?_
  intro p e s m below meth c Qc ls hx hb hml hown ht hN hK hX htab hlocks hw hret hl
  have hl : lv_has ls 3 [(0, .ref (ad 0)), (1, .int a1)] := hl
  suffices hh : ∀ (H : Heap) (locs : List Loc), TW D ad cI cM s μ H locs → W p l e (RX 2 1 6) s m #[.ref (ad 0), .int a1] below meth c H locs 0 0 (vx_MQ below Qc (vx_X (fun _ : TMem => True) (TEX D ad cI cM X) (TA ad s.heap.size)) #[.ref (ad 0), .int a1] s 1 6 (TA ad s.heap.size)) (F0 m 0 ls []) from hh _ _ hw
  intro H locs hw
  change wp_X9_machineAt μ a1 (fun (k2 : Nat) (μ1 : TMem) => wp_X2_isPlain k2 μ1 (fun (r3 : Int32) => (¬ r3 = 0 → (wp_X2_allStates k2 μ1 (fun (r7 : Int32) => wp_J6_bitCount_0f7a4 ((tms μ1 k2 2 (r7 &&& ((μ1 k2 2) ^^^ (-1 : Int32)))) k2 2) (fun (r10 : Int32) => wp_X9_acted (tms μ1 k2 2 (r7 &&& ((μ1 k2 2) ^^^ (-1 : Int32)))) r10 (fun (r12 : Int32) (μ11 : TMem) => Q r12 μ11))))) ∧ (r3 = 0 → (wp_X9_refuse μ1 (fun (r14 : Int32) (μ13 : TMem) => Q r14 μ13))))) X at h
  refine lv_aload_n hx hb dX9_other_0 rfl (lv_at hl 0 rfl) ?_
  refine lv_iload_n hx hb dX9_other_1 rfl (lv_at hl 1 rfl) ?_
  refine X_callo hw htab hlocks (c1 := 1) (n1 := 6) rfl rfl (Nat.le_of_ble_eq_true rfl) (Nat.le_of_ble_eq_true rfl) (vx_runV (own := "Leastreader") (As := [.int a1]) (rest := []) ⟨hx, hb, hml, hown, ht⟩ (c_X9_machineAt hst μ H.size a1 h) (cwV 1 ht (G_V q_314 q_316 q_0 q_46 q_317) rfl rfl rfl ⟨rfl, hd_53⟩ ⟨Nat.le_of_ble_eq_true rfl, Nat.le_of_ble_eq_true rfl⟩) ⟨TBX.blind, (T_recv hK hw (kd_of rfl (by decide)) (ent_8 rfl) cl_8), TBX.pre hK hN hX hw⟩ rfl rfl hl.1 rfl (lv_room (Nat.le_of_ble_eq_true rfl)) dX9_other_2 ⟨Nat.le_of_ble_eq_true rfl, Nat.le_of_ble_eq_true rfl⟩) (fun k2 μ1 H locs hk2 h hw => ?_)
  refine lv_astore_n (lv' := [(2, .ref (ad k2)), (0, .ref (ad 0)), (1, .int a1)]) hx hb dX9_other_5 rfl hl (by decide) rfl (fun ls hl => ?_)
  refine lv_aload_n hx hb dX9_other_6 rfl (lv_at hl 0 rfl) ?_
  refine T_calli hw (va_runV (own := "Leastreader") (As := []) (rest := []) ⟨hx, hb, hml, hown, ht⟩ (c_X2_isPlain k2 hk2 μ1 H.size h) (cwV 0 ht (G_V q_569 q_570 q_571 q_48 q_572) rfl rfl rfl ⟨rfl, hd_35⟩ ⟨Nat.le_of_ble_eq_true rfl, Nat.le_of_ble_eq_true rfl⟩) ⟨TB.blind, (T_recv hK hw (kd_of hk2 (by decide)) (ent_2 hk2) cl_2), TB.pre hK hN hw⟩ rfl rfl hl.1 rfl (lv_room (Nat.le_of_ble_eq_true rfl)) dX9_other_7 ⟨Nat.le_of_ble_eq_true rfl, Nat.le_of_ble_eq_true rfl⟩) (fun r3 μ4 H locs h hw => ?_)
  obtain ⟨e5, h⟩ := h
  rw [e5] at hw
  refine lv_if_ne (tgt := 18) hx hb dX9_other_10 (by decide) (fun c6 => ?_) (fun c6 => ?_)
  · have h := h.1 c6
    refine lv_aload_n hx hb dX9_other_18 rfl (lv_at hl 0 rfl) ?_
    refine lv_aload_n hx hb dX9_other_19 rfl (lv_at hl 0 rfl) ?_
    refine T_calli hw (va_runV (own := "Leastreader") (As := []) (rest := [.ref (ad k2)]) ⟨hx, hb, hml, hown, ht⟩ (c_X2_allStates k2 hk2 μ1 H.size h) (cwV 0 ht (G_V q_736 q_737 q_738 q_48 q_739) rfl rfl rfl ⟨rfl, hd_63⟩ ⟨Nat.le_of_ble_eq_true rfl, Nat.le_of_ble_eq_true rfl⟩) ⟨TB.blind, (T_recv hK hw (kd_of hk2 (by decide)) (ent_2 hk2) cl_2), TB.pre hK hN hw⟩ rfl rfl hl.1 rfl (lv_room (Nat.le_of_ble_eq_true rfl)) dX9_other_20 ⟨Nat.le_of_ble_eq_true rfl, Nat.le_of_ble_eq_true rfl⟩) (fun r7 μ8 H locs h hw => ?_)
    obtain ⟨e9, h⟩ := h
    rw [e9] at hw
    refine lv_aload_n hx hb dX9_other_23 rfl (lv_at hl 0 rfl) ?_
    refine gf_X9_111 hx hb ht hown hK hw hk2 dX9_other_24 ?_
    refine lv_iconst (v := (-1 : Int32)) hx hb dX9_other_27 (by decide) ?_
    refine lv_ixor hx hb dX9_other_28 ?_
    refine lv_iand hx hb dX9_other_29 ?_
    refine pgf_X9_111 hx hb ht hown hK hw hk2 dX9_other_30 (fun H locs hw => ?_)
    refine lv_aload_n hx hb dX9_other_33 rfl (lv_at hl 1 rfl) ?_
    refine lv_aload_n hx hb dX9_other_34 rfl (lv_at hl 0 rfl) ?_
    refine gf_X9_111 hx hb ht hown hK hw hk2 dX9_other_35 ?_
    refine P_calli (va_runS (own := "Leastreader") (As := [.int ((tms μ1 k2 2 (r7 &&& ((μ1 k2 2) ^^^ (-1 : Int32)))) k2 2)]) (rest := [.ref (ad 0)]) ⟨hx, hb, hml, hown, ht⟩ (c_J6_bitCount_0f7a4 ((tms μ1 k2 2 (r7 &&& ((μ1 k2 2) ^^^ (-1 : Int32)))) k2 2) h) (va_cwS 1 ht (G_S q_651 q_564 q_63 q_565) rfl rfl rfl hd_33 ⟨Nat.le_of_ble_eq_true rfl, Nat.le_of_ble_eq_true rfl⟩) ⟨PM_blind, PM_pre⟩ rfl rfl hl.1 rfl (lv_room (Nat.le_of_ble_eq_true rfl)) dX9_other_38 ⟨Nat.le_of_ble_eq_true rfl, Nat.le_of_ble_eq_true rfl⟩) (fun r10 h => ?_)
    refine T_calli hw (va_runV (own := "Leastreader") (As := [.int r10]) (rest := []) ⟨hx, hb, hml, hown, ht⟩ (c_X9_acted (tms μ1 k2 2 (r7 &&& ((μ1 k2 2) ^^^ (-1 : Int32)))) H.size r10 h) (cwV 1 ht (G_V q_624 q_626 q_13 q_46 q_627) rfl rfl rfl ⟨rfl, hd_3⟩ ⟨Nat.le_of_ble_eq_true rfl, Nat.le_of_ble_eq_true rfl⟩) ⟨TB.blind, (T_recv hK hw (kd_of rfl (by decide)) (ent_8 rfl) cl_8), TB.pre hK hN hw⟩ rfl rfl hl.1 rfl (lv_room (Nat.le_of_ble_eq_true rfl)) dX9_other_41 ⟨Nat.le_of_ble_eq_true rfl, Nat.le_of_ble_eq_true rfl⟩) (fun r12 μ11 H locs h hw => ?_)
    exact hret H locs ls 44 1 6 _ _ hw h rfl (Nat.le_of_ble_eq_true rfl) (Nat.le_of_ble_eq_true rfl) dX9_other_44
  have h := h.2 c6
  refine lv_aload_n hx hb dX9_other_13 rfl (lv_at hl 1 rfl) ?_
  refine T_calli hw (va_runV (own := "Leastreader") (As := []) (rest := []) ⟨hx, hb, hml, hown, ht⟩ (c_X9_refuse μ1 H.size h) (cwV 0 ht (G_V q_732 q_734 q_16 q_46 q_735) rfl rfl rfl ⟨rfl, hd_4⟩ ⟨Nat.le_of_ble_eq_true rfl, Nat.le_of_ble_eq_true rfl⟩) ⟨TB.blind, (T_recv hK hw (kd_of rfl (by decide)) (ent_8 rfl) cl_8), TB.pre hK hN hw⟩ rfl rfl hl.1 rfl (lv_room (Nat.le_of_ble_eq_true rfl)) dX9_other_14 ⟨Nat.le_of_ble_eq_true rfl, Nat.le_of_ble_eq_true rfl⟩) (fun r14 μ13 H locs h hw => ?_)
  exact hret H locs ls 17 1 6 _ _ hw h rfl (Nat.le_of_ble_eq_true rfl) (Nat.le_of_ble_eq_true rfl) dX9_other_17
def wp_X9_grow (μ : TMem) (a1 : Int32) (Q : Int32 → TMem → Prop) (X : String → TMem → Prop) : Prop :=
  wp_X9_machineAt μ a1 (fun (k2 : Nat) (μ1 : TMem) => ((μ1 k2 1) < (7 : Int32) → (wp_X2_addState k2 μ1 (fun (μ4 : TMem) => wp_X9_acted μ4 ((μ4 k2 1) - (1 : Int32)) (fun (r6 : Int32) (μ5 : TMem) => Q r6 μ5)))) ∧ (¬ (μ1 k2 1) < (7 : Int32) → (wp_X9_refuse μ1 (fun (r8 : Int32) (μ7 : TMem) => Q r8 μ7)))) X
set_option maxHeartbeats 4000000 in
set_option maxRecDepth 100000 in
theorem c_X9_grow {l : Launch} (hst : l.stackTraces = false) {D : va_G} {ad : Nat → Nat} {cI cM : ClassId}  (μ : TMem) (sz : Nat) (a1 : Int32) {Q : Int32 → TMem → Prop} {X : String → TMem → Prop} (h : wp_X9_grow μ a1 Q X) : XMi l yX9_grow (.code yX9_grow cX9_grow 3 (Option.some Jvm.ClassFile.FieldType.int)) 2 1 6 [.ref (ad 0), .int a1] D ad cI cM sz μ Q X := by
  refine X_meti (by decide +kernel) (Nat.le_of_ble_eq_true rfl) ?_
  intro p e s m below meth c Qc ls hx hb hml hown ht hN hK hX htab hlocks hw hret hl
  have hl : lv_has ls 3 [(0, .ref (ad 0)), (1, .int a1)] := hl
  suffices hh : ∀ (H : Heap) (locs : List Loc), TW D ad cI cM s μ H locs → W p l e (RX 2 1 6) s m #[.ref (ad 0), .int a1] below meth c H locs 0 0 (vx_MQ below Qc (vx_X (fun _ : TMem => True) (TEX D ad cI cM X) (TA ad s.heap.size)) #[.ref (ad 0), .int a1] s 1 6 (TA ad s.heap.size)) (F0 m 0 ls []) from hh _ _ hw
  intro H locs hw
  change wp_X9_machineAt μ a1 (fun (k2 : Nat) (μ1 : TMem) => ((μ1 k2 1) < (7 : Int32) → (wp_X2_addState k2 μ1 (fun (μ4 : TMem) => wp_X9_acted μ4 ((μ4 k2 1) - (1 : Int32)) (fun (r6 : Int32) (μ5 : TMem) => Q r6 μ5)))) ∧ (¬ (μ1 k2 1) < (7 : Int32) → (wp_X9_refuse μ1 (fun (r8 : Int32) (μ7 : TMem) => Q r8 μ7)))) X at h
  refine lv_aload_n hx hb dX9_grow_0 rfl (lv_at hl 0 rfl) ?_
  refine lv_iload_n hx hb dX9_grow_1 rfl (lv_at hl 1 rfl) ?_
  refine X_callo hw htab hlocks (c1 := 1) (n1 := 6) rfl rfl (Nat.le_of_ble_eq_true rfl) (Nat.le_of_ble_eq_true rfl) (vx_runV (own := "Leastreader") (As := [.int a1]) (rest := []) ⟨hx, hb, hml, hown, ht⟩ (c_X9_machineAt hst μ H.size a1 h) (cwV 1 ht (G_V q_314 q_316 q_0 q_46 q_317) rfl rfl rfl ⟨rfl, hd_53⟩ ⟨Nat.le_of_ble_eq_true rfl, Nat.le_of_ble_eq_true rfl⟩) ⟨TBX.blind, (T_recv hK hw (kd_of rfl (by decide)) (ent_8 rfl) cl_8), TBX.pre hK hN hX hw⟩ rfl rfl hl.1 rfl (lv_room (Nat.le_of_ble_eq_true rfl)) dX9_grow_2 ⟨Nat.le_of_ble_eq_true rfl, Nat.le_of_ble_eq_true rfl⟩) (fun k2 μ1 H locs hk2 h hw => ?_)
  refine lv_astore_n (lv' := [(2, .ref (ad k2)), (0, .ref (ad 0)), (1, .int a1)]) hx hb dX9_grow_5 rfl hl (by decide) rfl (fun ls hl => ?_)
  refine lv_aload_n hx hb dX9_grow_6 rfl (lv_at hl 0 rfl) ?_
  refine gf_X9_151 hx hb ht hown hK hw hk2 dX9_grow_7 ?_
  refine lv_bipush (v := (7 : Int32)) hx hb dX9_grow_10 (by decide) ?_
  refine lv_icmp_lt (tgt := 20) hx hb dX9_grow_12 (by decide) (fun c3 => ?_) (fun c3 => ?_)
  · have h := h.1 c3
    refine lv_aload_n hx hb dX9_grow_20 rfl (lv_at hl 0 rfl) ?_
    refine T_callv hw (va_runV (own := "Leastreader") (As := []) (rest := []) ⟨hx, hb, hml, hown, ht⟩ (c_X2_addState k2 hk2 μ1 H.size h) (cwV 0 ht (G_V q_747 q_621 q_622 q_48 q_623) rfl rfl rfl ⟨rfl, hd_40⟩ ⟨Nat.le_of_ble_eq_true rfl, Nat.le_of_ble_eq_true rfl⟩) ⟨TB.blind, (T_recv hK hw (kd_of hk2 (by decide)) (ent_2 hk2) cl_2), TB.pre hK hN hw⟩ rfl rfl hl.1 rfl (lv_room (Nat.le_of_ble_eq_true rfl)) dX9_grow_21 ⟨Nat.le_of_ble_eq_true rfl, Nat.le_of_ble_eq_true rfl⟩) (fun μ4 H locs h hw => ?_)
    refine lv_aload_n hx hb dX9_grow_24 rfl (lv_at hl 1 rfl) ?_
    refine lv_aload_n hx hb dX9_grow_25 rfl (lv_at hl 0 rfl) ?_
    refine gf_X9_151 hx hb ht hown hK hw hk2 dX9_grow_26 ?_
    refine lv_iconst (v := (1 : Int32)) hx hb dX9_grow_29 (by decide) ?_
    refine lv_isub hx hb dX9_grow_30 ?_
    refine T_calli hw (va_runV (own := "Leastreader") (As := [.int ((μ4 k2 1) - (1 : Int32))]) (rest := []) ⟨hx, hb, hml, hown, ht⟩ (c_X9_acted μ4 H.size ((μ4 k2 1) - (1 : Int32)) h) (cwV 1 ht (G_V q_624 q_626 q_13 q_46 q_627) rfl rfl rfl ⟨rfl, hd_3⟩ ⟨Nat.le_of_ble_eq_true rfl, Nat.le_of_ble_eq_true rfl⟩) ⟨TB.blind, (T_recv hK hw (kd_of rfl (by decide)) (ent_8 rfl) cl_8), TB.pre hK hN hw⟩ rfl rfl hl.1 rfl (lv_room (Nat.le_of_ble_eq_true rfl)) dX9_grow_31 ⟨Nat.le_of_ble_eq_true rfl, Nat.le_of_ble_eq_true rfl⟩) (fun r6 μ5 H locs h hw => ?_)
    exact hret H locs ls 34 1 6 _ _ hw h rfl (Nat.le_of_ble_eq_true rfl) (Nat.le_of_ble_eq_true rfl) dX9_grow_34
  have h := h.2 c3
  refine lv_aload_n hx hb dX9_grow_15 rfl (lv_at hl 1 rfl) ?_
  refine T_calli hw (va_runV (own := "Leastreader") (As := []) (rest := []) ⟨hx, hb, hml, hown, ht⟩ (c_X9_refuse μ1 H.size h) (cwV 0 ht (G_V q_732 q_734 q_16 q_46 q_735) rfl rfl rfl ⟨rfl, hd_4⟩ ⟨Nat.le_of_ble_eq_true rfl, Nat.le_of_ble_eq_true rfl⟩) ⟨TB.blind, (T_recv hK hw (kd_of rfl (by decide)) (ent_8 rfl) cl_8), TB.pre hK hN hw⟩ rfl rfl hl.1 rfl (lv_room (Nat.le_of_ble_eq_true rfl)) dX9_grow_16 ⟨Nat.le_of_ble_eq_true rfl, Nat.le_of_ble_eq_true rfl⟩) (fun r8 μ7 H locs h hw => ?_)
  exact hret H locs ls 19 1 6 _ _ hw h rfl (Nat.le_of_ble_eq_true rfl) (Nat.le_of_ble_eq_true rfl) dX9_grow_19
def wp_X9_drop (μ : TMem) (a1 : Int32) (a2 : Int32) (Q : Int32 → TMem → Prop) (X : String → TMem → Prop) : Prop :=
  wp_X9_machineAt μ a1 (fun (k2 : Nat) (μ1 : TMem) => wp_X9_checkState k2 μ1 a2 (fun (μ3 : TMem) => (¬ (μ3 k2 1) = (1 : Int32) → (wp_X2_countArrows k2 μ3 (fun (r5 : Int32) => wp_X2_removeState k2 μ3 a2 (fun (μ8 : TMem) => wp_X2_countArrows k2 μ8 (fun (r9 : Int32) => wp_X9_acted μ8 (r5 - r9) (fun (r13 : Int32) (μ12 : TMem) => Q r13 μ12)))))) ∧ ((μ3 k2 1) = (1 : Int32) → (wp_X9_refuse μ3 (fun (r15 : Int32) (μ14 : TMem) => Q r15 μ14)))) X) X
set_option maxHeartbeats 4000000 in
set_option maxRecDepth 100000 in
theorem c_X9_drop {l : Launch} (hst : l.stackTraces = false) {D : va_G} {ad : Nat → Nat} {cI cM : ClassId}  (μ : TMem) (sz : Nat) (a1 : Int32) (a2 : Int32) {Q : Int32 → TMem → Prop} {X : String → TMem → Prop} (h : wp_X9_drop μ a1 a2 Q X) : XMi l yX9_drop (.code yX9_drop cX9_drop 5 (Option.some Jvm.ClassFile.FieldType.int)) 2 2 12 [.ref (ad 0), .int a1, .int a2] D ad cI cM sz μ Q X := by
  refine X_meti (by decide +kernel) (Nat.le_of_ble_eq_true rfl) ?_
  intro p e s m below meth c Qc ls hx hb hml hown ht hN hK hX htab hlocks hw hret hl
  have hl : lv_has ls 5 [(0, .ref (ad 0)), (1, .int a1), (2, .int a2)] := hl
  suffices hh : ∀ (H : Heap) (locs : List Loc), TW D ad cI cM s μ H locs → W p l e (RX 2 2 12) s m #[.ref (ad 0), .int a1, .int a2] below meth c H locs 0 0 (vx_MQ below Qc (vx_X (fun _ : TMem => True) (TEX D ad cI cM X) (TA ad s.heap.size)) #[.ref (ad 0), .int a1, .int a2] s 2 12 (TA ad s.heap.size)) (F0 m 0 ls []) from hh _ _ hw
  intro H locs hw
  change wp_X9_machineAt μ a1 (fun (k2 : Nat) (μ1 : TMem) => wp_X9_checkState k2 μ1 a2 (fun (μ3 : TMem) => (¬ (μ3 k2 1) = (1 : Int32) → (wp_X2_countArrows k2 μ3 (fun (r5 : Int32) => wp_X2_removeState k2 μ3 a2 (fun (μ8 : TMem) => wp_X2_countArrows k2 μ8 (fun (r9 : Int32) => wp_X9_acted μ8 (r5 - r9) (fun (r13 : Int32) (μ12 : TMem) => Q r13 μ12)))))) ∧ ((μ3 k2 1) = (1 : Int32) → (wp_X9_refuse μ3 (fun (r15 : Int32) (μ14 : TMem) => Q r15 μ14)))) X) X at h
  refine lv_aload_n hx hb dX9_drop_0 rfl (lv_at hl 0 rfl) ?_
  refine lv_iload_n hx hb dX9_drop_1 rfl (lv_at hl 1 rfl) ?_
  refine X_callo hw htab hlocks (c1 := 1) (n1 := 6) rfl rfl (Nat.le_of_ble_eq_true rfl) (Nat.le_of_ble_eq_true rfl) (vx_runV (own := "Leastreader") (As := [.int a1]) (rest := []) ⟨hx, hb, hml, hown, ht⟩ (c_X9_machineAt hst μ H.size a1 h) (cwV 1 ht (G_V q_314 q_316 q_0 q_46 q_317) rfl rfl rfl ⟨rfl, hd_53⟩ ⟨Nat.le_of_ble_eq_true rfl, Nat.le_of_ble_eq_true rfl⟩) ⟨TBX.blind, (T_recv hK hw (kd_of rfl (by decide)) (ent_8 rfl) cl_8), TBX.pre hK hN hX hw⟩ rfl rfl hl.1 rfl (lv_room (Nat.le_of_ble_eq_true rfl)) dX9_drop_2 ⟨Nat.le_of_ble_eq_true rfl, Nat.le_of_ble_eq_true rfl⟩) (fun k2 μ1 H locs hk2 h hw => ?_)
  refine lv_astore_n (lv' := [(3, .ref (ad k2)), (0, .ref (ad 0)), (1, .int a1), (2, .int a2)]) hx hb dX9_drop_5 rfl hl (by decide) rfl (fun ls hl => ?_)
  refine lv_aload_n hx hb dX9_drop_6 rfl (lv_at hl 0 rfl) ?_
  refine lv_iload_n hx hb dX9_drop_7 rfl (lv_at hl 3 rfl) ?_
  refine X_callv hw htab hlocks (c1 := 2) (n1 := 12) rfl rfl (Nat.le_of_ble_eq_true rfl) (Nat.le_of_ble_eq_true rfl) (vx_runS (own := "Leastreader") (As := [.ref (ad k2), .int a2]) (rest := []) ⟨hx, hb, hml, hown, ht⟩ (c_X9_checkState hst k2 hk2 μ1 H.size a2 h) (va_cwS 2 ht (G_S q_635 q_636 q_46 q_637) rfl rfl rfl hd_56 ⟨Nat.le_of_ble_eq_true rfl, Nat.le_of_ble_eq_true rfl⟩) ⟨TBX.blind, TBX.pre hK hN hX hw⟩ rfl rfl hl.1 rfl (lv_room (Nat.le_of_ble_eq_true rfl)) dX9_drop_8 ⟨Nat.le_of_ble_eq_true rfl, Nat.le_of_ble_eq_true rfl⟩) (fun μ3 H locs h hw => ?_)
  refine lv_aload_n hx hb dX9_drop_11 rfl (lv_at hl 0 rfl) ?_
  refine gf_X9_151 hx hb ht hown hK hw hk2 dX9_drop_12 ?_
  refine lv_iconst (v := (1 : Int32)) hx hb dX9_drop_15 (by decide) ?_
  refine lv_icmp_ne (tgt := 24) hx hb dX9_drop_16 (by decide) (fun c4 => ?_) (fun c4 => ?_)
  · have h := h.1 c4
    refine lv_aload_n hx hb dX9_drop_24 rfl (lv_at hl 0 rfl) ?_
    refine T_calli hw (va_runV (own := "Leastreader") (As := []) (rest := []) ⟨hx, hb, hml, hown, ht⟩ (c_X2_countArrows k2 hk2 μ3 H.size h) (cwV 0 ht (G_V q_559 q_560 q_561 q_48 q_562) rfl rfl rfl ⟨rfl, hd_34⟩ ⟨Nat.le_of_ble_eq_true rfl, Nat.le_of_ble_eq_true rfl⟩) ⟨TB.blind, (T_recv hK hw (kd_of hk2 (by decide)) (ent_2 hk2) cl_2), TB.pre hK hN hw⟩ rfl rfl hl.1 rfl (lv_room (Nat.le_of_ble_eq_true rfl)) dX9_drop_25 ⟨Nat.le_of_ble_eq_true rfl, Nat.le_of_ble_eq_true rfl⟩) (fun r5 μ6 H locs h hw => ?_)
    obtain ⟨e7, h⟩ := h
    rw [e7] at hw
    refine lv_istore (lv' := [(4, .int r5), (3, .ref (ad k2)), (0, .ref (ad 0)), (1, .int a1), (2, .int a2)]) hx hb dX9_drop_28 hl (by decide) rfl (fun ls hl => ?_)
    refine lv_aload_n hx hb dX9_drop_30 rfl (lv_at hl 1 rfl) ?_
    refine lv_iload_n hx hb dX9_drop_31 rfl (lv_at hl 4 rfl) ?_
    refine T_callv hw (va_runV (own := "Leastreader") (As := [.int a2]) (rest := []) ⟨hx, hb, hml, hown, ht⟩ (c_X2_removeState k2 hk2 μ3 H.size a2 h) (cwV 1 ht (G_V q_755 q_756 q_757 q_48 q_758) rfl rfl rfl ⟨rfl, hd_64⟩ ⟨Nat.le_of_ble_eq_true rfl, Nat.le_of_ble_eq_true rfl⟩) ⟨TB.blind, (T_recv hK hw (kd_of hk2 (by decide)) (ent_2 hk2) cl_2), TB.pre hK hN hw⟩ rfl rfl hl.1 rfl (lv_room (Nat.le_of_ble_eq_true rfl)) dX9_drop_32 ⟨Nat.le_of_ble_eq_true rfl, Nat.le_of_ble_eq_true rfl⟩) (fun μ8 H locs h hw => ?_)
    refine lv_aload_n hx hb dX9_drop_35 rfl (lv_at hl 2 rfl) ?_
    refine lv_iload hx hb dX9_drop_36 (lv_at hl 0 rfl) ?_
    refine lv_aload_n hx hb dX9_drop_38 rfl (lv_at hl 1 rfl) ?_
    refine T_calli hw (va_runV (own := "Leastreader") (As := []) (rest := [.int r5, .ref (ad 0)]) ⟨hx, hb, hml, hown, ht⟩ (c_X2_countArrows k2 hk2 μ8 H.size h) (cwV 0 ht (G_V q_559 q_560 q_561 q_48 q_562) rfl rfl rfl ⟨rfl, hd_34⟩ ⟨Nat.le_of_ble_eq_true rfl, Nat.le_of_ble_eq_true rfl⟩) ⟨TB.blind, (T_recv hK hw (kd_of hk2 (by decide)) (ent_2 hk2) cl_2), TB.pre hK hN hw⟩ rfl rfl hl.1 rfl (lv_room (Nat.le_of_ble_eq_true rfl)) dX9_drop_39 ⟨Nat.le_of_ble_eq_true rfl, Nat.le_of_ble_eq_true rfl⟩) (fun r9 μ10 H locs h hw => ?_)
    obtain ⟨e11, h⟩ := h
    rw [e11] at hw
    refine lv_isub hx hb dX9_drop_42 ?_
    refine T_calli hw (va_runV (own := "Leastreader") (As := [.int (r5 - r9)]) (rest := []) ⟨hx, hb, hml, hown, ht⟩ (c_X9_acted μ8 H.size (r5 - r9) h) (cwV 1 ht (G_V q_624 q_626 q_13 q_46 q_627) rfl rfl rfl ⟨rfl, hd_3⟩ ⟨Nat.le_of_ble_eq_true rfl, Nat.le_of_ble_eq_true rfl⟩) ⟨TB.blind, (T_recv hK hw (kd_of rfl (by decide)) (ent_8 rfl) cl_8), TB.pre hK hN hw⟩ rfl rfl hl.1 rfl (lv_room (Nat.le_of_ble_eq_true rfl)) dX9_drop_43 ⟨Nat.le_of_ble_eq_true rfl, Nat.le_of_ble_eq_true rfl⟩) (fun r13 μ12 H locs h hw => ?_)
    exact hret H locs ls 46 2 12 _ _ hw h rfl (Nat.le_of_ble_eq_true rfl) (Nat.le_of_ble_eq_true rfl) dX9_drop_46
  have h := h.2 c4
  refine lv_aload_n hx hb dX9_drop_19 rfl (lv_at hl 1 rfl) ?_
  refine T_calli hw (va_runV (own := "Leastreader") (As := []) (rest := []) ⟨hx, hb, hml, hown, ht⟩ (c_X9_refuse μ3 H.size h) (cwV 0 ht (G_V q_732 q_734 q_16 q_46 q_735) rfl rfl rfl ⟨rfl, hd_4⟩ ⟨Nat.le_of_ble_eq_true rfl, Nat.le_of_ble_eq_true rfl⟩) ⟨TB.blind, (T_recv hK hw (kd_of rfl (by decide)) (ent_8 rfl) cl_8), TB.pre hK hN hw⟩ rfl rfl hl.1 rfl (lv_room (Nat.le_of_ble_eq_true rfl)) dX9_drop_20 ⟨Nat.le_of_ble_eq_true rfl, Nat.le_of_ble_eq_true rfl⟩) (fun r15 μ14 H locs h hw => ?_)
  exact hret H locs ls 23 2 12 _ _ hw h rfl (Nat.le_of_ble_eq_true rfl) (Nat.le_of_ble_eq_true rfl) dX9_drop_23
end
/-! part 52.m33 -/
section
def wp_X9_make (μ : TMem) (a1 : Int32) (a2 : Int32) (a3 : Int32) (Q : Int32 → TMem → Prop) (X : String → TMem → Prop) : Prop :=
  wp_X9_machineAt μ a1 (fun (k2 : Nat) (μ1 : TMem) => wp_X9_machineAt μ1 a3 (fun (k4 : Nat) (μ3 : TMem) => (a2 = 0 → (wp_X3_makeBy k2 57 μ3 (3 : Int32) (fun (r7 : Int32) (μ6 : TMem) => (¬ r7 = 0 → (wp_X9_becomeMade k4 μ6 (fun (r10 : Int32) (μ9 : TMem) => Q r10 μ9))) ∧ (r7 = 0 → (wp_X9_refuse μ6 (fun (r12 : Int32) (μ11 : TMem) => Q r12 μ11)))))) ∧ (¬ a2 = 0 → (wp_X3_makeBy k2 57 μ3 (0 : Int32) (fun (r14 : Int32) (μ13 : TMem) => (¬ r14 = 0 → (wp_X9_becomeMade k4 μ13 (fun (r17 : Int32) (μ16 : TMem) => Q r17 μ16))) ∧ (r14 = 0 → (wp_X9_refuse μ13 (fun (r19 : Int32) (μ18 : TMem) => Q r19 μ18))))))) X) X
set_option maxHeartbeats 4000000 in
set_option maxRecDepth 100000 in
theorem c_X9_make {l : Launch} (hst : l.stackTraces = false) {D : va_G} {ad : Nat → Nat} {cI cM : ClassId}  (μ : TMem) (sz : Nat) (a1 : Int32) (a2 : Int32) (a3 : Int32) {Q : Int32 → TMem → Prop} {X : String → TMem → Prop} (h : wp_X9_make μ a1 a2 a3 Q X) : XMi l yX9_make (.code yX9_make cX9_make 6 (Option.some Jvm.ClassFile.FieldType.int)) 5 2 12 [.ref (ad 0), .int a1, .int a2, .int a3] D ad cI cM sz μ Q X := by
  refine X_meti (by decide +kernel) (Nat.le_of_ble_eq_true rfl) ?_
  intro p e s m below meth c Qc ls hx hb hml hown ht hN hK hX htab hlocks hw hret hl
  have hl : lv_has ls 6 [(0, .ref (ad 0)), (1, .int a1), (2, .int a2), (3, .int a3)] := hl
  suffices hh : ∀ (H : Heap) (locs : List Loc), TW D ad cI cM s μ H locs → W p l e (RX 5 2 12) s m #[.ref (ad 0), .int a1, .int a2, .int a3] below meth c H locs 0 0 (vx_MQ below Qc (vx_X (fun _ : TMem => True) (TEX D ad cI cM X) (TA ad s.heap.size)) #[.ref (ad 0), .int a1, .int a2, .int a3] s 2 12 (TA ad s.heap.size)) (F0 m 0 ls []) from hh _ _ hw
  intro H locs hw
  change wp_X9_machineAt μ a1 (fun (k2 : Nat) (μ1 : TMem) => wp_X9_machineAt μ1 a3 (fun (k4 : Nat) (μ3 : TMem) => (a2 = 0 → (wp_X3_makeBy k2 57 μ3 (3 : Int32) (fun (r7 : Int32) (μ6 : TMem) => (¬ r7 = 0 → (wp_X9_becomeMade k4 μ6 (fun (r10 : Int32) (μ9 : TMem) => Q r10 μ9))) ∧ (r7 = 0 → (wp_X9_refuse μ6 (fun (r12 : Int32) (μ11 : TMem) => Q r12 μ11)))))) ∧ (¬ a2 = 0 → (wp_X3_makeBy k2 57 μ3 (0 : Int32) (fun (r14 : Int32) (μ13 : TMem) => (¬ r14 = 0 → (wp_X9_becomeMade k4 μ13 (fun (r17 : Int32) (μ16 : TMem) => Q r17 μ16))) ∧ (r14 = 0 → (wp_X9_refuse μ13 (fun (r19 : Int32) (μ18 : TMem) => Q r19 μ18))))))) X) X at h
  refine lv_aload_n hx hb dX9_make_0 rfl (lv_at hl 0 rfl) ?_
  refine lv_iload_n hx hb dX9_make_1 rfl (lv_at hl 1 rfl) ?_
  refine X_callo hw htab hlocks (c1 := 1) (n1 := 6) rfl rfl (Nat.le_of_ble_eq_true rfl) (Nat.le_of_ble_eq_true rfl) (vx_runV (own := "Leastreader") (As := [.int a1]) (rest := []) ⟨hx, hb, hml, hown, ht⟩ (c_X9_machineAt hst μ H.size a1 h) (cwV 1 ht (G_V q_314 q_316 q_0 q_46 q_317) rfl rfl rfl ⟨rfl, hd_53⟩ ⟨Nat.le_of_ble_eq_true rfl, Nat.le_of_ble_eq_true rfl⟩) ⟨TBX.blind, (T_recv hK hw (kd_of rfl (by decide)) (ent_8 rfl) cl_8), TBX.pre hK hN hX hw⟩ rfl rfl hl.1 rfl (lv_room (Nat.le_of_ble_eq_true rfl)) dX9_make_2 ⟨Nat.le_of_ble_eq_true rfl, Nat.le_of_ble_eq_true rfl⟩) (fun k2 μ1 H locs hk2 h hw => ?_)
  refine lv_astore (lv' := [(4, .ref (ad k2)), (0, .ref (ad 0)), (1, .int a1), (2, .int a2), (3, .int a3)]) hx hb dX9_make_5 hl (by decide) rfl (fun ls hl => ?_)
  refine lv_aload_n hx hb dX9_make_7 rfl (lv_at hl 1 rfl) ?_
  refine lv_iload_n hx hb dX9_make_8 rfl (lv_at hl 4 rfl) ?_
  refine X_callo hw htab hlocks (c1 := 2) (n1 := 12) rfl rfl (Nat.le_of_ble_eq_true rfl) (Nat.le_of_ble_eq_true rfl) (vx_runV (own := "Leastreader") (As := [.int a3]) (rest := []) ⟨hx, hb, hml, hown, ht⟩ (c_X9_machineAt hst μ1 H.size a3 h) (cwV 1 ht (G_V q_314 q_316 q_0 q_46 q_317) rfl rfl rfl ⟨rfl, hd_53⟩ ⟨Nat.le_of_ble_eq_true rfl, Nat.le_of_ble_eq_true rfl⟩) ⟨TBX.blind, (T_recv hK hw (kd_of rfl (by decide)) (ent_8 rfl) cl_8), TBX.pre hK hN hX hw⟩ rfl rfl hl.1 rfl (lv_room (Nat.le_of_ble_eq_true rfl)) dX9_make_9 ⟨Nat.le_of_ble_eq_true rfl, Nat.le_of_ble_eq_true rfl⟩) (fun k4 μ3 H locs hk4 h hw => ?_)
  refine lv_astore (lv' := [(5, .ref (ad k4)), (4, .ref (ad k2)), (0, .ref (ad 0)), (1, .int a1), (2, .int a2), (3, .int a3)]) hx hb dX9_make_12 hl (by decide) rfl (fun ls hl => ?_)
  refine lv_aload_n hx hb dX9_make_14 rfl (lv_at hl 2 rfl) ?_
  refine gf_X9_35 hx hb ht hown hK hw rfl dX9_make_15 ?_
  refine lv_iload_n hx hb dX9_make_18 rfl (lv_at hl 4 rfl) ?_
  refine lv_if_eq (tgt := 26) hx hb dX9_make_19 (by decide) (fun c5 => ?_) (fun c5 => ?_)
  · have h := h.1 c5
    refine lv_iconst (v := (3 : Int32)) hx hb dX9_make_26 (by decide) ?_
    refine lv_aload hx hb dX9_make_27 (lv_at hl 1 rfl) ?_
    refine lv_aload_n hx hb dX9_make_29 rfl (lv_at hl 2 rfl) ?_
    refine gf_X9_66 hx hb ht hown hK hw rfl dX9_make_30 ?_
    refine T_calli hw (va_runV (own := "Leastreader") (As := [.int (3 : Int32), .ref (ad k2), .ref (ad 57)]) (rest := []) ⟨hx, hb, hml, hown, ht⟩ (c_X3_makeBy k2 hk2 57 rfl μ3 H.size (3 : Int32) h) (cwV 3 ht (G_V q_386 q_387 q_388 q_50 q_389) rfl rfl rfl ⟨rfl, hd_65⟩ ⟨Nat.le_of_ble_eq_true rfl, Nat.le_of_ble_eq_true rfl⟩) ⟨TB.blind, (T_recv hK hw (kd_of rfl (by decide)) (ent_3 rfl) cl_3), TB.pre hK hN hw⟩ rfl rfl hl.1 rfl (lv_room (Nat.le_of_ble_eq_true rfl)) dX9_make_33 ⟨Nat.le_of_ble_eq_true rfl, Nat.le_of_ble_eq_true rfl⟩) (fun r7 μ6 H locs h hw => ?_)
    refine lv_if_ne (tgt := 44) hx hb dX9_make_36 (by decide) (fun c8 => ?_) (fun c8 => ?_)
    · have h := h.1 c8
      refine lv_aload_n hx hb dX9_make_44 rfl (lv_at hl 2 rfl) ?_
      refine lv_aload hx hb dX9_make_45 (lv_at hl 0 rfl) ?_
      refine T_calli hw (va_runV (own := "Leastreader") (As := [.ref (ad k4)]) (rest := []) ⟨hx, hb, hml, hown, ht⟩ (c_X9_becomeMade k4 hk4 μ6 H.size h) (cwV 1 ht (G_V q_769 q_771 q_17 q_46 q_772) rfl rfl rfl ⟨rfl, hd_66⟩ ⟨Nat.le_of_ble_eq_true rfl, Nat.le_of_ble_eq_true rfl⟩) ⟨TB.blind, (T_recv hK hw (kd_of rfl (by decide)) (ent_8 rfl) cl_8), TB.pre hK hN hw⟩ rfl rfl hl.1 rfl (lv_room (Nat.le_of_ble_eq_true rfl)) dX9_make_47 ⟨Nat.le_of_ble_eq_true rfl, Nat.le_of_ble_eq_true rfl⟩) (fun r10 μ9 H locs h hw => ?_)
      exact hret H locs ls 50 2 12 _ _ hw h rfl (Nat.le_of_ble_eq_true rfl) (Nat.le_of_ble_eq_true rfl) dX9_make_50
    have h := h.2 c8
    refine lv_aload_n hx hb dX9_make_39 rfl (lv_at hl 2 rfl) ?_
    refine T_calli hw (va_runV (own := "Leastreader") (As := []) (rest := []) ⟨hx, hb, hml, hown, ht⟩ (c_X9_refuse μ6 H.size h) (cwV 0 ht (G_V q_732 q_734 q_16 q_46 q_735) rfl rfl rfl ⟨rfl, hd_4⟩ ⟨Nat.le_of_ble_eq_true rfl, Nat.le_of_ble_eq_true rfl⟩) ⟨TB.blind, (T_recv hK hw (kd_of rfl (by decide)) (ent_8 rfl) cl_8), TB.pre hK hN hw⟩ rfl rfl hl.1 rfl (lv_room (Nat.le_of_ble_eq_true rfl)) dX9_make_40 ⟨Nat.le_of_ble_eq_true rfl, Nat.le_of_ble_eq_true rfl⟩) (fun r12 μ11 H locs h hw => ?_)
    exact hret H locs ls 43 2 12 _ _ hw h rfl (Nat.le_of_ble_eq_true rfl) (Nat.le_of_ble_eq_true rfl) dX9_make_43
  have h := h.2 c5
  refine lv_iconst (v := (0 : Int32)) hx hb dX9_make_22 (by decide) ?_
  refine lv_goto (tgt := 27) hx hb dX9_make_23 (by decide) ?_
  refine lv_aload hx hb dX9_make_27 (lv_at hl 1 rfl) ?_
  refine lv_aload_n hx hb dX9_make_29 rfl (lv_at hl 2 rfl) ?_
  refine gf_X9_66 hx hb ht hown hK hw rfl dX9_make_30 ?_
  refine T_calli hw (va_runV (own := "Leastreader") (As := [.int (0 : Int32), .ref (ad k2), .ref (ad 57)]) (rest := []) ⟨hx, hb, hml, hown, ht⟩ (c_X3_makeBy k2 hk2 57 rfl μ3 H.size (0 : Int32) h) (cwV 3 ht (G_V q_386 q_387 q_388 q_50 q_389) rfl rfl rfl ⟨rfl, hd_65⟩ ⟨Nat.le_of_ble_eq_true rfl, Nat.le_of_ble_eq_true rfl⟩) ⟨TB.blind, (T_recv hK hw (kd_of rfl (by decide)) (ent_3 rfl) cl_3), TB.pre hK hN hw⟩ rfl rfl hl.1 rfl (lv_room (Nat.le_of_ble_eq_true rfl)) dX9_make_33 ⟨Nat.le_of_ble_eq_true rfl, Nat.le_of_ble_eq_true rfl⟩) (fun r14 μ13 H locs h hw => ?_)
  refine lv_if_ne (tgt := 44) hx hb dX9_make_36 (by decide) (fun c15 => ?_) (fun c15 => ?_)
  · have h := h.1 c15
    refine lv_aload_n hx hb dX9_make_44 rfl (lv_at hl 2 rfl) ?_
    refine lv_aload hx hb dX9_make_45 (lv_at hl 0 rfl) ?_
    refine T_calli hw (va_runV (own := "Leastreader") (As := [.ref (ad k4)]) (rest := []) ⟨hx, hb, hml, hown, ht⟩ (c_X9_becomeMade k4 hk4 μ13 H.size h) (cwV 1 ht (G_V q_769 q_771 q_17 q_46 q_772) rfl rfl rfl ⟨rfl, hd_66⟩ ⟨Nat.le_of_ble_eq_true rfl, Nat.le_of_ble_eq_true rfl⟩) ⟨TB.blind, (T_recv hK hw (kd_of rfl (by decide)) (ent_8 rfl) cl_8), TB.pre hK hN hw⟩ rfl rfl hl.1 rfl (lv_room (Nat.le_of_ble_eq_true rfl)) dX9_make_47 ⟨Nat.le_of_ble_eq_true rfl, Nat.le_of_ble_eq_true rfl⟩) (fun r17 μ16 H locs h hw => ?_)
    exact hret H locs ls 50 2 12 _ _ hw h rfl (Nat.le_of_ble_eq_true rfl) (Nat.le_of_ble_eq_true rfl) dX9_make_50
  have h := h.2 c15
  refine lv_aload_n hx hb dX9_make_39 rfl (lv_at hl 2 rfl) ?_
  refine T_calli hw (va_runV (own := "Leastreader") (As := []) (rest := []) ⟨hx, hb, hml, hown, ht⟩ (c_X9_refuse μ13 H.size h) (cwV 0 ht (G_V q_732 q_734 q_16 q_46 q_735) rfl rfl rfl ⟨rfl, hd_4⟩ ⟨Nat.le_of_ble_eq_true rfl, Nat.le_of_ble_eq_true rfl⟩) ⟨TB.blind, (T_recv hK hw (kd_of rfl (by decide)) (ent_8 rfl) cl_8), TB.pre hK hN hw⟩ rfl rfl hl.1 rfl (lv_room (Nat.le_of_ble_eq_true rfl)) dX9_make_40 ⟨Nat.le_of_ble_eq_true rfl, Nat.le_of_ble_eq_true rfl⟩) (fun r19 μ18 H locs h hw => ?_)
  exact hret H locs ls 43 2 12 _ _ hw h rfl (Nat.le_of_ble_eq_true rfl) (Nat.le_of_ble_eq_true rfl) dX9_make_43
def wp_X9_combine (μ : TMem) (a1 : Int32) (a2 : Int32) (a3 : Int32) (a4 : Int32) (Q : Int32 → TMem → Prop) (X : String → TMem → Prop) : Prop :=
  wp_X9_machineAt μ a1 (fun (k2 : Nat) (μ1 : TMem) => wp_X9_machineAt μ1 a2 (fun (k4 : Nat) (μ3 : TMem) => wp_X9_machineAt μ3 a4 (fun (k6 : Nat) (μ5 : TMem) => wp_X9_checkRange μ5 a3 (0 : Int32) (3 : Int32) (fun (μ7 : TMem) => wp_X9_putTogether k2 k4 μ7 a3 (fun (r9 : Int32) (μ8 : TMem) => (¬ r9 = 0 → (wp_X9_becomeMade k6 μ8 (fun (r12 : Int32) (μ11 : TMem) => Q r12 μ11))) ∧ (r9 = 0 → (wp_X9_refuse μ8 (fun (r14 : Int32) (μ13 : TMem) => Q r14 μ13))))) X) X) X) X
set_option maxHeartbeats 4000000 in
set_option maxRecDepth 100000 in
theorem c_X9_combine {l : Launch} (hst : l.stackTraces = false) {D : va_G} {ad : Nat → Nat} {cI cM : ClassId}  (μ : TMem) (sz : Nat) (a1 : Int32) (a2 : Int32) (a3 : Int32) (a4 : Int32) {Q : Int32 → TMem → Prop} {X : String → TMem → Prop} (h : wp_X9_combine μ a1 a2 a3 a4 Q X) : XMi l yX9_combine (.code yX9_combine cX9_combine 8 (Option.some Jvm.ClassFile.FieldType.int)) 6 4 24 [.ref (ad 0), .int a1, .int a2, .int a3, .int a4] D ad cI cM sz μ Q X := by
  refine X_meti (by decide +kernel) (Nat.le_of_ble_eq_true rfl) ?_
  intro p e s m below meth c Qc ls hx hb hml hown ht hN hK hX htab hlocks hw hret hl
  have hl : lv_has ls 8 [(0, .ref (ad 0)), (1, .int a1), (2, .int a2), (3, .int a3), (4, .int a4)] := hl
  suffices hh : ∀ (H : Heap) (locs : List Loc), TW D ad cI cM s μ H locs → W p l e (RX 6 4 24) s m #[.ref (ad 0), .int a1, .int a2, .int a3, .int a4] below meth c H locs 0 0 (vx_MQ below Qc (vx_X (fun _ : TMem => True) (TEX D ad cI cM X) (TA ad s.heap.size)) #[.ref (ad 0), .int a1, .int a2, .int a3, .int a4] s 4 24 (TA ad s.heap.size)) (F0 m 0 ls []) from hh _ _ hw
  intro H locs hw
  change wp_X9_machineAt μ a1 (fun (k2 : Nat) (μ1 : TMem) => wp_X9_machineAt μ1 a2 (fun (k4 : Nat) (μ3 : TMem) => wp_X9_machineAt μ3 a4 (fun (k6 : Nat) (μ5 : TMem) => wp_X9_checkRange μ5 a3 (0 : Int32) (3 : Int32) (fun (μ7 : TMem) => wp_X9_putTogether k2 k4 μ7 a3 (fun (r9 : Int32) (μ8 : TMem) => (¬ r9 = 0 → (wp_X9_becomeMade k6 μ8 (fun (r12 : Int32) (μ11 : TMem) => Q r12 μ11))) ∧ (r9 = 0 → (wp_X9_refuse μ8 (fun (r14 : Int32) (μ13 : TMem) => Q r14 μ13))))) X) X) X) X at h
  refine lv_aload_n hx hb dX9_combine_0 rfl (lv_at hl 0 rfl) ?_
  refine lv_iload_n hx hb dX9_combine_1 rfl (lv_at hl 1 rfl) ?_
  refine X_callo hw htab hlocks (c1 := 1) (n1 := 6) rfl rfl (Nat.le_of_ble_eq_true rfl) (Nat.le_of_ble_eq_true rfl) (vx_runV (own := "Leastreader") (As := [.int a1]) (rest := []) ⟨hx, hb, hml, hown, ht⟩ (c_X9_machineAt hst μ H.size a1 h) (cwV 1 ht (G_V q_314 q_316 q_0 q_46 q_317) rfl rfl rfl ⟨rfl, hd_53⟩ ⟨Nat.le_of_ble_eq_true rfl, Nat.le_of_ble_eq_true rfl⟩) ⟨TBX.blind, (T_recv hK hw (kd_of rfl (by decide)) (ent_8 rfl) cl_8), TBX.pre hK hN hX hw⟩ rfl rfl hl.1 rfl (lv_room (Nat.le_of_ble_eq_true rfl)) dX9_combine_2 ⟨Nat.le_of_ble_eq_true rfl, Nat.le_of_ble_eq_true rfl⟩) (fun k2 μ1 H locs hk2 h hw => ?_)
  refine lv_astore (lv' := [(5, .ref (ad k2)), (0, .ref (ad 0)), (1, .int a1), (2, .int a2), (3, .int a3), (4, .int a4)]) hx hb dX9_combine_5 hl (by decide) rfl (fun ls hl => ?_)
  refine lv_aload_n hx hb dX9_combine_7 rfl (lv_at hl 1 rfl) ?_
  refine lv_iload_n hx hb dX9_combine_8 rfl (lv_at hl 3 rfl) ?_
  refine X_callo hw htab hlocks (c1 := 2) (n1 := 12) rfl rfl (Nat.le_of_ble_eq_true rfl) (Nat.le_of_ble_eq_true rfl) (vx_runV (own := "Leastreader") (As := [.int a2]) (rest := []) ⟨hx, hb, hml, hown, ht⟩ (c_X9_machineAt hst μ1 H.size a2 h) (cwV 1 ht (G_V q_314 q_316 q_0 q_46 q_317) rfl rfl rfl ⟨rfl, hd_53⟩ ⟨Nat.le_of_ble_eq_true rfl, Nat.le_of_ble_eq_true rfl⟩) ⟨TBX.blind, (T_recv hK hw (kd_of rfl (by decide)) (ent_8 rfl) cl_8), TBX.pre hK hN hX hw⟩ rfl rfl hl.1 rfl (lv_room (Nat.le_of_ble_eq_true rfl)) dX9_combine_9 ⟨Nat.le_of_ble_eq_true rfl, Nat.le_of_ble_eq_true rfl⟩) (fun k4 μ3 H locs hk4 h hw => ?_)
  refine lv_astore (lv' := [(6, .ref (ad k4)), (5, .ref (ad k2)), (0, .ref (ad 0)), (1, .int a1), (2, .int a2), (3, .int a3), (4, .int a4)]) hx hb dX9_combine_12 hl (by decide) rfl (fun ls hl => ?_)
  refine lv_aload_n hx hb dX9_combine_14 rfl (lv_at hl 2 rfl) ?_
  refine lv_iload hx hb dX9_combine_15 (lv_at hl 6 rfl) ?_
  refine X_callo hw htab hlocks (c1 := 3) (n1 := 18) rfl rfl (Nat.le_of_ble_eq_true rfl) (Nat.le_of_ble_eq_true rfl) (vx_runV (own := "Leastreader") (As := [.int a4]) (rest := []) ⟨hx, hb, hml, hown, ht⟩ (c_X9_machineAt hst μ3 H.size a4 h) (cwV 1 ht (G_V q_314 q_316 q_0 q_46 q_317) rfl rfl rfl ⟨rfl, hd_53⟩ ⟨Nat.le_of_ble_eq_true rfl, Nat.le_of_ble_eq_true rfl⟩) ⟨TBX.blind, (T_recv hK hw (kd_of rfl (by decide)) (ent_8 rfl) cl_8), TBX.pre hK hN hX hw⟩ rfl rfl hl.1 rfl (lv_room (Nat.le_of_ble_eq_true rfl)) dX9_combine_17 ⟨Nat.le_of_ble_eq_true rfl, Nat.le_of_ble_eq_true rfl⟩) (fun k6 μ5 H locs hk6 h hw => ?_)
  refine lv_astore (lv' := [(7, .ref (ad k6)), (6, .ref (ad k4)), (5, .ref (ad k2)), (0, .ref (ad 0)), (1, .int a1), (2, .int a2), (3, .int a3), (4, .int a4)]) hx hb dX9_combine_20 hl (by decide) rfl (fun ls hl => ?_)
  refine lv_iload_n hx hb dX9_combine_22 rfl (lv_at hl 6 rfl) ?_
  refine lv_iconst (v := (0 : Int32)) hx hb dX9_combine_23 (by decide) ?_
  refine lv_iconst (v := (3 : Int32)) hx hb dX9_combine_24 (by decide) ?_
  refine X_callv hw htab hlocks (c1 := 4) (n1 := 24) rfl rfl (Nat.le_of_ble_eq_true rfl) (Nat.le_of_ble_eq_true rfl) (vx_runS (own := "Leastreader") (As := [.int a3, .int (0 : Int32), .int (3 : Int32)]) (rest := []) ⟨hx, hb, hml, hown, ht⟩ (c_X9_checkRange hst μ5 H.size a3 (0 : Int32) (3 : Int32) h) (va_cwS 3 ht (G_S q_597 q_598 q_46 q_599) rfl rfl rfl hd_54 ⟨Nat.le_of_ble_eq_true rfl, Nat.le_of_ble_eq_true rfl⟩) ⟨TBX.blind, TBX.pre hK hN hX hw⟩ rfl rfl hl.1 rfl (lv_room (Nat.le_of_ble_eq_true rfl)) dX9_combine_25 ⟨Nat.le_of_ble_eq_true rfl, Nat.le_of_ble_eq_true rfl⟩) (fun μ7 H locs h hw => ?_)
  refine lv_aload_n hx hb dX9_combine_28 rfl (lv_at hl 3 rfl) ?_
  refine lv_aload hx hb dX9_combine_29 (lv_at hl 2 rfl) ?_
  refine lv_aload hx hb dX9_combine_31 (lv_at hl 1 rfl) ?_
  refine lv_iload_n hx hb dX9_combine_33 rfl (lv_at hl 6 rfl) ?_
  refine T_calli hw (va_runV (own := "Leastreader") (As := [.ref (ad k2), .ref (ad k4), .int a3]) (rest := []) ⟨hx, hb, hml, hown, ht⟩ (c_X9_putTogether k2 hk2 k4 hk4 μ7 H.size a3 h) (cwV 3 ht (G_V q_780 q_782 q_18 q_46 q_783) rfl rfl rfl ⟨rfl, hd_67⟩ ⟨Nat.le_of_ble_eq_true rfl, Nat.le_of_ble_eq_true rfl⟩) ⟨TB.blind, (T_recv hK hw (kd_of rfl (by decide)) (ent_8 rfl) cl_8), TB.pre hK hN hw⟩ rfl rfl hl.1 rfl (lv_room (Nat.le_of_ble_eq_true rfl)) dX9_combine_34 ⟨Nat.le_of_ble_eq_true rfl, Nat.le_of_ble_eq_true rfl⟩) (fun r9 μ8 H locs h hw => ?_)
  refine lv_if_ne (tgt := 45) hx hb dX9_combine_37 (by decide) (fun c10 => ?_) (fun c10 => ?_)
  · have h := h.1 c10
    refine lv_aload_n hx hb dX9_combine_45 rfl (lv_at hl 3 rfl) ?_
    refine lv_aload hx hb dX9_combine_46 (lv_at hl 0 rfl) ?_
    refine T_calli hw (va_runV (own := "Leastreader") (As := [.ref (ad k6)]) (rest := []) ⟨hx, hb, hml, hown, ht⟩ (c_X9_becomeMade k6 hk6 μ8 H.size h) (cwV 1 ht (G_V q_769 q_771 q_17 q_46 q_772) rfl rfl rfl ⟨rfl, hd_66⟩ ⟨Nat.le_of_ble_eq_true rfl, Nat.le_of_ble_eq_true rfl⟩) ⟨TB.blind, (T_recv hK hw (kd_of rfl (by decide)) (ent_8 rfl) cl_8), TB.pre hK hN hw⟩ rfl rfl hl.1 rfl (lv_room (Nat.le_of_ble_eq_true rfl)) dX9_combine_48 ⟨Nat.le_of_ble_eq_true rfl, Nat.le_of_ble_eq_true rfl⟩) (fun r12 μ11 H locs h hw => ?_)
    exact hret H locs ls 51 4 24 _ _ hw h rfl (Nat.le_of_ble_eq_true rfl) (Nat.le_of_ble_eq_true rfl) dX9_combine_51
  have h := h.2 c10
  refine lv_aload_n hx hb dX9_combine_40 rfl (lv_at hl 3 rfl) ?_
  refine T_calli hw (va_runV (own := "Leastreader") (As := []) (rest := []) ⟨hx, hb, hml, hown, ht⟩ (c_X9_refuse μ8 H.size h) (cwV 0 ht (G_V q_732 q_734 q_16 q_46 q_735) rfl rfl rfl ⟨rfl, hd_4⟩ ⟨Nat.le_of_ble_eq_true rfl, Nat.le_of_ble_eq_true rfl⟩) ⟨TB.blind, (T_recv hK hw (kd_of rfl (by decide)) (ent_8 rfl) cl_8), TB.pre hK hN hw⟩ rfl rfl hl.1 rfl (lv_room (Nat.le_of_ble_eq_true rfl)) dX9_combine_41 ⟨Nat.le_of_ble_eq_true rfl, Nat.le_of_ble_eq_true rfl⟩) (fun r14 μ13 H locs h hw => ?_)
  exact hret H locs ls 44 4 24 _ _ hw h rfl (Nat.le_of_ble_eq_true rfl) (Nat.le_of_ble_eq_true rfl) dX9_combine_44
def wp_X9_tell (μ : TMem) (a1 : Int32) (a2 : Int32) (Q : Int32 → TMem → Prop) (X : String → TMem → Prop) : Prop :=
  wp_X9_machineAt μ a1 (fun (k2 : Nat) (μ1 : TMem) => wp_X9_checkRange μ1 a2 (0 : Int32) (4 : Int32) (fun (μ3 : TMem) => (a2 = (0 : Int32) → (Q (μ3 k2 1) μ3)) ∧ (¬ a2 = (0 : Int32) → (a2 = (1 : Int32) → (wp_X2_countArrows k2 μ3 (fun (r6 : Int32) => Q r6 μ3))) ∧ (¬ a2 = (1 : Int32) → (a2 = (2 : Int32) → (Q (μ3 k2 3) μ3)) ∧ (¬ a2 = (2 : Int32) → (a2 = (3 : Int32) → (Q (μ3 k2 2) μ3)) ∧ (¬ a2 = (3 : Int32) → (wp_X2_isPlain k2 μ3 (fun (r12 : Int32) => (r12 = 0 → (Q (0 : Int32) μ3)) ∧ (¬ r12 = 0 → (Q (1 : Int32) μ3))))))))) X) X
set_option maxHeartbeats 4000000 in
set_option maxRecDepth 100000 in
theorem c_X9_tell {l : Launch} (hst : l.stackTraces = false) {D : va_G} {ad : Nat → Nat} {cI cM : ClassId}  (μ : TMem) (sz : Nat) (a1 : Int32) (a2 : Int32) {Q : Int32 → TMem → Prop} {X : String → TMem → Prop} (h : wp_X9_tell μ a1 a2 Q X) : XMi l yX9_tell (.code yX9_tell cX9_tell 4 (Option.some Jvm.ClassFile.FieldType.int)) 2 2 12 [.ref (ad 0), .int a1, .int a2] D ad cI cM sz μ Q X := by
  refine X_meti (by decide +kernel) (Nat.le_of_ble_eq_true rfl) ?_
  intro p e s m below meth c Qc ls hx hb hml hown ht hN hK hX htab hlocks hw hret hl
  have hl : lv_has ls 4 [(0, .ref (ad 0)), (1, .int a1), (2, .int a2)] := hl
  suffices hh : ∀ (H : Heap) (locs : List Loc), TW D ad cI cM s μ H locs → W p l e (RX 2 2 12) s m #[.ref (ad 0), .int a1, .int a2] below meth c H locs 0 0 (vx_MQ below Qc (vx_X (fun _ : TMem => True) (TEX D ad cI cM X) (TA ad s.heap.size)) #[.ref (ad 0), .int a1, .int a2] s 2 12 (TA ad s.heap.size)) (F0 m 0 ls []) from hh _ _ hw
  intro H locs hw
  change wp_X9_machineAt μ a1 (fun (k2 : Nat) (μ1 : TMem) => wp_X9_checkRange μ1 a2 (0 : Int32) (4 : Int32) (fun (μ3 : TMem) => (a2 = (0 : Int32) → (Q (μ3 k2 1) μ3)) ∧ (¬ a2 = (0 : Int32) → (a2 = (1 : Int32) → (wp_X2_countArrows k2 μ3 (fun (r6 : Int32) => Q r6 μ3))) ∧ (¬ a2 = (1 : Int32) → (a2 = (2 : Int32) → (Q (μ3 k2 3) μ3)) ∧ (¬ a2 = (2 : Int32) → (a2 = (3 : Int32) → (Q (μ3 k2 2) μ3)) ∧ (¬ a2 = (3 : Int32) → (wp_X2_isPlain k2 μ3 (fun (r12 : Int32) => (r12 = 0 → (Q (0 : Int32) μ3)) ∧ (¬ r12 = 0 → (Q (1 : Int32) μ3))))))))) X) X at h
  refine lv_aload_n hx hb dX9_tell_0 rfl (lv_at hl 0 rfl) ?_
  refine lv_iload_n hx hb dX9_tell_1 rfl (lv_at hl 1 rfl) ?_
  refine X_callo hw htab hlocks (c1 := 1) (n1 := 6) rfl rfl (Nat.le_of_ble_eq_true rfl) (Nat.le_of_ble_eq_true rfl) (vx_runV (own := "Leastreader") (As := [.int a1]) (rest := []) ⟨hx, hb, hml, hown, ht⟩ (c_X9_machineAt hst μ H.size a1 h) (cwV 1 ht (G_V q_314 q_316 q_0 q_46 q_317) rfl rfl rfl ⟨rfl, hd_53⟩ ⟨Nat.le_of_ble_eq_true rfl, Nat.le_of_ble_eq_true rfl⟩) ⟨TBX.blind, (T_recv hK hw (kd_of rfl (by decide)) (ent_8 rfl) cl_8), TBX.pre hK hN hX hw⟩ rfl rfl hl.1 rfl (lv_room (Nat.le_of_ble_eq_true rfl)) dX9_tell_2 ⟨Nat.le_of_ble_eq_true rfl, Nat.le_of_ble_eq_true rfl⟩) (fun k2 μ1 H locs hk2 h hw => ?_)
  refine lv_astore_n (lv' := [(3, .ref (ad k2)), (0, .ref (ad 0)), (1, .int a1), (2, .int a2)]) hx hb dX9_tell_5 rfl hl (by decide) rfl (fun ls hl => ?_)
  refine lv_iload_n hx hb dX9_tell_6 rfl (lv_at hl 3 rfl) ?_
  refine lv_iconst (v := (0 : Int32)) hx hb dX9_tell_7 (by decide) ?_
  refine lv_iconst (v := (4 : Int32)) hx hb dX9_tell_8 (by decide) ?_
  refine X_callv hw htab hlocks (c1 := 2) (n1 := 12) rfl rfl (Nat.le_of_ble_eq_true rfl) (Nat.le_of_ble_eq_true rfl) (vx_runS (own := "Leastreader") (As := [.int a2, .int (0 : Int32), .int (4 : Int32)]) (rest := []) ⟨hx, hb, hml, hown, ht⟩ (c_X9_checkRange hst μ1 H.size a2 (0 : Int32) (4 : Int32) h) (va_cwS 3 ht (G_S q_597 q_598 q_46 q_599) rfl rfl rfl hd_54 ⟨Nat.le_of_ble_eq_true rfl, Nat.le_of_ble_eq_true rfl⟩) ⟨TBX.blind, TBX.pre hK hN hX hw⟩ rfl rfl hl.1 rfl (lv_room (Nat.le_of_ble_eq_true rfl)) dX9_tell_9 ⟨Nat.le_of_ble_eq_true rfl, Nat.le_of_ble_eq_true rfl⟩) (fun μ3 H locs h hw => ?_)
  refine lv_iload_n hx hb dX9_tell_12 rfl (lv_at hl 3 rfl) ?_
  by_cases c5 : a2 = (0 : Int32)
  · have h := h.1 c5
    refine lv_tableIn (tgt := 44) hx hb dX9_tell_13 (by rw [c5]; decide) (by rw [c5]; decide) (by rw [c5]; rfl) (by decide) ?_
    refine lv_aload_n hx hb dX9_tell_44 rfl (lv_at hl 0 rfl) ?_
    refine gf_X9_151 hx hb ht hown hK hw hk2 dX9_tell_45 ?_
    exact hret H locs ls 48 2 12 _ _ hw h rfl (Nat.le_of_ble_eq_true rfl) (Nat.le_of_ble_eq_true rfl) dX9_tell_48
  have h := h.2 c5
  by_cases c9 : a2 = (1 : Int32)
  · have h := h.1 c9
    refine lv_tableIn (tgt := 49) hx hb dX9_tell_13 (by rw [c9]; decide) (by rw [c9]; decide) (by rw [c9]; rfl) (by decide) ?_
    refine lv_aload_n hx hb dX9_tell_49 rfl (lv_at hl 0 rfl) ?_
    refine T_calli hw (va_runV (own := "Leastreader") (As := []) (rest := []) ⟨hx, hb, hml, hown, ht⟩ (c_X2_countArrows k2 hk2 μ3 H.size h) (cwV 0 ht (G_V q_559 q_560 q_561 q_48 q_562) rfl rfl rfl ⟨rfl, hd_34⟩ ⟨Nat.le_of_ble_eq_true rfl, Nat.le_of_ble_eq_true rfl⟩) ⟨TB.blind, (T_recv hK hw (kd_of hk2 (by decide)) (ent_2 hk2) cl_2), TB.pre hK hN hw⟩ rfl rfl hl.1 rfl (lv_room (Nat.le_of_ble_eq_true rfl)) dX9_tell_50 ⟨Nat.le_of_ble_eq_true rfl, Nat.le_of_ble_eq_true rfl⟩) (fun r6 μ7 H locs h hw => ?_)
    obtain ⟨e8, h⟩ := h
    rw [e8] at hw
    exact hret H locs ls 53 2 12 _ _ hw h rfl (Nat.le_of_ble_eq_true rfl) (Nat.le_of_ble_eq_true rfl) dX9_tell_53
  have h := h.2 c9
  by_cases c10 : a2 = (2 : Int32)
  · have h := h.1 c10
    refine lv_tableIn (tgt := 54) hx hb dX9_tell_13 (by rw [c10]; decide) (by rw [c10]; decide) (by rw [c10]; rfl) (by decide) ?_
    refine lv_aload_n hx hb dX9_tell_54 rfl (lv_at hl 0 rfl) ?_
    refine gf_X9_115 hx hb ht hN hown hK hw hk2 dX9_tell_55 ?_
    exact hret H locs ls 58 2 12 _ _ hw h rfl (Nat.le_of_ble_eq_true rfl) (Nat.le_of_ble_eq_true rfl) dX9_tell_58
  have h := h.2 c10
  by_cases c11 : a2 = (3 : Int32)
  · have h := h.1 c11
    refine lv_tableIn (tgt := 59) hx hb dX9_tell_13 (by rw [c11]; decide) (by rw [c11]; decide) (by rw [c11]; rfl) (by decide) ?_
    refine lv_aload_n hx hb dX9_tell_59 rfl (lv_at hl 0 rfl) ?_
    refine gf_X9_111 hx hb ht hown hK hw hk2 dX9_tell_60 ?_
    exact hret H locs ls 63 2 12 _ _ hw h rfl (Nat.le_of_ble_eq_true rfl) (Nat.le_of_ble_eq_true rfl) dX9_tell_63
  have h := h.2 c11
  have so16 : (a2).toInt < 0 ∨ 3 < (a2).toInt := sw_out (fun j h1 h2 => by
    rcases (show j = 0 ∨ j = 1 ∨ j = 2 ∨ j = 3 by omega) with rfl | rfl | rfl | rfl
    · exact fun q => c5 (q.trans (by decide))
    · exact fun q => c9 (q.trans (by decide))
    · exact fun q => c10 (q.trans (by decide))
    · exact fun q => c11 (q.trans (by decide)))
  refine lv_tableOut (tgt := 64) hx hb dX9_tell_13 so16 (by decide) ?_
  refine lv_aload_n hx hb dX9_tell_64 rfl (lv_at hl 0 rfl) ?_
  refine T_calli hw (va_runV (own := "Leastreader") (As := []) (rest := []) ⟨hx, hb, hml, hown, ht⟩ (c_X2_isPlain k2 hk2 μ3 H.size h) (cwV 0 ht (G_V q_569 q_570 q_571 q_48 q_572) rfl rfl rfl ⟨rfl, hd_35⟩ ⟨Nat.le_of_ble_eq_true rfl, Nat.le_of_ble_eq_true rfl⟩) ⟨TB.blind, (T_recv hK hw (kd_of hk2 (by decide)) (ent_2 hk2) cl_2), TB.pre hK hN hw⟩ rfl rfl hl.1 rfl (lv_room (Nat.le_of_ble_eq_true rfl)) dX9_tell_65 ⟨Nat.le_of_ble_eq_true rfl, Nat.le_of_ble_eq_true rfl⟩) (fun r12 μ13 H locs h hw => ?_)
  obtain ⟨e14, h⟩ := h
  rw [e14] at hw
  refine lv_if_eq (tgt := 75) hx hb dX9_tell_68 (by decide) (fun c15 => ?_) (fun c15 => ?_)
  · have h := h.1 c15
    refine lv_iconst (v := (0 : Int32)) hx hb dX9_tell_75 (by decide) ?_
    exact hret H locs ls 76 2 12 _ _ hw h rfl (Nat.le_of_ble_eq_true rfl) (Nat.le_of_ble_eq_true rfl) dX9_tell_76
  have h := h.2 c15
  refine lv_iconst (v := (1 : Int32)) hx hb dX9_tell_71 (by decide) ?_
  refine lv_goto (tgt := 76) hx hb dX9_tell_72 (by decide) ?_
  exact hret H locs ls 76 2 12 _ _ hw h rfl (Nat.le_of_ble_eq_true rfl) (Nat.le_of_ble_eq_true rfl) dX9_tell_76
def wp_X9_arrows (μ : TMem) (a1 : Int32) (a2 : Int32) (a3 : Int32) (Q : Int32 → TMem → Prop) (X : String → TMem → Prop) : Prop :=
  wp_X9_machineAt μ a1 (fun (k2 : Nat) (μ1 : TMem) => wp_X9_checkState k2 μ1 a2 (fun (μ3 : TMem) => wp_X9_checkSign μ3 a3 (fun (μ4 : TMem) => wp_X7_at k2 μ4 a2 a3 (fun (r5 : Int32) => Q r5 μ4)) X) X) X
set_option maxHeartbeats 4000000 in
set_option maxRecDepth 100000 in
theorem c_X9_arrows {l : Launch} (hst : l.stackTraces = false) {D : va_G} {ad : Nat → Nat} {cI cM : ClassId}  (μ : TMem) (sz : Nat) (a1 : Int32) (a2 : Int32) (a3 : Int32) {Q : Int32 → TMem → Prop} {X : String → TMem → Prop} (h : wp_X9_arrows μ a1 a2 a3 Q X) : XMi l yX9_arrows (.code yX9_arrows cX9_arrows 5 (Option.some Jvm.ClassFile.FieldType.int)) 2 3 18 [.ref (ad 0), .int a1, .int a2, .int a3] D ad cI cM sz μ Q X := by
  refine X_meti (by decide +kernel) (Nat.le_of_ble_eq_true rfl) ?_
  intro p e s m below meth c Qc ls hx hb hml hown ht hN hK hX htab hlocks hw hret hl
  have hl : lv_has ls 5 [(0, .ref (ad 0)), (1, .int a1), (2, .int a2), (3, .int a3)] := hl
  suffices hh : ∀ (H : Heap) (locs : List Loc), TW D ad cI cM s μ H locs → W p l e (RX 2 3 18) s m #[.ref (ad 0), .int a1, .int a2, .int a3] below meth c H locs 0 0 (vx_MQ below Qc (vx_X (fun _ : TMem => True) (TEX D ad cI cM X) (TA ad s.heap.size)) #[.ref (ad 0), .int a1, .int a2, .int a3] s 3 18 (TA ad s.heap.size)) (F0 m 0 ls []) from hh _ _ hw
  intro H locs hw
  change wp_X9_machineAt μ a1 (fun (k2 : Nat) (μ1 : TMem) => wp_X9_checkState k2 μ1 a2 (fun (μ3 : TMem) => wp_X9_checkSign μ3 a3 (fun (μ4 : TMem) => wp_X7_at k2 μ4 a2 a3 (fun (r5 : Int32) => Q r5 μ4)) X) X) X at h
  refine lv_aload_n hx hb dX9_arrows_0 rfl (lv_at hl 0 rfl) ?_
  refine lv_iload_n hx hb dX9_arrows_1 rfl (lv_at hl 1 rfl) ?_
  refine X_callo hw htab hlocks (c1 := 1) (n1 := 6) rfl rfl (Nat.le_of_ble_eq_true rfl) (Nat.le_of_ble_eq_true rfl) (vx_runV (own := "Leastreader") (As := [.int a1]) (rest := []) ⟨hx, hb, hml, hown, ht⟩ (c_X9_machineAt hst μ H.size a1 h) (cwV 1 ht (G_V q_314 q_316 q_0 q_46 q_317) rfl rfl rfl ⟨rfl, hd_53⟩ ⟨Nat.le_of_ble_eq_true rfl, Nat.le_of_ble_eq_true rfl⟩) ⟨TBX.blind, (T_recv hK hw (kd_of rfl (by decide)) (ent_8 rfl) cl_8), TBX.pre hK hN hX hw⟩ rfl rfl hl.1 rfl (lv_room (Nat.le_of_ble_eq_true rfl)) dX9_arrows_2 ⟨Nat.le_of_ble_eq_true rfl, Nat.le_of_ble_eq_true rfl⟩) (fun k2 μ1 H locs hk2 h hw => ?_)
  refine lv_astore (lv' := [(4, .ref (ad k2)), (0, .ref (ad 0)), (1, .int a1), (2, .int a2), (3, .int a3)]) hx hb dX9_arrows_5 hl (by decide) rfl (fun ls hl => ?_)
  refine lv_aload hx hb dX9_arrows_7 (lv_at hl 0 rfl) ?_
  refine lv_iload_n hx hb dX9_arrows_9 rfl (lv_at hl 3 rfl) ?_
  refine X_callv hw htab hlocks (c1 := 2) (n1 := 12) rfl rfl (Nat.le_of_ble_eq_true rfl) (Nat.le_of_ble_eq_true rfl) (vx_runS (own := "Leastreader") (As := [.ref (ad k2), .int a2]) (rest := []) ⟨hx, hb, hml, hown, ht⟩ (c_X9_checkState hst k2 hk2 μ1 H.size a2 h) (va_cwS 2 ht (G_S q_635 q_636 q_46 q_637) rfl rfl rfl hd_56 ⟨Nat.le_of_ble_eq_true rfl, Nat.le_of_ble_eq_true rfl⟩) ⟨TBX.blind, TBX.pre hK hN hX hw⟩ rfl rfl hl.1 rfl (lv_room (Nat.le_of_ble_eq_true rfl)) dX9_arrows_10 ⟨Nat.le_of_ble_eq_true rfl, Nat.le_of_ble_eq_true rfl⟩) (fun μ3 H locs h hw => ?_)
  refine lv_iload_n hx hb dX9_arrows_13 rfl (lv_at hl 4 rfl) ?_
  refine X_callv hw htab hlocks (c1 := 3) (n1 := 18) rfl rfl (Nat.le_of_ble_eq_true rfl) (Nat.le_of_ble_eq_true rfl) (vx_runS (own := "Leastreader") (As := [.int a3]) (rest := []) ⟨hx, hb, hml, hown, ht⟩ (c_X9_checkSign hst μ3 H.size a3 h) (va_cwS 1 ht (G_S q_639 q_640 q_46 q_641) rfl rfl rfl hd_57 ⟨Nat.le_of_ble_eq_true rfl, Nat.le_of_ble_eq_true rfl⟩) ⟨TBX.blind, TBX.pre hK hN hX hw⟩ rfl rfl hl.1 rfl (lv_room (Nat.le_of_ble_eq_true rfl)) dX9_arrows_14 ⟨Nat.le_of_ble_eq_true rfl, Nat.le_of_ble_eq_true rfl⟩) (fun μ4 H locs h hw => ?_)
  refine lv_aload hx hb dX9_arrows_17 (lv_at hl 0 rfl) ?_
  refine lv_iload_n hx hb dX9_arrows_19 rfl (lv_at hl 3 rfl) ?_
  refine lv_iload_n hx hb dX9_arrows_20 rfl (lv_at hl 4 rfl) ?_
  refine T_calli hw (va_runU (own := "Leastreader") (As := [.int a2, .int a3]) (rest := []) ⟨hx, hb, hml, hown, ht⟩ (c_X7_at_2 k2 hk2 μ4 H.size a2 a3 h) (va_cwU (owner := "Leastreader$Table") 2 ht (G_U q_573 q_413 q_415 q_416 q_47 q_417) rfl rfl rfl rfl hd_0 ⟨Nat.le_of_ble_eq_true rfl, Nat.le_of_ble_eq_true rfl⟩) ⟨TB.blind, (T_recv hK hw (kd_of hk2 (by decide)) (ent_2 hk2) cl_2), TB.pre hK hN hw⟩ rfl rfl hl.1 rfl (lv_room (Nat.le_of_ble_eq_true rfl)) dX9_arrows_21 ⟨Nat.le_of_ble_eq_true rfl, Nat.le_of_ble_eq_true rfl⟩) (fun r5 μ6 H locs h hw => ?_)
  obtain ⟨e7, h⟩ := h
  rw [e7] at hw
  exact hret H locs ls 24 3 18 _ _ hw h rfl (Nat.le_of_ble_eq_true rfl) (Nat.le_of_ble_eq_true rfl) dX9_arrows_24
def wp_X9_checkWord (μ : TMem) (a0 : Int32) (a1 : Int32) (Q : TMem → Prop) (X : String → TMem → Prop) : Prop :=
  wp_X9_checkRange μ a0 (0 : Int32) (12 : Int32) (fun (μ1 : TMem) => wp_X9_countCodes a0 (fun (r2 : Int32) => wp_X9_checkRange μ1 a1 (0 : Int32) (r2 - (1 : Int32)) (fun (μ3 : TMem) => Q μ3) X)) X
set_option maxHeartbeats 4000000 in
set_option maxRecDepth 100000 in
theorem c_X9_checkWord {l : Launch} (hst : l.stackTraces = false) {D : va_G} {ad : Nat → Nat} {cI cM : ClassId}  (μ : TMem) (sz : Nat) (a0 : Int32) (a1 : Int32) {Q : TMem → Prop} {X : String → TMem → Prop} (h : wp_X9_checkWord μ a0 a1 Q X) : XMv l yX9_checkWord (.code yX9_checkWord cX9_checkWord 2 (Option.none : Option Jvm.ClassFile.FieldType)) 1 2 12 [.int a0, .int a1] D ad cI cM sz μ Q X := by
  refine X_metv (by decide +kernel) (Nat.le_of_ble_eq_true rfl) ?_
  intro p e s m below meth c Qc ls hx hb hml hown ht hN hK hX htab hlocks hw hret hl
  have hl : lv_has ls 2 [(0, .int a0), (1, .int a1)] := hl
  suffices hh : ∀ (H : Heap) (locs : List Loc), TW D ad cI cM s μ H locs → W p l e (RX 1 2 12) s m #[.int a0, .int a1] below meth c H locs 0 0 (vx_MQ below Qc (vx_X (fun _ : TMem => True) (TEX D ad cI cM X) (TA ad s.heap.size)) #[.int a0, .int a1] s 2 12 (TA ad s.heap.size)) (F0 m 0 ls []) from hh _ _ hw
  intro H locs hw
  change wp_X9_checkRange μ a0 (0 : Int32) (12 : Int32) (fun (μ1 : TMem) => wp_X9_countCodes a0 (fun (r2 : Int32) => wp_X9_checkRange μ1 a1 (0 : Int32) (r2 - (1 : Int32)) (fun (μ3 : TMem) => Q μ3) X)) X at h
  refine lv_iload_n hx hb dX9_checkWord_0 rfl (lv_at hl 0 rfl) ?_
  refine lv_iconst (v := (0 : Int32)) hx hb dX9_checkWord_1 (by decide) ?_
  refine lv_bipush (v := (12 : Int32)) hx hb dX9_checkWord_2 (by decide) ?_
  refine X_callv hw htab hlocks (c1 := 1) (n1 := 6) rfl rfl (Nat.le_of_ble_eq_true rfl) (Nat.le_of_ble_eq_true rfl) (vx_runS (own := "Leastreader") (As := [.int a0, .int (0 : Int32), .int (12 : Int32)]) (rest := []) ⟨hx, hb, hml, hown, ht⟩ (c_X9_checkRange hst μ H.size a0 (0 : Int32) (12 : Int32) h) (va_cwS 3 ht (G_S q_597 q_598 q_46 q_599) rfl rfl rfl hd_54 ⟨Nat.le_of_ble_eq_true rfl, Nat.le_of_ble_eq_true rfl⟩) ⟨TBX.blind, TBX.pre hK hN hX hw⟩ rfl rfl hl.1 rfl (lv_room (Nat.le_of_ble_eq_true rfl)) dX9_checkWord_4 ⟨Nat.le_of_ble_eq_true rfl, Nat.le_of_ble_eq_true rfl⟩) (fun μ1 H locs h hw => ?_)
  refine lv_iload_n hx hb dX9_checkWord_7 rfl (lv_at hl 1 rfl) ?_
  refine lv_iconst (v := (0 : Int32)) hx hb dX9_checkWord_8 (by decide) ?_
  refine lv_iload_n hx hb dX9_checkWord_9 rfl (lv_at hl 0 rfl) ?_
  refine P_calli (va_runS (own := "Leastreader") (As := [.int a0]) (rest := [.int (0 : Int32), .int a1]) ⟨hx, hb, hml, hown, ht⟩ (c_X9_countCodes a0 h) (va_cwS 1 ht (G_S q_532 q_533 q_46 q_534) rfl rfl rfl hd_30 ⟨Nat.le_of_ble_eq_true rfl, Nat.le_of_ble_eq_true rfl⟩) ⟨PM_blind, PM_pre⟩ rfl rfl hl.1 rfl (lv_room (Nat.le_of_ble_eq_true rfl)) dX9_checkWord_10 ⟨Nat.le_of_ble_eq_true rfl, Nat.le_of_ble_eq_true rfl⟩) (fun r2 h => ?_)
  refine lv_iconst (v := (1 : Int32)) hx hb dX9_checkWord_13 (by decide) ?_
  refine lv_isub hx hb dX9_checkWord_14 ?_
  refine X_callv hw htab hlocks (c1 := 2) (n1 := 12) rfl rfl (Nat.le_of_ble_eq_true rfl) (Nat.le_of_ble_eq_true rfl) (vx_runS (own := "Leastreader") (As := [.int a1, .int (0 : Int32), .int (r2 - (1 : Int32))]) (rest := []) ⟨hx, hb, hml, hown, ht⟩ (c_X9_checkRange hst μ1 H.size a1 (0 : Int32) (r2 - (1 : Int32)) h) (va_cwS 3 ht (G_S q_597 q_598 q_46 q_599) rfl rfl rfl hd_54 ⟨Nat.le_of_ble_eq_true rfl, Nat.le_of_ble_eq_true rfl⟩) ⟨TBX.blind, TBX.pre hK hN hX hw⟩ rfl rfl hl.1 rfl (lv_room (Nat.le_of_ble_eq_true rfl)) dX9_checkWord_15 ⟨Nat.le_of_ble_eq_true rfl, Nat.le_of_ble_eq_true rfl⟩) (fun μ3 H locs h hw => ?_)
  exact hret H locs ls 18 2 12 _ hw h (Nat.le_of_ble_eq_true rfl) (Nat.le_of_ble_eq_true rfl) dX9_checkWord_18
def wp_X9_takes (μ : TMem) (a1 : Int32) (a2 : Int32) (a3 : Int32) (Q : Int32 → TMem → Prop) (X : String → TMem → Prop) : Prop :=
  wp_X9_machineAt μ a1 (fun (k2 : Nat) (μ1 : TMem) => wp_X9_checkWord μ1 a2 a3 (fun (μ3 : TMem) => wp_X2_isTaking k2 μ3 a2 a3 (fun (r4 : Int32) => isB r4 ∧ Q r4 μ3)) X) X
set_option maxHeartbeats 4000000 in
set_option maxRecDepth 100000 in
theorem c_X9_takes {l : Launch} (hst : l.stackTraces = false) {D : va_G} {ad : Nat → Nat} {cI cM : ClassId}  (μ : TMem) (sz : Nat) (a1 : Int32) (a2 : Int32) (a3 : Int32) {Q : Int32 → TMem → Prop} {X : String → TMem → Prop} (h : wp_X9_takes μ a1 a2 a3 Q X) : XMi l yX9_takes (.code yX9_takes cX9_takes 5 (Option.some Jvm.ClassFile.FieldType.boolean)) 4 3 18 [.ref (ad 0), .int a1, .int a2, .int a3] D ad cI cM sz μ Q X := by
  refine X_meti (by decide +kernel) (Nat.le_of_ble_eq_true rfl) ?_
  intro p e s m below meth c Qc ls hx hb hml hown ht hN hK hX htab hlocks hw hret hl
  have hl : lv_has ls 5 [(0, .ref (ad 0)), (1, .int a1), (2, .int a2), (3, .int a3)] := hl
  suffices hh : ∀ (H : Heap) (locs : List Loc), TW D ad cI cM s μ H locs → W p l e (RX 4 3 18) s m #[.ref (ad 0), .int a1, .int a2, .int a3] below meth c H locs 0 0 (vx_MQ below Qc (vx_X (fun _ : TMem => True) (TEX D ad cI cM X) (TA ad s.heap.size)) #[.ref (ad 0), .int a1, .int a2, .int a3] s 3 18 (TA ad s.heap.size)) (F0 m 0 ls []) from hh _ _ hw
  intro H locs hw
  change wp_X9_machineAt μ a1 (fun (k2 : Nat) (μ1 : TMem) => wp_X9_checkWord μ1 a2 a3 (fun (μ3 : TMem) => wp_X2_isTaking k2 μ3 a2 a3 (fun (r4 : Int32) => isB r4 ∧ Q r4 μ3)) X) X at h
  refine lv_aload_n hx hb dX9_takes_0 rfl (lv_at hl 0 rfl) ?_
  refine lv_iload_n hx hb dX9_takes_1 rfl (lv_at hl 1 rfl) ?_
  refine X_callo hw htab hlocks (c1 := 1) (n1 := 6) rfl rfl (Nat.le_of_ble_eq_true rfl) (Nat.le_of_ble_eq_true rfl) (vx_runV (own := "Leastreader") (As := [.int a1]) (rest := []) ⟨hx, hb, hml, hown, ht⟩ (c_X9_machineAt hst μ H.size a1 h) (cwV 1 ht (G_V q_314 q_316 q_0 q_46 q_317) rfl rfl rfl ⟨rfl, hd_53⟩ ⟨Nat.le_of_ble_eq_true rfl, Nat.le_of_ble_eq_true rfl⟩) ⟨TBX.blind, (T_recv hK hw (kd_of rfl (by decide)) (ent_8 rfl) cl_8), TBX.pre hK hN hX hw⟩ rfl rfl hl.1 rfl (lv_room (Nat.le_of_ble_eq_true rfl)) dX9_takes_2 ⟨Nat.le_of_ble_eq_true rfl, Nat.le_of_ble_eq_true rfl⟩) (fun k2 μ1 H locs hk2 h hw => ?_)
  refine lv_astore (lv' := [(4, .ref (ad k2)), (0, .ref (ad 0)), (1, .int a1), (2, .int a2), (3, .int a3)]) hx hb dX9_takes_5 hl (by decide) rfl (fun ls hl => ?_)
  refine lv_iload_n hx hb dX9_takes_7 rfl (lv_at hl 3 rfl) ?_
  refine lv_iload_n hx hb dX9_takes_8 rfl (lv_at hl 4 rfl) ?_
  refine X_callv hw htab hlocks (c1 := 3) (n1 := 18) rfl rfl (Nat.le_of_ble_eq_true rfl) (Nat.le_of_ble_eq_true rfl) (vx_runS (own := "Leastreader") (As := [.int a2, .int a3]) (rest := []) ⟨hx, hb, hml, hown, ht⟩ (c_X9_checkWord hst μ1 H.size a2 a3 h) (va_cwS 2 ht (G_S q_842 q_843 q_46 q_844) rfl rfl rfl hd_68 ⟨Nat.le_of_ble_eq_true rfl, Nat.le_of_ble_eq_true rfl⟩) ⟨TBX.blind, TBX.pre hK hN hX hw⟩ rfl rfl hl.1 rfl (lv_room (Nat.le_of_ble_eq_true rfl)) dX9_takes_9 ⟨Nat.le_of_ble_eq_true rfl, Nat.le_of_ble_eq_true rfl⟩) (fun μ3 H locs h hw => ?_)
  refine lv_aload hx hb dX9_takes_12 (lv_at hl 0 rfl) ?_
  refine lv_iload_n hx hb dX9_takes_14 rfl (lv_at hl 3 rfl) ?_
  refine lv_iload_n hx hb dX9_takes_15 rfl (lv_at hl 4 rfl) ?_
  refine T_calli hw (va_runV (own := "Leastreader") (As := [.int a2, .int a3]) (rest := []) ⟨hx, hb, hml, hown, ht⟩ (c_X2_isTaking k2 hk2 μ3 H.size a2 a3 h) (cwV 2 ht (G_V q_541 q_542 q_543 q_48 q_544) rfl rfl rfl ⟨rfl, hd_32⟩ ⟨Nat.le_of_ble_eq_true rfl, Nat.le_of_ble_eq_true rfl⟩) ⟨TB.blind, (T_recv hK hw (kd_of hk2 (by decide)) (ent_2 hk2) cl_2), TB.pre hK hN hw⟩ rfl rfl hl.1 rfl (lv_room (Nat.le_of_ble_eq_true rfl)) dX9_takes_16 ⟨Nat.le_of_ble_eq_true rfl, Nat.le_of_ble_eq_true rfl⟩) (fun r4 μ5 H locs h hw => ?_)
  obtain ⟨e6, h⟩ := h
  rw [e6] at hw
  obtain ⟨z7, h⟩ := h
  exact hret H locs ls 19 3 18 _ _ hw h (isB_n z7) (Nat.le_of_ble_eq_true rfl) (Nat.le_of_ble_eq_true rfl) dX9_takes_19
def wp_X9_makeOrThrow (k2 : Nat) (k3 : Nat) (μ : TMem) (a1 : Int32) (Q : TMem → Prop) (X : String → TMem → Prop) : Prop :=
  wp_X3_makeBy k2 k3 μ a1 (fun (r2 : Int32) (μ1 : TMem) => (¬ r2 = 0 → (Q μ1)) ∧ (r2 = 0 → (X "java/lang/IllegalStateException" μ1)))
set_option maxHeartbeats 4000000 in
set_option maxRecDepth 100000 in
theorem c_X9_makeOrThrow {l : Launch} (hst : l.stackTraces = false) {D : va_G} {ad : Nat → Nat} {cI cM : ClassId} (k2 : Nat) (hk2 : kd k2 = 2) (k3 : Nat) (hk3 : kd k3 = 5) (μ : TMem) (sz : Nat) (a1 : Int32) {Q : TMem → Prop} {X : String → TMem → Prop} (h : wp_X9_makeOrThrow k2 k3 μ a1 Q X) : XMv l yX9_makeOrThrow (.code yX9_makeOrThrow cX9_makeOrThrow 4 (Option.none : Option Jvm.ClassFile.FieldType)) 5 1 6 [.ref (ad 0), .int a1, .ref (ad k2), .ref (ad k3)] D ad cI cM sz μ Q X := by
  refine X_metv (by decide +kernel) (Nat.le_of_ble_eq_true rfl) ?_
  intro p e s m below meth c Qc ls hx hb hml hown ht hN hK hX htab hlocks hw hret hl
  have hl : lv_has ls 4 [(0, .ref (ad 0)), (1, .int a1), (2, .ref (ad k2)), (3, .ref (ad k3))] := hl
  suffices hh : ∀ (H : Heap) (locs : List Loc), TW D ad cI cM s μ H locs → W p l e (RX 5 1 6) s m #[.ref (ad 0), .int a1, .ref (ad k2), .ref (ad k3)] below meth c H locs 0 0 (vx_MQ below Qc (vx_X (fun _ : TMem => True) (TEX D ad cI cM X) (TA ad s.heap.size)) #[.ref (ad 0), .int a1, .ref (ad k2), .ref (ad k3)] s 1 6 (TA ad s.heap.size)) (F0 m 0 ls []) from hh _ _ hw
  intro H locs hw
  change wp_X3_makeBy k2 k3 μ a1 (fun (r2 : Int32) (μ1 : TMem) => (¬ r2 = 0 → (Q μ1)) ∧ (r2 = 0 → (X "java/lang/IllegalStateException" μ1))) at h
  refine lv_aload_n hx hb dX9_makeOrThrow_0 rfl (lv_at hl 0 rfl) ?_
  refine gf_X9_35 hx hb ht hown hK hw rfl dX9_makeOrThrow_1 ?_
  refine lv_iload_n hx hb dX9_makeOrThrow_4 rfl (lv_at hl 1 rfl) ?_
  refine lv_aload_n hx hb dX9_makeOrThrow_5 rfl (lv_at hl 2 rfl) ?_
  refine lv_aload_n hx hb dX9_makeOrThrow_6 rfl (lv_at hl 3 rfl) ?_
  refine T_calli hw (va_runV (own := "Leastreader") (As := [.int a1, .ref (ad k2), .ref (ad k3)]) (rest := []) ⟨hx, hb, hml, hown, ht⟩ (c_X3_makeBy k2 hk2 k3 hk3 μ H.size a1 h) (cwV 3 ht (G_V q_386 q_387 q_388 q_50 q_389) rfl rfl rfl ⟨rfl, hd_65⟩ ⟨Nat.le_of_ble_eq_true rfl, Nat.le_of_ble_eq_true rfl⟩) ⟨TB.blind, (T_recv hK hw (kd_of rfl (by decide)) (ent_3 rfl) cl_3), TB.pre hK hN hw⟩ rfl rfl hl.1 rfl (lv_room (Nat.le_of_ble_eq_true rfl)) dX9_makeOrThrow_7 ⟨Nat.le_of_ble_eq_true rfl, Nat.le_of_ble_eq_true rfl⟩) (fun r2 μ1 H locs h hw => ?_)
  refine lv_if_ne (tgt := 23) hx hb dX9_makeOrThrow_10 (by decide) (fun c3 => ?_) (fun c3 => ?_)
  · have h := h.1 c3
    exact hret H locs ls 23 0 0 _ hw h (Nat.le_of_ble_eq_true rfl) (Nat.le_of_ble_eq_true rfl) dX9_makeOrThrow_23
  have h := h.2 c3
  exact X_throw (R := RX 5 1 6) (cells := 0) (slots := 0) (fc := 1) (fn := 6) (cls := "java/lang/IllegalStateException") hx hb hst (hl.1.trans hml.symm) hown (by decide +kernel) (ht _ q_858) (ht _ q_65) (sr_RX9_243 hX.2.2.2) (hat_2 ht hX.2.2.1) hgd_2 hX hw htab hlocks dX9_makeOrThrow_13 dX9_makeOrThrow_16 dX9_makeOrThrow_17 dX9_makeOrThrow_19 dX9_makeOrThrow_22 (Nat.le_of_ble_eq_true rfl) (Nat.le_of_ble_eq_true rfl) (Nat.le_of_ble_eq_true rfl) (Nat.le_of_ble_eq_true rfl) (Nat.le_of_ble_eq_true rfl) (Nat.le_of_ble_eq_true rfl) h
def wp_X9_after (μ : TMem) (a1 : Int32) (a2 : Int32) (a3 : Int32) (a4 : Int32) (Q : Int32 → TMem → Prop) (X : String → TMem → Prop) : Prop :=
  wp_X9_machineAt μ a1 (fun (k2 : Nat) (μ1 : TMem) => wp_X9_checkWord μ1 a2 a3 (fun (μ3 : TMem) => wp_X9_checkRange μ3 a4 (0 : Int32) (2 : Int32) (fun (μ4 : TMem) => (¬ a4 = 0 → ((¬ a4 = (1 : Int32) → (wp_X9_makeOrThrow k2 57 μ4 (0 : Int32) (fun (μ7 : TMem) => wp_X5_stateAfter 57 μ7 a2 a3 (fun (r8 : Int32) => Q r8 μ7)) X)) ∧ (a4 = (1 : Int32) → (wp_X9_makeOrThrow k2 57 μ4 (3 : Int32) (fun (μ11 : TMem) => wp_X5_stateAfter 57 μ11 a2 a3 (fun (r12 : Int32) => Q r12 μ11)) X)))) ∧ (a4 = 0 → (wp_X2_statesAfter k2 μ4 a2 a3 (fun (r15 : Int32) => Q r15 μ4)))) X) X) X
set_option maxHeartbeats 4000000 in
set_option maxRecDepth 100000 in
theorem c_X9_after {l : Launch} (hst : l.stackTraces = false) {D : va_G} {ad : Nat → Nat} {cI cM : ClassId}  (μ : TMem) (sz : Nat) (a1 : Int32) (a2 : Int32) (a3 : Int32) (a4 : Int32) {Q : Int32 → TMem → Prop} {X : String → TMem → Prop} (h : wp_X9_after μ a1 a2 a3 a4 Q X) : XMi l yX9_after (.code yX9_after cX9_after 6 (Option.some Jvm.ClassFile.FieldType.int)) 6 5 30 [.ref (ad 0), .int a1, .int a2, .int a3, .int a4] D ad cI cM sz μ Q X := by
  refine X_meti (by decide +kernel) (Nat.le_of_ble_eq_true rfl) ?_
  intro p e s m below meth c Qc ls hx hb hml hown ht hN hK hX htab hlocks hw hret hl
  have hl : lv_has ls 6 [(0, .ref (ad 0)), (1, .int a1), (2, .int a2), (3, .int a3), (4, .int a4)] := hl
  suffices hh : ∀ (H : Heap) (locs : List Loc), TW D ad cI cM s μ H locs → W p l e (RX 6 5 30) s m #[.ref (ad 0), .int a1, .int a2, .int a3, .int a4] below meth c H locs 0 0 (vx_MQ below Qc (vx_X (fun _ : TMem => True) (TEX D ad cI cM X) (TA ad s.heap.size)) #[.ref (ad 0), .int a1, .int a2, .int a3, .int a4] s 5 30 (TA ad s.heap.size)) (F0 m 0 ls []) from hh _ _ hw
  intro H locs hw
  change wp_X9_machineAt μ a1 (fun (k2 : Nat) (μ1 : TMem) => wp_X9_checkWord μ1 a2 a3 (fun (μ3 : TMem) => wp_X9_checkRange μ3 a4 (0 : Int32) (2 : Int32) (fun (μ4 : TMem) => (¬ a4 = 0 → ((¬ a4 = (1 : Int32) → (wp_X9_makeOrThrow k2 57 μ4 (0 : Int32) (fun (μ7 : TMem) => wp_X5_stateAfter 57 μ7 a2 a3 (fun (r8 : Int32) => Q r8 μ7)) X)) ∧ (a4 = (1 : Int32) → (wp_X9_makeOrThrow k2 57 μ4 (3 : Int32) (fun (μ11 : TMem) => wp_X5_stateAfter 57 μ11 a2 a3 (fun (r12 : Int32) => Q r12 μ11)) X)))) ∧ (a4 = 0 → (wp_X2_statesAfter k2 μ4 a2 a3 (fun (r15 : Int32) => Q r15 μ4)))) X) X) X at h
  refine lv_aload_n hx hb dX9_after_0 rfl (lv_at hl 0 rfl) ?_
  refine lv_iload_n hx hb dX9_after_1 rfl (lv_at hl 1 rfl) ?_
  refine X_callo hw htab hlocks (c1 := 1) (n1 := 6) rfl rfl (Nat.le_of_ble_eq_true rfl) (Nat.le_of_ble_eq_true rfl) (vx_runV (own := "Leastreader") (As := [.int a1]) (rest := []) ⟨hx, hb, hml, hown, ht⟩ (c_X9_machineAt hst μ H.size a1 h) (cwV 1 ht (G_V q_314 q_316 q_0 q_46 q_317) rfl rfl rfl ⟨rfl, hd_53⟩ ⟨Nat.le_of_ble_eq_true rfl, Nat.le_of_ble_eq_true rfl⟩) ⟨TBX.blind, (T_recv hK hw (kd_of rfl (by decide)) (ent_8 rfl) cl_8), TBX.pre hK hN hX hw⟩ rfl rfl hl.1 rfl (lv_room (Nat.le_of_ble_eq_true rfl)) dX9_after_2 ⟨Nat.le_of_ble_eq_true rfl, Nat.le_of_ble_eq_true rfl⟩) (fun k2 μ1 H locs hk2 h hw => ?_)
  refine lv_astore (lv' := [(5, .ref (ad k2)), (0, .ref (ad 0)), (1, .int a1), (2, .int a2), (3, .int a3), (4, .int a4)]) hx hb dX9_after_5 hl (by decide) rfl (fun ls hl => ?_)
  refine lv_iload_n hx hb dX9_after_7 rfl (lv_at hl 3 rfl) ?_
  refine lv_iload_n hx hb dX9_after_8 rfl (lv_at hl 4 rfl) ?_
  refine X_callv hw htab hlocks (c1 := 3) (n1 := 18) rfl rfl (Nat.le_of_ble_eq_true rfl) (Nat.le_of_ble_eq_true rfl) (vx_runS (own := "Leastreader") (As := [.int a2, .int a3]) (rest := []) ⟨hx, hb, hml, hown, ht⟩ (c_X9_checkWord hst μ1 H.size a2 a3 h) (va_cwS 2 ht (G_S q_842 q_843 q_46 q_844) rfl rfl rfl hd_68 ⟨Nat.le_of_ble_eq_true rfl, Nat.le_of_ble_eq_true rfl⟩) ⟨TBX.blind, TBX.pre hK hN hX hw⟩ rfl rfl hl.1 rfl (lv_room (Nat.le_of_ble_eq_true rfl)) dX9_after_9 ⟨Nat.le_of_ble_eq_true rfl, Nat.le_of_ble_eq_true rfl⟩) (fun μ3 H locs h hw => ?_)
  refine lv_iload hx hb dX9_after_12 (lv_at hl 5 rfl) ?_
  refine lv_iconst (v := (0 : Int32)) hx hb dX9_after_14 (by decide) ?_
  refine lv_iconst (v := (2 : Int32)) hx hb dX9_after_15 (by decide) ?_
  refine X_callv hw htab hlocks (c1 := 4) (n1 := 24) rfl rfl (Nat.le_of_ble_eq_true rfl) (Nat.le_of_ble_eq_true rfl) (vx_runS (own := "Leastreader") (As := [.int a4, .int (0 : Int32), .int (2 : Int32)]) (rest := []) ⟨hx, hb, hml, hown, ht⟩ (c_X9_checkRange hst μ3 H.size a4 (0 : Int32) (2 : Int32) h) (va_cwS 3 ht (G_S q_597 q_598 q_46 q_599) rfl rfl rfl hd_54 ⟨Nat.le_of_ble_eq_true rfl, Nat.le_of_ble_eq_true rfl⟩) ⟨TBX.blind, TBX.pre hK hN hX hw⟩ rfl rfl hl.1 rfl (lv_room (Nat.le_of_ble_eq_true rfl)) dX9_after_16 ⟨Nat.le_of_ble_eq_true rfl, Nat.le_of_ble_eq_true rfl⟩) (fun μ4 H locs h hw => ?_)
  refine lv_iload hx hb dX9_after_19 (lv_at hl 5 rfl) ?_
  refine lv_if_ne (tgt := 32) hx hb dX9_after_21 (by decide) (fun c5 => ?_) (fun c5 => ?_)
  · have h := h.1 c5
    refine lv_aload_n hx hb dX9_after_32 rfl (lv_at hl 1 rfl) ?_
    refine lv_iload hx hb dX9_after_33 (lv_at hl 5 rfl) ?_
    refine lv_iconst (v := (1 : Int32)) hx hb dX9_after_35 (by decide) ?_
    refine lv_icmp_ne (tgt := 43) hx hb dX9_after_36 (by decide) (fun c6 => ?_) (fun c6 => ?_)
    · have h := h.1 c6
      refine lv_iconst (v := (0 : Int32)) hx hb dX9_after_43 (by decide) ?_
      refine lv_aload hx hb dX9_after_44 (lv_at hl 0 rfl) ?_
      refine lv_aload_n hx hb dX9_after_46 rfl (lv_at hl 1 rfl) ?_
      refine gf_X9_66 hx hb ht hown hK hw rfl dX9_after_47 ?_
      refine X_callv hw htab hlocks (c1 := 5) (n1 := 30) rfl rfl (Nat.le_of_ble_eq_true rfl) (Nat.le_of_ble_eq_true rfl) (vx_runV (own := "Leastreader") (As := [.int (0 : Int32), .ref (ad k2), .ref (ad 57)]) (rest := []) ⟨hx, hb, hml, hown, ht⟩ (c_X9_makeOrThrow hst k2 hk2 57 rfl μ4 H.size (0 : Int32) h) (cwV 3 ht (G_V q_854 q_856 q_21 q_46 q_857) rfl rfl rfl ⟨rfl, hd_69⟩ ⟨Nat.le_of_ble_eq_true rfl, Nat.le_of_ble_eq_true rfl⟩) ⟨TBX.blind, (T_recv hK hw (kd_of rfl (by decide)) (ent_8 rfl) cl_8), TBX.pre hK hN hX hw⟩ rfl rfl hl.1 rfl (lv_room (Nat.le_of_ble_eq_true rfl)) dX9_after_50 ⟨Nat.le_of_ble_eq_true rfl, Nat.le_of_ble_eq_true rfl⟩) (fun μ7 H locs h hw => ?_)
      refine lv_aload_n hx hb dX9_after_53 rfl (lv_at hl 1 rfl) ?_
      refine gf_X9_66 hx hb ht hown hK hw rfl dX9_after_54 ?_
      refine lv_iload_n hx hb dX9_after_57 rfl (lv_at hl 3 rfl) ?_
      refine lv_iload_n hx hb dX9_after_58 rfl (lv_at hl 4 rfl) ?_
      refine T_calli hw (va_runV (own := "Leastreader") (As := [.int a2, .int a3]) (rest := []) ⟨hx, hb, hml, hown, ht⟩ (c_X5_stateAfter 57 rfl μ7 H.size a2 a3 h) (cwV 2 ht (G_V q_535 q_536 q_537 q_53 q_538) rfl rfl rfl ⟨rfl, hd_31⟩ ⟨Nat.le_of_ble_eq_true rfl, Nat.le_of_ble_eq_true rfl⟩) ⟨TB.blind, (T_recv hK hw (kd_of rfl (by decide)) (ent_5 rfl) cl_5), TB.pre hK hN hw⟩ rfl rfl hl.1 rfl (lv_room (Nat.le_of_ble_eq_true rfl)) dX9_after_59 ⟨Nat.le_of_ble_eq_true rfl, Nat.le_of_ble_eq_true rfl⟩) (fun r8 μ9 H locs h hw => ?_)
      obtain ⟨e10, h⟩ := h
      rw [e10] at hw
      exact hret H locs ls 62 5 30 _ _ hw h rfl (Nat.le_of_ble_eq_true rfl) (Nat.le_of_ble_eq_true rfl) dX9_after_62
    have h := h.2 c6
    refine lv_iconst (v := (3 : Int32)) hx hb dX9_after_39 (by decide) ?_
    refine lv_goto (tgt := 44) hx hb dX9_after_40 (by decide) ?_
    refine lv_aload hx hb dX9_after_44 (lv_at hl 0 rfl) ?_
    refine lv_aload_n hx hb dX9_after_46 rfl (lv_at hl 1 rfl) ?_
    refine gf_X9_66 hx hb ht hown hK hw rfl dX9_after_47 ?_
    refine X_callv hw htab hlocks (c1 := 5) (n1 := 30) rfl rfl (Nat.le_of_ble_eq_true rfl) (Nat.le_of_ble_eq_true rfl) (vx_runV (own := "Leastreader") (As := [.int (3 : Int32), .ref (ad k2), .ref (ad 57)]) (rest := []) ⟨hx, hb, hml, hown, ht⟩ (c_X9_makeOrThrow hst k2 hk2 57 rfl μ4 H.size (3 : Int32) h) (cwV 3 ht (G_V q_854 q_856 q_21 q_46 q_857) rfl rfl rfl ⟨rfl, hd_69⟩ ⟨Nat.le_of_ble_eq_true rfl, Nat.le_of_ble_eq_true rfl⟩) ⟨TBX.blind, (T_recv hK hw (kd_of rfl (by decide)) (ent_8 rfl) cl_8), TBX.pre hK hN hX hw⟩ rfl rfl hl.1 rfl (lv_room (Nat.le_of_ble_eq_true rfl)) dX9_after_50 ⟨Nat.le_of_ble_eq_true rfl, Nat.le_of_ble_eq_true rfl⟩) (fun μ11 H locs h hw => ?_)
    refine lv_aload_n hx hb dX9_after_53 rfl (lv_at hl 1 rfl) ?_
    refine gf_X9_66 hx hb ht hown hK hw rfl dX9_after_54 ?_
    refine lv_iload_n hx hb dX9_after_57 rfl (lv_at hl 3 rfl) ?_
    refine lv_iload_n hx hb dX9_after_58 rfl (lv_at hl 4 rfl) ?_
    refine T_calli hw (va_runV (own := "Leastreader") (As := [.int a2, .int a3]) (rest := []) ⟨hx, hb, hml, hown, ht⟩ (c_X5_stateAfter 57 rfl μ11 H.size a2 a3 h) (cwV 2 ht (G_V q_535 q_536 q_537 q_53 q_538) rfl rfl rfl ⟨rfl, hd_31⟩ ⟨Nat.le_of_ble_eq_true rfl, Nat.le_of_ble_eq_true rfl⟩) ⟨TB.blind, (T_recv hK hw (kd_of rfl (by decide)) (ent_5 rfl) cl_5), TB.pre hK hN hw⟩ rfl rfl hl.1 rfl (lv_room (Nat.le_of_ble_eq_true rfl)) dX9_after_59 ⟨Nat.le_of_ble_eq_true rfl, Nat.le_of_ble_eq_true rfl⟩) (fun r12 μ13 H locs h hw => ?_)
    obtain ⟨e14, h⟩ := h
    rw [e14] at hw
    exact hret H locs ls 62 5 30 _ _ hw h rfl (Nat.le_of_ble_eq_true rfl) (Nat.le_of_ble_eq_true rfl) dX9_after_62
  have h := h.2 c5
  refine lv_aload hx hb dX9_after_24 (lv_at hl 0 rfl) ?_
  refine lv_iload_n hx hb dX9_after_26 rfl (lv_at hl 3 rfl) ?_
  refine lv_iload_n hx hb dX9_after_27 rfl (lv_at hl 4 rfl) ?_
  refine T_calli hw (va_runV (own := "Leastreader") (As := [.int a2, .int a3]) (rest := []) ⟨hx, hb, hml, hown, ht⟩ (c_X2_statesAfter k2 hk2 μ4 H.size a2 a3 h) (cwV 2 ht (G_V q_853 q_546 q_547 q_48 q_548) rfl rfl rfl ⟨rfl, hd_29⟩ ⟨Nat.le_of_ble_eq_true rfl, Nat.le_of_ble_eq_true rfl⟩) ⟨TB.blind, (T_recv hK hw (kd_of hk2 (by decide)) (ent_2 hk2) cl_2), TB.pre hK hN hw⟩ rfl rfl hl.1 rfl (lv_room (Nat.le_of_ble_eq_true rfl)) dX9_after_28 ⟨Nat.le_of_ble_eq_true rfl, Nat.le_of_ble_eq_true rfl⟩) (fun r15 μ16 H locs h hw => ?_)
  obtain ⟨e17, h⟩ := h
  rw [e17] at hw
  exact hret H locs ls 31 4 24 _ _ hw h rfl (Nat.le_of_ble_eq_true rfl) (Nat.le_of_ble_eq_true rfl) dX9_after_31
end
/-! part 53.m34 -/
section
def wp_X9_size (μ : TMem) (a1 : Int32) (a2 : Int32) (Q : Int32 → TMem → Prop) (X : String → TMem → Prop) : Prop :=
  wp_X9_machineAt μ a1 (fun (k2 : Nat) (μ1 : TMem) => wp_X9_checkRange μ1 a2 (0 : Int32) (3 : Int32) (fun (μ3 : TMem) => wp_X9_makeOrThrow k2 57 μ3 a2 (fun (μ4 : TMem) => Q (μ4 57 1) μ4) X) X) X
set_option maxHeartbeats 4000000 in
set_option maxRecDepth 100000 in
theorem c_X9_size {l : Launch} (hst : l.stackTraces = false) {D : va_G} {ad : Nat → Nat} {cI cM : ClassId}  (μ : TMem) (sz : Nat) (a1 : Int32) (a2 : Int32) {Q : Int32 → TMem → Prop} {X : String → TMem → Prop} (h : wp_X9_size μ a1 a2 Q X) : XMi l yX9_size (.code yX9_size cX9_size 4 (Option.some Jvm.ClassFile.FieldType.int)) 6 3 18 [.ref (ad 0), .int a1, .int a2] D ad cI cM sz μ Q X := by
  refine X_meti (by decide +kernel) (Nat.le_of_ble_eq_true rfl) ?_
  intro p e s m below meth c Qc ls hx hb hml hown ht hN hK hX htab hlocks hw hret hl
  have hl : lv_has ls 4 [(0, .ref (ad 0)), (1, .int a1), (2, .int a2)] := hl
  suffices hh : ∀ (H : Heap) (locs : List Loc), TW D ad cI cM s μ H locs → W p l e (RX 6 3 18) s m #[.ref (ad 0), .int a1, .int a2] below meth c H locs 0 0 (vx_MQ below Qc (vx_X (fun _ : TMem => True) (TEX D ad cI cM X) (TA ad s.heap.size)) #[.ref (ad 0), .int a1, .int a2] s 3 18 (TA ad s.heap.size)) (F0 m 0 ls []) from hh _ _ hw
  intro H locs hw
  change wp_X9_machineAt μ a1 (fun (k2 : Nat) (μ1 : TMem) => wp_X9_checkRange μ1 a2 (0 : Int32) (3 : Int32) (fun (μ3 : TMem) => wp_X9_makeOrThrow k2 57 μ3 a2 (fun (μ4 : TMem) => Q (μ4 57 1) μ4) X) X) X at h
  refine lv_aload_n hx hb dX9_size_0 rfl (lv_at hl 0 rfl) ?_
  refine lv_iload_n hx hb dX9_size_1 rfl (lv_at hl 1 rfl) ?_
  refine X_callo hw htab hlocks (c1 := 1) (n1 := 6) rfl rfl (Nat.le_of_ble_eq_true rfl) (Nat.le_of_ble_eq_true rfl) (vx_runV (own := "Leastreader") (As := [.int a1]) (rest := []) ⟨hx, hb, hml, hown, ht⟩ (c_X9_machineAt hst μ H.size a1 h) (cwV 1 ht (G_V q_314 q_316 q_0 q_46 q_317) rfl rfl rfl ⟨rfl, hd_53⟩ ⟨Nat.le_of_ble_eq_true rfl, Nat.le_of_ble_eq_true rfl⟩) ⟨TBX.blind, (T_recv hK hw (kd_of rfl (by decide)) (ent_8 rfl) cl_8), TBX.pre hK hN hX hw⟩ rfl rfl hl.1 rfl (lv_room (Nat.le_of_ble_eq_true rfl)) dX9_size_2 ⟨Nat.le_of_ble_eq_true rfl, Nat.le_of_ble_eq_true rfl⟩) (fun k2 μ1 H locs hk2 h hw => ?_)
  refine lv_astore_n (lv' := [(3, .ref (ad k2)), (0, .ref (ad 0)), (1, .int a1), (2, .int a2)]) hx hb dX9_size_5 rfl hl (by decide) rfl (fun ls hl => ?_)
  refine lv_iload_n hx hb dX9_size_6 rfl (lv_at hl 3 rfl) ?_
  refine lv_iconst (v := (0 : Int32)) hx hb dX9_size_7 (by decide) ?_
  refine lv_iconst (v := (3 : Int32)) hx hb dX9_size_8 (by decide) ?_
  refine X_callv hw htab hlocks (c1 := 2) (n1 := 12) rfl rfl (Nat.le_of_ble_eq_true rfl) (Nat.le_of_ble_eq_true rfl) (vx_runS (own := "Leastreader") (As := [.int a2, .int (0 : Int32), .int (3 : Int32)]) (rest := []) ⟨hx, hb, hml, hown, ht⟩ (c_X9_checkRange hst μ1 H.size a2 (0 : Int32) (3 : Int32) h) (va_cwS 3 ht (G_S q_597 q_598 q_46 q_599) rfl rfl rfl hd_54 ⟨Nat.le_of_ble_eq_true rfl, Nat.le_of_ble_eq_true rfl⟩) ⟨TBX.blind, TBX.pre hK hN hX hw⟩ rfl rfl hl.1 rfl (lv_room (Nat.le_of_ble_eq_true rfl)) dX9_size_9 ⟨Nat.le_of_ble_eq_true rfl, Nat.le_of_ble_eq_true rfl⟩) (fun μ3 H locs h hw => ?_)
  refine lv_aload_n hx hb dX9_size_12 rfl (lv_at hl 1 rfl) ?_
  refine lv_iload_n hx hb dX9_size_13 rfl (lv_at hl 3 rfl) ?_
  refine lv_aload_n hx hb dX9_size_14 rfl (lv_at hl 0 rfl) ?_
  refine lv_aload_n hx hb dX9_size_15 rfl (lv_at hl 1 rfl) ?_
  refine gf_X9_66 hx hb ht hown hK hw rfl dX9_size_16 ?_
  refine X_callv hw htab hlocks (c1 := 3) (n1 := 18) rfl rfl (Nat.le_of_ble_eq_true rfl) (Nat.le_of_ble_eq_true rfl) (vx_runV (own := "Leastreader") (As := [.int a2, .ref (ad k2), .ref (ad 57)]) (rest := []) ⟨hx, hb, hml, hown, ht⟩ (c_X9_makeOrThrow hst k2 hk2 57 rfl μ3 H.size a2 h) (cwV 3 ht (G_V q_854 q_856 q_21 q_46 q_857) rfl rfl rfl ⟨rfl, hd_69⟩ ⟨Nat.le_of_ble_eq_true rfl, Nat.le_of_ble_eq_true rfl⟩) ⟨TBX.blind, (T_recv hK hw (kd_of rfl (by decide)) (ent_8 rfl) cl_8), TBX.pre hK hN hX hw⟩ rfl rfl hl.1 rfl (lv_room (Nat.le_of_ble_eq_true rfl)) dX9_size_19 ⟨Nat.le_of_ble_eq_true rfl, Nat.le_of_ble_eq_true rfl⟩) (fun μ4 H locs h hw => ?_)
  refine lv_aload_n hx hb dX9_size_22 rfl (lv_at hl 1 rfl) ?_
  refine gf_X9_66 hx hb ht hown hK hw rfl dX9_size_23 ?_
  refine gf_X9_190 hx hb ht hown hK hw rfl dX9_size_26 ?_
  exact hret H locs ls 29 3 18 _ _ hw h rfl (Nat.le_of_ble_eq_true rfl) (Nat.le_of_ble_eq_true rfl) dX9_size_29
def wp_X9_kind (μ : TMem) (a1 : Int32) (Q : Int32 → TMem → Prop) (X : String → TMem → Prop) : Prop :=
  wp_X9_machineAt μ a1 (fun (k2 : Nat) (μ1 : TMem) => wp_X9_makeOrThrow k2 57 μ1 (0 : Int32) (fun (μ3 : TMem) => (¬ (μ3 57 1) = (1 : Int32) → (wp_X5_isTakingLongOnes 57 μ3 (fun (r5 : Int32) => (r5 = 0 → (Q (2 : Int32) μ3)) ∧ (¬ r5 = 0 → (Q (3 : Int32) μ3))))) ∧ ((μ3 57 1) = (1 : Int32) → (wp_X5_isGoal 57 μ3 (0 : Int32) (fun (r9 : Int32) => (r9 = 0 → (Q (0 : Int32) μ3)) ∧ (¬ r9 = 0 → (Q (1 : Int32) μ3)))))) X) X
set_option maxHeartbeats 4000000 in
set_option maxRecDepth 100000 in
theorem c_X9_kind {l : Launch} (hst : l.stackTraces = false) {D : va_G} {ad : Nat → Nat} {cI cM : ClassId}  (μ : TMem) (sz : Nat) (a1 : Int32) {Q : Int32 → TMem → Prop} {X : String → TMem → Prop} (h : wp_X9_kind μ a1 Q X) : XMi l yX9_kind (.code yX9_kind cX9_kind 2 (Option.some Jvm.ClassFile.FieldType.int)) 6 2 12 [.ref (ad 0), .int a1] D ad cI cM sz μ Q X := by
  refine X_meti (by decide +kernel) (Nat.le_of_ble_eq_true rfl) ?_
  intro p e s m below meth c Qc ls hx hb hml hown ht hN hK hX htab hlocks hw hret hl
  have hl : lv_has ls 2 [(0, .ref (ad 0)), (1, .int a1)] := hl
  suffices hh : ∀ (H : Heap) (locs : List Loc), TW D ad cI cM s μ H locs → W p l e (RX 6 2 12) s m #[.ref (ad 0), .int a1] below meth c H locs 0 0 (vx_MQ below Qc (vx_X (fun _ : TMem => True) (TEX D ad cI cM X) (TA ad s.heap.size)) #[.ref (ad 0), .int a1] s 2 12 (TA ad s.heap.size)) (F0 m 0 ls []) from hh _ _ hw
  intro H locs hw
  change wp_X9_machineAt μ a1 (fun (k2 : Nat) (μ1 : TMem) => wp_X9_makeOrThrow k2 57 μ1 (0 : Int32) (fun (μ3 : TMem) => (¬ (μ3 57 1) = (1 : Int32) → (wp_X5_isTakingLongOnes 57 μ3 (fun (r5 : Int32) => (r5 = 0 → (Q (2 : Int32) μ3)) ∧ (¬ r5 = 0 → (Q (3 : Int32) μ3))))) ∧ ((μ3 57 1) = (1 : Int32) → (wp_X5_isGoal 57 μ3 (0 : Int32) (fun (r9 : Int32) => (r9 = 0 → (Q (0 : Int32) μ3)) ∧ (¬ r9 = 0 → (Q (1 : Int32) μ3)))))) X) X at h
  refine lv_aload_n hx hb dX9_kind_0 rfl (lv_at hl 0 rfl) ?_
  refine lv_iconst (v := (0 : Int32)) hx hb dX9_kind_1 (by decide) ?_
  refine lv_aload_n hx hb dX9_kind_2 rfl (lv_at hl 0 rfl) ?_
  refine lv_iload_n hx hb dX9_kind_3 rfl (lv_at hl 1 rfl) ?_
  refine X_callo hw htab hlocks (c1 := 1) (n1 := 6) rfl rfl (Nat.le_of_ble_eq_true rfl) (Nat.le_of_ble_eq_true rfl) (vx_runV (own := "Leastreader") (As := [.int a1]) (rest := [.int (0 : Int32), .ref (ad 0)]) ⟨hx, hb, hml, hown, ht⟩ (c_X9_machineAt hst μ H.size a1 h) (cwV 1 ht (G_V q_314 q_316 q_0 q_46 q_317) rfl rfl rfl ⟨rfl, hd_53⟩ ⟨Nat.le_of_ble_eq_true rfl, Nat.le_of_ble_eq_true rfl⟩) ⟨TBX.blind, (T_recv hK hw (kd_of rfl (by decide)) (ent_8 rfl) cl_8), TBX.pre hK hN hX hw⟩ rfl rfl hl.1 rfl (lv_room (Nat.le_of_ble_eq_true rfl)) dX9_kind_4 ⟨Nat.le_of_ble_eq_true rfl, Nat.le_of_ble_eq_true rfl⟩) (fun k2 μ1 H locs hk2 h hw => ?_)
  refine lv_aload_n hx hb dX9_kind_7 rfl (lv_at hl 0 rfl) ?_
  refine gf_X9_66 hx hb ht hown hK hw rfl dX9_kind_8 ?_
  refine X_callv hw htab hlocks (c1 := 2) (n1 := 12) rfl rfl (Nat.le_of_ble_eq_true rfl) (Nat.le_of_ble_eq_true rfl) (vx_runV (own := "Leastreader") (As := [.int (0 : Int32), .ref (ad k2), .ref (ad 57)]) (rest := []) ⟨hx, hb, hml, hown, ht⟩ (c_X9_makeOrThrow hst k2 hk2 57 rfl μ1 H.size (0 : Int32) h) (cwV 3 ht (G_V q_854 q_856 q_21 q_46 q_857) rfl rfl rfl ⟨rfl, hd_69⟩ ⟨Nat.le_of_ble_eq_true rfl, Nat.le_of_ble_eq_true rfl⟩) ⟨TBX.blind, (T_recv hK hw (kd_of rfl (by decide)) (ent_8 rfl) cl_8), TBX.pre hK hN hX hw⟩ rfl rfl hl.1 rfl (lv_room (Nat.le_of_ble_eq_true rfl)) dX9_kind_11 ⟨Nat.le_of_ble_eq_true rfl, Nat.le_of_ble_eq_true rfl⟩) (fun μ3 H locs h hw => ?_)
  refine lv_aload_n hx hb dX9_kind_14 rfl (lv_at hl 0 rfl) ?_
  refine gf_X9_66 hx hb ht hown hK hw rfl dX9_kind_15 ?_
  refine gf_X9_190 hx hb ht hown hK hw rfl dX9_kind_18 ?_
  refine lv_iconst (v := (1 : Int32)) hx hb dX9_kind_21 (by decide) ?_
  refine lv_icmp_ne (tgt := 42) hx hb dX9_kind_22 (by decide) (fun c4 => ?_) (fun c4 => ?_)
  · have h := h.1 c4
    refine lv_aload_n hx hb dX9_kind_42 rfl (lv_at hl 0 rfl) ?_
    refine gf_X9_66 hx hb ht hown hK hw rfl dX9_kind_43 ?_
    refine T_calli hw (va_runV (own := "Leastreader") (As := []) (rest := []) ⟨hx, hb, hml, hown, ht⟩ (c_X5_isTakingLongOnes 57 rfl μ3 H.size h) (cwV 0 ht (G_V q_1165 q_1166 q_1167 q_53 q_1168) rfl rfl rfl ⟨rfl, hd_70⟩ ⟨Nat.le_of_ble_eq_true rfl, Nat.le_of_ble_eq_true rfl⟩) ⟨TB.blind, (T_recv hK hw (kd_of rfl (by decide)) (ent_5 rfl) cl_5), TB.pre hK hN hw⟩ rfl rfl hl.1 rfl (lv_room (Nat.le_of_ble_eq_true rfl)) dX9_kind_46 ⟨Nat.le_of_ble_eq_true rfl, Nat.le_of_ble_eq_true rfl⟩) (fun r5 μ6 H locs h hw => ?_)
    obtain ⟨e7, h⟩ := h
    rw [e7] at hw
    refine lv_if_eq (tgt := 56) hx hb dX9_kind_49 (by decide) (fun c8 => ?_) (fun c8 => ?_)
    · have h := h.1 c8
      refine lv_iconst (v := (2 : Int32)) hx hb dX9_kind_56 (by decide) ?_
      exact hret H locs ls 57 2 12 _ _ hw h rfl (Nat.le_of_ble_eq_true rfl) (Nat.le_of_ble_eq_true rfl) dX9_kind_57
    have h := h.2 c8
    refine lv_iconst (v := (3 : Int32)) hx hb dX9_kind_52 (by decide) ?_
    refine lv_goto (tgt := 57) hx hb dX9_kind_53 (by decide) ?_
    exact hret H locs ls 57 2 12 _ _ hw h rfl (Nat.le_of_ble_eq_true rfl) (Nat.le_of_ble_eq_true rfl) dX9_kind_57
  have h := h.2 c4
  refine lv_aload_n hx hb dX9_kind_25 rfl (lv_at hl 0 rfl) ?_
  refine gf_X9_66 hx hb ht hown hK hw rfl dX9_kind_26 ?_
  refine lv_iconst (v := (0 : Int32)) hx hb dX9_kind_29 (by decide) ?_
  refine T_calli hw (va_runV (own := "Leastreader") (As := [.int (0 : Int32)]) (rest := []) ⟨hx, hb, hml, hown, ht⟩ (c_X5_isGoal 57 rfl μ3 H.size (0 : Int32) h) (cwV 1 ht (G_V q_540 q_462 q_463 q_53 q_464) rfl rfl rfl ⟨rfl, hd_18⟩ ⟨Nat.le_of_ble_eq_true rfl, Nat.le_of_ble_eq_true rfl⟩) ⟨TB.blind, (T_recv hK hw (kd_of rfl (by decide)) (ent_5 rfl) cl_5), TB.pre hK hN hw⟩ rfl rfl hl.1 rfl (lv_room (Nat.le_of_ble_eq_true rfl)) dX9_kind_30 ⟨Nat.le_of_ble_eq_true rfl, Nat.le_of_ble_eq_true rfl⟩) (fun r9 μ10 H locs h hw => ?_)
  obtain ⟨e11, h⟩ := h
  rw [e11] at hw
  refine lv_if_eq (tgt := 40) hx hb dX9_kind_33 (by decide) (fun c12 => ?_) (fun c12 => ?_)
  · have h := h.1 c12
    refine lv_iconst (v := (0 : Int32)) hx hb dX9_kind_40 (by decide) ?_
    exact hret H locs ls 41 2 12 _ _ hw h rfl (Nat.le_of_ble_eq_true rfl) (Nat.le_of_ble_eq_true rfl) dX9_kind_41
  have h := h.2 c12
  refine lv_iconst (v := (1 : Int32)) hx hb dX9_kind_36 (by decide) ?_
  refine lv_goto (tgt := 41) hx hb dX9_kind_37 (by decide) ?_
  exact hret H locs ls 41 2 12 _ _ hw h rfl (Nat.le_of_ble_eq_true rfl) (Nat.le_of_ble_eq_true rfl) dX9_kind_41
def wp_X9_many (μ : TMem) (a1 : Int32) (a2 : Int32) (a3 : Int32) (Q : Int32 → TMem → Prop) (X : String → TMem → Prop) : Prop :=
  wp_X9_machineAt μ a1 (fun (k2 : Nat) (μ1 : TMem) => wp_X9_checkRange μ1 a3 (0 : Int32) (1 : Int32) (fun (μ3 : TMem) => (¬ a3 = (1 : Int32) → (wp_X9_checkRange μ3 a2 (0 : Int32) (12 : Int32) (fun (μ5 : TMem) => (¬ a3 = (1 : Int32) → (wp_X9_makeOrThrow k2 57 μ5 (0 : Int32) (fun (μ7 : TMem) => wp_X8_count 57 μ7 (fun (μ8 : TMem) => wp_X8_from μ8 (0 : Int32) a2 (fun (r9 : Int32) => Q r9 μ8))) X)) ∧ (a3 = (1 : Int32) → (wp_X2_countOneByOne k2 μ5 a2 (fun (r12 : Int32) => Q r12 μ5)))) X)) ∧ (a3 = (1 : Int32) → (wp_X9_checkRange μ3 a2 (0 : Int32) (5 : Int32) (fun (μ15 : TMem) => (¬ a3 = (1 : Int32) → (wp_X9_makeOrThrow k2 57 μ15 (0 : Int32) (fun (μ17 : TMem) => wp_X8_count 57 μ17 (fun (μ18 : TMem) => wp_X8_from μ18 (0 : Int32) a2 (fun (r19 : Int32) => Q r19 μ18))) X)) ∧ (a3 = (1 : Int32) → (wp_X2_countOneByOne k2 μ15 a2 (fun (r22 : Int32) => Q r22 μ15)))) X))) X) X
set_option maxHeartbeats 4000000 in
set_option maxRecDepth 100000 in
theorem c_X9_many {l : Launch} (hst : l.stackTraces = false) {D : va_G} {ad : Nat → Nat} {cI cM : ClassId}  (μ : TMem) (sz : Nat) (a1 : Int32) (a2 : Int32) (a3 : Int32) {Q : Int32 → TMem → Prop} {X : String → TMem → Prop} (h : wp_X9_many μ a1 a2 a3 Q X) : XMi l yX9_many (.code yX9_many cX9_many 5 (Option.some Jvm.ClassFile.FieldType.int)) 6 4 24 [.ref (ad 0), .int a1, .int a2, .int a3] D ad cI cM sz μ Q X := by
  refine X_meti (by decide +kernel) (Nat.le_of_ble_eq_true rfl) ?_
  intro p e s m below meth c Qc ls hx hb hml hown ht hN hK hX htab hlocks hw hret hl
  have hl : lv_has ls 5 [(0, .ref (ad 0)), (1, .int a1), (2, .int a2), (3, .int a3)] := hl
  suffices hh : ∀ (H : Heap) (locs : List Loc), TW D ad cI cM s μ H locs → W p l e (RX 6 4 24) s m #[.ref (ad 0), .int a1, .int a2, .int a3] below meth c H locs 0 0 (vx_MQ below Qc (vx_X (fun _ : TMem => True) (TEX D ad cI cM X) (TA ad s.heap.size)) #[.ref (ad 0), .int a1, .int a2, .int a3] s 4 24 (TA ad s.heap.size)) (F0 m 0 ls []) from hh _ _ hw
  intro H locs hw
  change wp_X9_machineAt μ a1 (fun (k2 : Nat) (μ1 : TMem) => wp_X9_checkRange μ1 a3 (0 : Int32) (1 : Int32) (fun (μ3 : TMem) => (¬ a3 = (1 : Int32) → (wp_X9_checkRange μ3 a2 (0 : Int32) (12 : Int32) (fun (μ5 : TMem) => (¬ a3 = (1 : Int32) → (wp_X9_makeOrThrow k2 57 μ5 (0 : Int32) (fun (μ7 : TMem) => wp_X8_count 57 μ7 (fun (μ8 : TMem) => wp_X8_from μ8 (0 : Int32) a2 (fun (r9 : Int32) => Q r9 μ8))) X)) ∧ (a3 = (1 : Int32) → (wp_X2_countOneByOne k2 μ5 a2 (fun (r12 : Int32) => Q r12 μ5)))) X)) ∧ (a3 = (1 : Int32) → (wp_X9_checkRange μ3 a2 (0 : Int32) (5 : Int32) (fun (μ15 : TMem) => (¬ a3 = (1 : Int32) → (wp_X9_makeOrThrow k2 57 μ15 (0 : Int32) (fun (μ17 : TMem) => wp_X8_count 57 μ17 (fun (μ18 : TMem) => wp_X8_from μ18 (0 : Int32) a2 (fun (r19 : Int32) => Q r19 μ18))) X)) ∧ (a3 = (1 : Int32) → (wp_X2_countOneByOne k2 μ15 a2 (fun (r22 : Int32) => Q r22 μ15)))) X))) X) X at h
  refine lv_aload_n hx hb dX9_many_0 rfl (lv_at hl 0 rfl) ?_
  refine lv_iload_n hx hb dX9_many_1 rfl (lv_at hl 1 rfl) ?_
  refine X_callo hw htab hlocks (c1 := 1) (n1 := 6) rfl rfl (Nat.le_of_ble_eq_true rfl) (Nat.le_of_ble_eq_true rfl) (vx_runV (own := "Leastreader") (As := [.int a1]) (rest := []) ⟨hx, hb, hml, hown, ht⟩ (c_X9_machineAt hst μ H.size a1 h) (cwV 1 ht (G_V q_314 q_316 q_0 q_46 q_317) rfl rfl rfl ⟨rfl, hd_53⟩ ⟨Nat.le_of_ble_eq_true rfl, Nat.le_of_ble_eq_true rfl⟩) ⟨TBX.blind, (T_recv hK hw (kd_of rfl (by decide)) (ent_8 rfl) cl_8), TBX.pre hK hN hX hw⟩ rfl rfl hl.1 rfl (lv_room (Nat.le_of_ble_eq_true rfl)) dX9_many_2 ⟨Nat.le_of_ble_eq_true rfl, Nat.le_of_ble_eq_true rfl⟩) (fun k2 μ1 H locs hk2 h hw => ?_)
  refine lv_astore (lv' := [(4, .ref (ad k2)), (0, .ref (ad 0)), (1, .int a1), (2, .int a2), (3, .int a3)]) hx hb dX9_many_5 hl (by decide) rfl (fun ls hl => ?_)
  refine lv_iload_n hx hb dX9_many_7 rfl (lv_at hl 4 rfl) ?_
  refine lv_iconst (v := (0 : Int32)) hx hb dX9_many_8 (by decide) ?_
  refine lv_iconst (v := (1 : Int32)) hx hb dX9_many_9 (by decide) ?_
  refine X_callv hw htab hlocks (c1 := 2) (n1 := 12) rfl rfl (Nat.le_of_ble_eq_true rfl) (Nat.le_of_ble_eq_true rfl) (vx_runS (own := "Leastreader") (As := [.int a3, .int (0 : Int32), .int (1 : Int32)]) (rest := []) ⟨hx, hb, hml, hown, ht⟩ (c_X9_checkRange hst μ1 H.size a3 (0 : Int32) (1 : Int32) h) (va_cwS 3 ht (G_S q_597 q_598 q_46 q_599) rfl rfl rfl hd_54 ⟨Nat.le_of_ble_eq_true rfl, Nat.le_of_ble_eq_true rfl⟩) ⟨TBX.blind, TBX.pre hK hN hX hw⟩ rfl rfl hl.1 rfl (lv_room (Nat.le_of_ble_eq_true rfl)) dX9_many_10 ⟨Nat.le_of_ble_eq_true rfl, Nat.le_of_ble_eq_true rfl⟩) (fun μ3 H locs h hw => ?_)
  refine lv_iload_n hx hb dX9_many_13 rfl (lv_at hl 3 rfl) ?_
  refine lv_iconst (v := (0 : Int32)) hx hb dX9_many_14 (by decide) ?_
  refine lv_iload_n hx hb dX9_many_15 rfl (lv_at hl 4 rfl) ?_
  refine lv_iconst (v := (1 : Int32)) hx hb dX9_many_16 (by decide) ?_
  refine lv_icmp_ne (tgt := 24) hx hb dX9_many_17 (by decide) (fun c4 => ?_) (fun c4 => ?_)
  · have h := h.1 c4
    refine lv_bipush (v := (12 : Int32)) hx hb dX9_many_24 (by decide) ?_
    refine X_callv hw htab hlocks (c1 := 3) (n1 := 18) rfl rfl (Nat.le_of_ble_eq_true rfl) (Nat.le_of_ble_eq_true rfl) (vx_runS (own := "Leastreader") (As := [.int a2, .int (0 : Int32), .int (12 : Int32)]) (rest := []) ⟨hx, hb, hml, hown, ht⟩ (c_X9_checkRange hst μ3 H.size a2 (0 : Int32) (12 : Int32) h) (va_cwS 3 ht (G_S q_597 q_598 q_46 q_599) rfl rfl rfl hd_54 ⟨Nat.le_of_ble_eq_true rfl, Nat.le_of_ble_eq_true rfl⟩) ⟨TBX.blind, TBX.pre hK hN hX hw⟩ rfl rfl hl.1 rfl (lv_room (Nat.le_of_ble_eq_true rfl)) dX9_many_26 ⟨Nat.le_of_ble_eq_true rfl, Nat.le_of_ble_eq_true rfl⟩) (fun μ5 H locs h hw => ?_)
    refine lv_iload_n hx hb dX9_many_29 rfl (lv_at hl 4 rfl) ?_
    refine lv_iconst (v := (1 : Int32)) hx hb dX9_many_30 (by decide) ?_
    refine lv_icmp_ne (tgt := 41) hx hb dX9_many_31 (by decide) (fun c6 => ?_) (fun c6 => ?_)
    · have h := h.1 c6
      refine lv_aload_n hx hb dX9_many_41 rfl (lv_at hl 1 rfl) ?_
      refine lv_iconst (v := (0 : Int32)) hx hb dX9_many_42 (by decide) ?_
      refine lv_aload hx hb dX9_many_43 (lv_at hl 0 rfl) ?_
      refine lv_aload_n hx hb dX9_many_45 rfl (lv_at hl 1 rfl) ?_
      refine gf_X9_66 hx hb ht hown hK hw rfl dX9_many_46 ?_
      refine X_callv hw htab hlocks (c1 := 4) (n1 := 24) rfl rfl (Nat.le_of_ble_eq_true rfl) (Nat.le_of_ble_eq_true rfl) (vx_runV (own := "Leastreader") (As := [.int (0 : Int32), .ref (ad k2), .ref (ad 57)]) (rest := []) ⟨hx, hb, hml, hown, ht⟩ (c_X9_makeOrThrow hst k2 hk2 57 rfl μ5 H.size (0 : Int32) h) (cwV 3 ht (G_V q_854 q_856 q_21 q_46 q_857) rfl rfl rfl ⟨rfl, hd_69⟩ ⟨Nat.le_of_ble_eq_true rfl, Nat.le_of_ble_eq_true rfl⟩) ⟨TBX.blind, (T_recv hK hw (kd_of rfl (by decide)) (ent_8 rfl) cl_8), TBX.pre hK hN hX hw⟩ rfl rfl hl.1 rfl (lv_room (Nat.le_of_ble_eq_true rfl)) dX9_many_49 ⟨Nat.le_of_ble_eq_true rfl, Nat.le_of_ble_eq_true rfl⟩) (fun μ7 H locs h hw => ?_)
      refine lv_aload_n hx hb dX9_many_52 rfl (lv_at hl 1 rfl) ?_
      refine gf_X9_49 hx hb ht hown hK hw rfl dX9_many_53 ?_
      refine lv_aload_n hx hb dX9_many_56 rfl (lv_at hl 1 rfl) ?_
      refine gf_X9_66 hx hb ht hown hK hw rfl dX9_many_57 ?_
      refine T_callv hw (va_runV (own := "Leastreader") (As := [.ref (ad 57)]) (rest := []) ⟨hx, hb, hml, hown, ht⟩ (c_X8_count 57 rfl μ7 H.size h) (cwV 1 ht (G_V q_1186 q_1187 q_1188 q_55 q_1189) rfl rfl rfl ⟨rfl, hd_71⟩ ⟨Nat.le_of_ble_eq_true rfl, Nat.le_of_ble_eq_true rfl⟩) ⟨TB.blind, (T_recv hK hw (kd_of rfl (by decide)) (ent_7 rfl) cl_7), TB.pre hK hN hw⟩ rfl rfl hl.1 rfl (lv_room (Nat.le_of_ble_eq_true rfl)) dX9_many_60 ⟨Nat.le_of_ble_eq_true rfl, Nat.le_of_ble_eq_true rfl⟩) (fun μ8 H locs h hw => ?_)
      refine lv_aload_n hx hb dX9_many_63 rfl (lv_at hl 1 rfl) ?_
      refine gf_X9_49 hx hb ht hown hK hw rfl dX9_many_64 ?_
      refine lv_iconst (v := (0 : Int32)) hx hb dX9_many_67 (by decide) ?_
      refine lv_iload_n hx hb dX9_many_68 rfl (lv_at hl 3 rfl) ?_
      refine T_calli hw (va_runV (own := "Leastreader") (As := [.int (0 : Int32), .int a2]) (rest := []) ⟨hx, hb, hml, hown, ht⟩ (c_X8_from μ8 H.size (0 : Int32) a2 h) (cwV 2 ht (G_V q_1202 q_1198 q_1199 q_55 q_1200) rfl rfl rfl ⟨rfl, hd_51⟩ ⟨Nat.le_of_ble_eq_true rfl, Nat.le_of_ble_eq_true rfl⟩) ⟨TB.blind, (T_recv hK hw (kd_of rfl (by decide)) (ent_7 rfl) cl_7), TB.pre hK hN hw⟩ rfl rfl hl.1 rfl (lv_room (Nat.le_of_ble_eq_true rfl)) dX9_many_69 ⟨Nat.le_of_ble_eq_true rfl, Nat.le_of_ble_eq_true rfl⟩) (fun r9 μ10 H locs h hw => ?_)
      obtain ⟨e11, h⟩ := h
      rw [e11] at hw
      exact hret H locs ls 72 4 24 _ _ hw h rfl (Nat.le_of_ble_eq_true rfl) (Nat.le_of_ble_eq_true rfl) dX9_many_72
    have h := h.2 c6
    refine lv_aload hx hb dX9_many_34 (lv_at hl 0 rfl) ?_
    refine lv_iload_n hx hb dX9_many_36 rfl (lv_at hl 3 rfl) ?_
    refine T_calli hw (va_runV (own := "Leastreader") (As := [.int a2]) (rest := []) ⟨hx, hb, hml, hown, ht⟩ (c_X2_countOneByOne k2 hk2 μ5 H.size a2 h) (cwV 1 ht (G_V q_1180 q_1181 q_1182 q_48 q_1183) rfl rfl rfl ⟨rfl, hd_72⟩ ⟨Nat.le_of_ble_eq_true rfl, Nat.le_of_ble_eq_true rfl⟩) ⟨TB.blind, (T_recv hK hw (kd_of hk2 (by decide)) (ent_2 hk2) cl_2), TB.pre hK hN hw⟩ rfl rfl hl.1 rfl (lv_room (Nat.le_of_ble_eq_true rfl)) dX9_many_37 ⟨Nat.le_of_ble_eq_true rfl, Nat.le_of_ble_eq_true rfl⟩) (fun r12 μ13 H locs h hw => ?_)
    obtain ⟨e14, h⟩ := h
    rw [e14] at hw
    exact hret H locs ls 40 3 18 _ _ hw h rfl (Nat.le_of_ble_eq_true rfl) (Nat.le_of_ble_eq_true rfl) dX9_many_40
  have h := h.2 c4
  refine lv_iconst (v := (5 : Int32)) hx hb dX9_many_20 (by decide) ?_
  refine lv_goto (tgt := 26) hx hb dX9_many_21 (by decide) ?_
  refine X_callv hw htab hlocks (c1 := 3) (n1 := 18) rfl rfl (Nat.le_of_ble_eq_true rfl) (Nat.le_of_ble_eq_true rfl) (vx_runS (own := "Leastreader") (As := [.int a2, .int (0 : Int32), .int (5 : Int32)]) (rest := []) ⟨hx, hb, hml, hown, ht⟩ (c_X9_checkRange hst μ3 H.size a2 (0 : Int32) (5 : Int32) h) (va_cwS 3 ht (G_S q_597 q_598 q_46 q_599) rfl rfl rfl hd_54 ⟨Nat.le_of_ble_eq_true rfl, Nat.le_of_ble_eq_true rfl⟩) ⟨TBX.blind, TBX.pre hK hN hX hw⟩ rfl rfl hl.1 rfl (lv_room (Nat.le_of_ble_eq_true rfl)) dX9_many_26 ⟨Nat.le_of_ble_eq_true rfl, Nat.le_of_ble_eq_true rfl⟩) (fun μ15 H locs h hw => ?_)
  refine lv_iload_n hx hb dX9_many_29 rfl (lv_at hl 4 rfl) ?_
  refine lv_iconst (v := (1 : Int32)) hx hb dX9_many_30 (by decide) ?_
  refine lv_icmp_ne (tgt := 41) hx hb dX9_many_31 (by decide) (fun c16 => ?_) (fun c16 => ?_)
  · have h := h.1 c16
    refine lv_aload_n hx hb dX9_many_41 rfl (lv_at hl 1 rfl) ?_
    refine lv_iconst (v := (0 : Int32)) hx hb dX9_many_42 (by decide) ?_
    refine lv_aload hx hb dX9_many_43 (lv_at hl 0 rfl) ?_
    refine lv_aload_n hx hb dX9_many_45 rfl (lv_at hl 1 rfl) ?_
    refine gf_X9_66 hx hb ht hown hK hw rfl dX9_many_46 ?_
    refine X_callv hw htab hlocks (c1 := 4) (n1 := 24) rfl rfl (Nat.le_of_ble_eq_true rfl) (Nat.le_of_ble_eq_true rfl) (vx_runV (own := "Leastreader") (As := [.int (0 : Int32), .ref (ad k2), .ref (ad 57)]) (rest := []) ⟨hx, hb, hml, hown, ht⟩ (c_X9_makeOrThrow hst k2 hk2 57 rfl μ15 H.size (0 : Int32) h) (cwV 3 ht (G_V q_854 q_856 q_21 q_46 q_857) rfl rfl rfl ⟨rfl, hd_69⟩ ⟨Nat.le_of_ble_eq_true rfl, Nat.le_of_ble_eq_true rfl⟩) ⟨TBX.blind, (T_recv hK hw (kd_of rfl (by decide)) (ent_8 rfl) cl_8), TBX.pre hK hN hX hw⟩ rfl rfl hl.1 rfl (lv_room (Nat.le_of_ble_eq_true rfl)) dX9_many_49 ⟨Nat.le_of_ble_eq_true rfl, Nat.le_of_ble_eq_true rfl⟩) (fun μ17 H locs h hw => ?_)
    refine lv_aload_n hx hb dX9_many_52 rfl (lv_at hl 1 rfl) ?_
    refine gf_X9_49 hx hb ht hown hK hw rfl dX9_many_53 ?_
    refine lv_aload_n hx hb dX9_many_56 rfl (lv_at hl 1 rfl) ?_
    refine gf_X9_66 hx hb ht hown hK hw rfl dX9_many_57 ?_
    refine T_callv hw (va_runV (own := "Leastreader") (As := [.ref (ad 57)]) (rest := []) ⟨hx, hb, hml, hown, ht⟩ (c_X8_count 57 rfl μ17 H.size h) (cwV 1 ht (G_V q_1186 q_1187 q_1188 q_55 q_1189) rfl rfl rfl ⟨rfl, hd_71⟩ ⟨Nat.le_of_ble_eq_true rfl, Nat.le_of_ble_eq_true rfl⟩) ⟨TB.blind, (T_recv hK hw (kd_of rfl (by decide)) (ent_7 rfl) cl_7), TB.pre hK hN hw⟩ rfl rfl hl.1 rfl (lv_room (Nat.le_of_ble_eq_true rfl)) dX9_many_60 ⟨Nat.le_of_ble_eq_true rfl, Nat.le_of_ble_eq_true rfl⟩) (fun μ18 H locs h hw => ?_)
    refine lv_aload_n hx hb dX9_many_63 rfl (lv_at hl 1 rfl) ?_
    refine gf_X9_49 hx hb ht hown hK hw rfl dX9_many_64 ?_
    refine lv_iconst (v := (0 : Int32)) hx hb dX9_many_67 (by decide) ?_
    refine lv_iload_n hx hb dX9_many_68 rfl (lv_at hl 3 rfl) ?_
    refine T_calli hw (va_runV (own := "Leastreader") (As := [.int (0 : Int32), .int a2]) (rest := []) ⟨hx, hb, hml, hown, ht⟩ (c_X8_from μ18 H.size (0 : Int32) a2 h) (cwV 2 ht (G_V q_1202 q_1198 q_1199 q_55 q_1200) rfl rfl rfl ⟨rfl, hd_51⟩ ⟨Nat.le_of_ble_eq_true rfl, Nat.le_of_ble_eq_true rfl⟩) ⟨TB.blind, (T_recv hK hw (kd_of rfl (by decide)) (ent_7 rfl) cl_7), TB.pre hK hN hw⟩ rfl rfl hl.1 rfl (lv_room (Nat.le_of_ble_eq_true rfl)) dX9_many_69 ⟨Nat.le_of_ble_eq_true rfl, Nat.le_of_ble_eq_true rfl⟩) (fun r19 μ20 H locs h hw => ?_)
    obtain ⟨e21, h⟩ := h
    rw [e21] at hw
    exact hret H locs ls 72 4 24 _ _ hw h rfl (Nat.le_of_ble_eq_true rfl) (Nat.le_of_ble_eq_true rfl) dX9_many_72
  have h := h.2 c16
  refine lv_aload hx hb dX9_many_34 (lv_at hl 0 rfl) ?_
  refine lv_iload_n hx hb dX9_many_36 rfl (lv_at hl 3 rfl) ?_
  refine T_calli hw (va_runV (own := "Leastreader") (As := [.int a2]) (rest := []) ⟨hx, hb, hml, hown, ht⟩ (c_X2_countOneByOne k2 hk2 μ15 H.size a2 h) (cwV 1 ht (G_V q_1180 q_1181 q_1182 q_48 q_1183) rfl rfl rfl ⟨rfl, hd_72⟩ ⟨Nat.le_of_ble_eq_true rfl, Nat.le_of_ble_eq_true rfl⟩) ⟨TB.blind, (T_recv hK hw (kd_of hk2 (by decide)) (ent_2 hk2) cl_2), TB.pre hK hN hw⟩ rfl rfl hl.1 rfl (lv_room (Nat.le_of_ble_eq_true rfl)) dX9_many_37 ⟨Nat.le_of_ble_eq_true rfl, Nat.le_of_ble_eq_true rfl⟩) (fun r22 μ23 H locs h hw => ?_)
  obtain ⟨e24, h⟩ := h
  rw [e24] at hw
  exact hret H locs ls 40 3 18 _ _ hw h rfl (Nat.le_of_ble_eq_true rfl) (Nat.le_of_ble_eq_true rfl) dX9_many_40
def wp_X9_meetOrThrow (k1 : Nat) (k2 : Nat) (μ : TMem) (Q : TMem → Prop) (X : String → TMem → Prop) : Prop :=
  wp_X9_meetPairs k1 k2 μ (200 : Int32) (0 : Int32) (fun (r2 : Int32) (μ1 : TMem) => (¬ r2 = 0 → (Q μ1)) ∧ (r2 = 0 → (X "java/lang/IllegalStateException" μ1)))
set_option maxHeartbeats 4000000 in
set_option maxRecDepth 100000 in
theorem c_X9_meetOrThrow {l : Launch} (hst : l.stackTraces = false) {D : va_G} {ad : Nat → Nat} {cI cM : ClassId} (k1 : Nat) (hk1 : kd k1 = 2) (k2 : Nat) (hk2 : kd k2 = 2) (μ : TMem) (sz : Nat)  {Q : TMem → Prop} {X : String → TMem → Prop} (h : wp_X9_meetOrThrow k1 k2 μ Q X) : XMv l yX9_meetOrThrow (.code yX9_meetOrThrow cX9_meetOrThrow 3 (Option.none : Option Jvm.ClassFile.FieldType)) 5 1 6 [.ref (ad 0), .ref (ad k1), .ref (ad k2)] D ad cI cM sz μ Q X := by
  refine X_metv (by decide +kernel) (Nat.le_of_ble_eq_true rfl) ?_
  intro p e s m below meth c Qc ls hx hb hml hown ht hN hK hX htab hlocks hw hret hl
  have hl : lv_has ls 3 [(0, .ref (ad 0)), (1, .ref (ad k1)), (2, .ref (ad k2))] := hl
  suffices hh : ∀ (H : Heap) (locs : List Loc), TW D ad cI cM s μ H locs → W p l e (RX 5 1 6) s m #[.ref (ad 0), .ref (ad k1), .ref (ad k2)] below meth c H locs 0 0 (vx_MQ below Qc (vx_X (fun _ : TMem => True) (TEX D ad cI cM X) (TA ad s.heap.size)) #[.ref (ad 0), .ref (ad k1), .ref (ad k2)] s 1 6 (TA ad s.heap.size)) (F0 m 0 ls []) from hh _ _ hw
  intro H locs hw
  change wp_X9_meetPairs k1 k2 μ (200 : Int32) (0 : Int32) (fun (r2 : Int32) (μ1 : TMem) => (¬ r2 = 0 → (Q μ1)) ∧ (r2 = 0 → (X "java/lang/IllegalStateException" μ1))) at h
  refine lv_aload_n hx hb dX9_meetOrThrow_0 rfl (lv_at hl 0 rfl) ?_
  refine lv_aload_n hx hb dX9_meetOrThrow_1 rfl (lv_at hl 1 rfl) ?_
  refine lv_aload_n hx hb dX9_meetOrThrow_2 rfl (lv_at hl 2 rfl) ?_
  refine lv_sipush (v := (200 : Int32)) hx hb dX9_meetOrThrow_3 (by decide) ?_
  refine lv_iconst (v := (0 : Int32)) hx hb dX9_meetOrThrow_6 (by decide) ?_
  refine T_calli hw (va_runV (own := "Leastreader") (As := [.ref (ad k1), .ref (ad k2), .int (200 : Int32), .int (0 : Int32)]) (rest := []) ⟨hx, hb, hml, hown, ht⟩ (c_X9_meetPairs k1 hk1 k2 hk2 μ H.size (200 : Int32) (0 : Int32) h) (cwV 4 ht (G_V q_784 q_786 q_19 q_46 q_787) rfl rfl rfl ⟨rfl, hd_26⟩ ⟨Nat.le_of_ble_eq_true rfl, Nat.le_of_ble_eq_true rfl⟩) ⟨TB.blind, (T_recv hK hw (kd_of rfl (by decide)) (ent_8 rfl) cl_8), TB.pre hK hN hw⟩ rfl rfl hl.1 rfl (lv_room (Nat.le_of_ble_eq_true rfl)) dX9_meetOrThrow_7 ⟨Nat.le_of_ble_eq_true rfl, Nat.le_of_ble_eq_true rfl⟩) (fun r2 μ1 H locs h hw => ?_)
  refine lv_if_ne (tgt := 23) hx hb dX9_meetOrThrow_10 (by decide) (fun c3 => ?_) (fun c3 => ?_)
  · have h := h.1 c3
    exact hret H locs ls 23 0 0 _ hw h (Nat.le_of_ble_eq_true rfl) (Nat.le_of_ble_eq_true rfl) dX9_meetOrThrow_23
  have h := h.2 c3
  exact X_throw (R := RX 5 1 6) (cells := 0) (slots := 0) (fc := 1) (fn := 6) (cls := "java/lang/IllegalStateException") hx hb hst (hl.1.trans hml.symm) hown (by decide +kernel) (ht _ q_858) (ht _ q_65) (sr_RX9_243 hX.2.2.2) (hat_2 ht hX.2.2.1) hgd_2 hX hw htab hlocks dX9_meetOrThrow_13 dX9_meetOrThrow_16 dX9_meetOrThrow_17 dX9_meetOrThrow_19 dX9_meetOrThrow_22 (Nat.le_of_ble_eq_true rfl) (Nat.le_of_ble_eq_true rfl) (Nat.le_of_ble_eq_true rfl) (Nat.le_of_ble_eq_true rfl) (Nat.le_of_ble_eq_true rfl) (Nat.le_of_ble_eq_true rfl) h
def wp_X9_isAlike (μ : TMem) (a1 : Int32) (a2 : Int32) (a3 : Int32) (Q : Int32 → TMem → Prop) (X : String → TMem → Prop) : Prop :=
  wp_X9_machineAt μ a1 (fun (k2 : Nat) (μ1 : TMem) => wp_X9_machineAt μ1 a2 (fun (k4 : Nat) (μ3 : TMem) => wp_X9_checkRange μ3 a3 (0 : Int32) (1 : Int32) (fun (μ5 : TMem) => (¬ a3 = 0 → (wp_X9_makeOrThrow k2 51 μ5 (0 : Int32) (fun (μ7 : TMem) => wp_X9_makeOrThrow k4 53 μ7 (0 : Int32) (fun (μ8 : TMem) => wp_X5_isSameAs 51 53 μ8 (fun (r9 : Int32) => isB r9 ∧ Q r9 μ8)) X) X)) ∧ (a3 = 0 → (wp_X9_meetOrThrow k2 k4 μ5 (fun (μ13 : TMem) => (¬ (μ13 35 9) = (-1 : Int32) → (Q (0 : Int32) μ13)) ∧ ((μ13 35 9) = (-1 : Int32) → (Q (1 : Int32) μ13))) X))) X) X) X
set_option maxHeartbeats 4000000 in
set_option maxRecDepth 100000 in
theorem c_X9_isAlike {l : Launch} (hst : l.stackTraces = false) {D : va_G} {ad : Nat → Nat} {cI cM : ClassId}  (μ : TMem) (sz : Nat) (a1 : Int32) (a2 : Int32) (a3 : Int32) {Q : Int32 → TMem → Prop} {X : String → TMem → Prop} (h : wp_X9_isAlike μ a1 a2 a3 Q X) : XMi l yX9_isAlike (.code yX9_isAlike cX9_isAlike 6 (Option.some Jvm.ClassFile.FieldType.boolean)) 6 6 36 [.ref (ad 0), .int a1, .int a2, .int a3] D ad cI cM sz μ Q X := by
  refine X_meti (by decide +kernel) (Nat.le_of_ble_eq_true rfl) ?_
  intro p e s m below meth c Qc ls hx hb hml hown ht hN hK hX htab hlocks hw hret hl
  have hl : lv_has ls 6 [(0, .ref (ad 0)), (1, .int a1), (2, .int a2), (3, .int a3)] := hl
  suffices hh : ∀ (H : Heap) (locs : List Loc), TW D ad cI cM s μ H locs → W p l e (RX 6 6 36) s m #[.ref (ad 0), .int a1, .int a2, .int a3] below meth c H locs 0 0 (vx_MQ below Qc (vx_X (fun _ : TMem => True) (TEX D ad cI cM X) (TA ad s.heap.size)) #[.ref (ad 0), .int a1, .int a2, .int a3] s 6 36 (TA ad s.heap.size)) (F0 m 0 ls []) from hh _ _ hw
  intro H locs hw
  change wp_X9_machineAt μ a1 (fun (k2 : Nat) (μ1 : TMem) => wp_X9_machineAt μ1 a2 (fun (k4 : Nat) (μ3 : TMem) => wp_X9_checkRange μ3 a3 (0 : Int32) (1 : Int32) (fun (μ5 : TMem) => (¬ a3 = 0 → (wp_X9_makeOrThrow k2 51 μ5 (0 : Int32) (fun (μ7 : TMem) => wp_X9_makeOrThrow k4 53 μ7 (0 : Int32) (fun (μ8 : TMem) => wp_X5_isSameAs 51 53 μ8 (fun (r9 : Int32) => isB r9 ∧ Q r9 μ8)) X) X)) ∧ (a3 = 0 → (wp_X9_meetOrThrow k2 k4 μ5 (fun (μ13 : TMem) => (¬ (μ13 35 9) = (-1 : Int32) → (Q (0 : Int32) μ13)) ∧ ((μ13 35 9) = (-1 : Int32) → (Q (1 : Int32) μ13))) X))) X) X) X at h
  refine lv_aload_n hx hb dX9_isAlike_0 rfl (lv_at hl 0 rfl) ?_
  refine lv_iload_n hx hb dX9_isAlike_1 rfl (lv_at hl 1 rfl) ?_
  refine X_callo hw htab hlocks (c1 := 1) (n1 := 6) rfl rfl (Nat.le_of_ble_eq_true rfl) (Nat.le_of_ble_eq_true rfl) (vx_runV (own := "Leastreader") (As := [.int a1]) (rest := []) ⟨hx, hb, hml, hown, ht⟩ (c_X9_machineAt hst μ H.size a1 h) (cwV 1 ht (G_V q_314 q_316 q_0 q_46 q_317) rfl rfl rfl ⟨rfl, hd_53⟩ ⟨Nat.le_of_ble_eq_true rfl, Nat.le_of_ble_eq_true rfl⟩) ⟨TBX.blind, (T_recv hK hw (kd_of rfl (by decide)) (ent_8 rfl) cl_8), TBX.pre hK hN hX hw⟩ rfl rfl hl.1 rfl (lv_room (Nat.le_of_ble_eq_true rfl)) dX9_isAlike_2 ⟨Nat.le_of_ble_eq_true rfl, Nat.le_of_ble_eq_true rfl⟩) (fun k2 μ1 H locs hk2 h hw => ?_)
  refine lv_astore (lv' := [(4, .ref (ad k2)), (0, .ref (ad 0)), (1, .int a1), (2, .int a2), (3, .int a3)]) hx hb dX9_isAlike_5 hl (by decide) rfl (fun ls hl => ?_)
  refine lv_aload_n hx hb dX9_isAlike_7 rfl (lv_at hl 1 rfl) ?_
  refine lv_iload_n hx hb dX9_isAlike_8 rfl (lv_at hl 3 rfl) ?_
  refine X_callo hw htab hlocks (c1 := 2) (n1 := 12) rfl rfl (Nat.le_of_ble_eq_true rfl) (Nat.le_of_ble_eq_true rfl) (vx_runV (own := "Leastreader") (As := [.int a2]) (rest := []) ⟨hx, hb, hml, hown, ht⟩ (c_X9_machineAt hst μ1 H.size a2 h) (cwV 1 ht (G_V q_314 q_316 q_0 q_46 q_317) rfl rfl rfl ⟨rfl, hd_53⟩ ⟨Nat.le_of_ble_eq_true rfl, Nat.le_of_ble_eq_true rfl⟩) ⟨TBX.blind, (T_recv hK hw (kd_of rfl (by decide)) (ent_8 rfl) cl_8), TBX.pre hK hN hX hw⟩ rfl rfl hl.1 rfl (lv_room (Nat.le_of_ble_eq_true rfl)) dX9_isAlike_9 ⟨Nat.le_of_ble_eq_true rfl, Nat.le_of_ble_eq_true rfl⟩) (fun k4 μ3 H locs hk4 h hw => ?_)
  refine lv_astore (lv' := [(5, .ref (ad k4)), (4, .ref (ad k2)), (0, .ref (ad 0)), (1, .int a1), (2, .int a2), (3, .int a3)]) hx hb dX9_isAlike_12 hl (by decide) rfl (fun ls hl => ?_)
  refine lv_iload_n hx hb dX9_isAlike_14 rfl (lv_at hl 5 rfl) ?_
  refine lv_iconst (v := (0 : Int32)) hx hb dX9_isAlike_15 (by decide) ?_
  refine lv_iconst (v := (1 : Int32)) hx hb dX9_isAlike_16 (by decide) ?_
  refine X_callv hw htab hlocks (c1 := 3) (n1 := 18) rfl rfl (Nat.le_of_ble_eq_true rfl) (Nat.le_of_ble_eq_true rfl) (vx_runS (own := "Leastreader") (As := [.int a3, .int (0 : Int32), .int (1 : Int32)]) (rest := []) ⟨hx, hb, hml, hown, ht⟩ (c_X9_checkRange hst μ3 H.size a3 (0 : Int32) (1 : Int32) h) (va_cwS 3 ht (G_S q_597 q_598 q_46 q_599) rfl rfl rfl hd_54 ⟨Nat.le_of_ble_eq_true rfl, Nat.le_of_ble_eq_true rfl⟩) ⟨TBX.blind, TBX.pre hK hN hX hw⟩ rfl rfl hl.1 rfl (lv_room (Nat.le_of_ble_eq_true rfl)) dX9_isAlike_17 ⟨Nat.le_of_ble_eq_true rfl, Nat.le_of_ble_eq_true rfl⟩) (fun μ5 H locs h hw => ?_)
  refine lv_iload_n hx hb dX9_isAlike_20 rfl (lv_at hl 5 rfl) ?_
  refine lv_if_ne (tgt := 49) hx hb dX9_isAlike_21 (by decide) (fun c6 => ?_) (fun c6 => ?_)
  · have h := h.1 c6
    refine lv_aload_n hx hb dX9_isAlike_49 rfl (lv_at hl 2 rfl) ?_
    refine lv_iconst (v := (0 : Int32)) hx hb dX9_isAlike_50 (by decide) ?_
    refine lv_aload hx hb dX9_isAlike_51 (lv_at hl 1 rfl) ?_
    refine lv_aload_n hx hb dX9_isAlike_53 rfl (lv_at hl 2 rfl) ?_
    refine gf_X9_56 hx hb ht hown hK hw rfl dX9_isAlike_54 ?_
    refine X_callv hw htab hlocks (c1 := 4) (n1 := 24) rfl rfl (Nat.le_of_ble_eq_true rfl) (Nat.le_of_ble_eq_true rfl) (vx_runV (own := "Leastreader") (As := [.int (0 : Int32), .ref (ad k2), .ref (ad 51)]) (rest := []) ⟨hx, hb, hml, hown, ht⟩ (c_X9_makeOrThrow hst k2 hk2 51 rfl μ5 H.size (0 : Int32) h) (cwV 3 ht (G_V q_854 q_856 q_21 q_46 q_857) rfl rfl rfl ⟨rfl, hd_69⟩ ⟨Nat.le_of_ble_eq_true rfl, Nat.le_of_ble_eq_true rfl⟩) ⟨TBX.blind, (T_recv hK hw (kd_of rfl (by decide)) (ent_8 rfl) cl_8), TBX.pre hK hN hX hw⟩ rfl rfl hl.1 rfl (lv_room (Nat.le_of_ble_eq_true rfl)) dX9_isAlike_57 ⟨Nat.le_of_ble_eq_true rfl, Nat.le_of_ble_eq_true rfl⟩) (fun μ7 H locs h hw => ?_)
    refine lv_aload_n hx hb dX9_isAlike_60 rfl (lv_at hl 2 rfl) ?_
    refine lv_iconst (v := (0 : Int32)) hx hb dX9_isAlike_61 (by decide) ?_
    refine lv_aload hx hb dX9_isAlike_62 (lv_at hl 0 rfl) ?_
    refine lv_aload_n hx hb dX9_isAlike_64 rfl (lv_at hl 2 rfl) ?_
    refine gf_X9_60 hx hb ht hown hK hw rfl dX9_isAlike_65 ?_
    refine X_callv hw htab hlocks (c1 := 5) (n1 := 30) rfl rfl (Nat.le_of_ble_eq_true rfl) (Nat.le_of_ble_eq_true rfl) (vx_runV (own := "Leastreader") (As := [.int (0 : Int32), .ref (ad k4), .ref (ad 53)]) (rest := []) ⟨hx, hb, hml, hown, ht⟩ (c_X9_makeOrThrow hst k4 hk4 53 rfl μ7 H.size (0 : Int32) h) (cwV 3 ht (G_V q_854 q_856 q_21 q_46 q_857) rfl rfl rfl ⟨rfl, hd_69⟩ ⟨Nat.le_of_ble_eq_true rfl, Nat.le_of_ble_eq_true rfl⟩) ⟨TBX.blind, (T_recv hK hw (kd_of rfl (by decide)) (ent_8 rfl) cl_8), TBX.pre hK hN hX hw⟩ rfl rfl hl.1 rfl (lv_room (Nat.le_of_ble_eq_true rfl)) dX9_isAlike_68 ⟨Nat.le_of_ble_eq_true rfl, Nat.le_of_ble_eq_true rfl⟩) (fun μ8 H locs h hw => ?_)
    refine lv_aload_n hx hb dX9_isAlike_71 rfl (lv_at hl 2 rfl) ?_
    refine gf_X9_56 hx hb ht hown hK hw rfl dX9_isAlike_72 ?_
    refine lv_aload_n hx hb dX9_isAlike_75 rfl (lv_at hl 2 rfl) ?_
    refine gf_X9_60 hx hb ht hown hK hw rfl dX9_isAlike_76 ?_
    refine T_calli hw (va_runV (own := "Leastreader") (As := [.ref (ad 53)]) (rest := []) ⟨hx, hb, hml, hown, ht⟩ (c_X5_isSameAs 51 rfl 53 rfl μ8 H.size h) (cwV 1 ht (G_V q_516 q_517 q_518 q_53 q_519) rfl rfl rfl ⟨rfl, hd_73⟩ ⟨Nat.le_of_ble_eq_true rfl, Nat.le_of_ble_eq_true rfl⟩) ⟨TB.blind, (T_recv hK hw (kd_of rfl (by decide)) (ent_5 rfl) cl_5), TB.pre hK hN hw⟩ rfl rfl hl.1 rfl (lv_room (Nat.le_of_ble_eq_true rfl)) dX9_isAlike_79 ⟨Nat.le_of_ble_eq_true rfl, Nat.le_of_ble_eq_true rfl⟩) (fun r9 μ10 H locs h hw => ?_)
    obtain ⟨e11, h⟩ := h
    rw [e11] at hw
    obtain ⟨z12, h⟩ := h
    exact hret H locs ls 82 5 30 _ _ hw h (isB_n z12) (Nat.le_of_ble_eq_true rfl) (Nat.le_of_ble_eq_true rfl) dX9_isAlike_82
  have h := h.2 c6
  refine lv_aload_n hx hb dX9_isAlike_24 rfl (lv_at hl 2 rfl) ?_
  refine lv_aload hx hb dX9_isAlike_25 (lv_at hl 1 rfl) ?_
  refine lv_aload hx hb dX9_isAlike_27 (lv_at hl 0 rfl) ?_
  refine X_callv hw htab hlocks (c1 := 4) (n1 := 24) rfl rfl (Nat.le_of_ble_eq_true rfl) (Nat.le_of_ble_eq_true rfl) (vx_runV (own := "Leastreader") (As := [.ref (ad k2), .ref (ad k4)]) (rest := []) ⟨hx, hb, hml, hown, ht⟩ (c_X9_meetOrThrow hst k2 hk2 k4 hk4 μ5 H.size h) (cwV 2 ht (G_V q_1234 q_1236 q_25 q_46 q_1237) rfl rfl rfl ⟨rfl, hd_74⟩ ⟨Nat.le_of_ble_eq_true rfl, Nat.le_of_ble_eq_true rfl⟩) ⟨TBX.blind, (T_recv hK hw (kd_of rfl (by decide)) (ent_8 rfl) cl_8), TBX.pre hK hN hX hw⟩ rfl rfl hl.1 rfl (lv_room (Nat.le_of_ble_eq_true rfl)) dX9_isAlike_29 ⟨Nat.le_of_ble_eq_true rfl, Nat.le_of_ble_eq_true rfl⟩) (fun μ13 H locs h hw => ?_)
  refine lv_aload_n hx hb dX9_isAlike_32 rfl (lv_at hl 2 rfl) ?_
  refine gf_X9_42 hx hb ht hown hK hw rfl dX9_isAlike_33 ?_
  refine gf_X9_227 hx hb ht hN hown hK hw rfl dX9_isAlike_36 ?_
  refine lv_iconst (v := (-1 : Int32)) hx hb dX9_isAlike_39 (by decide) ?_
  refine lv_icmp_ne (tgt := 47) hx hb dX9_isAlike_40 (by decide) (fun c14 => ?_) (fun c14 => ?_)
  · have h := h.1 c14
    refine lv_iconst (v := (0 : Int32)) hx hb dX9_isAlike_47 (by decide) ?_
    exact hret H locs ls 48 4 24 _ _ hw h rfl (Nat.le_of_ble_eq_true rfl) (Nat.le_of_ble_eq_true rfl) dX9_isAlike_48
  have h := h.2 c14
  refine lv_iconst (v := (1 : Int32)) hx hb dX9_isAlike_43 (by decide) ?_
  refine lv_goto (tgt := 48) hx hb dX9_isAlike_44 (by decide) ?_
  exact hret H locs ls 48 4 24 _ _ hw h rfl (Nat.le_of_ble_eq_true rfl) (Nat.le_of_ble_eq_true rfl) dX9_isAlike_48
def wp_X9_pairs (μ : TMem) (a1 : Int32) (a2 : Int32) (Q : Int32 → TMem → Prop) (X : String → TMem → Prop) : Prop :=
  wp_X9_machineAt μ a1 (fun (k2 : Nat) (μ1 : TMem) => wp_X9_machineAt μ1 a2 (fun (k4 : Nat) (μ3 : TMem) => wp_X9_meetOrThrow k2 k4 μ3 (fun (μ5 : TMem) => Q (μ5 35 8) μ5) X) X) X
set_option maxHeartbeats 4000000 in
set_option maxRecDepth 100000 in
theorem c_X9_pairs {l : Launch} (hst : l.stackTraces = false) {D : va_G} {ad : Nat → Nat} {cI cM : ClassId}  (μ : TMem) (sz : Nat) (a1 : Int32) (a2 : Int32) {Q : Int32 → TMem → Prop} {X : String → TMem → Prop} (h : wp_X9_pairs μ a1 a2 Q X) : XMi l yX9_pairs (.code yX9_pairs cX9_pairs 5 (Option.some Jvm.ClassFile.FieldType.int)) 6 3 18 [.ref (ad 0), .int a1, .int a2] D ad cI cM sz μ Q X := by
  refine X_meti (by decide +kernel) (Nat.le_of_ble_eq_true rfl) ?_
  intro p e s m below meth c Qc ls hx hb hml hown ht hN hK hX htab hlocks hw hret hl
  have hl : lv_has ls 5 [(0, .ref (ad 0)), (1, .int a1), (2, .int a2)] := hl
  suffices hh : ∀ (H : Heap) (locs : List Loc), TW D ad cI cM s μ H locs → W p l e (RX 6 3 18) s m #[.ref (ad 0), .int a1, .int a2] below meth c H locs 0 0 (vx_MQ below Qc (vx_X (fun _ : TMem => True) (TEX D ad cI cM X) (TA ad s.heap.size)) #[.ref (ad 0), .int a1, .int a2] s 3 18 (TA ad s.heap.size)) (F0 m 0 ls []) from hh _ _ hw
  intro H locs hw
  change wp_X9_machineAt μ a1 (fun (k2 : Nat) (μ1 : TMem) => wp_X9_machineAt μ1 a2 (fun (k4 : Nat) (μ3 : TMem) => wp_X9_meetOrThrow k2 k4 μ3 (fun (μ5 : TMem) => Q (μ5 35 8) μ5) X) X) X at h
  refine lv_aload_n hx hb dX9_pairs_0 rfl (lv_at hl 0 rfl) ?_
  refine lv_iload_n hx hb dX9_pairs_1 rfl (lv_at hl 1 rfl) ?_
  refine X_callo hw htab hlocks (c1 := 1) (n1 := 6) rfl rfl (Nat.le_of_ble_eq_true rfl) (Nat.le_of_ble_eq_true rfl) (vx_runV (own := "Leastreader") (As := [.int a1]) (rest := []) ⟨hx, hb, hml, hown, ht⟩ (c_X9_machineAt hst μ H.size a1 h) (cwV 1 ht (G_V q_314 q_316 q_0 q_46 q_317) rfl rfl rfl ⟨rfl, hd_53⟩ ⟨Nat.le_of_ble_eq_true rfl, Nat.le_of_ble_eq_true rfl⟩) ⟨TBX.blind, (T_recv hK hw (kd_of rfl (by decide)) (ent_8 rfl) cl_8), TBX.pre hK hN hX hw⟩ rfl rfl hl.1 rfl (lv_room (Nat.le_of_ble_eq_true rfl)) dX9_pairs_2 ⟨Nat.le_of_ble_eq_true rfl, Nat.le_of_ble_eq_true rfl⟩) (fun k2 μ1 H locs hk2 h hw => ?_)
  refine lv_astore_n (lv' := [(3, .ref (ad k2)), (0, .ref (ad 0)), (1, .int a1), (2, .int a2)]) hx hb dX9_pairs_5 rfl hl (by decide) rfl (fun ls hl => ?_)
  refine lv_aload_n hx hb dX9_pairs_6 rfl (lv_at hl 1 rfl) ?_
  refine lv_iload_n hx hb dX9_pairs_7 rfl (lv_at hl 3 rfl) ?_
  refine X_callo hw htab hlocks (c1 := 2) (n1 := 12) rfl rfl (Nat.le_of_ble_eq_true rfl) (Nat.le_of_ble_eq_true rfl) (vx_runV (own := "Leastreader") (As := [.int a2]) (rest := []) ⟨hx, hb, hml, hown, ht⟩ (c_X9_machineAt hst μ1 H.size a2 h) (cwV 1 ht (G_V q_314 q_316 q_0 q_46 q_317) rfl rfl rfl ⟨rfl, hd_53⟩ ⟨Nat.le_of_ble_eq_true rfl, Nat.le_of_ble_eq_true rfl⟩) ⟨TBX.blind, (T_recv hK hw (kd_of rfl (by decide)) (ent_8 rfl) cl_8), TBX.pre hK hN hX hw⟩ rfl rfl hl.1 rfl (lv_room (Nat.le_of_ble_eq_true rfl)) dX9_pairs_8 ⟨Nat.le_of_ble_eq_true rfl, Nat.le_of_ble_eq_true rfl⟩) (fun k4 μ3 H locs hk4 h hw => ?_)
  refine lv_astore (lv' := [(4, .ref (ad k4)), (3, .ref (ad k2)), (0, .ref (ad 0)), (1, .int a1), (2, .int a2)]) hx hb dX9_pairs_11 hl (by decide) rfl (fun ls hl => ?_)
  refine lv_aload_n hx hb dX9_pairs_13 rfl (lv_at hl 2 rfl) ?_
  refine lv_aload_n hx hb dX9_pairs_14 rfl (lv_at hl 1 rfl) ?_
  refine lv_aload hx hb dX9_pairs_15 (lv_at hl 0 rfl) ?_
  refine X_callv hw htab hlocks (c1 := 3) (n1 := 18) rfl rfl (Nat.le_of_ble_eq_true rfl) (Nat.le_of_ble_eq_true rfl) (vx_runV (own := "Leastreader") (As := [.ref (ad k2), .ref (ad k4)]) (rest := []) ⟨hx, hb, hml, hown, ht⟩ (c_X9_meetOrThrow hst k2 hk2 k4 hk4 μ3 H.size h) (cwV 2 ht (G_V q_1234 q_1236 q_25 q_46 q_1237) rfl rfl rfl ⟨rfl, hd_74⟩ ⟨Nat.le_of_ble_eq_true rfl, Nat.le_of_ble_eq_true rfl⟩) ⟨TBX.blind, (T_recv hK hw (kd_of rfl (by decide)) (ent_8 rfl) cl_8), TBX.pre hK hN hX hw⟩ rfl rfl hl.1 rfl (lv_room (Nat.le_of_ble_eq_true rfl)) dX9_pairs_17 ⟨Nat.le_of_ble_eq_true rfl, Nat.le_of_ble_eq_true rfl⟩) (fun μ5 H locs h hw => ?_)
  refine lv_aload_n hx hb dX9_pairs_20 rfl (lv_at hl 2 rfl) ?_
  refine gf_X9_42 hx hb ht hown hK hw rfl dX9_pairs_21 ?_
  refine gf_X9_239 hx hb ht hN hown hK hw rfl dX9_pairs_24 ?_
  exact hret H locs ls 27 3 18 _ _ hw h rfl (Nat.le_of_ble_eq_true rfl) (Nat.le_of_ble_eq_true rfl) dX9_pairs_27
def wp_X9_together (μ : TMem) (a1 : Int32) (a2 : Int32) (a3 : Int32) (a4 : Int32) (Q : Int32 → TMem → Prop) (X : String → TMem → Prop) : Prop :=
  wp_X9_machineAt μ a1 (fun (k2 : Nat) (μ1 : TMem) => wp_X9_machineAt μ1 a2 (fun (k4 : Nat) (μ3 : TMem) => wp_X9_checkRange μ3 a3 (0 : Int32) (3 : Int32) (fun (μ5 : TMem) => wp_X9_checkRange μ5 a4 (-1 : Int32) (12 : Int32) (fun (μ6 : TMem) => wp_X9_putTogether k2 k4 μ6 a3 (fun (r8 : Int32) (μ7 : TMem) => (¬ r8 = 0 → ((¬ a4 = (-1 : Int32) → (wp_X8_count 57 μ7 (fun (μ11 : TMem) => wp_X8_from μ11 (0 : Int32) a4 (fun (r12 : Int32) => Q r12 μ11)))) ∧ (a4 = (-1 : Int32) → (Q (μ7 57 1) μ7)))) ∧ (r8 = 0 → (X "java/lang/IllegalStateException" μ7)))) X) X) X) X
set_option maxHeartbeats 4000000 in
set_option maxRecDepth 100000 in
theorem c_X9_together {l : Launch} (hst : l.stackTraces = false) {D : va_G} {ad : Nat → Nat} {cI cM : ClassId}  (μ : TMem) (sz : Nat) (a1 : Int32) (a2 : Int32) (a3 : Int32) (a4 : Int32) {Q : Int32 → TMem → Prop} {X : String → TMem → Prop} (h : wp_X9_together μ a1 a2 a3 a4 Q X) : XMi l yX9_together (.code yX9_together cX9_together 7 (Option.some Jvm.ClassFile.FieldType.int)) 6 5 30 [.ref (ad 0), .int a1, .int a2, .int a3, .int a4] D ad cI cM sz μ Q X := by
  refine X_meti (by decide +kernel) (Nat.le_of_ble_eq_true rfl) ?_
  intro p e s m below meth c Qc ls hx hb hml hown ht hN hK hX htab hlocks hw hret hl
  have hl : lv_has ls 7 [(0, .ref (ad 0)), (1, .int a1), (2, .int a2), (3, .int a3), (4, .int a4)] := hl
  suffices hh : ∀ (H : Heap) (locs : List Loc), TW D ad cI cM s μ H locs → W p l e (RX 6 5 30) s m #[.ref (ad 0), .int a1, .int a2, .int a3, .int a4] below meth c H locs 0 0 (vx_MQ below Qc (vx_X (fun _ : TMem => True) (TEX D ad cI cM X) (TA ad s.heap.size)) #[.ref (ad 0), .int a1, .int a2, .int a3, .int a4] s 5 30 (TA ad s.heap.size)) (F0 m 0 ls []) from hh _ _ hw
  intro H locs hw
  change wp_X9_machineAt μ a1 (fun (k2 : Nat) (μ1 : TMem) => wp_X9_machineAt μ1 a2 (fun (k4 : Nat) (μ3 : TMem) => wp_X9_checkRange μ3 a3 (0 : Int32) (3 : Int32) (fun (μ5 : TMem) => wp_X9_checkRange μ5 a4 (-1 : Int32) (12 : Int32) (fun (μ6 : TMem) => wp_X9_putTogether k2 k4 μ6 a3 (fun (r8 : Int32) (μ7 : TMem) => (¬ r8 = 0 → ((¬ a4 = (-1 : Int32) → (wp_X8_count 57 μ7 (fun (μ11 : TMem) => wp_X8_from μ11 (0 : Int32) a4 (fun (r12 : Int32) => Q r12 μ11)))) ∧ (a4 = (-1 : Int32) → (Q (μ7 57 1) μ7)))) ∧ (r8 = 0 → (X "java/lang/IllegalStateException" μ7)))) X) X) X) X at h
  refine lv_aload_n hx hb dX9_together_0 rfl (lv_at hl 0 rfl) ?_
  refine lv_iload_n hx hb dX9_together_1 rfl (lv_at hl 1 rfl) ?_
  refine X_callo hw htab hlocks (c1 := 1) (n1 := 6) rfl rfl (Nat.le_of_ble_eq_true rfl) (Nat.le_of_ble_eq_true rfl) (vx_runV (own := "Leastreader") (As := [.int a1]) (rest := []) ⟨hx, hb, hml, hown, ht⟩ (c_X9_machineAt hst μ H.size a1 h) (cwV 1 ht (G_V q_314 q_316 q_0 q_46 q_317) rfl rfl rfl ⟨rfl, hd_53⟩ ⟨Nat.le_of_ble_eq_true rfl, Nat.le_of_ble_eq_true rfl⟩) ⟨TBX.blind, (T_recv hK hw (kd_of rfl (by decide)) (ent_8 rfl) cl_8), TBX.pre hK hN hX hw⟩ rfl rfl hl.1 rfl (lv_room (Nat.le_of_ble_eq_true rfl)) dX9_together_2 ⟨Nat.le_of_ble_eq_true rfl, Nat.le_of_ble_eq_true rfl⟩) (fun k2 μ1 H locs hk2 h hw => ?_)
  refine lv_astore (lv' := [(5, .ref (ad k2)), (0, .ref (ad 0)), (1, .int a1), (2, .int a2), (3, .int a3), (4, .int a4)]) hx hb dX9_together_5 hl (by decide) rfl (fun ls hl => ?_)
  refine lv_aload_n hx hb dX9_together_7 rfl (lv_at hl 1 rfl) ?_
  refine lv_iload_n hx hb dX9_together_8 rfl (lv_at hl 3 rfl) ?_
  refine X_callo hw htab hlocks (c1 := 2) (n1 := 12) rfl rfl (Nat.le_of_ble_eq_true rfl) (Nat.le_of_ble_eq_true rfl) (vx_runV (own := "Leastreader") (As := [.int a2]) (rest := []) ⟨hx, hb, hml, hown, ht⟩ (c_X9_machineAt hst μ1 H.size a2 h) (cwV 1 ht (G_V q_314 q_316 q_0 q_46 q_317) rfl rfl rfl ⟨rfl, hd_53⟩ ⟨Nat.le_of_ble_eq_true rfl, Nat.le_of_ble_eq_true rfl⟩) ⟨TBX.blind, (T_recv hK hw (kd_of rfl (by decide)) (ent_8 rfl) cl_8), TBX.pre hK hN hX hw⟩ rfl rfl hl.1 rfl (lv_room (Nat.le_of_ble_eq_true rfl)) dX9_together_9 ⟨Nat.le_of_ble_eq_true rfl, Nat.le_of_ble_eq_true rfl⟩) (fun k4 μ3 H locs hk4 h hw => ?_)
  refine lv_astore (lv' := [(6, .ref (ad k4)), (5, .ref (ad k2)), (0, .ref (ad 0)), (1, .int a1), (2, .int a2), (3, .int a3), (4, .int a4)]) hx hb dX9_together_12 hl (by decide) rfl (fun ls hl => ?_)
  refine lv_iload_n hx hb dX9_together_14 rfl (lv_at hl 5 rfl) ?_
  refine lv_iconst (v := (0 : Int32)) hx hb dX9_together_15 (by decide) ?_
  refine lv_iconst (v := (3 : Int32)) hx hb dX9_together_16 (by decide) ?_
  refine X_callv hw htab hlocks (c1 := 3) (n1 := 18) rfl rfl (Nat.le_of_ble_eq_true rfl) (Nat.le_of_ble_eq_true rfl) (vx_runS (own := "Leastreader") (As := [.int a3, .int (0 : Int32), .int (3 : Int32)]) (rest := []) ⟨hx, hb, hml, hown, ht⟩ (c_X9_checkRange hst μ3 H.size a3 (0 : Int32) (3 : Int32) h) (va_cwS 3 ht (G_S q_597 q_598 q_46 q_599) rfl rfl rfl hd_54 ⟨Nat.le_of_ble_eq_true rfl, Nat.le_of_ble_eq_true rfl⟩) ⟨TBX.blind, TBX.pre hK hN hX hw⟩ rfl rfl hl.1 rfl (lv_room (Nat.le_of_ble_eq_true rfl)) dX9_together_17 ⟨Nat.le_of_ble_eq_true rfl, Nat.le_of_ble_eq_true rfl⟩) (fun μ5 H locs h hw => ?_)
  refine lv_iload hx hb dX9_together_20 (lv_at hl 6 rfl) ?_
  refine lv_iconst (v := (-1 : Int32)) hx hb dX9_together_22 (by decide) ?_
  refine lv_bipush (v := (12 : Int32)) hx hb dX9_together_23 (by decide) ?_
  refine X_callv hw htab hlocks (c1 := 4) (n1 := 24) rfl rfl (Nat.le_of_ble_eq_true rfl) (Nat.le_of_ble_eq_true rfl) (vx_runS (own := "Leastreader") (As := [.int a4, .int (-1 : Int32), .int (12 : Int32)]) (rest := []) ⟨hx, hb, hml, hown, ht⟩ (c_X9_checkRange hst μ5 H.size a4 (-1 : Int32) (12 : Int32) h) (va_cwS 3 ht (G_S q_597 q_598 q_46 q_599) rfl rfl rfl hd_54 ⟨Nat.le_of_ble_eq_true rfl, Nat.le_of_ble_eq_true rfl⟩) ⟨TBX.blind, TBX.pre hK hN hX hw⟩ rfl rfl hl.1 rfl (lv_room (Nat.le_of_ble_eq_true rfl)) dX9_together_25 ⟨Nat.le_of_ble_eq_true rfl, Nat.le_of_ble_eq_true rfl⟩) (fun μ6 H locs h hw => ?_)
  refine lv_aload_n hx hb dX9_together_28 rfl (lv_at hl 2 rfl) ?_
  refine lv_aload hx hb dX9_together_29 (lv_at hl 1 rfl) ?_
  refine lv_aload hx hb dX9_together_31 (lv_at hl 0 rfl) ?_
  refine lv_iload_n hx hb dX9_together_33 rfl (lv_at hl 5 rfl) ?_
  refine T_calli hw (va_runV (own := "Leastreader") (As := [.ref (ad k2), .ref (ad k4), .int a3]) (rest := []) ⟨hx, hb, hml, hown, ht⟩ (c_X9_putTogether k2 hk2 k4 hk4 μ6 H.size a3 h) (cwV 3 ht (G_V q_780 q_782 q_18 q_46 q_783) rfl rfl rfl ⟨rfl, hd_67⟩ ⟨Nat.le_of_ble_eq_true rfl, Nat.le_of_ble_eq_true rfl⟩) ⟨TB.blind, (T_recv hK hw (kd_of rfl (by decide)) (ent_8 rfl) cl_8), TB.pre hK hN hw⟩ rfl rfl hl.1 rfl (lv_room (Nat.le_of_ble_eq_true rfl)) dX9_together_34 ⟨Nat.le_of_ble_eq_true rfl, Nat.le_of_ble_eq_true rfl⟩) (fun r8 μ7 H locs h hw => ?_)
  refine lv_if_ne (tgt := 50) hx hb dX9_together_37 (by decide) (fun c9 => ?_) (fun c9 => ?_)
  · have h := h.1 c9
    refine lv_iload hx hb dX9_together_50 (lv_at hl 6 rfl) ?_
    refine lv_iconst (v := (-1 : Int32)) hx hb dX9_together_52 (by decide) ?_
    refine lv_icmp_ne (tgt := 64) hx hb dX9_together_53 (by decide) (fun c10 => ?_) (fun c10 => ?_)
    · have h := h.1 c10
      refine lv_aload_n hx hb dX9_together_64 rfl (lv_at hl 2 rfl) ?_
      refine gf_X9_49 hx hb ht hown hK hw rfl dX9_together_65 ?_
      refine lv_aload_n hx hb dX9_together_68 rfl (lv_at hl 2 rfl) ?_
      refine gf_X9_66 hx hb ht hown hK hw rfl dX9_together_69 ?_
      refine T_callv hw (va_runV (own := "Leastreader") (As := [.ref (ad 57)]) (rest := []) ⟨hx, hb, hml, hown, ht⟩ (c_X8_count 57 rfl μ7 H.size h) (cwV 1 ht (G_V q_1186 q_1187 q_1188 q_55 q_1189) rfl rfl rfl ⟨rfl, hd_71⟩ ⟨Nat.le_of_ble_eq_true rfl, Nat.le_of_ble_eq_true rfl⟩) ⟨TB.blind, (T_recv hK hw (kd_of rfl (by decide)) (ent_7 rfl) cl_7), TB.pre hK hN hw⟩ rfl rfl hl.1 rfl (lv_room (Nat.le_of_ble_eq_true rfl)) dX9_together_72 ⟨Nat.le_of_ble_eq_true rfl, Nat.le_of_ble_eq_true rfl⟩) (fun μ11 H locs h hw => ?_)
      refine lv_aload_n hx hb dX9_together_75 rfl (lv_at hl 2 rfl) ?_
      refine gf_X9_49 hx hb ht hown hK hw rfl dX9_together_76 ?_
      refine lv_iconst (v := (0 : Int32)) hx hb dX9_together_79 (by decide) ?_
      refine lv_iload hx hb dX9_together_80 (lv_at hl 6 rfl) ?_
      refine T_calli hw (va_runV (own := "Leastreader") (As := [.int (0 : Int32), .int a4]) (rest := []) ⟨hx, hb, hml, hown, ht⟩ (c_X8_from μ11 H.size (0 : Int32) a4 h) (cwV 2 ht (G_V q_1202 q_1198 q_1199 q_55 q_1200) rfl rfl rfl ⟨rfl, hd_51⟩ ⟨Nat.le_of_ble_eq_true rfl, Nat.le_of_ble_eq_true rfl⟩) ⟨TB.blind, (T_recv hK hw (kd_of rfl (by decide)) (ent_7 rfl) cl_7), TB.pre hK hN hw⟩ rfl rfl hl.1 rfl (lv_room (Nat.le_of_ble_eq_true rfl)) dX9_together_82 ⟨Nat.le_of_ble_eq_true rfl, Nat.le_of_ble_eq_true rfl⟩) (fun r12 μ13 H locs h hw => ?_)
      obtain ⟨e14, h⟩ := h
      rw [e14] at hw
      exact hret H locs ls 85 4 24 _ _ hw h rfl (Nat.le_of_ble_eq_true rfl) (Nat.le_of_ble_eq_true rfl) dX9_together_85
    have h := h.2 c10
    refine lv_aload_n hx hb dX9_together_56 rfl (lv_at hl 2 rfl) ?_
    refine gf_X9_66 hx hb ht hown hK hw rfl dX9_together_57 ?_
    refine gf_X9_190 hx hb ht hown hK hw rfl dX9_together_60 ?_
    exact hret H locs ls 63 4 24 _ _ hw h rfl (Nat.le_of_ble_eq_true rfl) (Nat.le_of_ble_eq_true rfl) dX9_together_63
  have h := h.2 c9
  exact X_throw (R := RX 6 5 30) (cells := 4) (slots := 24) (fc := 5) (fn := 30) (cls := "java/lang/IllegalStateException") hx hb hst (hl.1.trans hml.symm) hown (by decide +kernel) (ht _ q_858) (ht _ q_65) (sr_RX9_243 hX.2.2.2) (hat_2 ht hX.2.2.1) hgd_2 hX hw htab hlocks dX9_together_40 dX9_together_43 dX9_together_44 dX9_together_46 dX9_together_49 (Nat.le_of_ble_eq_true rfl) (Nat.le_of_ble_eq_true rfl) (Nat.le_of_ble_eq_true rfl) (Nat.le_of_ble_eq_true rfl) (Nat.le_of_ble_eq_true rfl) (Nat.le_of_ble_eq_true rfl) h
end
/-! part 54.m35 -/
section
def wp_X9_house (μ : TMem) (a1 : Int32) (Q : Int32 → TMem → Prop) (X : String → TMem → Prop) : Prop :=
  wp_X9_checkRange μ a1 (0 : Int32) (2 : Int32) (fun (μ1 : TMem) => (a1 = (0 : Int32) → (Q (μ1 0 11) μ1)) ∧ (¬ a1 = (0 : Int32) → (a1 = (1 : Int32) → (Q (μ1 0 12) μ1)) ∧ (¬ a1 = (1 : Int32) → (Q (μ1 0 13) μ1)))) X
set_option maxHeartbeats 4000000 in
set_option maxRecDepth 100000 in
theorem c_X9_house {l : Launch} (hst : l.stackTraces = false) {D : va_G} {ad : Nat → Nat} {cI cM : ClassId}  (μ : TMem) (sz : Nat) (a1 : Int32) {Q : Int32 → TMem → Prop} {X : String → TMem → Prop} (h : wp_X9_house μ a1 Q X) : XMi l yX9_house (.code yX9_house cX9_house 2 (Option.some Jvm.ClassFile.FieldType.int)) 1 1 6 [.ref (ad 0), .int a1] D ad cI cM sz μ Q X := by
  refine X_meti (by decide +kernel) (Nat.le_of_ble_eq_true rfl) ?_
  intro p e s m below meth c Qc ls hx hb hml hown ht hN hK hX htab hlocks hw hret hl
  have hl : lv_has ls 2 [(0, .ref (ad 0)), (1, .int a1)] := hl
  suffices hh : ∀ (H : Heap) (locs : List Loc), TW D ad cI cM s μ H locs → W p l e (RX 1 1 6) s m #[.ref (ad 0), .int a1] below meth c H locs 0 0 (vx_MQ below Qc (vx_X (fun _ : TMem => True) (TEX D ad cI cM X) (TA ad s.heap.size)) #[.ref (ad 0), .int a1] s 1 6 (TA ad s.heap.size)) (F0 m 0 ls []) from hh _ _ hw
  intro H locs hw
  change wp_X9_checkRange μ a1 (0 : Int32) (2 : Int32) (fun (μ1 : TMem) => (a1 = (0 : Int32) → (Q (μ1 0 11) μ1)) ∧ (¬ a1 = (0 : Int32) → (a1 = (1 : Int32) → (Q (μ1 0 12) μ1)) ∧ (¬ a1 = (1 : Int32) → (Q (μ1 0 13) μ1)))) X at h
  refine lv_iload_n hx hb dX9_house_0 rfl (lv_at hl 1 rfl) ?_
  refine lv_iconst (v := (0 : Int32)) hx hb dX9_house_1 (by decide) ?_
  refine lv_iconst (v := (2 : Int32)) hx hb dX9_house_2 (by decide) ?_
  refine X_callv hw htab hlocks (c1 := 1) (n1 := 6) rfl rfl (Nat.le_of_ble_eq_true rfl) (Nat.le_of_ble_eq_true rfl) (vx_runS (own := "Leastreader") (As := [.int a1, .int (0 : Int32), .int (2 : Int32)]) (rest := []) ⟨hx, hb, hml, hown, ht⟩ (c_X9_checkRange hst μ H.size a1 (0 : Int32) (2 : Int32) h) (va_cwS 3 ht (G_S q_597 q_598 q_46 q_599) rfl rfl rfl hd_54 ⟨Nat.le_of_ble_eq_true rfl, Nat.le_of_ble_eq_true rfl⟩) ⟨TBX.blind, TBX.pre hK hN hX hw⟩ rfl rfl hl.1 rfl (lv_room (Nat.le_of_ble_eq_true rfl)) dX9_house_3 ⟨Nat.le_of_ble_eq_true rfl, Nat.le_of_ble_eq_true rfl⟩) (fun μ1 H locs h hw => ?_)
  refine lv_iload_n hx hb dX9_house_6 rfl (lv_at hl 1 rfl) ?_
  by_cases c3 : a1 = (0 : Int32)
  · have h := h.1 c3
    refine lv_lookup (tgt := 32) (off := 25) hx hb dX9_house_7 (by decide) (by rw [c3] <;> rfl) (by decide) ?_
    refine lv_aload_n hx hb dX9_house_32 rfl (lv_at hl 0 rfl) ?_
    refine gf_X9_246 hx hb ht hown hK hw rfl dX9_house_33 ?_
    exact hret H locs ls 36 1 6 _ _ hw h rfl (Nat.le_of_ble_eq_true rfl) (Nat.le_of_ble_eq_true rfl) dX9_house_36
  have h := h.2 c3
  by_cases c4 : a1 = (1 : Int32)
  · have h := h.1 c4
    refine lv_lookup (tgt := 37) (off := 30) hx hb dX9_house_7 (by decide) (by rw [c4] <;> rfl) (by decide) ?_
    refine lv_aload_n hx hb dX9_house_37 rfl (lv_at hl 0 rfl) ?_
    refine gf_X9_249 hx hb ht hown hK hw rfl dX9_house_38 ?_
    exact hret H locs ls 41 1 6 _ _ hw h rfl (Nat.le_of_ble_eq_true rfl) (Nat.le_of_ble_eq_true rfl) dX9_house_41
  have h := h.2 c4
  have hlk : ∀ j : Int, True := fun _ => trivial
  have nc3 : ¬ (a1).toInt = 0 := fun q => c3 (by rw [← Int32.ofInt_toInt (a1), q]; decide)
  have nc4 : ¬ (a1).toInt = 1 := fun q => c4 (by rw [← Int32.ofInt_toInt (a1), q]; decide)
  refine lv_lookup (tgt := 42) (off := 35) hx hb dX9_house_7 (by decide) (by simp [Op.lookupswitch.offset, nc3, Ne.symm nc3, nc4, Ne.symm nc4]) (by decide) ?_
  refine lv_aload_n hx hb dX9_house_42 rfl (lv_at hl 0 rfl) ?_
  refine gf_X9_252 hx hb ht hown hK hw rfl dX9_house_43 ?_
  exact hret H locs ls 46 1 6 _ _ hw h rfl (Nat.le_of_ble_eq_true rfl) (Nat.le_of_ble_eq_true rfl) dX9_house_46
def wp_X9_isSound (μ : TMem) (Q : Int32 → TMem → Prop) (X : String → TMem → Prop) : Prop :=
  wp_X9_machineAt μ (0 : Int32) (fun (k2 : Nat) (μ1 : TMem) => wp_X3_makeBy k2 57 μ1 (0 : Int32) (fun (r4 : Int32) (μ3 : TMem) => (¬ r4 = 0 → (wp_X3_makeBy k2 51 μ3 (1 : Int32) (fun (r7 : Int32) (μ6 : TMem) => (r7 = 0 → (Q (0 : Int32) μ6)) ∧ (¬ r7 = 0 → (wp_X5_isSameAs 51 57 μ6 (fun (r9 : Int32) => (¬ r9 = 0 → (wp_X3_makeBy k2 51 μ6 (2 : Int32) (fun (r14 : Int32) (μ13 : TMem) => (r14 = 0 → (wp_X2_becomePlain 12 57 μ13 (fun (μ16 : TMem) => wp_X3_makeBy 12 51 μ16 (0 : Int32) (fun (r18 : Int32) (μ17 : TMem) => (r18 = 0 → (Q (0 : Int32) μ17)) ∧ (¬ r18 = 0 → (wp_X5_isSameAs 51 57 μ17 (fun (r20 : Int32) => (¬ r20 = 0 → (wp_X9_isTakingTheSame k2 μ17 (fun (r24 : Int32) => isB r24 ∧ Q r24 μ17))) ∧ (r20 = 0 → (Q (0 : Int32) μ17))))))))) ∧ (¬ r14 = 0 → (wp_X5_isSameAs 51 57 μ13 (fun (r28 : Int32) => (¬ r28 = 0 → (wp_X2_becomePlain 12 57 μ13 (fun (μ32 : TMem) => wp_X3_makeBy 12 51 μ32 (0 : Int32) (fun (r34 : Int32) (μ33 : TMem) => (r34 = 0 → (Q (0 : Int32) μ33)) ∧ (¬ r34 = 0 → (wp_X5_isSameAs 51 57 μ33 (fun (r36 : Int32) => (¬ r36 = 0 → (wp_X9_isTakingTheSame k2 μ33 (fun (r40 : Int32) => isB r40 ∧ Q r40 μ33))) ∧ (r36 = 0 → (Q (0 : Int32) μ33))))))))) ∧ (r28 = 0 → (Q (0 : Int32) μ13)))))))) ∧ (r9 = 0 → (Q (0 : Int32) μ6)))))))) ∧ (r4 = 0 → (Q (1 : Int32) μ3)))) X
set_option maxHeartbeats 4000000 in
set_option maxRecDepth 100000 in
theorem c_X9_isSound {l : Launch} (hst : l.stackTraces = false) {D : va_G} {ad : Nat → Nat} {cI cM : ClassId}  (μ : TMem) (sz : Nat)  {Q : Int32 → TMem → Prop} {X : String → TMem → Prop} (h : wp_X9_isSound μ Q X) : XMi l yX9_isSound (.code yX9_isSound cX9_isSound 2 (Option.some Jvm.ClassFile.FieldType.boolean)) 5 1 6 [.ref (ad 0)] D ad cI cM sz μ Q X := by
  refine X_meti (by decide +kernel) (Nat.le_of_ble_eq_true rfl) ?_
  intro p e s m below meth c Qc ls hx hb hml hown ht hN hK hX htab hlocks hw hret hl
  have hl : lv_has ls 2 [(0, .ref (ad 0))] := hl
  suffices hh : ∀ (H : Heap) (locs : List Loc), TW D ad cI cM s μ H locs → W p l e (RX 5 1 6) s m #[.ref (ad 0)] below meth c H locs 0 0 (vx_MQ below Qc (vx_X (fun _ : TMem => True) (TEX D ad cI cM X) (TA ad s.heap.size)) #[.ref (ad 0)] s 1 6 (TA ad s.heap.size)) (F0 m 0 ls []) from hh _ _ hw
  intro H locs hw
  change wp_X9_machineAt μ (0 : Int32) (fun (k2 : Nat) (μ1 : TMem) => wp_X3_makeBy k2 57 μ1 (0 : Int32) (fun (r4 : Int32) (μ3 : TMem) => (¬ r4 = 0 → (wp_X3_makeBy k2 51 μ3 (1 : Int32) (fun (r7 : Int32) (μ6 : TMem) => (r7 = 0 → (Q (0 : Int32) μ6)) ∧ (¬ r7 = 0 → (wp_X5_isSameAs 51 57 μ6 (fun (r9 : Int32) => (¬ r9 = 0 → (wp_X3_makeBy k2 51 μ6 (2 : Int32) (fun (r14 : Int32) (μ13 : TMem) => (r14 = 0 → (wp_X2_becomePlain 12 57 μ13 (fun (μ16 : TMem) => wp_X3_makeBy 12 51 μ16 (0 : Int32) (fun (r18 : Int32) (μ17 : TMem) => (r18 = 0 → (Q (0 : Int32) μ17)) ∧ (¬ r18 = 0 → (wp_X5_isSameAs 51 57 μ17 (fun (r20 : Int32) => (¬ r20 = 0 → (wp_X9_isTakingTheSame k2 μ17 (fun (r24 : Int32) => isB r24 ∧ Q r24 μ17))) ∧ (r20 = 0 → (Q (0 : Int32) μ17))))))))) ∧ (¬ r14 = 0 → (wp_X5_isSameAs 51 57 μ13 (fun (r28 : Int32) => (¬ r28 = 0 → (wp_X2_becomePlain 12 57 μ13 (fun (μ32 : TMem) => wp_X3_makeBy 12 51 μ32 (0 : Int32) (fun (r34 : Int32) (μ33 : TMem) => (r34 = 0 → (Q (0 : Int32) μ33)) ∧ (¬ r34 = 0 → (wp_X5_isSameAs 51 57 μ33 (fun (r36 : Int32) => (¬ r36 = 0 → (wp_X9_isTakingTheSame k2 μ33 (fun (r40 : Int32) => isB r40 ∧ Q r40 μ33))) ∧ (r36 = 0 → (Q (0 : Int32) μ33))))))))) ∧ (r28 = 0 → (Q (0 : Int32) μ13)))))))) ∧ (r9 = 0 → (Q (0 : Int32) μ6)))))))) ∧ (r4 = 0 → (Q (1 : Int32) μ3)))) X at h
  refine lv_aload_n hx hb dX9_isSound_0 rfl (lv_at hl 0 rfl) ?_
  refine lv_iconst (v := (0 : Int32)) hx hb dX9_isSound_1 (by decide) ?_
  refine X_callo hw htab hlocks (c1 := 1) (n1 := 6) rfl rfl (Nat.le_of_ble_eq_true rfl) (Nat.le_of_ble_eq_true rfl) (vx_runV (own := "Leastreader") (As := [.int (0 : Int32)]) (rest := []) ⟨hx, hb, hml, hown, ht⟩ (c_X9_machineAt hst μ H.size (0 : Int32) h) (cwV 1 ht (G_V q_314 q_316 q_0 q_46 q_317) rfl rfl rfl ⟨rfl, hd_53⟩ ⟨Nat.le_of_ble_eq_true rfl, Nat.le_of_ble_eq_true rfl⟩) ⟨TBX.blind, (T_recv hK hw (kd_of rfl (by decide)) (ent_8 rfl) cl_8), TBX.pre hK hN hX hw⟩ rfl rfl hl.1 rfl (lv_room (Nat.le_of_ble_eq_true rfl)) dX9_isSound_2 ⟨Nat.le_of_ble_eq_true rfl, Nat.le_of_ble_eq_true rfl⟩) (fun k2 μ1 H locs hk2 h hw => ?_)
  refine lv_astore_n (lv' := [(1, .ref (ad k2)), (0, .ref (ad 0))]) hx hb dX9_isSound_5 rfl hl (by decide) rfl (fun ls hl => ?_)
  refine lv_aload_n hx hb dX9_isSound_6 rfl (lv_at hl 1 rfl) ?_
  refine gf_X9_35 hx hb ht hown hK hw rfl dX9_isSound_7 ?_
  refine lv_iconst (v := (0 : Int32)) hx hb dX9_isSound_10 (by decide) ?_
  refine lv_aload_n hx hb dX9_isSound_11 rfl (lv_at hl 0 rfl) ?_
  refine lv_aload_n hx hb dX9_isSound_12 rfl (lv_at hl 1 rfl) ?_
  refine gf_X9_66 hx hb ht hown hK hw rfl dX9_isSound_13 ?_
  refine T_calli hw (va_runV (own := "Leastreader") (As := [.int (0 : Int32), .ref (ad k2), .ref (ad 57)]) (rest := []) ⟨hx, hb, hml, hown, ht⟩ (c_X3_makeBy k2 hk2 57 rfl μ1 H.size (0 : Int32) h) (cwV 3 ht (G_V q_386 q_387 q_388 q_50 q_389) rfl rfl rfl ⟨rfl, hd_65⟩ ⟨Nat.le_of_ble_eq_true rfl, Nat.le_of_ble_eq_true rfl⟩) ⟨TB.blind, (T_recv hK hw (kd_of rfl (by decide)) (ent_3 rfl) cl_3), TB.pre hK hN hw⟩ rfl rfl hl.1 rfl (lv_room (Nat.le_of_ble_eq_true rfl)) dX9_isSound_16 ⟨Nat.le_of_ble_eq_true rfl, Nat.le_of_ble_eq_true rfl⟩) (fun r4 μ3 H locs h hw => ?_)
  refine lv_if_ne (tgt := 24) hx hb dX9_isSound_19 (by decide) (fun c5 => ?_) (fun c5 => ?_)
  · have h := h.1 c5
    refine lv_aload_n hx hb dX9_isSound_24 rfl (lv_at hl 1 rfl) ?_
    refine gf_X9_35 hx hb ht hown hK hw rfl dX9_isSound_25 ?_
    refine lv_iconst (v := (1 : Int32)) hx hb dX9_isSound_28 (by decide) ?_
    refine lv_aload_n hx hb dX9_isSound_29 rfl (lv_at hl 0 rfl) ?_
    refine lv_aload_n hx hb dX9_isSound_30 rfl (lv_at hl 1 rfl) ?_
    refine gf_X9_56 hx hb ht hown hK hw rfl dX9_isSound_31 ?_
    refine T_calli hw (va_runV (own := "Leastreader") (As := [.int (1 : Int32), .ref (ad k2), .ref (ad 51)]) (rest := []) ⟨hx, hb, hml, hown, ht⟩ (c_X3_makeBy k2 hk2 51 rfl μ3 H.size (1 : Int32) h) (cwV 3 ht (G_V q_386 q_387 q_388 q_50 q_389) rfl rfl rfl ⟨rfl, hd_65⟩ ⟨Nat.le_of_ble_eq_true rfl, Nat.le_of_ble_eq_true rfl⟩) ⟨TB.blind, (T_recv hK hw (kd_of rfl (by decide)) (ent_3 rfl) cl_3), TB.pre hK hN hw⟩ rfl rfl hl.1 rfl (lv_room (Nat.le_of_ble_eq_true rfl)) dX9_isSound_34 ⟨Nat.le_of_ble_eq_true rfl, Nat.le_of_ble_eq_true rfl⟩) (fun r7 μ6 H locs h hw => ?_)
    refine lv_if_eq (tgt := 54) hx hb dX9_isSound_37 (by decide) (fun c8 => ?_) (fun c8 => ?_)
    · have h := h.1 c8
      refine lv_iconst (v := (0 : Int32)) hx hb dX9_isSound_54 (by decide) ?_
      exact hret H locs ls 55 1 6 _ _ hw h rfl (Nat.le_of_ble_eq_true rfl) (Nat.le_of_ble_eq_true rfl) dX9_isSound_55
    have h := h.2 c8
    refine lv_aload_n hx hb dX9_isSound_40 rfl (lv_at hl 1 rfl) ?_
    refine gf_X9_56 hx hb ht hown hK hw rfl dX9_isSound_41 ?_
    refine lv_aload_n hx hb dX9_isSound_44 rfl (lv_at hl 1 rfl) ?_
    refine gf_X9_66 hx hb ht hown hK hw rfl dX9_isSound_45 ?_
    refine T_calli hw (va_runV (own := "Leastreader") (As := [.ref (ad 57)]) (rest := []) ⟨hx, hb, hml, hown, ht⟩ (c_X5_isSameAs 51 rfl 57 rfl μ6 H.size h) (cwV 1 ht (G_V q_516 q_517 q_518 q_53 q_519) rfl rfl rfl ⟨rfl, hd_73⟩ ⟨Nat.le_of_ble_eq_true rfl, Nat.le_of_ble_eq_true rfl⟩) ⟨TB.blind, (T_recv hK hw (kd_of rfl (by decide)) (ent_5 rfl) cl_5), TB.pre hK hN hw⟩ rfl rfl hl.1 rfl (lv_room (Nat.le_of_ble_eq_true rfl)) dX9_isSound_48 ⟨Nat.le_of_ble_eq_true rfl, Nat.le_of_ble_eq_true rfl⟩) (fun r9 μ10 H locs h hw => ?_)
    obtain ⟨e11, h⟩ := h
    rw [e11] at hw
    refine lv_if_ne (tgt := 56) hx hb dX9_isSound_51 (by decide) (fun c12 => ?_) (fun c12 => ?_)
    · have h := h.1 c12
      refine lv_aload_n hx hb dX9_isSound_56 rfl (lv_at hl 1 rfl) ?_
      refine gf_X9_35 hx hb ht hown hK hw rfl dX9_isSound_57 ?_
      refine lv_iconst (v := (2 : Int32)) hx hb dX9_isSound_60 (by decide) ?_
      refine lv_aload_n hx hb dX9_isSound_61 rfl (lv_at hl 0 rfl) ?_
      refine lv_aload_n hx hb dX9_isSound_62 rfl (lv_at hl 1 rfl) ?_
      refine gf_X9_56 hx hb ht hown hK hw rfl dX9_isSound_63 ?_
      refine T_calli hw (va_runV (own := "Leastreader") (As := [.int (2 : Int32), .ref (ad k2), .ref (ad 51)]) (rest := []) ⟨hx, hb, hml, hown, ht⟩ (c_X3_makeBy k2 hk2 51 rfl μ6 H.size (2 : Int32) h) (cwV 3 ht (G_V q_386 q_387 q_388 q_50 q_389) rfl rfl rfl ⟨rfl, hd_65⟩ ⟨Nat.le_of_ble_eq_true rfl, Nat.le_of_ble_eq_true rfl⟩) ⟨TB.blind, (T_recv hK hw (kd_of rfl (by decide)) (ent_3 rfl) cl_3), TB.pre hK hN hw⟩ rfl rfl hl.1 rfl (lv_room (Nat.le_of_ble_eq_true rfl)) dX9_isSound_66 ⟨Nat.le_of_ble_eq_true rfl, Nat.le_of_ble_eq_true rfl⟩) (fun r14 μ13 H locs h hw => ?_)
      refine lv_if_eq (tgt := 88) hx hb dX9_isSound_69 (by decide) (fun c15 => ?_) (fun c15 => ?_)
      · have h := h.1 c15
        refine lv_aload_n hx hb dX9_isSound_88 rfl (lv_at hl 1 rfl) ?_
        refine gf_X9_22 hx hb ht hown hK hw rfl dX9_isSound_89 ?_
        refine lv_aload_n hx hb dX9_isSound_92 rfl (lv_at hl 1 rfl) ?_
        refine gf_X9_66 hx hb ht hown hK hw rfl dX9_isSound_93 ?_
        refine T_callv hw (va_runV (own := "Leastreader") (As := [.ref (ad 57)]) (rest := []) ⟨hx, hb, hml, hown, ht⟩ (c_X2_becomePlain 12 rfl 57 rfl μ13 H.size h) (cwV 1 ht (G_V q_527 q_448 q_449 q_48 q_450) rfl rfl rfl ⟨rfl, hd_2⟩ ⟨Nat.le_of_ble_eq_true rfl, Nat.le_of_ble_eq_true rfl⟩) ⟨TB.blind, (T_recv hK hw (kd_of rfl (by decide)) (ent_2 rfl) cl_2), TB.pre hK hN hw⟩ rfl rfl hl.1 rfl (lv_room (Nat.le_of_ble_eq_true rfl)) dX9_isSound_96 ⟨Nat.le_of_ble_eq_true rfl, Nat.le_of_ble_eq_true rfl⟩) (fun μ16 H locs h hw => ?_)
        refine lv_aload_n hx hb dX9_isSound_99 rfl (lv_at hl 1 rfl) ?_
        refine gf_X9_35 hx hb ht hown hK hw rfl dX9_isSound_100 ?_
        refine lv_iconst (v := (0 : Int32)) hx hb dX9_isSound_103 (by decide) ?_
        refine lv_aload_n hx hb dX9_isSound_104 rfl (lv_at hl 1 rfl) ?_
        refine gf_X9_22 hx hb ht hown hK hw rfl dX9_isSound_105 ?_
        refine lv_aload_n hx hb dX9_isSound_108 rfl (lv_at hl 1 rfl) ?_
        refine gf_X9_56 hx hb ht hown hK hw rfl dX9_isSound_109 ?_
        refine T_calli hw (va_runV (own := "Leastreader") (As := [.int (0 : Int32), .ref (ad 12), .ref (ad 51)]) (rest := []) ⟨hx, hb, hml, hown, ht⟩ (c_X3_makeBy 12 rfl 51 rfl μ16 H.size (0 : Int32) h) (cwV 3 ht (G_V q_386 q_387 q_388 q_50 q_389) rfl rfl rfl ⟨rfl, hd_65⟩ ⟨Nat.le_of_ble_eq_true rfl, Nat.le_of_ble_eq_true rfl⟩) ⟨TB.blind, (T_recv hK hw (kd_of rfl (by decide)) (ent_3 rfl) cl_3), TB.pre hK hN hw⟩ rfl rfl hl.1 rfl (lv_room (Nat.le_of_ble_eq_true rfl)) dX9_isSound_112 ⟨Nat.le_of_ble_eq_true rfl, Nat.le_of_ble_eq_true rfl⟩) (fun r18 μ17 H locs h hw => ?_)
        refine lv_if_eq (tgt := 132) hx hb dX9_isSound_115 (by decide) (fun c19 => ?_) (fun c19 => ?_)
        · have h := h.1 c19
          refine lv_iconst (v := (0 : Int32)) hx hb dX9_isSound_132 (by decide) ?_
          exact hret H locs ls 133 1 6 _ _ hw h rfl (Nat.le_of_ble_eq_true rfl) (Nat.le_of_ble_eq_true rfl) dX9_isSound_133
        have h := h.2 c19
        refine lv_aload_n hx hb dX9_isSound_118 rfl (lv_at hl 1 rfl) ?_
        refine gf_X9_56 hx hb ht hown hK hw rfl dX9_isSound_119 ?_
        refine lv_aload_n hx hb dX9_isSound_122 rfl (lv_at hl 1 rfl) ?_
        refine gf_X9_66 hx hb ht hown hK hw rfl dX9_isSound_123 ?_
        refine T_calli hw (va_runV (own := "Leastreader") (As := [.ref (ad 57)]) (rest := []) ⟨hx, hb, hml, hown, ht⟩ (c_X5_isSameAs 51 rfl 57 rfl μ17 H.size h) (cwV 1 ht (G_V q_516 q_517 q_518 q_53 q_519) rfl rfl rfl ⟨rfl, hd_73⟩ ⟨Nat.le_of_ble_eq_true rfl, Nat.le_of_ble_eq_true rfl⟩) ⟨TB.blind, (T_recv hK hw (kd_of rfl (by decide)) (ent_5 rfl) cl_5), TB.pre hK hN hw⟩ rfl rfl hl.1 rfl (lv_room (Nat.le_of_ble_eq_true rfl)) dX9_isSound_126 ⟨Nat.le_of_ble_eq_true rfl, Nat.le_of_ble_eq_true rfl⟩) (fun r20 μ21 H locs h hw => ?_)
        obtain ⟨e22, h⟩ := h
        rw [e22] at hw
        refine lv_if_ne (tgt := 134) hx hb dX9_isSound_129 (by decide) (fun c23 => ?_) (fun c23 => ?_)
        · have h := h.1 c23
          refine lv_aload_n hx hb dX9_isSound_134 rfl (lv_at hl 1 rfl) ?_
          refine lv_aload_n hx hb dX9_isSound_135 rfl (lv_at hl 0 rfl) ?_
          refine T_calli hw (va_runV (own := "Leastreader") (As := [.ref (ad k2)]) (rest := []) ⟨hx, hb, hml, hown, ht⟩ (c_X9_isTakingTheSame k2 hk2 μ17 H.size h) (cwV 1 ht (G_V q_528 q_530 q_12 q_46 q_531) rfl rfl rfl ⟨rfl, hd_75⟩ ⟨Nat.le_of_ble_eq_true rfl, Nat.le_of_ble_eq_true rfl⟩) ⟨TB.blind, (T_recv hK hw (kd_of rfl (by decide)) (ent_8 rfl) cl_8), TB.pre hK hN hw⟩ rfl rfl hl.1 rfl (lv_room (Nat.le_of_ble_eq_true rfl)) dX9_isSound_136 ⟨Nat.le_of_ble_eq_true rfl, Nat.le_of_ble_eq_true rfl⟩) (fun r24 μ25 H locs h hw => ?_)
          obtain ⟨e26, h⟩ := h
          rw [e26] at hw
          obtain ⟨z27, h⟩ := h
          exact hret H locs ls 139 1 6 _ _ hw h (isB_n z27) (Nat.le_of_ble_eq_true rfl) (Nat.le_of_ble_eq_true rfl) dX9_isSound_139
        have h := h.2 c23
        refine lv_iconst (v := (0 : Int32)) hx hb dX9_isSound_132 (by decide) ?_
        exact hret H locs ls 133 1 6 _ _ hw h rfl (Nat.le_of_ble_eq_true rfl) (Nat.le_of_ble_eq_true rfl) dX9_isSound_133
      have h := h.2 c15
      refine lv_aload_n hx hb dX9_isSound_72 rfl (lv_at hl 1 rfl) ?_
      refine gf_X9_56 hx hb ht hown hK hw rfl dX9_isSound_73 ?_
      refine lv_aload_n hx hb dX9_isSound_76 rfl (lv_at hl 1 rfl) ?_
      refine gf_X9_66 hx hb ht hown hK hw rfl dX9_isSound_77 ?_
      refine T_calli hw (va_runV (own := "Leastreader") (As := [.ref (ad 57)]) (rest := []) ⟨hx, hb, hml, hown, ht⟩ (c_X5_isSameAs 51 rfl 57 rfl μ13 H.size h) (cwV 1 ht (G_V q_516 q_517 q_518 q_53 q_519) rfl rfl rfl ⟨rfl, hd_73⟩ ⟨Nat.le_of_ble_eq_true rfl, Nat.le_of_ble_eq_true rfl⟩) ⟨TB.blind, (T_recv hK hw (kd_of rfl (by decide)) (ent_5 rfl) cl_5), TB.pre hK hN hw⟩ rfl rfl hl.1 rfl (lv_room (Nat.le_of_ble_eq_true rfl)) dX9_isSound_80 ⟨Nat.le_of_ble_eq_true rfl, Nat.le_of_ble_eq_true rfl⟩) (fun r28 μ29 H locs h hw => ?_)
      obtain ⟨e30, h⟩ := h
      rw [e30] at hw
      refine lv_if_ne (tgt := 88) hx hb dX9_isSound_83 (by decide) (fun c31 => ?_) (fun c31 => ?_)
      · have h := h.1 c31
        refine lv_aload_n hx hb dX9_isSound_88 rfl (lv_at hl 1 rfl) ?_
        refine gf_X9_22 hx hb ht hown hK hw rfl dX9_isSound_89 ?_
        refine lv_aload_n hx hb dX9_isSound_92 rfl (lv_at hl 1 rfl) ?_
        refine gf_X9_66 hx hb ht hown hK hw rfl dX9_isSound_93 ?_
        refine T_callv hw (va_runV (own := "Leastreader") (As := [.ref (ad 57)]) (rest := []) ⟨hx, hb, hml, hown, ht⟩ (c_X2_becomePlain 12 rfl 57 rfl μ13 H.size h) (cwV 1 ht (G_V q_527 q_448 q_449 q_48 q_450) rfl rfl rfl ⟨rfl, hd_2⟩ ⟨Nat.le_of_ble_eq_true rfl, Nat.le_of_ble_eq_true rfl⟩) ⟨TB.blind, (T_recv hK hw (kd_of rfl (by decide)) (ent_2 rfl) cl_2), TB.pre hK hN hw⟩ rfl rfl hl.1 rfl (lv_room (Nat.le_of_ble_eq_true rfl)) dX9_isSound_96 ⟨Nat.le_of_ble_eq_true rfl, Nat.le_of_ble_eq_true rfl⟩) (fun μ32 H locs h hw => ?_)
        refine lv_aload_n hx hb dX9_isSound_99 rfl (lv_at hl 1 rfl) ?_
        refine gf_X9_35 hx hb ht hown hK hw rfl dX9_isSound_100 ?_
        refine lv_iconst (v := (0 : Int32)) hx hb dX9_isSound_103 (by decide) ?_
        refine lv_aload_n hx hb dX9_isSound_104 rfl (lv_at hl 1 rfl) ?_
        refine gf_X9_22 hx hb ht hown hK hw rfl dX9_isSound_105 ?_
        refine lv_aload_n hx hb dX9_isSound_108 rfl (lv_at hl 1 rfl) ?_
        refine gf_X9_56 hx hb ht hown hK hw rfl dX9_isSound_109 ?_
        refine T_calli hw (va_runV (own := "Leastreader") (As := [.int (0 : Int32), .ref (ad 12), .ref (ad 51)]) (rest := []) ⟨hx, hb, hml, hown, ht⟩ (c_X3_makeBy 12 rfl 51 rfl μ32 H.size (0 : Int32) h) (cwV 3 ht (G_V q_386 q_387 q_388 q_50 q_389) rfl rfl rfl ⟨rfl, hd_65⟩ ⟨Nat.le_of_ble_eq_true rfl, Nat.le_of_ble_eq_true rfl⟩) ⟨TB.blind, (T_recv hK hw (kd_of rfl (by decide)) (ent_3 rfl) cl_3), TB.pre hK hN hw⟩ rfl rfl hl.1 rfl (lv_room (Nat.le_of_ble_eq_true rfl)) dX9_isSound_112 ⟨Nat.le_of_ble_eq_true rfl, Nat.le_of_ble_eq_true rfl⟩) (fun r34 μ33 H locs h hw => ?_)
        refine lv_if_eq (tgt := 132) hx hb dX9_isSound_115 (by decide) (fun c35 => ?_) (fun c35 => ?_)
        · have h := h.1 c35
          refine lv_iconst (v := (0 : Int32)) hx hb dX9_isSound_132 (by decide) ?_
          exact hret H locs ls 133 1 6 _ _ hw h rfl (Nat.le_of_ble_eq_true rfl) (Nat.le_of_ble_eq_true rfl) dX9_isSound_133
        have h := h.2 c35
        refine lv_aload_n hx hb dX9_isSound_118 rfl (lv_at hl 1 rfl) ?_
        refine gf_X9_56 hx hb ht hown hK hw rfl dX9_isSound_119 ?_
        refine lv_aload_n hx hb dX9_isSound_122 rfl (lv_at hl 1 rfl) ?_
        refine gf_X9_66 hx hb ht hown hK hw rfl dX9_isSound_123 ?_
        refine T_calli hw (va_runV (own := "Leastreader") (As := [.ref (ad 57)]) (rest := []) ⟨hx, hb, hml, hown, ht⟩ (c_X5_isSameAs 51 rfl 57 rfl μ33 H.size h) (cwV 1 ht (G_V q_516 q_517 q_518 q_53 q_519) rfl rfl rfl ⟨rfl, hd_73⟩ ⟨Nat.le_of_ble_eq_true rfl, Nat.le_of_ble_eq_true rfl⟩) ⟨TB.blind, (T_recv hK hw (kd_of rfl (by decide)) (ent_5 rfl) cl_5), TB.pre hK hN hw⟩ rfl rfl hl.1 rfl (lv_room (Nat.le_of_ble_eq_true rfl)) dX9_isSound_126 ⟨Nat.le_of_ble_eq_true rfl, Nat.le_of_ble_eq_true rfl⟩) (fun r36 μ37 H locs h hw => ?_)
        obtain ⟨e38, h⟩ := h
        rw [e38] at hw
        refine lv_if_ne (tgt := 134) hx hb dX9_isSound_129 (by decide) (fun c39 => ?_) (fun c39 => ?_)
        · have h := h.1 c39
          refine lv_aload_n hx hb dX9_isSound_134 rfl (lv_at hl 1 rfl) ?_
          refine lv_aload_n hx hb dX9_isSound_135 rfl (lv_at hl 0 rfl) ?_
          refine T_calli hw (va_runV (own := "Leastreader") (As := [.ref (ad k2)]) (rest := []) ⟨hx, hb, hml, hown, ht⟩ (c_X9_isTakingTheSame k2 hk2 μ33 H.size h) (cwV 1 ht (G_V q_528 q_530 q_12 q_46 q_531) rfl rfl rfl ⟨rfl, hd_75⟩ ⟨Nat.le_of_ble_eq_true rfl, Nat.le_of_ble_eq_true rfl⟩) ⟨TB.blind, (T_recv hK hw (kd_of rfl (by decide)) (ent_8 rfl) cl_8), TB.pre hK hN hw⟩ rfl rfl hl.1 rfl (lv_room (Nat.le_of_ble_eq_true rfl)) dX9_isSound_136 ⟨Nat.le_of_ble_eq_true rfl, Nat.le_of_ble_eq_true rfl⟩) (fun r40 μ41 H locs h hw => ?_)
          obtain ⟨e42, h⟩ := h
          rw [e42] at hw
          obtain ⟨z43, h⟩ := h
          exact hret H locs ls 139 1 6 _ _ hw h (isB_n z43) (Nat.le_of_ble_eq_true rfl) (Nat.le_of_ble_eq_true rfl) dX9_isSound_139
        have h := h.2 c39
        refine lv_iconst (v := (0 : Int32)) hx hb dX9_isSound_132 (by decide) ?_
        exact hret H locs ls 133 1 6 _ _ hw h rfl (Nat.le_of_ble_eq_true rfl) (Nat.le_of_ble_eq_true rfl) dX9_isSound_133
      have h := h.2 c31
      refine lv_iconst (v := (0 : Int32)) hx hb dX9_isSound_86 (by decide) ?_
      exact hret H locs ls 87 1 6 _ _ hw h rfl (Nat.le_of_ble_eq_true rfl) (Nat.le_of_ble_eq_true rfl) dX9_isSound_87
    have h := h.2 c12
    refine lv_iconst (v := (0 : Int32)) hx hb dX9_isSound_54 (by decide) ?_
    exact hret H locs ls 55 1 6 _ _ hw h rfl (Nat.le_of_ble_eq_true rfl) (Nat.le_of_ble_eq_true rfl) dX9_isSound_55
  have h := h.2 c5
  refine lv_iconst (v := (1 : Int32)) hx hb dX9_isSound_22 (by decide) ?_
  exact hret H locs ls 23 1 6 _ _ hw h rfl (Nat.le_of_ble_eq_true rfl) (Nat.le_of_ble_eq_true rfl) dX9_isSound_23
def wpl_X9_digest_6 (μ : TMem) (K32 : Int64 → Prop) : Nat → Int32 → Int64 → Prop
  | 0, _, _ => False
  | n + 1, v2, v3 =>
    ((4 : Int32) ≤ v2 → (K32 v3)) ∧ (¬ (4 : Int32) ≤ v2 → (vp_in v2 4 ∧ (wp_X9_addMachine (2 + 2 * v2.toNatClampNeg) μ v3 (fun (r6 : Int64) => wpl_X9_digest_6 μ K32 n (v2 + (1 : Int32)) r6))))
def wp_X9_digest (μ : TMem) (Q : Int64 → TMem → Prop) (X : String → TMem → Prop) : Prop :=
  ∃ n0x, wpl_X9_digest_6 μ (fun (u10 : Int64) => wp_X9_isSound μ (fun (r12 : Int32) (μ11 : TMem) => (r12 = 0 → (Q ((((((((u10 * (31 : Int64)) + (μ 0 11).toInt64) * (31 : Int64)) + (μ 0 12).toInt64) * (31 : Int64)) + (μ 0 13).toInt64) * (31 : Int64)) + (0 : Int32).toInt64) μ11)) ∧ (¬ r12 = 0 → (Q ((((((((u10 * (31 : Int64)) + (μ 0 11).toInt64) * (31 : Int64)) + (μ 0 12).toInt64) * (31 : Int64)) + (μ 0 13).toInt64) * (31 : Int64)) + (1 : Int32).toInt64) μ11))) X) n0x (0 : Int32) (8025 : Int64)
set_option maxHeartbeats 4000000 in
set_option maxRecDepth 100000 in
theorem c_X9_digest {l : Launch} (hst : l.stackTraces = false) {D : va_G} {ad : Nat → Nat} {cI cM : ClassId}  (μ : TMem) (sz : Nat)  {Q : Int64 → TMem → Prop} {X : String → TMem → Prop} (h : wp_X9_digest μ Q X) : XMl l yX9_digest (.code yX9_digest cX9_digest 4 (Option.some Jvm.ClassFile.FieldType.long)) 6 1 6 [.ref (ad 0)] D ad cI cM sz μ Q X := by
  refine X_metl (by decide +kernel) (Nat.le_of_ble_eq_true rfl) ?_
  intro p e s m below meth c Qc ls hx hb hml hown ht hN hK hX htab hlocks hw hret hl
  have hl : lv_has ls 4 [(0, .ref (ad 0))] := hl
  suffices hh : ∀ (H : Heap) (locs : List Loc), TW D ad cI cM s μ H locs → W p l e (RX 6 1 6) s m #[.ref (ad 0)] below meth c H locs 0 0 (vx_MQ below Qc (vx_X (fun _ : TMem => True) (TEX D ad cI cM X) (TA ad s.heap.size)) #[.ref (ad 0)] s 1 6 (TA ad s.heap.size)) (F0 m 0 ls []) from hh _ _ hw
  intro H locs hw
  change ∃ n0x, wpl_X9_digest_6 μ (fun (u10 : Int64) => wp_X9_isSound μ (fun (r12 : Int32) (μ11 : TMem) => (r12 = 0 → (Q ((((((((u10 * (31 : Int64)) + (μ 0 11).toInt64) * (31 : Int64)) + (μ 0 12).toInt64) * (31 : Int64)) + (μ 0 13).toInt64) * (31 : Int64)) + (0 : Int32).toInt64) μ11)) ∧ (¬ r12 = 0 → (Q ((((((((u10 * (31 : Int64)) + (μ 0 11).toInt64) * (31 : Int64)) + (μ 0 12).toInt64) * (31 : Int64)) + (μ 0 13).toInt64) * (31 : Int64)) + (1 : Int32).toInt64) μ11))) X) n0x (0 : Int32) (8025 : Int64) at h
  refine lv_ldc2 (v := (8025 : Int64)) hx hb hown (ht _ q_554) dX9_digest_0 ?_
  refine lv_lstore_n (lv' := [(1, .long (8025 : Int64)), (0, .ref (ad 0))]) hx hb dX9_digest_3 rfl hl (by decide) rfl (fun ls hl => ?_)
  refine lv_iconst (v := (0 : Int32)) hx hb dX9_digest_4 (by decide) ?_
  refine lv_istore_n (lv' := [(3, .int (0 : Int32)), (1, .long (8025 : Int64)), (0, .ref (ad 0))]) hx hb dX9_digest_5 rfl hl (by decide) rfl (fun ls hl => ?_)
  obtain ⟨n9, h⟩ := h
  have L0 : ∀ (K32 : Int64 → Prop), (∀ (v3 : Int64) (H : Heap) (locs : List Loc) (ls : Array Slot), TW D ad cI cM s μ H locs → lv_has ls 4 [(1, .long v3), (0, .ref (ad 0))] → K32 v3 → W p l e (RX 6 1 6) s m #[.ref (ad 0)] below meth c H locs 0 0 (vx_MQ below Qc (vx_X (fun _ : TMem => True) (TEX D ad cI cM X) (TA ad s.heap.size)) #[.ref (ad 0)] s 1 6 (TA ad s.heap.size)) (F0 m 32 ls [])) → ∀ (n : Nat) (v2 : Int32) (v3 : Int64) (H : Heap) (locs : List Loc) (ls : Array Slot), TW D ad cI cM s μ H locs → lv_has ls 4 [(3, .int v2), (1, .long v3), (0, .ref (ad 0))] → wpl_X9_digest_6 μ K32 n v2 v3 → W p l e (RX 6 1 6) s m #[.ref (ad 0)] below meth c H locs 0 0 (vx_MQ below Qc (vx_X (fun _ : TMem => True) (TEX D ad cI cM X) (TA ad s.heap.size)) #[.ref (ad 0)] s 1 6 (TA ad s.heap.size)) (F0 m 6 ls []) := by
    intro K32 hK32
    intro n
    induction n with
    | zero => intro v2 v3 H locs ls hw hl h; exact False.elim h
    | succ n ih0 =>
      intro v2 v3 H locs ls hw hl h
      change ((4 : Int32) ≤ v2 → (K32 v3)) ∧ (¬ (4 : Int32) ≤ v2 → (vp_in v2 4 ∧ (wp_X9_addMachine (2 + 2 * v2.toNatClampNeg) μ v3 (fun (r6 : Int64) => wpl_X9_digest_6 μ K32 n (v2 + (1 : Int32)) r6)))) at h
      refine lv_iload_n hx hb dX9_digest_6 rfl (lv_at hl 0 rfl) ?_
      refine lv_aload_n hx hb dX9_digest_7 rfl (lv_at hl 2 rfl) ?_
      refine gf_X9_11 hx hb ht hown hK hw rfl dX9_digest_8 ?_
      refine t_mlen hx hb hK hw dX9_digest_11 ?_
      refine lv_icmp_ge (tgt := 32) hx hb dX9_digest_12 (by decide) (fun c4 => ?_) (fun c4 => ?_)
      · have h := h.1 c4
        exact hK32 v3 H locs ls hw (lv_sub hl [1, 2] rfl) h
      have h := h.2 c4
      refine lv_lload_n hx hb dX9_digest_15 rfl (lv_at hl 1 rfl) ?_
      refine lv_aload_n hx hb dX9_digest_16 rfl (lv_at hl 2 rfl) ?_
      refine gf_X9_11 hx hb ht hown hK hw rfl dX9_digest_17 ?_
      refine lv_iload_n hx hb dX9_digest_20 rfl (lv_at hl 0 rfl) ?_
      obtain ⟨z5, h⟩ := h
      refine t_ald hx hb hK hw z5 dX9_digest_21 ?_
      refine T_calll hw (va_runS (own := "Leastreader") (As := [.long v3, .ref (ad (2 + 2 * v2.toNatClampNeg))]) (rest := []) ⟨hx, hb, hml, hown, ht⟩ (c_X9_addMachine (2 + 2 * v2.toNatClampNeg) (kd_ma _ (vp_lt z5)) μ H.size v3 h) (va_cwS 2 ht (G_S q_555 q_556 q_46 q_557) rfl rfl rfl hd_76 ⟨Nat.le_of_ble_eq_true rfl, Nat.le_of_ble_eq_true rfl⟩) ⟨TB.blind, TB.pre hK hN hw⟩ rfl rfl hl.1 rfl (lv_room (Nat.le_of_ble_eq_true rfl)) dX9_digest_22 ⟨Nat.le_of_ble_eq_true rfl, Nat.le_of_ble_eq_true rfl⟩) (fun r6 μ7 H locs h hw => ?_)
      obtain ⟨e8, h⟩ := h
      rw [e8] at hw
      refine lv_lstore_n (lv' := [(1, .long r6), (3, .int v2), (0, .ref (ad 0))]) hx hb dX9_digest_25 rfl hl (by decide) rfl (fun ls hl => ?_)
      refine lv_iinc (v := (v2 + (1 : Int32))) (lv' := [(3, .int (v2 + (1 : Int32))), (1, .long r6), (0, .ref (ad 0))]) hx hb dX9_digest_26 hl (k := 1) rfl rfl (by decide) rfl (fun ls hl => ?_)
      refine lv_goto (tgt := 6) hx hb dX9_digest_29 (by decide) ?_
      exact ih0 (v2 + (1 : Int32)) r6 H locs ls hw (lv_sub hl [0, 1, 2] rfl) h
  refine L0 _ ?_ n9 (0 : Int32) (8025 : Int64) H locs ls hw (lv_sub hl [0, 1, 2] rfl) h
  intro u10 H locs ls hw hl h
  refine lv_lload_n hx hb dX9_digest_32 rfl (lv_at hl 0 rfl) ?_
  refine lv_ldc2 (v := (31 : Int64)) hx hb hown (ht _ q_558) dX9_digest_33 ?_
  refine lv_lmul hx hb dX9_digest_36 ?_
  refine lv_aload_n hx hb dX9_digest_37 rfl (lv_at hl 1 rfl) ?_
  refine gf_X9_246 hx hb ht hown hK hw rfl dX9_digest_38 ?_
  refine lv_i2l hx hb dX9_digest_41 rfl ?_
  refine lv_ladd hx hb dX9_digest_42 ?_
  refine lv_lstore_n (lv' := [(1, .long ((u10 * (31 : Int64)) + (μ 0 11).toInt64)), (0, .ref (ad 0))]) hx hb dX9_digest_43 rfl hl (by decide) rfl (fun ls hl => ?_)
  refine lv_lload_n hx hb dX9_digest_44 rfl (lv_at hl 0 rfl) ?_
  refine lv_ldc2 (v := (31 : Int64)) hx hb hown (ht _ q_558) dX9_digest_45 ?_
  refine lv_lmul hx hb dX9_digest_48 ?_
  refine lv_aload_n hx hb dX9_digest_49 rfl (lv_at hl 1 rfl) ?_
  refine gf_X9_249 hx hb ht hown hK hw rfl dX9_digest_50 ?_
  refine lv_i2l hx hb dX9_digest_53 rfl ?_
  refine lv_ladd hx hb dX9_digest_54 ?_
  refine lv_lstore_n (lv' := [(1, .long ((((u10 * (31 : Int64)) + (μ 0 11).toInt64) * (31 : Int64)) + (μ 0 12).toInt64)), (0, .ref (ad 0))]) hx hb dX9_digest_55 rfl hl (by decide) rfl (fun ls hl => ?_)
  refine lv_lload_n hx hb dX9_digest_56 rfl (lv_at hl 0 rfl) ?_
  refine lv_ldc2 (v := (31 : Int64)) hx hb hown (ht _ q_558) dX9_digest_57 ?_
  refine lv_lmul hx hb dX9_digest_60 ?_
  refine lv_aload_n hx hb dX9_digest_61 rfl (lv_at hl 1 rfl) ?_
  refine gf_X9_252 hx hb ht hown hK hw rfl dX9_digest_62 ?_
  refine lv_i2l hx hb dX9_digest_65 rfl ?_
  refine lv_ladd hx hb dX9_digest_66 ?_
  refine lv_lstore_n (lv' := [(1, .long ((((((u10 * (31 : Int64)) + (μ 0 11).toInt64) * (31 : Int64)) + (μ 0 12).toInt64) * (31 : Int64)) + (μ 0 13).toInt64)), (0, .ref (ad 0))]) hx hb dX9_digest_67 rfl hl (by decide) rfl (fun ls hl => ?_)
  refine lv_lload_n hx hb dX9_digest_68 rfl (lv_at hl 0 rfl) ?_
  refine lv_ldc2 (v := (31 : Int64)) hx hb hown (ht _ q_558) dX9_digest_69 ?_
  refine lv_lmul hx hb dX9_digest_72 ?_
  refine lv_aload_n hx hb dX9_digest_73 rfl (lv_at hl 1 rfl) ?_
  refine X_calli hw htab hlocks (c1 := 1) (n1 := 6) rfl rfl (Nat.le_of_ble_eq_true rfl) (Nat.le_of_ble_eq_true rfl) (vx_runV (own := "Leastreader") (As := []) (rest := [.long (((((((u10 * (31 : Int64)) + (μ 0 11).toInt64) * (31 : Int64)) + (μ 0 12).toInt64) * (31 : Int64)) + (μ 0 13).toInt64) * (31 : Int64))]) ⟨hx, hb, hml, hown, ht⟩ (c_X9_isSound hst μ H.size h) (cwV 0 ht (G_V q_574 q_311 q_312 q_46 q_313) rfl rfl rfl ⟨rfl, hd_77⟩ ⟨Nat.le_of_ble_eq_true rfl, Nat.le_of_ble_eq_true rfl⟩) ⟨TBX.blind, (T_recv hK hw (kd_of rfl (by decide)) (ent_8 rfl) cl_8), TBX.pre hK hN hX hw⟩ rfl rfl hl.1 rfl (lv_room (Nat.le_of_ble_eq_true rfl)) dX9_digest_74 ⟨Nat.le_of_ble_eq_true rfl, Nat.le_of_ble_eq_true rfl⟩) (fun r12 μ11 H locs h hw => ?_)
  refine lv_if_eq (tgt := 84) hx hb dX9_digest_77 (by decide) (fun c13 => ?_) (fun c13 => ?_)
  · have h := h.1 c13
    refine lv_iconst (v := (0 : Int32)) hx hb dX9_digest_84 (by decide) ?_
    refine lv_i2l hx hb dX9_digest_85 rfl ?_
    refine lv_ladd hx hb dX9_digest_86 ?_
    exact hret H locs ls 87 1 6 _ _ hw h (Nat.le_of_ble_eq_true rfl) (Nat.le_of_ble_eq_true rfl) dX9_digest_87
  have h := h.2 c13
  refine lv_iconst (v := (1 : Int32)) hx hb dX9_digest_80 (by decide) ?_
  refine lv_goto (tgt := 85) hx hb dX9_digest_81 (by decide) ?_
  refine lv_i2l hx hb dX9_digest_85 rfl ?_
  refine lv_ladd hx hb dX9_digest_86 ?_
  exact hret H locs ls 87 1 6 _ _ hw h (Nat.le_of_ble_eq_true rfl) (Nat.le_of_ble_eq_true rfl) dX9_digest_87
end
