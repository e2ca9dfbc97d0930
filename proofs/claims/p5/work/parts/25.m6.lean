def wpl_X9_isTakingTheSame_15 (k1 : Nat) (μ : TMem) (v7 : Int32) (v8 : Int32) (K56 : Prop) (Q : Int32 → Prop) : Nat → Int32 → Prop
  | 0, _ => False
  | n + 1, v6 =>
    (v7 ≤ v6 → (K56)) ∧ (¬ v7 ≤ v6 → (wp_X5_stateAfter 57 μ v8 v6 (fun (r10 : Int32) => wp_X5_isGoal 57 μ r10 (fun (r13 : Int32) => wp_X2_isTaking k1 μ v8 v6 (fun (r16 : Int32) => (r13 = r16 → (wpl_X9_isTakingTheSame_15 k1 μ v7 v8 K56 Q n (v6 + (1 : Int32)))) ∧ (¬ r13 = r16 → (Q (0 : Int32))))))))
def wpl_X9_isTakingTheSame_2 (k1 : Nat) (μ : TMem) (Q : Int32 → Prop) : Nat → Int32 → Prop
  | 0, _ => False
  | n + 1, v2 =>
    ((2 : Int32) < v2 → (Q (1 : Int32))) ∧ (¬ (2 : Int32) < v2 → (wp_X9_countCodes v2 (fun (r4 : Int32) => ∃ n4x, wpl_X9_isTakingTheSame_15 k1 μ r4 v2 (wpl_X9_isTakingTheSame_2 k1 μ Q n (v2 + (1 : Int32))) Q n4x (0 : Int32))))
def wp_X9_isTakingTheSame (k1 : Nat) (μ : TMem) (Q : Int32 → Prop) : Prop :=
  ∃ n0x, wpl_X9_isTakingTheSame_2 k1 μ Q n0x (0 : Int32)
set_option maxHeartbeats 4000000 in
set_option maxRecDepth 100000 in
theorem c_X9_isTakingTheSame {l : Launch} {D : va_G} {ad : Nat → Nat} {cI cM : ClassId} (k1 : Nat) (hk1 : kd k1 = 2) (μ : TMem) (sz : Nat)  {Q : Int32 → Prop} (h : wp_X9_isTakingTheSame k1 μ Q) : TMi l yX9_isTakingTheSame (.code yX9_isTakingTheSame cX9_isTakingTheSame 5 (Option.some Jvm.ClassFile.FieldType.boolean)) 4 [.ref (ad 0), .ref (ad k1)] D ad cI cM sz μ (fun r μ1 => μ1 = μ ∧ Q r) := by
  refine T_meti (by decide +kernel) (Nat.le_of_ble_eq_true rfl) ?_
  intro p e s m below meth c Z ls hx hb hml hown ht hN hK hw hret hl
  have hl : lv_has ls 5 [(0, .ref (ad 0)), (1, .ref (ad k1))] := hl
  generalize s.heap = H at hw ⊢
  generalize ([] : List Loc) = locs at hw ⊢
  change ∃ n0x, wpl_X9_isTakingTheSame_2 k1 μ Q n0x (0 : Int32) at h
  refine lv_iconst (v := (0 : Int32)) hx hb dX9_isTakingTheSame_0 (by decide) ?_
  refine lv_istore_n (lv' := [(2, .int (0 : Int32)), (0, .ref (ad 0)), (1, .ref (ad k1))]) hx hb dX9_isTakingTheSame_1 rfl hl (by decide) rfl (fun ls hl => ?_)
  obtain ⟨n21, h⟩ := h
  have L0 : ∀ (n : Nat) (v2 : Int32) (H : Heap) (locs : List Loc) (ls : Array Slot), TW D ad cI cM s μ H locs → lv_has ls 5 [(2, .int v2), (0, .ref (ad 0)), (1, .ref (ad k1))] → wpl_X9_isTakingTheSame_2 k1 μ Q n v2 → W p l e (RM 4) s m #[.ref (ad 0), .ref (ad k1)] below meth c H locs 0 0 Z (F0 m 2 ls []) := by
    intro n
    induction n with
    | zero => intro v2 H locs ls hw hl h; exact False.elim h
    | succ n ih0 =>
      intro v2 H locs ls hw hl h
      change ((2 : Int32) < v2 → (Q (1 : Int32))) ∧ (¬ (2 : Int32) < v2 → (wp_X9_countCodes v2 (fun (r4 : Int32) => ∃ n4x, wpl_X9_isTakingTheSame_15 k1 μ r4 v2 (wpl_X9_isTakingTheSame_2 k1 μ Q n (v2 + (1 : Int32))) Q n4x (0 : Int32)))) at h
      refine lv_iload_n hx hb dX9_isTakingTheSame_2 rfl (lv_at hl 0 rfl) ?_
      refine lv_iconst (v := (2 : Int32)) hx hb dX9_isTakingTheSame_3 (by decide) ?_
      refine lv_icmp_gt (tgt := 62) hx hb dX9_isTakingTheSame_4 (by decide) (fun c3 => ?_) (fun c3 => ?_)
      · have h := h.1 c3
        refine lv_iconst (v := (1 : Int32)) hx hb dX9_isTakingTheSame_62 (by decide) ?_
        exact hret H locs ls 63 _ _ hw ⟨rfl, h⟩ rfl dX9_isTakingTheSame_63
      have h := h.2 c3
      refine lv_iload_n hx hb dX9_isTakingTheSame_7 rfl (lv_at hl 0 rfl) ?_
      refine P_calli (va_runS (own := "Leastreader") (As := [.int v2]) (rest := []) ⟨hx, hb, hml, hown, ht⟩ (c_X9_countCodes v2 h) (va_cwS 1 ht (G_S q_532 q_533 q_46 q_534) rfl rfl rfl hd_30 ⟨Nat.le_of_ble_eq_true rfl, Nat.le_of_ble_eq_true rfl⟩) ⟨PM_blind, PM_pre⟩ rfl rfl hl.1 rfl (lv_room (Nat.le_of_ble_eq_true rfl)) dX9_isTakingTheSame_8 ⟨Nat.le_of_ble_eq_true rfl, Nat.le_of_ble_eq_true rfl⟩) (fun r4 h => ?_)
      refine lv_istore_n (lv' := [(3, .int r4), (2, .int v2), (0, .ref (ad 0)), (1, .ref (ad k1))]) hx hb dX9_isTakingTheSame_11 rfl hl (by decide) rfl (fun ls hl => ?_)
      refine lv_iconst (v := (0 : Int32)) hx hb dX9_isTakingTheSame_12 (by decide) ?_
      refine lv_istore (lv' := [(4, .int (0 : Int32)), (3, .int r4), (2, .int v2), (0, .ref (ad 0)), (1, .ref (ad k1))]) hx hb dX9_isTakingTheSame_13 hl (by decide) rfl (fun ls hl => ?_)
      obtain ⟨n20, h⟩ := h
      have L4 : ∀ (v7 : Int32) (v8 : Int32) (K56 : Prop), (∀ (H : Heap) (locs : List Loc) (ls : Array Slot), TW D ad cI cM s μ H locs → lv_has ls 5 [(2, .int v8), (0, .ref (ad 0)), (1, .ref (ad k1))] → K56 → W p l e (RM 4) s m #[.ref (ad 0), .ref (ad k1)] below meth c H locs 0 0 Z (F0 m 56 ls [])) → ∀ (n : Nat) (v6 : Int32) (H : Heap) (locs : List Loc) (ls : Array Slot), TW D ad cI cM s μ H locs → lv_has ls 5 [(4, .int v6), (3, .int v7), (2, .int v8), (0, .ref (ad 0)), (1, .ref (ad k1))] → wpl_X9_isTakingTheSame_15 k1 μ v7 v8 K56 Q n v6 → W p l e (RM 4) s m #[.ref (ad 0), .ref (ad k1)] below meth c H locs 0 0 Z (F0 m 15 ls []) := by
        intro v7 v8 K56 hK56
        intro n
        induction n with
        | zero => intro v6 H locs ls hw hl h; exact False.elim h
        | succ n ih4 =>
          intro v6 H locs ls hw hl h
          change (v7 ≤ v6 → (K56)) ∧ (¬ v7 ≤ v6 → (wp_X5_stateAfter 57 μ v8 v6 (fun (r10 : Int32) => wp_X5_isGoal 57 μ r10 (fun (r13 : Int32) => wp_X2_isTaking k1 μ v8 v6 (fun (r16 : Int32) => (r13 = r16 → (wpl_X9_isTakingTheSame_15 k1 μ v7 v8 K56 Q n (v6 + (1 : Int32)))) ∧ (¬ r13 = r16 → (Q (0 : Int32)))))))) at h
          refine lv_iload hx hb dX9_isTakingTheSame_15 (lv_at hl 0 rfl) ?_
          refine lv_iload_n hx hb dX9_isTakingTheSame_17 rfl (lv_at hl 1 rfl) ?_
          refine lv_icmp_ge (tgt := 56) hx hb dX9_isTakingTheSame_18 (by decide) (fun c9 => ?_) (fun c9 => ?_)
          · have h := h.1 c9
            exact hK56 H locs ls hw (lv_sub hl [2, 3, 4] rfl) h
          have h := h.2 c9
          refine lv_aload_n hx hb dX9_isTakingTheSame_21 rfl (lv_at hl 3 rfl) ?_
          refine gf_X9_66 hx hb ht hown hK hw rfl dX9_isTakingTheSame_22 ?_
          refine lv_aload_n hx hb dX9_isTakingTheSame_25 rfl (lv_at hl 3 rfl) ?_
          refine gf_X9_66 hx hb ht hown hK hw rfl dX9_isTakingTheSame_26 ?_
          refine lv_iload_n hx hb dX9_isTakingTheSame_29 rfl (lv_at hl 2 rfl) ?_
          refine lv_iload hx hb dX9_isTakingTheSame_30 (lv_at hl 0 rfl) ?_
          refine T_calli hw (va_runV (own := "Leastreader") (As := [.int v8, .int v6]) (rest := [.ref (ad 57)]) ⟨hx, hb, hml, hown, ht⟩ (c_X5_stateAfter 57 rfl μ H.size v8 v6 h) (cwV 2 ht (G_V q_535 q_536 q_537 q_53 q_538) rfl rfl rfl ⟨rfl, hd_31⟩ ⟨Nat.le_of_ble_eq_true rfl, Nat.le_of_ble_eq_true rfl⟩) ⟨TB.blind, (T_recv hK hw (kd_of rfl (by decide)) (ent_5 rfl) cl_5), TB.pre hK hN hw⟩ rfl rfl hl.1 rfl (lv_room (Nat.le_of_ble_eq_true rfl)) dX9_isTakingTheSame_32 ⟨Nat.le_of_ble_eq_true rfl, Nat.le_of_ble_eq_true rfl⟩) (fun r10 μ11 H locs h hw => ?_)
          obtain ⟨e12, h⟩ := h
          rw [e12] at hw
          refine T_calli hw (va_runV (own := "Leastreader") (As := [.int r10]) (rest := []) ⟨hx, hb, hml, hown, ht⟩ (c_X5_isGoal 57 rfl μ H.size r10 h) (cwV 1 ht (G_V q_540 q_462 q_463 q_53 q_464) rfl rfl rfl ⟨rfl, hd_18⟩ ⟨Nat.le_of_ble_eq_true rfl, Nat.le_of_ble_eq_true rfl⟩) ⟨TB.blind, (T_recv hK hw (kd_of rfl (by decide)) (ent_5 rfl) cl_5), TB.pre hK hN hw⟩ rfl rfl hl.1 rfl (lv_room (Nat.le_of_ble_eq_true rfl)) dX9_isTakingTheSame_35 ⟨Nat.le_of_ble_eq_true rfl, Nat.le_of_ble_eq_true rfl⟩) (fun r13 μ14 H locs h hw => ?_)
          obtain ⟨e15, h⟩ := h
          rw [e15] at hw
          refine lv_aload_n hx hb dX9_isTakingTheSame_38 rfl (lv_at hl 4 rfl) ?_
          refine lv_iload_n hx hb dX9_isTakingTheSame_39 rfl (lv_at hl 2 rfl) ?_
          refine lv_iload hx hb dX9_isTakingTheSame_40 (lv_at hl 0 rfl) ?_
          refine T_calli hw (va_runV (own := "Leastreader") (As := [.int v8, .int v6]) (rest := [.int r13]) ⟨hx, hb, hml, hown, ht⟩ (c_X2_isTaking k1 hk1 μ H.size v8 v6 h) (cwV 2 ht (G_V q_541 q_542 q_543 q_48 q_544) rfl rfl rfl ⟨rfl, hd_32⟩ ⟨Nat.le_of_ble_eq_true rfl, Nat.le_of_ble_eq_true rfl⟩) ⟨TB.blind, (T_recv hK hw (kd_of hk1 (by decide)) (ent_2 hk1) cl_2), TB.pre hK hN hw⟩ rfl rfl hl.1 rfl (lv_room (Nat.le_of_ble_eq_true rfl)) dX9_isTakingTheSame_42 ⟨Nat.le_of_ble_eq_true rfl, Nat.le_of_ble_eq_true rfl⟩) (fun r16 μ17 H locs h hw => ?_)
          obtain ⟨e18, h⟩ := h
          rw [e18] at hw
          refine lv_icmp_eq (tgt := 50) hx hb dX9_isTakingTheSame_45 (by decide) (fun c19 => ?_) (fun c19 => ?_)
          · have h := h.1 c19
            refine lv_iinc (v := (v6 + (1 : Int32))) (lv' := [(4, .int (v6 + (1 : Int32))), (3, .int v7), (2, .int v8), (0, .ref (ad 0)), (1, .ref (ad k1))]) hx hb dX9_isTakingTheSame_50 hl (k := 0) rfl rfl (by decide) rfl (fun ls hl => ?_)
            refine lv_goto (tgt := 15) hx hb dX9_isTakingTheSame_53 (by decide) ?_
            exact ih4 (v6 + (1 : Int32)) H locs ls hw (lv_sub hl [0, 1, 2, 3, 4] rfl) h
          have h := h.2 c19
          refine lv_iconst (v := (0 : Int32)) hx hb dX9_isTakingTheSame_48 (by decide) ?_
          exact hret H locs ls 49 _ _ hw ⟨rfl, h⟩ rfl dX9_isTakingTheSame_49
      refine L4 r4 v2 _ ?_ n20 (0 : Int32) H locs ls hw (lv_sub hl [0, 1, 2, 3, 4] rfl) h
      intro H locs ls hw hl h
      refine lv_iinc (v := (v2 + (1 : Int32))) (lv' := [(2, .int (v2 + (1 : Int32))), (0, .ref (ad 0)), (1, .ref (ad k1))]) hx hb dX9_isTakingTheSame_56 hl (k := 0) rfl rfl (by decide) rfl (fun ls hl => ?_)
      refine lv_goto (tgt := 2) hx hb dX9_isTakingTheSame_59 (by decide) ?_
      exact ih0 (v2 + (1 : Int32)) H locs ls hw (lv_sub hl [0, 1, 2] rfl) h
  exact L0 n21 (0 : Int32) H locs ls hw (lv_sub hl [0, 1, 2] rfl) h
def wp_J6_bitCount_0f7a4 (a0 : Int32) (Q : Int32 → Prop) : Prop :=
  Q ((((((((a0 - ((a0.toUInt32 >>> ((1 : Int32).toUInt32 &&& Int32.toUInt32 31)).toInt32 &&& (1431655765 : Int32))) &&& (858993459 : Int32)) + (((a0 - ((a0.toUInt32 >>> ((1 : Int32).toUInt32 &&& Int32.toUInt32 31)).toInt32 &&& (1431655765 : Int32))).toUInt32 >>> ((2 : Int32).toUInt32 &&& Int32.toUInt32 31)).toInt32 &&& (858993459 : Int32))) + ((((a0 - ((a0.toUInt32 >>> ((1 : Int32).toUInt32 &&& Int32.toUInt32 31)).toInt32 &&& (1431655765 : Int32))) &&& (858993459 : Int32)) + (((a0 - ((a0.toUInt32 >>> ((1 : Int32).toUInt32 &&& Int32.toUInt32 31)).toInt32 &&& (1431655765 : Int32))).toUInt32 >>> ((2 : Int32).toUInt32 &&& Int32.toUInt32 31)).toInt32 &&& (858993459 : Int32))).toUInt32 >>> ((4 : Int32).toUInt32 &&& Int32.toUInt32 31)).toInt32) &&& (252645135 : Int32)) + ((((((a0 - ((a0.toUInt32 >>> ((1 : Int32).toUInt32 &&& Int32.toUInt32 31)).toInt32 &&& (1431655765 : Int32))) &&& (858993459 : Int32)) + (((a0 - ((a0.toUInt32 >>> ((1 : Int32).toUInt32 &&& Int32.toUInt32 31)).toInt32 &&& (1431655765 : Int32))).toUInt32 >>> ((2 : Int32).toUInt32 &&& Int32.toUInt32 31)).toInt32 &&& (858993459 : Int32))) + ((((a0 - ((a0.toUInt32 >>> ((1 : Int32).toUInt32 &&& Int32.toUInt32 31)).toInt32 &&& (1431655765 : Int32))) &&& (858993459 : Int32)) + (((a0 - ((a0.toUInt32 >>> ((1 : Int32).toUInt32 &&& Int32.toUInt32 31)).toInt32 &&& (1431655765 : Int32))).toUInt32 >>> ((2 : Int32).toUInt32 &&& Int32.toUInt32 31)).toInt32 &&& (858993459 : Int32))).toUInt32 >>> ((4 : Int32).toUInt32 &&& Int32.toUInt32 31)).toInt32) &&& (252645135 : Int32)).toUInt32 >>> ((8 : Int32).toUInt32 &&& Int32.toUInt32 31)).toInt32) + (((((((a0 - ((a0.toUInt32 >>> ((1 : Int32).toUInt32 &&& Int32.toUInt32 31)).toInt32 &&& (1431655765 : Int32))) &&& (858993459 : Int32)) + (((a0 - ((a0.toUInt32 >>> ((1 : Int32).toUInt32 &&& Int32.toUInt32 31)).toInt32 &&& (1431655765 : Int32))).toUInt32 >>> ((2 : Int32).toUInt32 &&& Int32.toUInt32 31)).toInt32 &&& (858993459 : Int32))) + ((((a0 - ((a0.toUInt32 >>> ((1 : Int32).toUInt32 &&& Int32.toUInt32 31)).toInt32 &&& (1431655765 : Int32))) &&& (858993459 : Int32)) + (((a0 - ((a0.toUInt32 >>> ((1 : Int32).toUInt32 &&& Int32.toUInt32 31)).toInt32 &&& (1431655765 : Int32))).toUInt32 >>> ((2 : Int32).toUInt32 &&& Int32.toUInt32 31)).toInt32 &&& (858993459 : Int32))).toUInt32 >>> ((4 : Int32).toUInt32 &&& Int32.toUInt32 31)).toInt32) &&& (252645135 : Int32)) + ((((((a0 - ((a0.toUInt32 >>> ((1 : Int32).toUInt32 &&& Int32.toUInt32 31)).toInt32 &&& (1431655765 : Int32))) &&& (858993459 : Int32)) + (((a0 - ((a0.toUInt32 >>> ((1 : Int32).toUInt32 &&& Int32.toUInt32 31)).toInt32 &&& (1431655765 : Int32))).toUInt32 >>> ((2 : Int32).toUInt32 &&& Int32.toUInt32 31)).toInt32 &&& (858993459 : Int32))) + ((((a0 - ((a0.toUInt32 >>> ((1 : Int32).toUInt32 &&& Int32.toUInt32 31)).toInt32 &&& (1431655765 : Int32))) &&& (858993459 : Int32)) + (((a0 - ((a0.toUInt32 >>> ((1 : Int32).toUInt32 &&& Int32.toUInt32 31)).toInt32 &&& (1431655765 : Int32))).toUInt32 >>> ((2 : Int32).toUInt32 &&& Int32.toUInt32 31)).toInt32 &&& (858993459 : Int32))).toUInt32 >>> ((4 : Int32).toUInt32 &&& Int32.toUInt32 31)).toInt32) &&& (252645135 : Int32)).toUInt32 >>> ((8 : Int32).toUInt32 &&& Int32.toUInt32 31)).toInt32).toUInt32 >>> ((16 : Int32).toUInt32 &&& Int32.toUInt32 31)).toInt32) &&& (63 : Int32))
set_option maxHeartbeats 4000000 in
set_option maxRecDepth 100000 in
theorem c_J6_bitCount_0f7a4 {l : Launch} (a0 : Int32) {Q : Int32 → Prop} (h : wp_J6_bitCount_0f7a4 a0 Q) : PMi l yJ6_bitCount_0f7a4 (.code yJ6_bitCount_0f7a4 cJ6_bitCount_0f7a4 1 (Option.some Jvm.ClassFile.FieldType.int)) 0 [.int a0] Q := by
  refine P_meti (by decide +kernel) (Nat.le_of_ble_eq_true rfl) ?_
  intro p e s m below meth c Z ls hx hb hml hown ht hret hl
  have hl : lv_has ls 1 [(0, .int a0)] := hl
  change Q ((((((((a0 - ((a0.toUInt32 >>> ((1 : Int32).toUInt32 &&& Int32.toUInt32 31)).toInt32 &&& (1431655765 : Int32))) &&& (858993459 : Int32)) + (((a0 - ((a0.toUInt32 >>> ((1 : Int32).toUInt32 &&& Int32.toUInt32 31)).toInt32 &&& (1431655765 : Int32))).toUInt32 >>> ((2 : Int32).toUInt32 &&& Int32.toUInt32 31)).toInt32 &&& (858993459 : Int32))) + ((((a0 - ((a0.toUInt32 >>> ((1 : Int32).toUInt32 &&& Int32.toUInt32 31)).toInt32 &&& (1431655765 : Int32))) &&& (858993459 : Int32)) + (((a0 - ((a0.toUInt32 >>> ((1 : Int32).toUInt32 &&& Int32.toUInt32 31)).toInt32 &&& (1431655765 : Int32))).toUInt32 >>> ((2 : Int32).toUInt32 &&& Int32.toUInt32 31)).toInt32 &&& (858993459 : Int32))).toUInt32 >>> ((4 : Int32).toUInt32 &&& Int32.toUInt32 31)).toInt32) &&& (252645135 : Int32)) + ((((((a0 - ((a0.toUInt32 >>> ((1 : Int32).toUInt32 &&& Int32.toUInt32 31)).toInt32 &&& (1431655765 : Int32))) &&& (858993459 : Int32)) + (((a0 - ((a0.toUInt32 >>> ((1 : Int32).toUInt32 &&& Int32.toUInt32 31)).toInt32 &&& (1431655765 : Int32))).toUInt32 >>> ((2 : Int32).toUInt32 &&& Int32.toUInt32 31)).toInt32 &&& (858993459 : Int32))) + ((((a0 - ((a0.toUInt32 >>> ((1 : Int32).toUInt32 &&& Int32.toUInt32 31)).toInt32 &&& (1431655765 : Int32))) &&& (858993459 : Int32)) + (((a0 - ((a0.toUInt32 >>> ((1 : Int32).toUInt32 &&& Int32.toUInt32 31)).toInt32 &&& (1431655765 : Int32))).toUInt32 >>> ((2 : Int32).toUInt32 &&& Int32.toUInt32 31)).toInt32 &&& (858993459 : Int32))).toUInt32 >>> ((4 : Int32).toUInt32 &&& Int32.toUInt32 31)).toInt32) &&& (252645135 : Int32)).toUInt32 >>> ((8 : Int32).toUInt32 &&& Int32.toUInt32 31)).toInt32) + (((((((a0 - ((a0.toUInt32 >>> ((1 : Int32).toUInt32 &&& Int32.toUInt32 31)).toInt32 &&& (1431655765 : Int32))) &&& (858993459 : Int32)) + (((a0 - ((a0.toUInt32 >>> ((1 : Int32).toUInt32 &&& Int32.toUInt32 31)).toInt32 &&& (1431655765 : Int32))).toUInt32 >>> ((2 : Int32).toUInt32 &&& Int32.toUInt32 31)).toInt32 &&& (858993459 : Int32))) + ((((a0 - ((a0.toUInt32 >>> ((1 : Int32).toUInt32 &&& Int32.toUInt32 31)).toInt32 &&& (1431655765 : Int32))) &&& (858993459 : Int32)) + (((a0 - ((a0.toUInt32 >>> ((1 : Int32).toUInt32 &&& Int32.toUInt32 31)).toInt32 &&& (1431655765 : Int32))).toUInt32 >>> ((2 : Int32).toUInt32 &&& Int32.toUInt32 31)).toInt32 &&& (858993459 : Int32))).toUInt32 >>> ((4 : Int32).toUInt32 &&& Int32.toUInt32 31)).toInt32) &&& (252645135 : Int32)) + ((((((a0 - ((a0.toUInt32 >>> ((1 : Int32).toUInt32 &&& Int32.toUInt32 31)).toInt32 &&& (1431655765 : Int32))) &&& (858993459 : Int32)) + (((a0 - ((a0.toUInt32 >>> ((1 : Int32).toUInt32 &&& Int32.toUInt32 31)).toInt32 &&& (1431655765 : Int32))).toUInt32 >>> ((2 : Int32).toUInt32 &&& Int32.toUInt32 31)).toInt32 &&& (858993459 : Int32))) + ((((a0 - ((a0.toUInt32 >>> ((1 : Int32).toUInt32 &&& Int32.toUInt32 31)).toInt32 &&& (1431655765 : Int32))) &&& (858993459 : Int32)) + (((a0 - ((a0.toUInt32 >>> ((1 : Int32).toUInt32 &&& Int32.toUInt32 31)).toInt32 &&& (1431655765 : Int32))).toUInt32 >>> ((2 : Int32).toUInt32 &&& Int32.toUInt32 31)).toInt32 &&& (858993459 : Int32))).toUInt32 >>> ((4 : Int32).toUInt32 &&& Int32.toUInt32 31)).toInt32) &&& (252645135 : Int32)).toUInt32 >>> ((8 : Int32).toUInt32 &&& Int32.toUInt32 31)).toInt32).toUInt32 >>> ((16 : Int32).toUInt32 &&& Int32.toUInt32 31)).toInt32) &&& (63 : Int32)) at h
  refine lv_iload_n hx hb dJ6_bitCount_0f7a4_0 rfl (lv_at hl 0 rfl) ?_
  refine lv_iload_n hx hb dJ6_bitCount_0f7a4_1 rfl (lv_at hl 0 rfl) ?_
  refine lv_iconst (v := (1 : Int32)) hx hb dJ6_bitCount_0f7a4_2 (by decide) ?_
  refine lv_iushr hx hb dJ6_bitCount_0f7a4_3 rfl ?_
  refine lv_ldcw (v := (1431655765 : Int32)) hx hb hown (ht _ q_566) dJ6_bitCount_0f7a4_4 ?_
  refine lv_iand hx hb dJ6_bitCount_0f7a4_7 ?_
  refine lv_isub hx hb dJ6_bitCount_0f7a4_8 ?_
  refine lv_istore_n (lv' := [(0, .int (a0 - ((a0.toUInt32 >>> ((1 : Int32).toUInt32 &&& Int32.toUInt32 31)).toInt32 &&& (1431655765 : Int32))))]) hx hb dJ6_bitCount_0f7a4_9 rfl hl (by decide) rfl (fun ls hl => ?_)
  refine lv_iload_n hx hb dJ6_bitCount_0f7a4_10 rfl (lv_at hl 0 rfl) ?_
  refine lv_ldcw (v := (858993459 : Int32)) hx hb hown (ht _ q_567) dJ6_bitCount_0f7a4_11 ?_
  refine lv_iand hx hb dJ6_bitCount_0f7a4_14 ?_
  refine lv_iload_n hx hb dJ6_bitCount_0f7a4_15 rfl (lv_at hl 0 rfl) ?_
  refine lv_iconst (v := (2 : Int32)) hx hb dJ6_bitCount_0f7a4_16 (by decide) ?_
  refine lv_iushr hx hb dJ6_bitCount_0f7a4_17 rfl ?_
  refine lv_ldcw (v := (858993459 : Int32)) hx hb hown (ht _ q_567) dJ6_bitCount_0f7a4_18 ?_
  refine lv_iand hx hb dJ6_bitCount_0f7a4_21 ?_
  refine lv_iadd hx hb dJ6_bitCount_0f7a4_22 ?_
  refine lv_istore_n (lv' := [(0, .int (((a0 - ((a0.toUInt32 >>> ((1 : Int32).toUInt32 &&& Int32.toUInt32 31)).toInt32 &&& (1431655765 : Int32))) &&& (858993459 : Int32)) + (((a0 - ((a0.toUInt32 >>> ((1 : Int32).toUInt32 &&& Int32.toUInt32 31)).toInt32 &&& (1431655765 : Int32))).toUInt32 >>> ((2 : Int32).toUInt32 &&& Int32.toUInt32 31)).toInt32 &&& (858993459 : Int32))))]) hx hb dJ6_bitCount_0f7a4_23 rfl hl (by decide) rfl (fun ls hl => ?_)
  refine lv_iload_n hx hb dJ6_bitCount_0f7a4_24 rfl (lv_at hl 0 rfl) ?_
  refine lv_iload_n hx hb dJ6_bitCount_0f7a4_25 rfl (lv_at hl 0 rfl) ?_
  refine lv_iconst (v := (4 : Int32)) hx hb dJ6_bitCount_0f7a4_26 (by decide) ?_
  refine lv_iushr hx hb dJ6_bitCount_0f7a4_27 rfl ?_
  refine lv_iadd hx hb dJ6_bitCount_0f7a4_28 ?_
  refine lv_ldcw (v := (252645135 : Int32)) hx hb hown (ht _ q_568) dJ6_bitCount_0f7a4_29 ?_
  refine lv_iand hx hb dJ6_bitCount_0f7a4_32 ?_
  refine lv_istore_n (lv' := [(0, .int (((((a0 - ((a0.toUInt32 >>> ((1 : Int32).toUInt32 &&& Int32.toUInt32 31)).toInt32 &&& (1431655765 : Int32))) &&& (858993459 : Int32)) + (((a0 - ((a0.toUInt32 >>> ((1 : Int32).toUInt32 &&& Int32.toUInt32 31)).toInt32 &&& (1431655765 : Int32))).toUInt32 >>> ((2 : Int32).toUInt32 &&& Int32.toUInt32 31)).toInt32 &&& (858993459 : Int32))) + ((((a0 - ((a0.toUInt32 >>> ((1 : Int32).toUInt32 &&& Int32.toUInt32 31)).toInt32 &&& (1431655765 : Int32))) &&& (858993459 : Int32)) + (((a0 - ((a0.toUInt32 >>> ((1 : Int32).toUInt32 &&& Int32.toUInt32 31)).toInt32 &&& (1431655765 : Int32))).toUInt32 >>> ((2 : Int32).toUInt32 &&& Int32.toUInt32 31)).toInt32 &&& (858993459 : Int32))).toUInt32 >>> ((4 : Int32).toUInt32 &&& Int32.toUInt32 31)).toInt32) &&& (252645135 : Int32)))]) hx hb dJ6_bitCount_0f7a4_33 rfl hl (by decide) rfl (fun ls hl => ?_)
  refine lv_iload_n hx hb dJ6_bitCount_0f7a4_34 rfl (lv_at hl 0 rfl) ?_
  refine lv_iload_n hx hb dJ6_bitCount_0f7a4_35 rfl (lv_at hl 0 rfl) ?_
  refine lv_bipush (v := (8 : Int32)) hx hb dJ6_bitCount_0f7a4_36 (by decide) ?_
  refine lv_iushr hx hb dJ6_bitCount_0f7a4_38 rfl ?_
  refine lv_iadd hx hb dJ6_bitCount_0f7a4_39 ?_
  refine lv_istore_n (lv' := [(0, .int ((((((a0 - ((a0.toUInt32 >>> ((1 : Int32).toUInt32 &&& Int32.toUInt32 31)).toInt32 &&& (1431655765 : Int32))) &&& (858993459 : Int32)) + (((a0 - ((a0.toUInt32 >>> ((1 : Int32).toUInt32 &&& Int32.toUInt32 31)).toInt32 &&& (1431655765 : Int32))).toUInt32 >>> ((2 : Int32).toUInt32 &&& Int32.toUInt32 31)).toInt32 &&& (858993459 : Int32))) + ((((a0 - ((a0.toUInt32 >>> ((1 : Int32).toUInt32 &&& Int32.toUInt32 31)).toInt32 &&& (1431655765 : Int32))) &&& (858993459 : Int32)) + (((a0 - ((a0.toUInt32 >>> ((1 : Int32).toUInt32 &&& Int32.toUInt32 31)).toInt32 &&& (1431655765 : Int32))).toUInt32 >>> ((2 : Int32).toUInt32 &&& Int32.toUInt32 31)).toInt32 &&& (858993459 : Int32))).toUInt32 >>> ((4 : Int32).toUInt32 &&& Int32.toUInt32 31)).toInt32) &&& (252645135 : Int32)) + ((((((a0 - ((a0.toUInt32 >>> ((1 : Int32).toUInt32 &&& Int32.toUInt32 31)).toInt32 &&& (1431655765 : Int32))) &&& (858993459 : Int32)) + (((a0 - ((a0.toUInt32 >>> ((1 : Int32).toUInt32 &&& Int32.toUInt32 31)).toInt32 &&& (1431655765 : Int32))).toUInt32 >>> ((2 : Int32).toUInt32 &&& Int32.toUInt32 31)).toInt32 &&& (858993459 : Int32))) + ((((a0 - ((a0.toUInt32 >>> ((1 : Int32).toUInt32 &&& Int32.toUInt32 31)).toInt32 &&& (1431655765 : Int32))) &&& (858993459 : Int32)) + (((a0 - ((a0.toUInt32 >>> ((1 : Int32).toUInt32 &&& Int32.toUInt32 31)).toInt32 &&& (1431655765 : Int32))).toUInt32 >>> ((2 : Int32).toUInt32 &&& Int32.toUInt32 31)).toInt32 &&& (858993459 : Int32))).toUInt32 >>> ((4 : Int32).toUInt32 &&& Int32.toUInt32 31)).toInt32) &&& (252645135 : Int32)).toUInt32 >>> ((8 : Int32).toUInt32 &&& Int32.toUInt32 31)).toInt32))]) hx hb dJ6_bitCount_0f7a4_40 rfl hl (by decide) rfl (fun ls hl => ?_)
  refine lv_iload_n hx hb dJ6_bitCount_0f7a4_41 rfl (lv_at hl 0 rfl) ?_
  refine lv_iload_n hx hb dJ6_bitCount_0f7a4_42 rfl (lv_at hl 0 rfl) ?_
  refine lv_bipush (v := (16 : Int32)) hx hb dJ6_bitCount_0f7a4_43 (by decide) ?_
  refine lv_iushr hx hb dJ6_bitCount_0f7a4_45 rfl ?_
  refine lv_iadd hx hb dJ6_bitCount_0f7a4_46 ?_
  refine lv_istore_n (lv' := [(0, .int (((((((a0 - ((a0.toUInt32 >>> ((1 : Int32).toUInt32 &&& Int32.toUInt32 31)).toInt32 &&& (1431655765 : Int32))) &&& (858993459 : Int32)) + (((a0 - ((a0.toUInt32 >>> ((1 : Int32).toUInt32 &&& Int32.toUInt32 31)).toInt32 &&& (1431655765 : Int32))).toUInt32 >>> ((2 : Int32).toUInt32 &&& Int32.toUInt32 31)).toInt32 &&& (858993459 : Int32))) + ((((a0 - ((a0.toUInt32 >>> ((1 : Int32).toUInt32 &&& Int32.toUInt32 31)).toInt32 &&& (1431655765 : Int32))) &&& (858993459 : Int32)) + (((a0 - ((a0.toUInt32 >>> ((1 : Int32).toUInt32 &&& Int32.toUInt32 31)).toInt32 &&& (1431655765 : Int32))).toUInt32 >>> ((2 : Int32).toUInt32 &&& Int32.toUInt32 31)).toInt32 &&& (858993459 : Int32))).toUInt32 >>> ((4 : Int32).toUInt32 &&& Int32.toUInt32 31)).toInt32) &&& (252645135 : Int32)) + ((((((a0 - ((a0.toUInt32 >>> ((1 : Int32).toUInt32 &&& Int32.toUInt32 31)).toInt32 &&& (1431655765 : Int32))) &&& (858993459 : Int32)) + (((a0 - ((a0.toUInt32 >>> ((1 : Int32).toUInt32 &&& Int32.toUInt32 31)).toInt32 &&& (1431655765 : Int32))).toUInt32 >>> ((2 : Int32).toUInt32 &&& Int32.toUInt32 31)).toInt32 &&& (858993459 : Int32))) + ((((a0 - ((a0.toUInt32 >>> ((1 : Int32).toUInt32 &&& Int32.toUInt32 31)).toInt32 &&& (1431655765 : Int32))) &&& (858993459 : Int32)) + (((a0 - ((a0.toUInt32 >>> ((1 : Int32).toUInt32 &&& Int32.toUInt32 31)).toInt32 &&& (1431655765 : Int32))).toUInt32 >>> ((2 : Int32).toUInt32 &&& Int32.toUInt32 31)).toInt32 &&& (858993459 : Int32))).toUInt32 >>> ((4 : Int32).toUInt32 &&& Int32.toUInt32 31)).toInt32) &&& (252645135 : Int32)).toUInt32 >>> ((8 : Int32).toUInt32 &&& Int32.toUInt32 31)).toInt32) + (((((((a0 - ((a0.toUInt32 >>> ((1 : Int32).toUInt32 &&& Int32.toUInt32 31)).toInt32 &&& (1431655765 : Int32))) &&& (858993459 : Int32)) + (((a0 - ((a0.toUInt32 >>> ((1 : Int32).toUInt32 &&& Int32.toUInt32 31)).toInt32 &&& (1431655765 : Int32))).toUInt32 >>> ((2 : Int32).toUInt32 &&& Int32.toUInt32 31)).toInt32 &&& (858993459 : Int32))) + ((((a0 - ((a0.toUInt32 >>> ((1 : Int32).toUInt32 &&& Int32.toUInt32 31)).toInt32 &&& (1431655765 : Int32))) &&& (858993459 : Int32)) + (((a0 - ((a0.toUInt32 >>> ((1 : Int32).toUInt32 &&& Int32.toUInt32 31)).toInt32 &&& (1431655765 : Int32))).toUInt32 >>> ((2 : Int32).toUInt32 &&& Int32.toUInt32 31)).toInt32 &&& (858993459 : Int32))).toUInt32 >>> ((4 : Int32).toUInt32 &&& Int32.toUInt32 31)).toInt32) &&& (252645135 : Int32)) + ((((((a0 - ((a0.toUInt32 >>> ((1 : Int32).toUInt32 &&& Int32.toUInt32 31)).toInt32 &&& (1431655765 : Int32))) &&& (858993459 : Int32)) + (((a0 - ((a0.toUInt32 >>> ((1 : Int32).toUInt32 &&& Int32.toUInt32 31)).toInt32 &&& (1431655765 : Int32))).toUInt32 >>> ((2 : Int32).toUInt32 &&& Int32.toUInt32 31)).toInt32 &&& (858993459 : Int32))) + ((((a0 - ((a0.toUInt32 >>> ((1 : Int32).toUInt32 &&& Int32.toUInt32 31)).toInt32 &&& (1431655765 : Int32))) &&& (858993459 : Int32)) + (((a0 - ((a0.toUInt32 >>> ((1 : Int32).toUInt32 &&& Int32.toUInt32 31)).toInt32 &&& (1431655765 : Int32))).toUInt32 >>> ((2 : Int32).toUInt32 &&& Int32.toUInt32 31)).toInt32 &&& (858993459 : Int32))).toUInt32 >>> ((4 : Int32).toUInt32 &&& Int32.toUInt32 31)).toInt32) &&& (252645135 : Int32)).toUInt32 >>> ((8 : Int32).toUInt32 &&& Int32.toUInt32 31)).toInt32).toUInt32 >>> ((16 : Int32).toUInt32 &&& Int32.toUInt32 31)).toInt32))]) hx hb dJ6_bitCount_0f7a4_47 rfl hl (by decide) rfl (fun ls hl => ?_)
  refine lv_iload_n hx hb dJ6_bitCount_0f7a4_48 rfl (lv_at hl 0 rfl) ?_
  refine lv_bipush (v := (63 : Int32)) hx hb dJ6_bitCount_0f7a4_49 (by decide) ?_
  refine lv_iand hx hb dJ6_bitCount_0f7a4_51 ?_
  exact hret ls 52 _ h rfl dJ6_bitCount_0f7a4_52
def wpl_X2_countArrows_14 (k0 : Nat) (μ : TMem) (v7 : Int32) (K37 : Int32 → Prop) : Nat → Int32 → Int32 → Prop
  | 0, _, _ => False
  | n + 1, v6, v8 =>
    ((3 : Int32) ≤ v6 → (K37 v8)) ∧ (¬ (3 : Int32) ≤ v6 → (wp_X7_at k0 μ v7 v6 (fun (r10 : Int32) => wp_J6_bitCount_0f7a4 r10 (fun (r13 : Int32) => wpl_X2_countArrows_14 k0 μ v7 K37 n (v6 + (1 : Int32)) (v8 + r13)))))
def wpl_X2_countArrows_4 (k0 : Nat) (μ : TMem) (Q : Int32 → Prop) : Nat → Int32 → Int32 → Prop
  | 0, _, _ => False
  | n + 1, v2, v3 =>
    ((μ k0 1) ≤ v2 → (Q v3)) ∧ (¬ (μ k0 1) ≤ v2 → (∃ n4x, wpl_X2_countArrows_14 k0 μ v2 (fun (u15 : Int32) => wpl_X2_countArrows_4 k0 μ Q n (v2 + (1 : Int32)) u15) n4x (0 : Int32) v3))
def wp_X2_countArrows (k0 : Nat) (μ : TMem) (Q : Int32 → Prop) : Prop :=
  ∃ n0x, wpl_X2_countArrows_4 k0 μ Q n0x (0 : Int32) (0 : Int32)
set_option maxHeartbeats 4000000 in
set_option maxRecDepth 100000 in
theorem c_X2_countArrows {l : Launch} {D : va_G} {ad : Nat → Nat} {cI cM : ClassId} (k0 : Nat) (hk0 : kd k0 = 2) (μ : TMem) (sz : Nat)  {Q : Int32 → Prop} (h : wp_X2_countArrows k0 μ Q) : TMi l yX2_countArrows (.code yX2_countArrows cX2_countArrows 4 (Option.some Jvm.ClassFile.FieldType.int)) 1 [.ref (ad k0)] D ad cI cM sz μ (fun r μ1 => μ1 = μ ∧ Q r) := by
  refine T_meti (by decide +kernel) (Nat.le_of_ble_eq_true rfl) ?_
  intro p e s m below meth c Z ls hx hb hml hown ht hN hK hw hret hl
  have hl : lv_has ls 4 [(0, .ref (ad k0))] := hl
  generalize s.heap = H at hw ⊢
  generalize ([] : List Loc) = locs at hw ⊢
  change ∃ n0x, wpl_X2_countArrows_4 k0 μ Q n0x (0 : Int32) (0 : Int32) at h
  refine lv_iconst (v := (0 : Int32)) hx hb dX2_countArrows_0 (by decide) ?_
  refine lv_istore_n (lv' := [(1, .int (0 : Int32)), (0, .ref (ad k0))]) hx hb dX2_countArrows_1 rfl hl (by decide) rfl (fun ls hl => ?_)
  refine lv_iconst (v := (0 : Int32)) hx hb dX2_countArrows_2 (by decide) ?_
  refine lv_istore_n (lv' := [(2, .int (0 : Int32)), (1, .int (0 : Int32)), (0, .ref (ad k0))]) hx hb dX2_countArrows_3 rfl hl (by decide) rfl (fun ls hl => ?_)
  obtain ⟨n16, h⟩ := h
  have L0 : ∀ (n : Nat) (v2 : Int32) (v3 : Int32) (H : Heap) (locs : List Loc) (ls : Array Slot), TW D ad cI cM s μ H locs → lv_has ls 4 [(2, .int v2), (1, .int v3), (0, .ref (ad k0))] → wpl_X2_countArrows_4 k0 μ Q n v2 v3 → W p l e (RM 1) s m #[.ref (ad k0)] below meth c H locs 0 0 Z (F0 m 4 ls []) := by
    intro n
    induction n with
    | zero => intro v2 v3 H locs ls hw hl h; exact False.elim h
    | succ n ih0 =>
      intro v2 v3 H locs ls hw hl h
      change ((μ k0 1) ≤ v2 → (Q v3)) ∧ (¬ (μ k0 1) ≤ v2 → (∃ n4x, wpl_X2_countArrows_14 k0 μ v2 (fun (u15 : Int32) => wpl_X2_countArrows_4 k0 μ Q n (v2 + (1 : Int32)) u15) n4x (0 : Int32) v3)) at h
      refine lv_iload_n hx hb dX2_countArrows_4 rfl (lv_at hl 0 rfl) ?_
      refine lv_aload_n hx hb dX2_countArrows_5 rfl (lv_at hl 2 rfl) ?_
      refine gf_X2_15 hx hb ht hown hK hw hk0 dX2_countArrows_6 ?_
      refine lv_icmp_ge (tgt := 43) hx hb dX2_countArrows_9 (by decide) (fun c4 => ?_) (fun c4 => ?_)
      · have h := h.1 c4
        refine lv_iload_n hx hb dX2_countArrows_43 rfl (lv_at hl 1 rfl) ?_
        exact hret H locs ls 44 _ _ hw ⟨rfl, h⟩ rfl dX2_countArrows_44
      have h := h.2 c4
      refine lv_iconst (v := (0 : Int32)) hx hb dX2_countArrows_12 (by decide) ?_
      refine lv_istore_n (lv' := [(3, .int (0 : Int32)), (2, .int v2), (1, .int v3), (0, .ref (ad k0))]) hx hb dX2_countArrows_13 rfl hl (by decide) rfl (fun ls hl => ?_)
      obtain ⟨n14, h⟩ := h
      have L4 : ∀ (v7 : Int32) (K37 : Int32 → Prop), (∀ (v8 : Int32) (H : Heap) (locs : List Loc) (ls : Array Slot), TW D ad cI cM s μ H locs → lv_has ls 4 [(2, .int v7), (1, .int v8), (0, .ref (ad k0))] → K37 v8 → W p l e (RM 1) s m #[.ref (ad k0)] below meth c H locs 0 0 Z (F0 m 37 ls [])) → ∀ (n : Nat) (v6 : Int32) (v8 : Int32) (H : Heap) (locs : List Loc) (ls : Array Slot), TW D ad cI cM s μ H locs → lv_has ls 4 [(3, .int v6), (2, .int v7), (1, .int v8), (0, .ref (ad k0))] → wpl_X2_countArrows_14 k0 μ v7 K37 n v6 v8 → W p l e (RM 1) s m #[.ref (ad k0)] below meth c H locs 0 0 Z (F0 m 14 ls []) := by
        intro v7 K37 hK37
        intro n
        induction n with
        | zero => intro v6 v8 H locs ls hw hl h; exact False.elim h
        | succ n ih4 =>
          intro v6 v8 H locs ls hw hl h
          change ((3 : Int32) ≤ v6 → (K37 v8)) ∧ (¬ (3 : Int32) ≤ v6 → (wp_X7_at k0 μ v7 v6 (fun (r10 : Int32) => wp_J6_bitCount_0f7a4 r10 (fun (r13 : Int32) => wpl_X2_countArrows_14 k0 μ v7 K37 n (v6 + (1 : Int32)) (v8 + r13))))) at h
          refine lv_iload_n hx hb dX2_countArrows_14 rfl (lv_at hl 0 rfl) ?_
          refine lv_iconst (v := (3 : Int32)) hx hb dX2_countArrows_15 (by decide) ?_
          refine lv_icmp_ge (tgt := 37) hx hb dX2_countArrows_16 (by decide) (fun c9 => ?_) (fun c9 => ?_)
          · have h := h.1 c9
            exact hK37 v8 H locs ls hw (lv_sub hl [1, 2, 3] rfl) h
          have h := h.2 c9
          refine lv_iload_n hx hb dX2_countArrows_19 rfl (lv_at hl 2 rfl) ?_
          refine lv_aload_n hx hb dX2_countArrows_20 rfl (lv_at hl 3 rfl) ?_
          refine lv_iload_n hx hb dX2_countArrows_21 rfl (lv_at hl 1 rfl) ?_
          refine lv_iload_n hx hb dX2_countArrows_22 rfl (lv_at hl 0 rfl) ?_
          refine T_calli hw (va_runU (own := "Leastreader$Machine") (As := [.int v7, .int v6]) (rest := [.int v8]) ⟨hx, hb, hml, hown, ht⟩ (c_X7_at_2 k0 hk0 μ H.size v7 v6 h) (va_cwU (owner := "Leastreader$Table") 2 ht (G_U q_412 q_413 q_415 q_416 q_47 q_417) rfl rfl rfl rfl hd_0 ⟨Nat.le_of_ble_eq_true rfl, Nat.le_of_ble_eq_true rfl⟩) ⟨TB.blind, (T_recv hK hw (kd_of hk0 (by decide)) (ent_2 hk0) cl_2), TB.pre hK hN hw⟩ rfl rfl hl.1 rfl (lv_room (Nat.le_of_ble_eq_true rfl)) dX2_countArrows_23 ⟨Nat.le_of_ble_eq_true rfl, Nat.le_of_ble_eq_true rfl⟩) (fun r10 μ11 H locs h hw => ?_)
          obtain ⟨e12, h⟩ := h
          rw [e12] at hw
          refine P_calli (va_runS (own := "Leastreader$Machine") (As := [.int r10]) (rest := [.int v8]) ⟨hx, hb, hml, hown, ht⟩ (c_J6_bitCount_0f7a4 r10 h) (va_cwS 1 ht (G_S q_563 q_564 q_63 q_565) rfl rfl rfl hd_33 ⟨Nat.le_of_ble_eq_true rfl, Nat.le_of_ble_eq_true rfl⟩) ⟨PM_blind, PM_pre⟩ rfl rfl hl.1 rfl (lv_room (Nat.le_of_ble_eq_true rfl)) dX2_countArrows_26 ⟨Nat.le_of_ble_eq_true rfl, Nat.le_of_ble_eq_true rfl⟩) (fun r13 h => ?_)
          refine lv_iadd hx hb dX2_countArrows_29 ?_
          refine lv_istore_n (lv' := [(1, .int (v8 + r13)), (3, .int v6), (2, .int v7), (0, .ref (ad k0))]) hx hb dX2_countArrows_30 rfl hl (by decide) rfl (fun ls hl => ?_)
          refine lv_iinc (v := (v6 + (1 : Int32))) (lv' := [(3, .int (v6 + (1 : Int32))), (1, .int (v8 + r13)), (2, .int v7), (0, .ref (ad k0))]) hx hb dX2_countArrows_31 hl (k := 1) rfl rfl (by decide) rfl (fun ls hl => ?_)
          refine lv_goto (tgt := 14) hx hb dX2_countArrows_34 (by decide) ?_
          exact ih4 (v6 + (1 : Int32)) (v8 + r13) H locs ls hw (lv_sub hl [0, 2, 1, 3] rfl) h
      refine L4 v2 _ ?_ n14 (0 : Int32) v3 H locs ls hw (lv_sub hl [0, 1, 2, 3] rfl) h
      intro u15 H locs ls hw hl h
      refine lv_iinc (v := (v2 + (1 : Int32))) (lv' := [(2, .int (v2 + (1 : Int32))), (1, .int u15), (0, .ref (ad k0))]) hx hb dX2_countArrows_37 hl (k := 0) rfl rfl (by decide) rfl (fun ls hl => ?_)
      refine lv_goto (tgt := 4) hx hb dX2_countArrows_40 (by decide) ?_
      exact ih0 (v2 + (1 : Int32)) u15 H locs ls hw (lv_sub hl [0, 1, 2] rfl) h
  exact L0 n16 (0 : Int32) (0 : Int32) H locs ls hw (lv_sub hl [0, 1, 2] rfl) h
def wpl_X2_isPlain_12 (k0 : Nat) (μ : TMem) (v6 : Int32) (K38 : Prop) (Q : Int32 → Prop) : Nat → Int32 → Prop
  | 0, _ => False
  | n + 1, v5 =>
    ((3 : Int32) ≤ v5 → (K38)) ∧ (¬ (3 : Int32) ≤ v5 → (wp_X7_at k0 μ v6 v5 (fun (r8 : Int32) => wp_J6_bitCount_0f7a4 r8 (fun (r11 : Int32) => (r11 = (1 : Int32) → (wpl_X2_isPlain_12 k0 μ v6 K38 Q n (v5 + (1 : Int32)))) ∧ (¬ r11 = (1 : Int32) → (Q (0 : Int32)))))))
def wpl_X2_isPlain_2 (k0 : Nat) (μ : TMem) (K44 : Prop) (Q : Int32 → Prop) : Nat → Int32 → Prop
  | 0, _ => False
  | n + 1, v2 =>
    ((μ k0 1) ≤ v2 → (K44)) ∧ (¬ (μ k0 1) ≤ v2 → (∃ n3x, wpl_X2_isPlain_12 k0 μ v2 (wpl_X2_isPlain_2 k0 μ K44 Q n (v2 + (1 : Int32))) Q n3x (0 : Int32)))
def wp_X2_isPlain (k0 : Nat) (μ : TMem) (Q : Int32 → Prop) : Prop :=
  ∃ n0x, wpl_X2_isPlain_2 k0 μ (wp_J6_bitCount_0f7a4 (μ k0 3) (fun (r15 : Int32) => (¬ r15 = (1 : Int32) → (Q (0 : Int32))) ∧ (r15 = (1 : Int32) → (Q (1 : Int32))))) Q n0x (0 : Int32)
set_option maxHeartbeats 4000000 in
set_option maxRecDepth 100000 in
theorem c_X2_isPlain {l : Launch} {D : va_G} {ad : Nat → Nat} {cI cM : ClassId} (k0 : Nat) (hk0 : kd k0 = 2) (μ : TMem) (sz : Nat)  {Q : Int32 → Prop} (h : wp_X2_isPlain k0 μ Q) : TMi l yX2_isPlain (.code yX2_isPlain cX2_isPlain 3 (Option.some Jvm.ClassFile.FieldType.boolean)) 1 [.ref (ad k0)] D ad cI cM sz μ (fun r μ1 => μ1 = μ ∧ Q r) := by
  refine T_meti (by decide +kernel) (Nat.le_of_ble_eq_true rfl) ?_
  intro p e s m below meth c Z ls hx hb hml hown ht hN hK hw hret hl
  have hl : lv_has ls 3 [(0, .ref (ad k0))] := hl
  generalize s.heap = H at hw ⊢
  generalize ([] : List Loc) = locs at hw ⊢
  change ∃ n0x, wpl_X2_isPlain_2 k0 μ (wp_J6_bitCount_0f7a4 (μ k0 3) (fun (r15 : Int32) => (¬ r15 = (1 : Int32) → (Q (0 : Int32))) ∧ (r15 = (1 : Int32) → (Q (1 : Int32))))) Q n0x (0 : Int32) at h
  refine lv_iconst (v := (0 : Int32)) hx hb dX2_isPlain_0 (by decide) ?_
  refine lv_istore_n (lv' := [(1, .int (0 : Int32)), (0, .ref (ad k0))]) hx hb dX2_isPlain_1 rfl hl (by decide) rfl (fun ls hl => ?_)
  obtain ⟨n14, h⟩ := h
  have L0 : ∀ (K44 : Prop), (∀ (H : Heap) (locs : List Loc) (ls : Array Slot), TW D ad cI cM s μ H locs → lv_has ls 3 [(0, .ref (ad k0))] → K44 → W p l e (RM 1) s m #[.ref (ad k0)] below meth c H locs 0 0 Z (F0 m 44 ls [])) → ∀ (n : Nat) (v2 : Int32) (H : Heap) (locs : List Loc) (ls : Array Slot), TW D ad cI cM s μ H locs → lv_has ls 3 [(1, .int v2), (0, .ref (ad k0))] → wpl_X2_isPlain_2 k0 μ K44 Q n v2 → W p l e (RM 1) s m #[.ref (ad k0)] below meth c H locs 0 0 Z (F0 m 2 ls []) := by
    intro K44 hK44
    intro n
    induction n with
    | zero => intro v2 H locs ls hw hl h; exact False.elim h
    | succ n ih0 =>
      intro v2 H locs ls hw hl h
      change ((μ k0 1) ≤ v2 → (K44)) ∧ (¬ (μ k0 1) ≤ v2 → (∃ n3x, wpl_X2_isPlain_12 k0 μ v2 (wpl_X2_isPlain_2 k0 μ K44 Q n (v2 + (1 : Int32))) Q n3x (0 : Int32))) at h
      refine lv_iload_n hx hb dX2_isPlain_2 rfl (lv_at hl 0 rfl) ?_
      refine lv_aload_n hx hb dX2_isPlain_3 rfl (lv_at hl 1 rfl) ?_
      refine gf_X2_15 hx hb ht hown hK hw hk0 dX2_isPlain_4 ?_
      refine lv_icmp_ge (tgt := 44) hx hb dX2_isPlain_7 (by decide) (fun c3 => ?_) (fun c3 => ?_)
      · have h := h.1 c3
        exact hK44 H locs ls hw (lv_sub hl [1] rfl) h
      have h := h.2 c3
      refine lv_iconst (v := (0 : Int32)) hx hb dX2_isPlain_10 (by decide) ?_
      refine lv_istore_n (lv' := [(2, .int (0 : Int32)), (1, .int v2), (0, .ref (ad k0))]) hx hb dX2_isPlain_11 rfl hl (by decide) rfl (fun ls hl => ?_)
      obtain ⟨n13, h⟩ := h
      have L3 : ∀ (v6 : Int32) (K38 : Prop), (∀ (H : Heap) (locs : List Loc) (ls : Array Slot), TW D ad cI cM s μ H locs → lv_has ls 3 [(1, .int v6), (0, .ref (ad k0))] → K38 → W p l e (RM 1) s m #[.ref (ad k0)] below meth c H locs 0 0 Z (F0 m 38 ls [])) → ∀ (n : Nat) (v5 : Int32) (H : Heap) (locs : List Loc) (ls : Array Slot), TW D ad cI cM s μ H locs → lv_has ls 3 [(2, .int v5), (1, .int v6), (0, .ref (ad k0))] → wpl_X2_isPlain_12 k0 μ v6 K38 Q n v5 → W p l e (RM 1) s m #[.ref (ad k0)] below meth c H locs 0 0 Z (F0 m 12 ls []) := by
        intro v6 K38 hK38
        intro n
        induction n with
        | zero => intro v5 H locs ls hw hl h; exact False.elim h
        | succ n ih3 =>
          intro v5 H locs ls hw hl h
          change ((3 : Int32) ≤ v5 → (K38)) ∧ (¬ (3 : Int32) ≤ v5 → (wp_X7_at k0 μ v6 v5 (fun (r8 : Int32) => wp_J6_bitCount_0f7a4 r8 (fun (r11 : Int32) => (r11 = (1 : Int32) → (wpl_X2_isPlain_12 k0 μ v6 K38 Q n (v5 + (1 : Int32)))) ∧ (¬ r11 = (1 : Int32) → (Q (0 : Int32))))))) at h
          refine lv_iload_n hx hb dX2_isPlain_12 rfl (lv_at hl 0 rfl) ?_
          refine lv_iconst (v := (3 : Int32)) hx hb dX2_isPlain_13 (by decide) ?_
          refine lv_icmp_ge (tgt := 38) hx hb dX2_isPlain_14 (by decide) (fun c7 => ?_) (fun c7 => ?_)
          · have h := h.1 c7
            exact hK38 H locs ls hw (lv_sub hl [1, 2] rfl) h
          have h := h.2 c7
          refine lv_aload_n hx hb dX2_isPlain_17 rfl (lv_at hl 2 rfl) ?_
          refine lv_iload_n hx hb dX2_isPlain_18 rfl (lv_at hl 1 rfl) ?_
          refine lv_iload_n hx hb dX2_isPlain_19 rfl (lv_at hl 0 rfl) ?_
          refine T_calli hw (va_runU (own := "Leastreader$Machine") (As := [.int v6, .int v5]) (rest := []) ⟨hx, hb, hml, hown, ht⟩ (c_X7_at_2 k0 hk0 μ H.size v6 v5 h) (va_cwU (owner := "Leastreader$Table") 2 ht (G_U q_412 q_413 q_415 q_416 q_47 q_417) rfl rfl rfl rfl hd_0 ⟨Nat.le_of_ble_eq_true rfl, Nat.le_of_ble_eq_true rfl⟩) ⟨TB.blind, (T_recv hK hw (kd_of hk0 (by decide)) (ent_2 hk0) cl_2), TB.pre hK hN hw⟩ rfl rfl hl.1 rfl (lv_room (Nat.le_of_ble_eq_true rfl)) dX2_isPlain_20 ⟨Nat.le_of_ble_eq_true rfl, Nat.le_of_ble_eq_true rfl⟩) (fun r8 μ9 H locs h hw => ?_)
          obtain ⟨e10, h⟩ := h
          rw [e10] at hw
          refine P_calli (va_runS (own := "Leastreader$Machine") (As := [.int r8]) (rest := []) ⟨hx, hb, hml, hown, ht⟩ (c_J6_bitCount_0f7a4 r8 h) (va_cwS 1 ht (G_S q_563 q_564 q_63 q_565) rfl rfl rfl hd_33 ⟨Nat.le_of_ble_eq_true rfl, Nat.le_of_ble_eq_true rfl⟩) ⟨PM_blind, PM_pre⟩ rfl rfl hl.1 rfl (lv_room (Nat.le_of_ble_eq_true rfl)) dX2_isPlain_23 ⟨Nat.le_of_ble_eq_true rfl, Nat.le_of_ble_eq_true rfl⟩) (fun r11 h => ?_)
          refine lv_iconst (v := (1 : Int32)) hx hb dX2_isPlain_26 (by decide) ?_
          refine lv_icmp_eq (tgt := 32) hx hb dX2_isPlain_27 (by decide) (fun c12 => ?_) (fun c12 => ?_)
          · have h := h.1 c12
            refine lv_iinc (v := (v5 + (1 : Int32))) (lv' := [(2, .int (v5 + (1 : Int32))), (1, .int v6), (0, .ref (ad k0))]) hx hb dX2_isPlain_32 hl (k := 0) rfl rfl (by decide) rfl (fun ls hl => ?_)
            refine lv_goto (tgt := 12) hx hb dX2_isPlain_35 (by decide) ?_
            exact ih3 (v5 + (1 : Int32)) H locs ls hw (lv_sub hl [0, 1, 2] rfl) h
          have h := h.2 c12
          refine lv_iconst (v := (0 : Int32)) hx hb dX2_isPlain_30 (by decide) ?_
          exact hret H locs ls 31 _ _ hw ⟨rfl, h⟩ rfl dX2_isPlain_31
      refine L3 v2 _ ?_ n13 (0 : Int32) H locs ls hw (lv_sub hl [0, 1, 2] rfl) h
      intro H locs ls hw hl h
      refine lv_iinc (v := (v2 + (1 : Int32))) (lv' := [(1, .int (v2 + (1 : Int32))), (0, .ref (ad k0))]) hx hb dX2_isPlain_38 hl (k := 0) rfl rfl (by decide) rfl (fun ls hl => ?_)
      refine lv_goto (tgt := 2) hx hb dX2_isPlain_41 (by decide) ?_
      exact ih0 (v2 + (1 : Int32)) H locs ls hw (lv_sub hl [0, 1] rfl) h
  refine L0 _ ?_ n14 (0 : Int32) H locs ls hw (lv_sub hl [0, 1] rfl) h
  intro H locs ls hw hl h
  refine lv_aload_n hx hb dX2_isPlain_44 rfl (lv_at hl 0 rfl) ?_
  refine gf_X2_9 hx hb ht hown hK hw hk0 dX2_isPlain_45 ?_
  refine P_calli (va_runS (own := "Leastreader$Machine") (As := [.int (μ k0 3)]) (rest := []) ⟨hx, hb, hml, hown, ht⟩ (c_J6_bitCount_0f7a4 (μ k0 3) h) (va_cwS 1 ht (G_S q_563 q_564 q_63 q_565) rfl rfl rfl hd_33 ⟨Nat.le_of_ble_eq_true rfl, Nat.le_of_ble_eq_true rfl⟩) ⟨PM_blind, PM_pre⟩ rfl rfl hl.1 rfl (lv_room (Nat.le_of_ble_eq_true rfl)) dX2_isPlain_48 ⟨Nat.le_of_ble_eq_true rfl, Nat.le_of_ble_eq_true rfl⟩) (fun r15 h => ?_)
  refine lv_iconst (v := (1 : Int32)) hx hb dX2_isPlain_51 (by decide) ?_
  refine lv_icmp_ne (tgt := 59) hx hb dX2_isPlain_52 (by decide) (fun c16 => ?_) (fun c16 => ?_)
  · have h := h.1 c16
    refine lv_iconst (v := (0 : Int32)) hx hb dX2_isPlain_59 (by decide) ?_
    exact hret H locs ls 60 _ _ hw ⟨rfl, h⟩ rfl dX2_isPlain_60
  have h := h.2 c16
  refine lv_iconst (v := (1 : Int32)) hx hb dX2_isPlain_55 (by decide) ?_
  refine lv_goto (tgt := 60) hx hb dX2_isPlain_56 (by decide) ?_
  exact hret H locs ls 60 _ _ hw ⟨rfl, h⟩ rfl dX2_isPlain_60
def wpl_X9_addMachine_83 (k1 : Nat) (μ : TMem) (v15 : Int32) (K111 : Int64 → Prop) : Nat → Int32 → Int64 → Prop
  | 0, _, _ => False
  | n + 1, v14, v16 =>
    ((3 : Int32) ≤ v14 → (K111 v16)) ∧ (¬ (3 : Int32) ≤ v14 → (wp_X7_at k1 μ v15 v14 (fun (r18 : Int32) => wpl_X9_addMachine_83 k1 μ v15 K111 n (v14 + (1 : Int32)) ((v16 * (31 : Int64)) + r18.toInt64))))
def wpl_X9_addMachine_71 (k1 : Nat) (μ : TMem) (Q : Int64 → Prop) : Nat → Int32 → Int64 → Prop
  | 0, _, _ => False
  | n + 1, v10, v11 =>
    ((μ k1 1) ≤ v10 → (Q v11)) ∧ (¬ (μ k1 1) ≤ v10 → (∃ n12x, wpl_X9_addMachine_83 k1 μ v10 (fun (u22 : Int64) => wpl_X9_addMachine_71 k1 μ Q n (v10 + (1 : Int32)) u22) n12x (0 : Int32) v11))
def wp_X9_addMachine (k1 : Nat) (μ : TMem) (a0 : Int64) (Q : Int64 → Prop) : Prop :=
  wp_X2_countArrows k1 μ (fun (r1 : Int32) => wp_X2_isPlain k1 μ (fun (r4 : Int32) => ∀ J7 : Int32 → Prop, (∀ (j8 : Int32), (∃ n8x, wpl_X9_addMachine_71 k1 μ Q n8x (0 : Int32) ((((((((((a0 * (31 : Int64)) + (μ k1 1).toInt64) * (31 : Int64)) + r1.toInt64) * (31 : Int64)) + (μ k1 3).toInt64) * (31 : Int64)) + (μ k1 2).toInt64) * (31 : Int64)) + j8.toInt64)) → J7 j8) → ((r4 = 0 → (J7 (0 : Int32))) ∧ (¬ r4 = 0 → (J7 (1 : Int32))))))
set_option maxHeartbeats 4000000 in
set_option maxRecDepth 100000 in
theorem c_X9_addMachine {l : Launch} {D : va_G} {ad : Nat → Nat} {cI cM : ClassId} (k1 : Nat) (hk1 : kd k1 = 2) (μ : TMem) (sz : Nat) (a0 : Int64) {Q : Int64 → Prop} (h : wp_X9_addMachine k1 μ a0 Q) : TMl l yX9_addMachine (.code yX9_addMachine cX9_addMachine 7 (Option.some Jvm.ClassFile.FieldType.long)) 2 [.long a0, .ref (ad k1)] D ad cI cM sz μ (fun r μ1 => μ1 = μ ∧ Q r) := by
  refine T_metl (by decide +kernel) (Nat.le_of_ble_eq_true rfl) ?_
  intro p e s m below meth c Z ls hx hb hml hown ht hN hK hw hret hl
  have hl : lv_has ls 7 [(0, .long a0), (2, .ref (ad k1))] := hl
  generalize s.heap = H at hw ⊢
  generalize ([] : List Loc) = locs at hw ⊢
  change wp_X2_countArrows k1 μ (fun (r1 : Int32) => wp_X2_isPlain k1 μ (fun (r4 : Int32) => ∀ J7 : Int32 → Prop, (∀ (j8 : Int32), (∃ n8x, wpl_X9_addMachine_71 k1 μ Q n8x (0 : Int32) ((((((((((a0 * (31 : Int64)) + (μ k1 1).toInt64) * (31 : Int64)) + r1.toInt64) * (31 : Int64)) + (μ k1 3).toInt64) * (31 : Int64)) + (μ k1 2).toInt64) * (31 : Int64)) + j8.toInt64)) → J7 j8) → ((r4 = 0 → (J7 (0 : Int32))) ∧ (¬ r4 = 0 → (J7 (1 : Int32)))))) at h
  refine lv_lload_n hx hb dX9_addMachine_0 rfl (lv_at hl 0 rfl) ?_
  refine lv_ldc2 (v := (31 : Int64)) hx hb hown (ht _ q_558) dX9_addMachine_1 ?_
  refine lv_lmul hx hb dX9_addMachine_4 ?_
  refine lv_aload_n hx hb dX9_addMachine_5 rfl (lv_at hl 1 rfl) ?_
  refine gf_X9_151 hx hb ht hown hK hw hk1 dX9_addMachine_6 ?_
  refine lv_i2l hx hb dX9_addMachine_9 rfl ?_
  refine lv_ladd hx hb dX9_addMachine_10 ?_
  refine lv_lstore_n (lv' := [(3, .long ((a0 * (31 : Int64)) + (μ k1 1).toInt64)), (0, .long a0), (2, .ref (ad k1))]) hx hb dX9_addMachine_11 rfl hl (by decide) rfl (fun ls hl => ?_)
  refine lv_lload_n hx hb dX9_addMachine_12 rfl (lv_at hl 0 rfl) ?_
  refine lv_ldc2 (v := (31 : Int64)) hx hb hown (ht _ q_558) dX9_addMachine_13 ?_
  refine lv_lmul hx hb dX9_addMachine_16 ?_
  refine lv_aload_n hx hb dX9_addMachine_17 rfl (lv_at hl 2 rfl) ?_
  refine T_calli hw (va_runV (own := "Leastreader") (As := []) (rest := [.long (((a0 * (31 : Int64)) + (μ k1 1).toInt64) * (31 : Int64))]) ⟨hx, hb, hml, hown, ht⟩ (c_X2_countArrows k1 hk1 μ H.size h) (cwV 0 ht (G_V q_559 q_560 q_561 q_48 q_562) rfl rfl rfl ⟨rfl, hd_34⟩ ⟨Nat.le_of_ble_eq_true rfl, Nat.le_of_ble_eq_true rfl⟩) ⟨TB.blind, (T_recv hK hw (kd_of hk1 (by decide)) (ent_2 hk1) cl_2), TB.pre hK hN hw⟩ rfl rfl hl.1 rfl (lv_room (Nat.le_of_ble_eq_true rfl)) dX9_addMachine_18 ⟨Nat.le_of_ble_eq_true rfl, Nat.le_of_ble_eq_true rfl⟩) (fun r1 μ2 H locs h hw => ?_)
  obtain ⟨e3, h⟩ := h
  rw [e3] at hw
  refine lv_i2l hx hb dX9_addMachine_21 rfl ?_
  refine lv_ladd hx hb dX9_addMachine_22 ?_
  refine lv_lstore_n (lv' := [(3, .long ((((a0 * (31 : Int64)) + (μ k1 1).toInt64) * (31 : Int64)) + r1.toInt64)), (0, .long a0), (2, .ref (ad k1))]) hx hb dX9_addMachine_23 rfl hl (by decide) rfl (fun ls hl => ?_)
  refine lv_lload_n hx hb dX9_addMachine_24 rfl (lv_at hl 0 rfl) ?_
  refine lv_ldc2 (v := (31 : Int64)) hx hb hown (ht _ q_558) dX9_addMachine_25 ?_
  refine lv_lmul hx hb dX9_addMachine_28 ?_
  refine lv_aload_n hx hb dX9_addMachine_29 rfl (lv_at hl 2 rfl) ?_
  refine gf_X9_115 hx hb ht hN hown hK hw hk1 dX9_addMachine_30 ?_
  refine lv_i2l hx hb dX9_addMachine_33 rfl ?_
  refine lv_ladd hx hb dX9_addMachine_34 ?_
  refine lv_lstore_n (lv' := [(3, .long ((((((a0 * (31 : Int64)) + (μ k1 1).toInt64) * (31 : Int64)) + r1.toInt64) * (31 : Int64)) + (μ k1 3).toInt64)), (0, .long a0), (2, .ref (ad k1))]) hx hb dX9_addMachine_35 rfl hl (by decide) rfl (fun ls hl => ?_)
  refine lv_lload_n hx hb dX9_addMachine_36 rfl (lv_at hl 0 rfl) ?_
  refine lv_ldc2 (v := (31 : Int64)) hx hb hown (ht _ q_558) dX9_addMachine_37 ?_
  refine lv_lmul hx hb dX9_addMachine_40 ?_
  refine lv_aload_n hx hb dX9_addMachine_41 rfl (lv_at hl 2 rfl) ?_
  refine gf_X9_111 hx hb ht hown hK hw hk1 dX9_addMachine_42 ?_
  refine lv_i2l hx hb dX9_addMachine_45 rfl ?_
  refine lv_ladd hx hb dX9_addMachine_46 ?_
  refine lv_lstore_n (lv' := [(3, .long ((((((((a0 * (31 : Int64)) + (μ k1 1).toInt64) * (31 : Int64)) + r1.toInt64) * (31 : Int64)) + (μ k1 3).toInt64) * (31 : Int64)) + (μ k1 2).toInt64)), (0, .long a0), (2, .ref (ad k1))]) hx hb dX9_addMachine_47 rfl hl (by decide) rfl (fun ls hl => ?_)
  refine lv_lload_n hx hb dX9_addMachine_48 rfl (lv_at hl 0 rfl) ?_
  refine lv_ldc2 (v := (31 : Int64)) hx hb hown (ht _ q_558) dX9_addMachine_49 ?_
  refine lv_lmul hx hb dX9_addMachine_52 ?_
  refine lv_aload_n hx hb dX9_addMachine_53 rfl (lv_at hl 2 rfl) ?_
  refine T_calli hw (va_runV (own := "Leastreader") (As := []) (rest := [.long (((((((((a0 * (31 : Int64)) + (μ k1 1).toInt64) * (31 : Int64)) + r1.toInt64) * (31 : Int64)) + (μ k1 3).toInt64) * (31 : Int64)) + (μ k1 2).toInt64) * (31 : Int64))]) ⟨hx, hb, hml, hown, ht⟩ (c_X2_isPlain k1 hk1 μ H.size h) (cwV 0 ht (G_V q_569 q_570 q_571 q_48 q_572) rfl rfl rfl ⟨rfl, hd_35⟩ ⟨Nat.le_of_ble_eq_true rfl, Nat.le_of_ble_eq_true rfl⟩) ⟨TB.blind, (T_recv hK hw (kd_of hk1 (by decide)) (ent_2 hk1) cl_2), TB.pre hK hN hw⟩ rfl rfl hl.1 rfl (lv_room (Nat.le_of_ble_eq_true rfl)) dX9_addMachine_54 ⟨Nat.le_of_ble_eq_true rfl, Nat.le_of_ble_eq_true rfl⟩) (fun r4 μ5 H locs h hw => ?_)
  obtain ⟨e6, h⟩ := h
  rw [e6] at hw
  have h := h (fun j8 => ∀ (H : Heap) (locs : List Loc) (ls : Array Slot), TW D ad cI cM s μ H locs → lv_has ls 7 [(2, .ref (ad k1))] → W p l e (RM 2) s m #[.long a0, .ref (ad k1)] below meth c H locs 0 0 Z (F0 m 65 ls [.int j8, .long (((((((((a0 * (31 : Int64)) + (μ k1 1).toInt64) * (31 : Int64)) + r1.toInt64) * (31 : Int64)) + (μ k1 3).toInt64) * (31 : Int64)) + (μ k1 2).toInt64) * (31 : Int64))])) (fun j8 h H locs ls hw hl => by
    refine lv_i2l hx hb dX9_addMachine_65 rfl ?_
    refine lv_ladd hx hb dX9_addMachine_66 ?_
    refine lv_lstore_n (lv' := [(3, .long ((((((((((a0 * (31 : Int64)) + (μ k1 1).toInt64) * (31 : Int64)) + r1.toInt64) * (31 : Int64)) + (μ k1 3).toInt64) * (31 : Int64)) + (μ k1 2).toInt64) * (31 : Int64)) + j8.toInt64)), (2, .ref (ad k1))]) hx hb dX9_addMachine_67 rfl hl (by decide) rfl (fun ls hl => ?_)
    refine lv_iconst (v := (0 : Int32)) hx hb dX9_addMachine_68 (by decide) ?_
    refine lv_istore (lv' := [(5, .int (0 : Int32)), (3, .long ((((((((((a0 * (31 : Int64)) + (μ k1 1).toInt64) * (31 : Int64)) + r1.toInt64) * (31 : Int64)) + (μ k1 3).toInt64) * (31 : Int64)) + (μ k1 2).toInt64) * (31 : Int64)) + j8.toInt64)), (2, .ref (ad k1))]) hx hb dX9_addMachine_69 hl (by decide) rfl (fun ls hl => ?_)
    obtain ⟨n23, h⟩ := h
    have L8 : ∀ (n : Nat) (v10 : Int32) (v11 : Int64) (H : Heap) (locs : List Loc) (ls : Array Slot), TW D ad cI cM s μ H locs → lv_has ls 7 [(5, .int v10), (3, .long v11), (2, .ref (ad k1))] → wpl_X9_addMachine_71 k1 μ Q n v10 v11 → W p l e (RM 2) s m #[.long a0, .ref (ad k1)] below meth c H locs 0 0 Z (F0 m 71 ls []) := by
      intro n
      induction n with
      | zero => intro v10 v11 H locs ls hw hl h; exact False.elim h
      | succ n ih8 =>
        intro v10 v11 H locs ls hw hl h
        change ((μ k1 1) ≤ v10 → (Q v11)) ∧ (¬ (μ k1 1) ≤ v10 → (∃ n12x, wpl_X9_addMachine_83 k1 μ v10 (fun (u22 : Int64) => wpl_X9_addMachine_71 k1 μ Q n (v10 + (1 : Int32)) u22) n12x (0 : Int32) v11)) at h
        refine lv_iload hx hb dX9_addMachine_71 (lv_at hl 0 rfl) ?_
        refine lv_aload_n hx hb dX9_addMachine_73 rfl (lv_at hl 2 rfl) ?_
        refine gf_X9_151 hx hb ht hown hK hw hk1 dX9_addMachine_74 ?_
        refine lv_icmp_ge (tgt := 117) hx hb dX9_addMachine_77 (by decide) (fun c12 => ?_) (fun c12 => ?_)
        · have h := h.1 c12
          refine lv_lload_n hx hb dX9_addMachine_117 rfl (lv_at hl 1 rfl) ?_
          exact hret H locs ls 118 _ _ hw ⟨rfl, h⟩ dX9_addMachine_118
        have h := h.2 c12
        refine lv_iconst (v := (0 : Int32)) hx hb dX9_addMachine_80 (by decide) ?_
        refine lv_istore (lv' := [(6, .int (0 : Int32)), (5, .int v10), (3, .long v11), (2, .ref (ad k1))]) hx hb dX9_addMachine_81 hl (by decide) rfl (fun ls hl => ?_)
        obtain ⟨n21, h⟩ := h
        have L12 : ∀ (v15 : Int32) (K111 : Int64 → Prop), (∀ (v16 : Int64) (H : Heap) (locs : List Loc) (ls : Array Slot), TW D ad cI cM s μ H locs → lv_has ls 7 [(5, .int v15), (3, .long v16), (2, .ref (ad k1))] → K111 v16 → W p l e (RM 2) s m #[.long a0, .ref (ad k1)] below meth c H locs 0 0 Z (F0 m 111 ls [])) → ∀ (n : Nat) (v14 : Int32) (v16 : Int64) (H : Heap) (locs : List Loc) (ls : Array Slot), TW D ad cI cM s μ H locs → lv_has ls 7 [(6, .int v14), (5, .int v15), (3, .long v16), (2, .ref (ad k1))] → wpl_X9_addMachine_83 k1 μ v15 K111 n v14 v16 → W p l e (RM 2) s m #[.long a0, .ref (ad k1)] below meth c H locs 0 0 Z (F0 m 83 ls []) := by
          intro v15 K111 hK111
          intro n
          induction n with
          | zero => intro v14 v16 H locs ls hw hl h; exact False.elim h
          | succ n ih12 =>
            intro v14 v16 H locs ls hw hl h
            change ((3 : Int32) ≤ v14 → (K111 v16)) ∧ (¬ (3 : Int32) ≤ v14 → (wp_X7_at k1 μ v15 v14 (fun (r18 : Int32) => wpl_X9_addMachine_83 k1 μ v15 K111 n (v14 + (1 : Int32)) ((v16 * (31 : Int64)) + r18.toInt64)))) at h
            refine lv_iload hx hb dX9_addMachine_83 (lv_at hl 0 rfl) ?_
            refine lv_iconst (v := (3 : Int32)) hx hb dX9_addMachine_85 (by decide) ?_
            refine lv_icmp_ge (tgt := 111) hx hb dX9_addMachine_86 (by decide) (fun c17 => ?_) (fun c17 => ?_)
            · have h := h.1 c17
              exact hK111 v16 H locs ls hw (lv_sub hl [1, 2, 3] rfl) h
            have h := h.2 c17
            refine lv_lload_n hx hb dX9_addMachine_89 rfl (lv_at hl 2 rfl) ?_
            refine lv_ldc2 (v := (31 : Int64)) hx hb hown (ht _ q_558) dX9_addMachine_90 ?_
            refine lv_lmul hx hb dX9_addMachine_93 ?_
            refine lv_aload_n hx hb dX9_addMachine_94 rfl (lv_at hl 3 rfl) ?_
            refine lv_iload hx hb dX9_addMachine_95 (lv_at hl 1 rfl) ?_
            refine lv_iload hx hb dX9_addMachine_97 (lv_at hl 0 rfl) ?_
            refine T_calli hw (va_runU (own := "Leastreader") (As := [.int v15, .int v14]) (rest := [.long (v16 * (31 : Int64))]) ⟨hx, hb, hml, hown, ht⟩ (c_X7_at_2 k1 hk1 μ H.size v15 v14 h) (va_cwU (owner := "Leastreader$Table") 2 ht (G_U q_573 q_413 q_415 q_416 q_47 q_417) rfl rfl rfl rfl hd_0 ⟨Nat.le_of_ble_eq_true rfl, Nat.le_of_ble_eq_true rfl⟩) ⟨TB.blind, (T_recv hK hw (kd_of hk1 (by decide)) (ent_2 hk1) cl_2), TB.pre hK hN hw⟩ rfl rfl hl.1 rfl (lv_room (Nat.le_of_ble_eq_true rfl)) dX9_addMachine_99 ⟨Nat.le_of_ble_eq_true rfl, Nat.le_of_ble_eq_true rfl⟩) (fun r18 μ19 H locs h hw => ?_)
            obtain ⟨e20, h⟩ := h
            rw [e20] at hw
            refine lv_i2l hx hb dX9_addMachine_102 rfl ?_
            refine lv_ladd hx hb dX9_addMachine_103 ?_
            refine lv_lstore_n (lv' := [(3, .long ((v16 * (31 : Int64)) + r18.toInt64)), (6, .int v14), (5, .int v15), (2, .ref (ad k1))]) hx hb dX9_addMachine_104 rfl hl (by decide) rfl (fun ls hl => ?_)
            refine lv_iinc (v := (v14 + (1 : Int32))) (lv' := [(6, .int (v14 + (1 : Int32))), (3, .long ((v16 * (31 : Int64)) + r18.toInt64)), (5, .int v15), (2, .ref (ad k1))]) hx hb dX9_addMachine_105 hl (k := 1) rfl rfl (by decide) rfl (fun ls hl => ?_)
            refine lv_goto (tgt := 83) hx hb dX9_addMachine_108 (by decide) ?_
            exact ih12 (v14 + (1 : Int32)) ((v16 * (31 : Int64)) + r18.toInt64) H locs ls hw (lv_sub hl [0, 2, 1, 3] rfl) h
        refine L12 v10 _ ?_ n21 (0 : Int32) v11 H locs ls hw (lv_sub hl [0, 1, 2, 3] rfl) h
        intro u22 H locs ls hw hl h
        refine lv_iinc (v := (v10 + (1 : Int32))) (lv' := [(5, .int (v10 + (1 : Int32))), (3, .long u22), (2, .ref (ad k1))]) hx hb dX9_addMachine_111 hl (k := 0) rfl rfl (by decide) rfl (fun ls hl => ?_)
        refine lv_goto (tgt := 71) hx hb dX9_addMachine_114 (by decide) ?_
        exact ih8 (v10 + (1 : Int32)) u22 H locs ls hw (lv_sub hl [0, 1, 2] rfl) h
    exact L8 n23 (0 : Int32) ((((((((((a0 * (31 : Int64)) + (μ k1 1).toInt64) * (31 : Int64)) + r1.toInt64) * (31 : Int64)) + (μ k1 3).toInt64) * (31 : Int64)) + (μ k1 2).toInt64) * (31 : Int64)) + j8.toInt64) H locs ls hw (lv_sub hl [0, 1, 2] rfl) h)
  refine lv_if_eq (tgt := 64) hx hb dX9_addMachine_57 (by decide) (fun c24 => ?_) (fun c24 => ?_)
  · have h := h.1 c24
    refine lv_iconst (v := (0 : Int32)) hx hb dX9_addMachine_64 (by decide) ?_
    exact h H locs ls hw (lv_sub hl [2] rfl)
  have h := h.2 c24
  refine lv_iconst (v := (1 : Int32)) hx hb dX9_addMachine_60 (by decide) ?_
  refine lv_goto (tgt := 65) hx hb dX9_addMachine_61 (by decide) ?_
  exact h H locs ls hw (lv_sub hl [2] rfl)
