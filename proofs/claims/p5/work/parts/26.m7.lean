def wp_X0_restart (μ : TMem) (a1 : Int32) (Q : TMem → Prop) : Prop :=
  Q (tms μ 14 0 a1)
set_option maxHeartbeats 4000000 in
set_option maxRecDepth 100000 in
theorem c_X0_restart {l : Launch} {D : va_G} {ad : Nat → Nat} {cI cM : ClassId}  (μ : TMem) (sz : Nat) (a1 : Int32) {Q : TMem → Prop} (h : wp_X0_restart μ a1 Q) : TMv l yX0_restart (.code yX0_restart cX0_restart 2 (Option.none : Option Jvm.ClassFile.FieldType)) 0 [.ref (ad 14), .int a1] D ad cI cM sz μ Q := by
  refine T_metv (by decide +kernel) (Nat.le_of_ble_eq_true rfl) ?_
  intro p e s m below meth c Z ls hx hb hml hown ht hN hK hw hret hl
  have hl : lv_has ls 2 [(0, .ref (ad 14)), (1, .int a1)] := hl
  generalize s.heap = H at hw ⊢
  generalize ([] : List Loc) = locs at hw ⊢
  change Q (tms μ 14 0 a1) at h
  refine lv_aload_n hx hb dX0_restart_0 rfl (lv_at hl 0 rfl) ?_
  refine lv_iload_n hx hb dX0_restart_1 rfl (lv_at hl 1 rfl) ?_
  refine pgf_X0_7 hx hb ht hown hK hw rfl dX0_restart_2 (fun H locs hw => ?_)
  exact hret H locs ls 5 _ hw h dX0_restart_5
def wp_X0_draw (μ : TMem) (Q : Int32 → TMem → Prop) : Prop :=
  Q (((tms μ 14 0 ((((μ 14 0) * (25173 : Int32)) + (13849 : Int32)) - (((μ 14 0) * (25173 : Int32)) + (13849 : Int32)) / (65536 : Int32) * (65536 : Int32))) 14 0) / (64 : Int32)) (tms μ 14 0 ((((μ 14 0) * (25173 : Int32)) + (13849 : Int32)) - (((μ 14 0) * (25173 : Int32)) + (13849 : Int32)) / (65536 : Int32) * (65536 : Int32)))
set_option maxHeartbeats 4000000 in
set_option maxRecDepth 100000 in
theorem c_X0_draw {l : Launch} {D : va_G} {ad : Nat → Nat} {cI cM : ClassId}  (μ : TMem) (sz : Nat)  {Q : Int32 → TMem → Prop} (h : wp_X0_draw μ Q) : TMi l yX0_draw (.code yX0_draw cX0_draw 1 (Option.some Jvm.ClassFile.FieldType.int)) 0 [.ref (ad 14)] D ad cI cM sz μ Q := by
  refine T_meti (by decide +kernel) (Nat.le_of_ble_eq_true rfl) ?_
  intro p e s m below meth c Z ls hx hb hml hown ht hN hK hw hret hl
  have hl : lv_has ls 1 [(0, .ref (ad 14))] := hl
  generalize s.heap = H at hw ⊢
  generalize ([] : List Loc) = locs at hw ⊢
  change Q (((tms μ 14 0 ((((μ 14 0) * (25173 : Int32)) + (13849 : Int32)) - (((μ 14 0) * (25173 : Int32)) + (13849 : Int32)) / (65536 : Int32) * (65536 : Int32))) 14 0) / (64 : Int32)) (tms μ 14 0 ((((μ 14 0) * (25173 : Int32)) + (13849 : Int32)) - (((μ 14 0) * (25173 : Int32)) + (13849 : Int32)) / (65536 : Int32) * (65536 : Int32))) at h
  refine lv_aload_n hx hb dX0_draw_0 rfl (lv_at hl 0 rfl) ?_
  refine lv_aload_n hx hb dX0_draw_1 rfl (lv_at hl 0 rfl) ?_
  refine gf_X0_7 hx hb ht hown hK hw rfl dX0_draw_2 ?_
  refine lv_sipush (v := (25173 : Int32)) hx hb dX0_draw_5 (by decide) ?_
  refine lv_imul hx hb dX0_draw_8 ?_
  refine lv_sipush (v := (13849 : Int32)) hx hb dX0_draw_9 (by decide) ?_
  refine lv_iadd hx hb dX0_draw_12 ?_
  refine lv_ldc (v := (65536 : Int32)) hx hb hown (ht _ q_683) dX0_draw_13 ?_
  refine lv_irem hx hb dX0_draw_15 (by decide) ?_
  refine pgf_X0_7 hx hb ht hown hK hw rfl dX0_draw_16 (fun H locs hw => ?_)
  refine lv_aload_n hx hb dX0_draw_19 rfl (lv_at hl 0 rfl) ?_
  refine gf_X0_7 hx hb ht hown hK hw rfl dX0_draw_20 ?_
  refine lv_bipush (v := (64 : Int32)) hx hb dX0_draw_23 (by decide) ?_
  refine lv_idiv hx hb dX0_draw_25 (by decide) ?_
  exact hret H locs ls 26 _ _ hw h rfl dX0_draw_26
def wpl_X1_ofOtherGoalness_4 (k0 : Nat) (μ : TMem) (v4 : Int32) (Q : Int32 → Prop) : Nat → Int32 → Int32 → Prop
  | 0, _, _ => False
  | n + 1, v2, v3 =>
    ((μ k0 1) ≤ v2 → (Q v3)) ∧ (¬ (μ k0 1) ≤ v2 → (wp_X5_isGoal k0 μ v2 (fun (r6 : Int32) => wp_X5_isGoal k0 μ v4 (fun (r9 : Int32) => (r6 = r9 → (wpl_X1_ofOtherGoalness_4 k0 μ v4 Q n (v2 + (1 : Int32)) v3)) ∧ (¬ r6 = r9 → (wpl_X1_ofOtherGoalness_4 k0 μ v4 Q n (v2 + (1 : Int32)) (v3 ||| ((1 : Int32) <<< (v2 &&& 31)))))))))
def wp_X1_ofOtherGoalness (k0 : Nat) (μ : TMem) (a1 : Int32) (Q : Int32 → Prop) : Prop :=
  ∃ n0x, wpl_X1_ofOtherGoalness_4 k0 μ a1 Q n0x (0 : Int32) (0 : Int32)
set_option maxHeartbeats 4000000 in
set_option maxRecDepth 100000 in
theorem c_X1_ofOtherGoalness {l : Launch} {D : va_G} {ad : Nat → Nat} {cI cM : ClassId} (k0 : Nat) (hk0 : kd k0 = 5) (μ : TMem) (sz : Nat) (a1 : Int32) {Q : Int32 → Prop} (h : wp_X1_ofOtherGoalness k0 μ a1 Q) : TMi l yX1_ofOtherGoalness (.code yX1_ofOtherGoalness cX1_ofOtherGoalness 4 (Option.some Jvm.ClassFile.FieldType.int)) 2 [.ref (ad k0), .int a1] D ad cI cM sz μ (fun r μ1 => μ1 = μ ∧ Q r) := by
  refine T_meti (by decide +kernel) (Nat.le_of_ble_eq_true rfl) ?_
  intro p e s m below meth c Z ls hx hb hml hown ht hN hK hw hret hl
  have hl : lv_has ls 4 [(0, .ref (ad k0)), (1, .int a1)] := hl
  generalize s.heap = H at hw ⊢
  generalize ([] : List Loc) = locs at hw ⊢
  change ∃ n0x, wpl_X1_ofOtherGoalness_4 k0 μ a1 Q n0x (0 : Int32) (0 : Int32) at h
  refine lv_iconst (v := (0 : Int32)) hx hb dX1_ofOtherGoalness_0 (by decide) ?_
  refine lv_istore_n (lv' := [(2, .int (0 : Int32)), (0, .ref (ad k0)), (1, .int a1)]) hx hb dX1_ofOtherGoalness_1 rfl hl (by decide) rfl (fun ls hl => ?_)
  refine lv_iconst (v := (0 : Int32)) hx hb dX1_ofOtherGoalness_2 (by decide) ?_
  refine lv_istore_n (lv' := [(3, .int (0 : Int32)), (2, .int (0 : Int32)), (0, .ref (ad k0)), (1, .int a1)]) hx hb dX1_ofOtherGoalness_3 rfl hl (by decide) rfl (fun ls hl => ?_)
  obtain ⟨n13, h⟩ := h
  have L0 : ∀ (v4 : Int32), ∀ (n : Nat) (v2 : Int32) (v3 : Int32) (H : Heap) (locs : List Loc) (ls : Array Slot), TW D ad cI cM s μ H locs → lv_has ls 4 [(3, .int v2), (2, .int v3), (0, .ref (ad k0)), (1, .int v4)] → wpl_X1_ofOtherGoalness_4 k0 μ v4 Q n v2 v3 → W p l e (RM 2) s m #[.ref (ad k0), .int a1] below meth c H locs 0 0 Z (F0 m 4 ls []) := by
    intro v4
    intro n
    induction n with
    | zero => intro v2 v3 H locs ls hw hl h; exact False.elim h
    | succ n ih0 =>
      intro v2 v3 H locs ls hw hl h
      change ((μ k0 1) ≤ v2 → (Q v3)) ∧ (¬ (μ k0 1) ≤ v2 → (wp_X5_isGoal k0 μ v2 (fun (r6 : Int32) => wp_X5_isGoal k0 μ v4 (fun (r9 : Int32) => (r6 = r9 → (wpl_X1_ofOtherGoalness_4 k0 μ v4 Q n (v2 + (1 : Int32)) v3)) ∧ (¬ r6 = r9 → (wpl_X1_ofOtherGoalness_4 k0 μ v4 Q n (v2 + (1 : Int32)) (v3 ||| ((1 : Int32) <<< (v2 &&& 31))))))))) at h
      refine lv_iload_n hx hb dX1_ofOtherGoalness_4 rfl (lv_at hl 0 rfl) ?_
      refine lv_aload_n hx hb dX1_ofOtherGoalness_5 rfl (lv_at hl 2 rfl) ?_
      refine gf_X1_30 hx hb ht hown hK hw hk0 dX1_ofOtherGoalness_6 ?_
      refine lv_icmp_ge (tgt := 37) hx hb dX1_ofOtherGoalness_9 (by decide) (fun c5 => ?_) (fun c5 => ?_)
      · have h := h.1 c5
        refine lv_iload_n hx hb dX1_ofOtherGoalness_37 rfl (lv_at hl 1 rfl) ?_
        exact hret H locs ls 38 _ _ hw ⟨rfl, h⟩ rfl dX1_ofOtherGoalness_38
      have h := h.2 c5
      refine lv_aload_n hx hb dX1_ofOtherGoalness_12 rfl (lv_at hl 2 rfl) ?_
      refine lv_iload_n hx hb dX1_ofOtherGoalness_13 rfl (lv_at hl 0 rfl) ?_
      refine T_calli hw (va_runV (own := "Leastreader$Likeness") (As := [.int v2]) (rest := []) ⟨hx, hb, hml, hown, ht⟩ (c_X5_isGoal k0 hk0 μ H.size v2 h) (cwV 1 ht (G_V q_461 q_462 q_463 q_53 q_464) rfl rfl rfl ⟨rfl, hd_18⟩ ⟨Nat.le_of_ble_eq_true rfl, Nat.le_of_ble_eq_true rfl⟩) ⟨TB.blind, (T_recv hK hw (kd_of hk0 (by decide)) (ent_5 hk0) cl_5), TB.pre hK hN hw⟩ rfl rfl hl.1 rfl (lv_room (Nat.le_of_ble_eq_true rfl)) dX1_ofOtherGoalness_14 ⟨Nat.le_of_ble_eq_true rfl, Nat.le_of_ble_eq_true rfl⟩) (fun r6 μ7 H locs h hw => ?_)
      obtain ⟨e8, h⟩ := h
      rw [e8] at hw
      refine lv_aload_n hx hb dX1_ofOtherGoalness_17 rfl (lv_at hl 2 rfl) ?_
      refine lv_iload_n hx hb dX1_ofOtherGoalness_18 rfl (lv_at hl 3 rfl) ?_
      refine T_calli hw (va_runV (own := "Leastreader$Likeness") (As := [.int v4]) (rest := [.int r6]) ⟨hx, hb, hml, hown, ht⟩ (c_X5_isGoal k0 hk0 μ H.size v4 h) (cwV 1 ht (G_V q_461 q_462 q_463 q_53 q_464) rfl rfl rfl ⟨rfl, hd_18⟩ ⟨Nat.le_of_ble_eq_true rfl, Nat.le_of_ble_eq_true rfl⟩) ⟨TB.blind, (T_recv hK hw (kd_of hk0 (by decide)) (ent_5 hk0) cl_5), TB.pre hK hN hw⟩ rfl rfl hl.1 rfl (lv_room (Nat.le_of_ble_eq_true rfl)) dX1_ofOtherGoalness_19 ⟨Nat.le_of_ble_eq_true rfl, Nat.le_of_ble_eq_true rfl⟩) (fun r9 μ10 H locs h hw => ?_)
      obtain ⟨e11, h⟩ := h
      rw [e11] at hw
      refine lv_icmp_eq (tgt := 31) hx hb dX1_ofOtherGoalness_22 (by decide) (fun c12 => ?_) (fun c12 => ?_)
      · have h := h.1 c12
        refine lv_iinc (v := (v2 + (1 : Int32))) (lv' := [(3, .int (v2 + (1 : Int32))), (2, .int v3), (0, .ref (ad k0)), (1, .int v4)]) hx hb dX1_ofOtherGoalness_31 hl (k := 0) rfl rfl (by decide) rfl (fun ls hl => ?_)
        refine lv_goto (tgt := 4) hx hb dX1_ofOtherGoalness_34 (by decide) ?_
        exact ih0 (v2 + (1 : Int32)) v3 H locs ls hw (lv_sub hl [0, 1, 2, 3] rfl) h
      have h := h.2 c12
      refine lv_iload_n hx hb dX1_ofOtherGoalness_25 rfl (lv_at hl 1 rfl) ?_
      refine lv_iconst (v := (1 : Int32)) hx hb dX1_ofOtherGoalness_26 (by decide) ?_
      refine lv_iload_n hx hb dX1_ofOtherGoalness_27 rfl (lv_at hl 0 rfl) ?_
      refine lv_ishl hx hb dX1_ofOtherGoalness_28 ?_
      refine lv_ior hx hb dX1_ofOtherGoalness_29 ?_
      refine lv_istore_n (lv' := [(2, .int (v3 ||| ((1 : Int32) <<< (v2 &&& 31)))), (3, .int v2), (0, .ref (ad k0)), (1, .int v4)]) hx hb dX1_ofOtherGoalness_30 rfl hl (by decide) rfl (fun ls hl => ?_)
      refine lv_iinc (v := (v2 + (1 : Int32))) (lv' := [(3, .int (v2 + (1 : Int32))), (2, .int (v3 ||| ((1 : Int32) <<< (v2 &&& 31)))), (0, .ref (ad k0)), (1, .int v4)]) hx hb dX1_ofOtherGoalness_31 hl (k := 1) rfl rfl (by decide) rfl (fun ls hl => ?_)
      refine lv_goto (tgt := 4) hx hb dX1_ofOtherGoalness_34 (by decide) ?_
      exact ih0 (v2 + (1 : Int32)) (v3 ||| ((1 : Int32) <<< (v2 &&& 31))) H locs ls hw (lv_sub hl [0, 1, 2, 3] rfl) h
  exact L0 a1 n13 (0 : Int32) (0 : Int32) H locs ls hw (lv_sub hl [0, 1, 2, 3] rfl) h
def wpl_X1_isLeadingToUnlike_3 (k1 : Nat) (μ : TMem) (v3 : Int32) (v4 : Int32) (Q : Int32 → Prop) : Nat → Int32 → Prop
  | 0, _ => False
  | n + 1, v2 =>
    ((3 : Int32) ≤ v2 → (Q (0 : Int32))) ∧ (¬ (3 : Int32) ≤ v2 → (wp_X7_at k1 μ v3 v2 (fun (r6 : Int32) => wp_X6_at 27 μ r6 (fun (r9 : Int32) => wp_X7_at k1 μ v4 v2 (fun (r12 : Int32) => wp_X9_isIn r9 r12 (fun (r15 : Int32) => (r15 = 0 → (wpl_X1_isLeadingToUnlike_3 k1 μ v3 v4 Q n (v2 + (1 : Int32)))) ∧ (¬ r15 = 0 → (Q (1 : Int32)))))))))
def wp_X1_isLeadingToUnlike (k1 : Nat) (μ : TMem) (a2 : Int32) (a3 : Int32) (Q : Int32 → Prop) : Prop :=
  ∃ n0x, wpl_X1_isLeadingToUnlike_3 k1 μ a2 a3 Q n0x (0 : Int32)
set_option maxHeartbeats 4000000 in
set_option maxRecDepth 100000 in
theorem c_X1_isLeadingToUnlike {l : Launch} {D : va_G} {ad : Nat → Nat} {cI cM : ClassId} (k1 : Nat) (hk1 : kd k1 = 5) (μ : TMem) (sz : Nat) (a2 : Int32) (a3 : Int32) {Q : Int32 → Prop} (h : wp_X1_isLeadingToUnlike k1 μ a2 a3 Q) : TMi l yX1_isLeadingToUnlike (.code yX1_isLeadingToUnlike cX1_isLeadingToUnlike 5 (Option.some Jvm.ClassFile.FieldType.boolean)) 1 [.ref (ad 22), .ref (ad k1), .int a2, .int a3] D ad cI cM sz μ (fun r μ1 => μ1 = μ ∧ Q r) := by
  refine T_meti (by decide +kernel) (Nat.le_of_ble_eq_true rfl) ?_
  intro p e s m below meth c Z ls hx hb hml hown ht hN hK hw hret hl
  have hl : lv_has ls 5 [(0, .ref (ad 22)), (1, .ref (ad k1)), (2, .int a2), (3, .int a3)] := hl
  generalize s.heap = H at hw ⊢
  generalize ([] : List Loc) = locs at hw ⊢
  change ∃ n0x, wpl_X1_isLeadingToUnlike_3 k1 μ a2 a3 Q n0x (0 : Int32) at h
  refine lv_iconst (v := (0 : Int32)) hx hb dX1_isLeadingToUnlike_0 (by decide) ?_
  refine lv_istore (lv' := [(4, .int (0 : Int32)), (0, .ref (ad 22)), (1, .ref (ad k1)), (2, .int a2), (3, .int a3)]) hx hb dX1_isLeadingToUnlike_1 hl (by decide) rfl (fun ls hl => ?_)
  obtain ⟨n17, h⟩ := h
  have L0 : ∀ (v3 : Int32) (v4 : Int32), ∀ (n : Nat) (v2 : Int32) (H : Heap) (locs : List Loc) (ls : Array Slot), TW D ad cI cM s μ H locs → lv_has ls 5 [(4, .int v2), (0, .ref (ad 22)), (1, .ref (ad k1)), (2, .int v3), (3, .int v4)] → wpl_X1_isLeadingToUnlike_3 k1 μ v3 v4 Q n v2 → W p l e (RM 1) s m #[.ref (ad 22), .ref (ad k1), .int a2, .int a3] below meth c H locs 0 0 Z (F0 m 3 ls []) := by
    intro v3 v4
    intro n
    induction n with
    | zero => intro v2 H locs ls hw hl h; exact False.elim h
    | succ n ih0 =>
      intro v2 H locs ls hw hl h
      change ((3 : Int32) ≤ v2 → (Q (0 : Int32))) ∧ (¬ (3 : Int32) ≤ v2 → (wp_X7_at k1 μ v3 v2 (fun (r6 : Int32) => wp_X6_at 27 μ r6 (fun (r9 : Int32) => wp_X7_at k1 μ v4 v2 (fun (r12 : Int32) => wp_X9_isIn r9 r12 (fun (r15 : Int32) => (r15 = 0 → (wpl_X1_isLeadingToUnlike_3 k1 μ v3 v4 Q n (v2 + (1 : Int32)))) ∧ (¬ r15 = 0 → (Q (1 : Int32))))))))) at h
      refine lv_iload hx hb dX1_isLeadingToUnlike_3 (lv_at hl 0 rfl) ?_
      refine lv_iconst (v := (3 : Int32)) hx hb dX1_isLeadingToUnlike_5 (by decide) ?_
      refine lv_icmp_ge (tgt := 44) hx hb dX1_isLeadingToUnlike_6 (by decide) (fun c5 => ?_) (fun c5 => ?_)
      · have h := h.1 c5
        refine lv_iconst (v := (0 : Int32)) hx hb dX1_isLeadingToUnlike_44 (by decide) ?_
        exact hret H locs ls 45 _ _ hw ⟨rfl, h⟩ rfl dX1_isLeadingToUnlike_45
      have h := h.2 c5
      refine lv_aload_n hx hb dX1_isLeadingToUnlike_9 rfl (lv_at hl 1 rfl) ?_
      refine gf_X1_23 hx hb ht hown hK hw rfl dX1_isLeadingToUnlike_10 ?_
      refine W.eq (g2 := F0 m 13 ls [.ref (ad 27)]) rfl ?_
      refine lv_aload_n hx hb dX1_isLeadingToUnlike_13 rfl (lv_at hl 2 rfl) ?_
      refine lv_iload_n hx hb dX1_isLeadingToUnlike_14 rfl (lv_at hl 3 rfl) ?_
      refine lv_iload hx hb dX1_isLeadingToUnlike_15 (lv_at hl 0 rfl) ?_
      refine T_calli hw (va_runU (own := "Leastreader$Likeness") (As := [.int v3, .int v2]) (rest := [.ref (ad 27)]) ⟨hx, hb, hml, hown, ht⟩ (c_X7_at_5 k1 hk1 μ H.size v3 v2 h) (va_cwU (owner := "Leastreader$Table") 2 ht (G_U q_477 q_452 q_453 q_416 q_47 q_417) rfl rfl rfl rfl hd_0 ⟨Nat.le_of_ble_eq_true rfl, Nat.le_of_ble_eq_true rfl⟩) ⟨TB.blind, (T_recv hK hw (kd_of hk1 (by decide)) (ent_5 hk1) cl_5), TB.pre hK hN hw⟩ rfl rfl hl.1 rfl (lv_room (Nat.le_of_ble_eq_true rfl)) dX1_isLeadingToUnlike_17 ⟨Nat.le_of_ble_eq_true rfl, Nat.le_of_ble_eq_true rfl⟩) (fun r6 μ7 H locs h hw => ?_)
      obtain ⟨e8, h⟩ := h
      rw [e8] at hw
      refine T_calli hw (va_runV (own := "Leastreader$Likeness") (As := [.int r6]) (rest := []) ⟨hx, hb, hml, hown, ht⟩ (c_X6_at 27 rfl μ H.size r6 h) (cwV 1 ht (G_V q_471 q_399 q_400 q_51 q_401) rfl rfl rfl ⟨rfl, hd_8⟩ ⟨Nat.le_of_ble_eq_true rfl, Nat.le_of_ble_eq_true rfl⟩) ⟨TB.blind, (T_recv hK hw (kd_of rfl (by decide)) (ent_6 rfl) cl_6), TB.pre hK hN hw⟩ rfl rfl hl.1 rfl (lv_room (Nat.le_of_ble_eq_true rfl)) dX1_isLeadingToUnlike_20 ⟨Nat.le_of_ble_eq_true rfl, Nat.le_of_ble_eq_true rfl⟩) (fun r9 μ10 H locs h hw => ?_)
      obtain ⟨e11, h⟩ := h
      rw [e11] at hw
      refine lv_aload_n hx hb dX1_isLeadingToUnlike_23 rfl (lv_at hl 2 rfl) ?_
      refine lv_iload_n hx hb dX1_isLeadingToUnlike_24 rfl (lv_at hl 4 rfl) ?_
      refine lv_iload hx hb dX1_isLeadingToUnlike_25 (lv_at hl 0 rfl) ?_
      refine T_calli hw (va_runU (own := "Leastreader$Likeness") (As := [.int v4, .int v2]) (rest := [.int r9]) ⟨hx, hb, hml, hown, ht⟩ (c_X7_at_5 k1 hk1 μ H.size v4 v2 h) (va_cwU (owner := "Leastreader$Table") 2 ht (G_U q_477 q_452 q_453 q_416 q_47 q_417) rfl rfl rfl rfl hd_0 ⟨Nat.le_of_ble_eq_true rfl, Nat.le_of_ble_eq_true rfl⟩) ⟨TB.blind, (T_recv hK hw (kd_of hk1 (by decide)) (ent_5 hk1) cl_5), TB.pre hK hN hw⟩ rfl rfl hl.1 rfl (lv_room (Nat.le_of_ble_eq_true rfl)) dX1_isLeadingToUnlike_27 ⟨Nat.le_of_ble_eq_true rfl, Nat.le_of_ble_eq_true rfl⟩) (fun r12 μ13 H locs h hw => ?_)
      obtain ⟨e14, h⟩ := h
      rw [e14] at hw
      refine P_calli (va_runSN (own := "Leastreader$Likeness") (As := [.int r9, .int r12]) (rest := []) ⟨hx, hb, hml, hown, ht⟩ (c_X9_isIn r9 r12 h) ⟨va_cnB 2 ht (G_ws q_411) rfl rfl rfl (nw_472 hN) (ht _ q_46) hd_5 ⟨Nat.le_of_ble_eq_true rfl, Nat.le_of_ble_eq_true rfl⟩, ht _ q_410, trivial⟩ ⟨PM_blind, PM_pre⟩ rfl rfl hl.1 rfl (lv_room (Nat.le_of_ble_eq_true rfl)) dX1_isLeadingToUnlike_30 ⟨Nat.le_of_ble_eq_true rfl, Nat.le_of_ble_eq_true rfl⟩) (fun r15 h => ?_)
      refine lv_if_eq (tgt := 38) hx hb dX1_isLeadingToUnlike_33 (by decide) (fun c16 => ?_) (fun c16 => ?_)
      · have h := h.1 c16
        refine lv_iinc (v := (v2 + (1 : Int32))) (lv' := [(4, .int (v2 + (1 : Int32))), (0, .ref (ad 22)), (1, .ref (ad k1)), (2, .int v3), (3, .int v4)]) hx hb dX1_isLeadingToUnlike_38 hl (k := 0) rfl rfl (by decide) rfl (fun ls hl => ?_)
        refine lv_goto (tgt := 3) hx hb dX1_isLeadingToUnlike_41 (by decide) ?_
        exact ih0 (v2 + (1 : Int32)) H locs ls hw (lv_sub hl [0, 1, 2, 3, 4] rfl) h
      have h := h.2 c16
      refine lv_iconst (v := (1 : Int32)) hx hb dX1_isLeadingToUnlike_36 (by decide) ?_
      exact hret H locs ls 37 _ _ hw ⟨rfl, h⟩ rfl dX1_isLeadingToUnlike_37
  exact L0 a2 a3 n17 (0 : Int32) H locs ls hw (lv_sub hl [0, 1, 2, 3, 4] rfl) h
def wpl_X1_tellFurther_15 (k1 : Nat) (v9 : Int32) (K99 : Int32 → TMem → Prop) : Nat → Int32 → Int32 → TMem → Prop
  | 0, _, _, _ => False
  | n + 1, v8, v10, μ11 =>
    (v9 ≤ v8 → (K99 v10 μ11)) ∧ (¬ v9 ≤ v8 → (wp_X6_at 27 μ11 v9 (fun (r13 : Int32) => wp_X9_isIn r13 v8 (fun (r16 : Int32) => (¬ r16 = 0 → (wpl_X1_tellFurther_15 k1 v9 K99 n (v8 + (1 : Int32)) v10 μ11)) ∧ (r16 = 0 → (wp_X1_isLeadingToUnlike k1 μ11 v9 v8 (fun (r18 : Int32) => (r18 = 0 → (wpl_X1_tellFurther_15 k1 v9 K99 n (v8 + (1 : Int32)) v10 μ11)) ∧ (¬ r18 = 0 → (wp_X6_at 27 μ11 v9 (fun (r22 : Int32) => wp_X6_put 27 μ11 v9 (r22 ||| ((1 : Int32) <<< (v8 &&& 31))) (fun (μ25 : TMem) => wp_X6_at 27 μ25 v8 (fun (r26 : Int32) => wp_X6_put 27 μ25 v8 (r26 ||| ((1 : Int32) <<< (v9 &&& 31))) (fun (μ29 : TMem) => wpl_X1_tellFurther_15 k1 v9 K99 n (v8 + (1 : Int32)) (1 : Int32) μ29)))))))))))))
def wpl_X1_tellFurther_4 (k1 : Nat) (Q : Int32 → TMem → Prop) : Nat → Int32 → Int32 → TMem → Prop
  | 0, _, _, _ => False
  | n + 1, v2, v3, μ4 =>
    ((μ4 k1 1) ≤ v2 → (isB v3 ∧ Q v3 μ4)) ∧ (¬ (μ4 k1 1) ≤ v2 → (∃ n6x, wpl_X1_tellFurther_15 k1 v2 (fun (u31 : Int32) (μ32 : TMem) => wpl_X1_tellFurther_4 k1 Q n (v2 + (1 : Int32)) u31 μ32) n6x (0 : Int32) v3 μ4))
def wp_X1_tellFurther (k1 : Nat) (μ : TMem) (Q : Int32 → TMem → Prop) : Prop :=
  ∃ n0x, wpl_X1_tellFurther_4 k1 Q n0x (0 : Int32) (0 : Int32) μ
set_option maxHeartbeats 4000000 in
set_option maxRecDepth 100000 in
theorem c_X1_tellFurther {l : Launch} {D : va_G} {ad : Nat → Nat} {cI cM : ClassId} (k1 : Nat) (hk1 : kd k1 = 5) (μ : TMem) (sz : Nat)  {Q : Int32 → TMem → Prop} (h : wp_X1_tellFurther k1 μ Q) : TMi l yX1_tellFurther (.code yX1_tellFurther cX1_tellFurther 5 (Option.some Jvm.ClassFile.FieldType.boolean)) 2 [.ref (ad 22), .ref (ad k1)] D ad cI cM sz μ Q := by
  refine T_meti (by decide +kernel) (Nat.le_of_ble_eq_true rfl) ?_
  intro p e s m below meth c Z ls hx hb hml hown ht hN hK hw hret hl
  have hl : lv_has ls 5 [(0, .ref (ad 22)), (1, .ref (ad k1))] := hl
  generalize s.heap = H at hw ⊢
  generalize ([] : List Loc) = locs at hw ⊢
  change ∃ n0x, wpl_X1_tellFurther_4 k1 Q n0x (0 : Int32) (0 : Int32) μ at h
  refine lv_iconst (v := (0 : Int32)) hx hb dX1_tellFurther_0 (by decide) ?_
  refine lv_istore_n (lv' := [(2, .int (0 : Int32)), (0, .ref (ad 22)), (1, .ref (ad k1))]) hx hb dX1_tellFurther_1 rfl hl (by decide) rfl (fun ls hl => ?_)
  refine lv_iconst (v := (0 : Int32)) hx hb dX1_tellFurther_2 (by decide) ?_
  refine lv_istore_n (lv' := [(3, .int (0 : Int32)), (2, .int (0 : Int32)), (0, .ref (ad 22)), (1, .ref (ad k1))]) hx hb dX1_tellFurther_3 rfl hl (by decide) rfl (fun ls hl => ?_)
  obtain ⟨n33, h⟩ := h
  have L0 : ∀ (n : Nat) (v2 : Int32) (v3 : Int32) (μ4 : TMem) (H : Heap) (locs : List Loc) (ls : Array Slot), TW D ad cI cM s μ4 H locs → lv_has ls 5 [(3, .int v2), (2, .int v3), (0, .ref (ad 22)), (1, .ref (ad k1))] → wpl_X1_tellFurther_4 k1 Q n v2 v3 μ4 → W p l e (RM 2) s m #[.ref (ad 22), .ref (ad k1)] below meth c H locs 0 0 Z (F0 m 4 ls []) := by
    intro n
    induction n with
    | zero => intro v2 v3 μ4 H locs ls hw hl h; exact False.elim h
    | succ n ih0 =>
      intro v2 v3 μ4 H locs ls hw hl h
      change ((μ4 k1 1) ≤ v2 → (isB v3 ∧ Q v3 μ4)) ∧ (¬ (μ4 k1 1) ≤ v2 → (∃ n6x, wpl_X1_tellFurther_15 k1 v2 (fun (u31 : Int32) (μ32 : TMem) => wpl_X1_tellFurther_4 k1 Q n (v2 + (1 : Int32)) u31 μ32) n6x (0 : Int32) v3 μ4)) at h
      refine lv_iload_n hx hb dX1_tellFurther_4 rfl (lv_at hl 0 rfl) ?_
      refine lv_aload_n hx hb dX1_tellFurther_5 rfl (lv_at hl 3 rfl) ?_
      refine gf_X1_30 hx hb ht hown hK hw hk1 dX1_tellFurther_6 ?_
      refine lv_icmp_ge (tgt := 105) hx hb dX1_tellFurther_9 (by decide) (fun c5 => ?_) (fun c5 => ?_)
      · have h := h.1 c5
        refine lv_iload_n hx hb dX1_tellFurther_105 rfl (lv_at hl 1 rfl) ?_
        obtain ⟨z6, h⟩ := h
        exact hret H locs ls 106 _ _ hw h (isB_n z6) dX1_tellFurther_106
      have h := h.2 c5
      refine lv_iconst (v := (0 : Int32)) hx hb dX1_tellFurther_12 (by decide) ?_
      refine lv_istore (lv' := [(4, .int (0 : Int32)), (3, .int v2), (2, .int v3), (0, .ref (ad 22)), (1, .ref (ad k1))]) hx hb dX1_tellFurther_13 hl (by decide) rfl (fun ls hl => ?_)
      obtain ⟨n30, h⟩ := h
      have L6 : ∀ (v9 : Int32) (K99 : Int32 → TMem → Prop), (∀ (v10 : Int32) (μ11 : TMem) (H : Heap) (locs : List Loc) (ls : Array Slot), TW D ad cI cM s μ11 H locs → lv_has ls 5 [(3, .int v9), (2, .int v10), (0, .ref (ad 22)), (1, .ref (ad k1))] → K99 v10 μ11 → W p l e (RM 2) s m #[.ref (ad 22), .ref (ad k1)] below meth c H locs 0 0 Z (F0 m 99 ls [])) → ∀ (n : Nat) (v8 : Int32) (v10 : Int32) (μ11 : TMem) (H : Heap) (locs : List Loc) (ls : Array Slot), TW D ad cI cM s μ11 H locs → lv_has ls 5 [(4, .int v8), (3, .int v9), (2, .int v10), (0, .ref (ad 22)), (1, .ref (ad k1))] → wpl_X1_tellFurther_15 k1 v9 K99 n v8 v10 μ11 → W p l e (RM 2) s m #[.ref (ad 22), .ref (ad k1)] below meth c H locs 0 0 Z (F0 m 15 ls []) := by
        intro v9 K99 hK99
        intro n
        induction n with
        | zero => intro v8 v10 μ11 H locs ls hw hl h; exact False.elim h
        | succ n ih6 =>
          intro v8 v10 μ11 H locs ls hw hl h
          change (v9 ≤ v8 → (K99 v10 μ11)) ∧ (¬ v9 ≤ v8 → (wp_X6_at 27 μ11 v9 (fun (r13 : Int32) => wp_X9_isIn r13 v8 (fun (r16 : Int32) => (¬ r16 = 0 → (wpl_X1_tellFurther_15 k1 v9 K99 n (v8 + (1 : Int32)) v10 μ11)) ∧ (r16 = 0 → (wp_X1_isLeadingToUnlike k1 μ11 v9 v8 (fun (r18 : Int32) => (r18 = 0 → (wpl_X1_tellFurther_15 k1 v9 K99 n (v8 + (1 : Int32)) v10 μ11)) ∧ (¬ r18 = 0 → (wp_X6_at 27 μ11 v9 (fun (r22 : Int32) => wp_X6_put 27 μ11 v9 (r22 ||| ((1 : Int32) <<< (v8 &&& 31))) (fun (μ25 : TMem) => wp_X6_at 27 μ25 v8 (fun (r26 : Int32) => wp_X6_put 27 μ25 v8 (r26 ||| ((1 : Int32) <<< (v9 &&& 31))) (fun (μ29 : TMem) => wpl_X1_tellFurther_15 k1 v9 K99 n (v8 + (1 : Int32)) (1 : Int32) μ29))))))))))))) at h
          refine lv_iload hx hb dX1_tellFurther_15 (lv_at hl 0 rfl) ?_
          refine lv_iload_n hx hb dX1_tellFurther_17 rfl (lv_at hl 1 rfl) ?_
          refine lv_icmp_ge (tgt := 99) hx hb dX1_tellFurther_18 (by decide) (fun c12 => ?_) (fun c12 => ?_)
          · have h := h.1 c12
            exact hK99 v10 μ11 H locs ls hw (lv_sub hl [1, 2, 3, 4] rfl) h
          have h := h.2 c12
          refine lv_aload_n hx hb dX1_tellFurther_21 rfl (lv_at hl 3 rfl) ?_
          refine gf_X1_23 hx hb ht hown hK hw rfl dX1_tellFurther_22 ?_
          refine W.eq (g2 := F0 m 25 ls [.ref (ad 27)]) rfl ?_
          refine lv_iload_n hx hb dX1_tellFurther_25 rfl (lv_at hl 1 rfl) ?_
          refine T_calli hw (va_runV (own := "Leastreader$Likeness") (As := [.int v9]) (rest := []) ⟨hx, hb, hml, hown, ht⟩ (c_X6_at 27 rfl μ11 H.size v9 h) (cwV 1 ht (G_V q_471 q_399 q_400 q_51 q_401) rfl rfl rfl ⟨rfl, hd_8⟩ ⟨Nat.le_of_ble_eq_true rfl, Nat.le_of_ble_eq_true rfl⟩) ⟨TB.blind, (T_recv hK hw (kd_of rfl (by decide)) (ent_6 rfl) cl_6), TB.pre hK hN hw⟩ rfl rfl hl.1 rfl (lv_room (Nat.le_of_ble_eq_true rfl)) dX1_tellFurther_26 ⟨Nat.le_of_ble_eq_true rfl, Nat.le_of_ble_eq_true rfl⟩) (fun r13 μ14 H locs h hw => ?_)
          obtain ⟨e15, h⟩ := h
          rw [e15] at hw
          refine lv_iload hx hb dX1_tellFurther_29 (lv_at hl 0 rfl) ?_
          refine P_calli (va_runSN (own := "Leastreader$Likeness") (As := [.int r13, .int v8]) (rest := []) ⟨hx, hb, hml, hown, ht⟩ (c_X9_isIn r13 v8 h) ⟨va_cnB 2 ht (G_ws q_411) rfl rfl rfl (nw_472 hN) (ht _ q_46) hd_5 ⟨Nat.le_of_ble_eq_true rfl, Nat.le_of_ble_eq_true rfl⟩, ht _ q_410, trivial⟩ ⟨PM_blind, PM_pre⟩ rfl rfl hl.1 rfl (lv_room (Nat.le_of_ble_eq_true rfl)) dX1_tellFurther_31 ⟨Nat.le_of_ble_eq_true rfl, Nat.le_of_ble_eq_true rfl⟩) (fun r16 h => ?_)
          refine lv_if_ne (tgt := 93) hx hb dX1_tellFurther_34 (by decide) (fun c17 => ?_) (fun c17 => ?_)
          · have h := h.1 c17
            refine lv_iinc (v := (v8 + (1 : Int32))) (lv' := [(4, .int (v8 + (1 : Int32))), (3, .int v9), (2, .int v10), (0, .ref (ad 22)), (1, .ref (ad k1))]) hx hb dX1_tellFurther_93 hl (k := 0) rfl rfl (by decide) rfl (fun ls hl => ?_)
            refine lv_goto (tgt := 15) hx hb dX1_tellFurther_96 (by decide) ?_
            exact ih6 (v8 + (1 : Int32)) v10 μ11 H locs ls hw (lv_sub hl [0, 1, 2, 3, 4] rfl) h
          have h := h.2 c17
          refine lv_aload_n hx hb dX1_tellFurther_37 rfl (lv_at hl 3 rfl) ?_
          refine lv_aload_n hx hb dX1_tellFurther_38 rfl (lv_at hl 4 rfl) ?_
          refine lv_iload_n hx hb dX1_tellFurther_39 rfl (lv_at hl 1 rfl) ?_
          refine lv_iload hx hb dX1_tellFurther_40 (lv_at hl 0 rfl) ?_
          refine T_calli hw (va_runV (own := "Leastreader$Likeness") (As := [.ref (ad k1), .int v9, .int v8]) (rest := []) ⟨hx, hb, hml, hown, ht⟩ (c_X1_isLeadingToUnlike k1 hk1 μ11 H.size v9 v8 h) (cwV 3 ht (G_V q_473 q_475 q_6 q_52 q_476) rfl rfl rfl ⟨rfl, hd_36⟩ ⟨Nat.le_of_ble_eq_true rfl, Nat.le_of_ble_eq_true rfl⟩) ⟨TB.blind, (T_recv hK hw (kd_of rfl (by decide)) (ent_1 rfl) cl_1), TB.pre hK hN hw⟩ rfl rfl hl.1 rfl (lv_room (Nat.le_of_ble_eq_true rfl)) dX1_tellFurther_42 ⟨Nat.le_of_ble_eq_true rfl, Nat.le_of_ble_eq_true rfl⟩) (fun r18 μ19 H locs h hw => ?_)
          obtain ⟨e20, h⟩ := h
          rw [e20] at hw
          refine lv_if_eq (tgt := 93) hx hb dX1_tellFurther_45 (by decide) (fun c21 => ?_) (fun c21 => ?_)
          · have h := h.1 c21
            refine lv_iinc (v := (v8 + (1 : Int32))) (lv' := [(4, .int (v8 + (1 : Int32))), (3, .int v9), (2, .int v10), (0, .ref (ad 22)), (1, .ref (ad k1))]) hx hb dX1_tellFurther_93 hl (k := 0) rfl rfl (by decide) rfl (fun ls hl => ?_)
            refine lv_goto (tgt := 15) hx hb dX1_tellFurther_96 (by decide) ?_
            exact ih6 (v8 + (1 : Int32)) v10 μ11 H locs ls hw (lv_sub hl [0, 1, 2, 3, 4] rfl) h
          have h := h.2 c21
          refine lv_aload_n hx hb dX1_tellFurther_48 rfl (lv_at hl 3 rfl) ?_
          refine gf_X1_23 hx hb ht hown hK hw rfl dX1_tellFurther_49 ?_
          refine W.eq (g2 := F0 m 52 ls [.ref (ad 27)]) rfl ?_
          refine lv_iload_n hx hb dX1_tellFurther_52 rfl (lv_at hl 1 rfl) ?_
          refine lv_aload_n hx hb dX1_tellFurther_53 rfl (lv_at hl 3 rfl) ?_
          refine gf_X1_23 hx hb ht hown hK hw rfl dX1_tellFurther_54 ?_
          refine W.eq (g2 := F0 m 57 ls [.ref (ad 27), .int v9, .ref (ad 27)]) rfl ?_
          refine lv_iload_n hx hb dX1_tellFurther_57 rfl (lv_at hl 1 rfl) ?_
          refine T_calli hw (va_runV (own := "Leastreader$Likeness") (As := [.int v9]) (rest := [.int v9, .ref (ad 27)]) ⟨hx, hb, hml, hown, ht⟩ (c_X6_at 27 rfl μ11 H.size v9 h) (cwV 1 ht (G_V q_471 q_399 q_400 q_51 q_401) rfl rfl rfl ⟨rfl, hd_8⟩ ⟨Nat.le_of_ble_eq_true rfl, Nat.le_of_ble_eq_true rfl⟩) ⟨TB.blind, (T_recv hK hw (kd_of rfl (by decide)) (ent_6 rfl) cl_6), TB.pre hK hN hw⟩ rfl rfl hl.1 rfl (lv_room (Nat.le_of_ble_eq_true rfl)) dX1_tellFurther_58 ⟨Nat.le_of_ble_eq_true rfl, Nat.le_of_ble_eq_true rfl⟩) (fun r22 μ23 H locs h hw => ?_)
          obtain ⟨e24, h⟩ := h
          rw [e24] at hw
          refine lv_iconst (v := (1 : Int32)) hx hb dX1_tellFurther_61 (by decide) ?_
          refine lv_iload hx hb dX1_tellFurther_62 (lv_at hl 0 rfl) ?_
          refine lv_ishl hx hb dX1_tellFurther_64 ?_
          refine lv_ior hx hb dX1_tellFurther_65 ?_
          refine T_callv hw (va_runV (own := "Leastreader$Likeness") (As := [.int v9, .int (r22 ||| ((1 : Int32) <<< (v8 &&& 31)))]) (rest := []) ⟨hx, hb, hml, hown, ht⟩ (c_X6_put 27 rfl μ11 H.size v9 (r22 ||| ((1 : Int32) <<< (v8 &&& 31))) h) (cwV 2 ht (G_V q_466 q_395 q_396 q_51 q_397) rfl rfl rfl ⟨rfl, hd_7⟩ ⟨Nat.le_of_ble_eq_true rfl, Nat.le_of_ble_eq_true rfl⟩) ⟨TB.blind, (T_recv hK hw (kd_of rfl (by decide)) (ent_6 rfl) cl_6), TB.pre hK hN hw⟩ rfl rfl hl.1 rfl (lv_room (Nat.le_of_ble_eq_true rfl)) dX1_tellFurther_66 ⟨Nat.le_of_ble_eq_true rfl, Nat.le_of_ble_eq_true rfl⟩) (fun μ25 H locs h hw => ?_)
          refine lv_aload_n hx hb dX1_tellFurther_69 rfl (lv_at hl 3 rfl) ?_
          refine gf_X1_23 hx hb ht hown hK hw rfl dX1_tellFurther_70 ?_
          refine W.eq (g2 := F0 m 73 ls [.ref (ad 27)]) rfl ?_
          refine lv_iload hx hb dX1_tellFurther_73 (lv_at hl 0 rfl) ?_
          refine lv_aload_n hx hb dX1_tellFurther_75 rfl (lv_at hl 3 rfl) ?_
          refine gf_X1_23 hx hb ht hown hK hw rfl dX1_tellFurther_76 ?_
          refine W.eq (g2 := F0 m 79 ls [.ref (ad 27), .int v8, .ref (ad 27)]) rfl ?_
          refine lv_iload hx hb dX1_tellFurther_79 (lv_at hl 0 rfl) ?_
          refine T_calli hw (va_runV (own := "Leastreader$Likeness") (As := [.int v8]) (rest := [.int v8, .ref (ad 27)]) ⟨hx, hb, hml, hown, ht⟩ (c_X6_at 27 rfl μ25 H.size v8 h) (cwV 1 ht (G_V q_471 q_399 q_400 q_51 q_401) rfl rfl rfl ⟨rfl, hd_8⟩ ⟨Nat.le_of_ble_eq_true rfl, Nat.le_of_ble_eq_true rfl⟩) ⟨TB.blind, (T_recv hK hw (kd_of rfl (by decide)) (ent_6 rfl) cl_6), TB.pre hK hN hw⟩ rfl rfl hl.1 rfl (lv_room (Nat.le_of_ble_eq_true rfl)) dX1_tellFurther_81 ⟨Nat.le_of_ble_eq_true rfl, Nat.le_of_ble_eq_true rfl⟩) (fun r26 μ27 H locs h hw => ?_)
          obtain ⟨e28, h⟩ := h
          rw [e28] at hw
          refine lv_iconst (v := (1 : Int32)) hx hb dX1_tellFurther_84 (by decide) ?_
          refine lv_iload_n hx hb dX1_tellFurther_85 rfl (lv_at hl 1 rfl) ?_
          refine lv_ishl hx hb dX1_tellFurther_86 ?_
          refine lv_ior hx hb dX1_tellFurther_87 ?_
          refine T_callv hw (va_runV (own := "Leastreader$Likeness") (As := [.int v8, .int (r26 ||| ((1 : Int32) <<< (v9 &&& 31)))]) (rest := []) ⟨hx, hb, hml, hown, ht⟩ (c_X6_put 27 rfl μ25 H.size v8 (r26 ||| ((1 : Int32) <<< (v9 &&& 31))) h) (cwV 2 ht (G_V q_466 q_395 q_396 q_51 q_397) rfl rfl rfl ⟨rfl, hd_7⟩ ⟨Nat.le_of_ble_eq_true rfl, Nat.le_of_ble_eq_true rfl⟩) ⟨TB.blind, (T_recv hK hw (kd_of rfl (by decide)) (ent_6 rfl) cl_6), TB.pre hK hN hw⟩ rfl rfl hl.1 rfl (lv_room (Nat.le_of_ble_eq_true rfl)) dX1_tellFurther_88 ⟨Nat.le_of_ble_eq_true rfl, Nat.le_of_ble_eq_true rfl⟩) (fun μ29 H locs h hw => ?_)
          refine lv_iconst (v := (1 : Int32)) hx hb dX1_tellFurther_91 (by decide) ?_
          refine lv_istore_n (lv' := [(2, .int (1 : Int32)), (4, .int v8), (3, .int v9), (0, .ref (ad 22)), (1, .ref (ad k1))]) hx hb dX1_tellFurther_92 rfl hl (by decide) rfl (fun ls hl => ?_)
          refine lv_iinc (v := (v8 + (1 : Int32))) (lv' := [(4, .int (v8 + (1 : Int32))), (2, .int (1 : Int32)), (3, .int v9), (0, .ref (ad 22)), (1, .ref (ad k1))]) hx hb dX1_tellFurther_93 hl (k := 1) rfl rfl (by decide) rfl (fun ls hl => ?_)
          refine lv_goto (tgt := 15) hx hb dX1_tellFurther_96 (by decide) ?_
          exact ih6 (v8 + (1 : Int32)) (1 : Int32) μ29 H locs ls hw (lv_sub hl [0, 2, 1, 3, 4] rfl) h
      refine L6 v2 _ ?_ n30 (0 : Int32) v3 μ4 H locs ls hw (lv_sub hl [0, 1, 2, 3, 4] rfl) h
      intro u31 μ32 H locs ls hw hl h
      refine lv_iinc (v := (v2 + (1 : Int32))) (lv' := [(3, .int (v2 + (1 : Int32))), (2, .int u31), (0, .ref (ad 22)), (1, .ref (ad k1))]) hx hb dX1_tellFurther_99 hl (k := 0) rfl rfl (by decide) rfl (fun ls hl => ?_)
      refine lv_goto (tgt := 4) hx hb dX1_tellFurther_102 (by decide) ?_
      exact ih0 (v2 + (1 : Int32)) u31 μ32 H locs ls hw (lv_sub hl [0, 1, 2, 3] rfl) h
  exact L0 n33 (0 : Int32) (0 : Int32) μ H locs ls hw (lv_sub hl [0, 1, 2, 3] rfl) h
def wpl_X1_firstNotUnlike_2 (μ : TMem) (v3 : Int32) (Q : Int32 → Prop) : Nat → Int32 → Prop
  | 0, _ => False
  | n + 1, v2 =>
    (v3 ≤ v2 → (Q v3)) ∧ (¬ v3 ≤ v2 → (wp_X6_at 27 μ v3 (fun (r5 : Int32) => wp_X9_isIn r5 v2 (fun (r8 : Int32) => (¬ r8 = 0 → (wpl_X1_firstNotUnlike_2 μ v3 Q n (v2 + (1 : Int32)))) ∧ (r8 = 0 → (Q v2))))))
def wp_X1_firstNotUnlike (μ : TMem) (a1 : Int32) (Q : Int32 → Prop) : Prop :=
  ∃ n0x, wpl_X1_firstNotUnlike_2 μ a1 Q n0x (0 : Int32)
set_option maxHeartbeats 4000000 in
set_option maxRecDepth 100000 in
theorem c_X1_firstNotUnlike {l : Launch} {D : va_G} {ad : Nat → Nat} {cI cM : ClassId}  (μ : TMem) (sz : Nat) (a1 : Int32) {Q : Int32 → Prop} (h : wp_X1_firstNotUnlike μ a1 Q) : TMi l yX1_firstNotUnlike (.code yX1_firstNotUnlike cX1_firstNotUnlike 3 (Option.some Jvm.ClassFile.FieldType.int)) 1 [.ref (ad 22), .int a1] D ad cI cM sz μ (fun r μ1 => μ1 = μ ∧ Q r) := by
  refine T_meti (by decide +kernel) (Nat.le_of_ble_eq_true rfl) ?_
  intro p e s m below meth c Z ls hx hb hml hown ht hN hK hw hret hl
  have hl : lv_has ls 3 [(0, .ref (ad 22)), (1, .int a1)] := hl
  generalize s.heap = H at hw ⊢
  generalize ([] : List Loc) = locs at hw ⊢
  change ∃ n0x, wpl_X1_firstNotUnlike_2 μ a1 Q n0x (0 : Int32) at h
  refine lv_iconst (v := (0 : Int32)) hx hb dX1_firstNotUnlike_0 (by decide) ?_
  refine lv_istore_n (lv' := [(2, .int (0 : Int32)), (0, .ref (ad 22)), (1, .int a1)]) hx hb dX1_firstNotUnlike_1 rfl hl (by decide) rfl (fun ls hl => ?_)
  obtain ⟨n10, h⟩ := h
  have L0 : ∀ (v3 : Int32), ∀ (n : Nat) (v2 : Int32) (H : Heap) (locs : List Loc) (ls : Array Slot), TW D ad cI cM s μ H locs → lv_has ls 3 [(2, .int v2), (0, .ref (ad 22)), (1, .int v3)] → wpl_X1_firstNotUnlike_2 μ v3 Q n v2 → W p l e (RM 1) s m #[.ref (ad 22), .int a1] below meth c H locs 0 0 Z (F0 m 2 ls []) := by
    intro v3
    intro n
    induction n with
    | zero => intro v2 H locs ls hw hl h; exact False.elim h
    | succ n ih0 =>
      intro v2 H locs ls hw hl h
      change (v3 ≤ v2 → (Q v3)) ∧ (¬ v3 ≤ v2 → (wp_X6_at 27 μ v3 (fun (r5 : Int32) => wp_X9_isIn r5 v2 (fun (r8 : Int32) => (¬ r8 = 0 → (wpl_X1_firstNotUnlike_2 μ v3 Q n (v2 + (1 : Int32)))) ∧ (r8 = 0 → (Q v2)))))) at h
      refine lv_iload_n hx hb dX1_firstNotUnlike_2 rfl (lv_at hl 0 rfl) ?_
      refine lv_iload_n hx hb dX1_firstNotUnlike_3 rfl (lv_at hl 2 rfl) ?_
      refine lv_icmp_ge (tgt := 30) hx hb dX1_firstNotUnlike_4 (by decide) (fun c4 => ?_) (fun c4 => ?_)
      · have h := h.1 c4
        refine lv_iload_n hx hb dX1_firstNotUnlike_30 rfl (lv_at hl 2 rfl) ?_
        exact hret H locs ls 31 _ _ hw ⟨rfl, h⟩ rfl dX1_firstNotUnlike_31
      have h := h.2 c4
      refine lv_aload_n hx hb dX1_firstNotUnlike_7 rfl (lv_at hl 1 rfl) ?_
      refine gf_X1_23 hx hb ht hown hK hw rfl dX1_firstNotUnlike_8 ?_
      refine W.eq (g2 := F0 m 11 ls [.ref (ad 27)]) rfl ?_
      refine lv_iload_n hx hb dX1_firstNotUnlike_11 rfl (lv_at hl 2 rfl) ?_
      refine T_calli hw (va_runV (own := "Leastreader$Likeness") (As := [.int v3]) (rest := []) ⟨hx, hb, hml, hown, ht⟩ (c_X6_at 27 rfl μ H.size v3 h) (cwV 1 ht (G_V q_471 q_399 q_400 q_51 q_401) rfl rfl rfl ⟨rfl, hd_8⟩ ⟨Nat.le_of_ble_eq_true rfl, Nat.le_of_ble_eq_true rfl⟩) ⟨TB.blind, (T_recv hK hw (kd_of rfl (by decide)) (ent_6 rfl) cl_6), TB.pre hK hN hw⟩ rfl rfl hl.1 rfl (lv_room (Nat.le_of_ble_eq_true rfl)) dX1_firstNotUnlike_12 ⟨Nat.le_of_ble_eq_true rfl, Nat.le_of_ble_eq_true rfl⟩) (fun r5 μ6 H locs h hw => ?_)
      obtain ⟨e7, h⟩ := h
      rw [e7] at hw
      refine lv_iload_n hx hb dX1_firstNotUnlike_15 rfl (lv_at hl 0 rfl) ?_
      refine P_calli (va_runSN (own := "Leastreader$Likeness") (As := [.int r5, .int v2]) (rest := []) ⟨hx, hb, hml, hown, ht⟩ (c_X9_isIn r5 v2 h) ⟨va_cnB 2 ht (G_ws q_411) rfl rfl rfl (nw_472 hN) (ht _ q_46) hd_5 ⟨Nat.le_of_ble_eq_true rfl, Nat.le_of_ble_eq_true rfl⟩, ht _ q_410, trivial⟩ ⟨PM_blind, PM_pre⟩ rfl rfl hl.1 rfl (lv_room (Nat.le_of_ble_eq_true rfl)) dX1_firstNotUnlike_16 ⟨Nat.le_of_ble_eq_true rfl, Nat.le_of_ble_eq_true rfl⟩) (fun r8 h => ?_)
      refine lv_if_ne (tgt := 24) hx hb dX1_firstNotUnlike_19 (by decide) (fun c9 => ?_) (fun c9 => ?_)
      · have h := h.1 c9
        refine lv_iinc (v := (v2 + (1 : Int32))) (lv' := [(2, .int (v2 + (1 : Int32))), (0, .ref (ad 22)), (1, .int v3)]) hx hb dX1_firstNotUnlike_24 hl (k := 0) rfl rfl (by decide) rfl (fun ls hl => ?_)
        refine lv_goto (tgt := 2) hx hb dX1_firstNotUnlike_27 (by decide) ?_
        exact ih0 (v2 + (1 : Int32)) H locs ls hw (lv_sub hl [0, 1, 2] rfl) h
      have h := h.2 c9
      refine lv_iload_n hx hb dX1_firstNotUnlike_22 rfl (lv_at hl 0 rfl) ?_
      exact hret H locs ls 23 _ _ hw ⟨rfl, h⟩ rfl dX1_firstNotUnlike_23
  exact L0 a1 n10 (0 : Int32) H locs ls hw (lv_sub hl [0, 1, 2] rfl) h
def wpl_X1_findByPairs_2 (k1 : Nat) (K29 : TMem → Prop) : Nat → Int32 → TMem → Prop
  | 0, _, _ => False
  | n + 1, v2, μ3 =>
    ((μ3 k1 1) ≤ v2 → (K29 μ3)) ∧ (¬ (μ3 k1 1) ≤ v2 → (wp_X1_ofOtherGoalness k1 μ3 v2 (fun (r5 : Int32) => wp_X6_put 27 μ3 v2 r5 (fun (μ8 : TMem) => wpl_X1_findByPairs_2 k1 K29 n (v2 + (1 : Int32)) μ8))))
def wpl_X1_findByPairs_33 (k1 : Nat) (K56 : TMem → Prop) : Nat → Int32 → Int32 → TMem → Prop
  | 0, _, _, _ => False
  | n + 1, v12, v13, μ14 =>
    ((1024 : Int32) ≤ v12 → (K56 μ14)) ∧ (¬ (1024 : Int32) ≤ v12 → ((v13 = 0 → (K56 μ14)) ∧ (¬ v13 = 0 → (wp_X1_tellFurther k1 μ14 (fun (r18 : Int32) (μ17 : TMem) => wpl_X1_findByPairs_33 k1 K56 n (v12 + (1 : Int32)) r18 μ17)))))
def wpl_X1_findByPairs_58 (k1 : Nat) (Q : TMem → Prop) : Nat → Int32 → TMem → Prop
  | 0, _, _ => False
  | n + 1, v22, μ23 =>
    ((μ23 k1 1) ≤ v22 → (Q μ23)) ∧ (¬ (μ23 k1 1) ≤ v22 → (wp_X1_firstNotUnlike μ23 v22 (fun (r25 : Int32) => wp_X6_put 23 μ23 v22 r25 (fun (μ28 : TMem) => wpl_X1_findByPairs_58 k1 Q n (v22 + (1 : Int32)) μ28))))
def wp_X1_findByPairs (k1 : Nat) (μ : TMem) (Q : TMem → Prop) : Prop :=
  ∃ n0x, wpl_X1_findByPairs_2 k1 (fun (μ10 : TMem) => ∃ n10x, wpl_X1_findByPairs_33 k1 (fun (μ20 : TMem) => ∃ n20x, wpl_X1_findByPairs_58 k1 Q n20x (0 : Int32) μ20) n10x (0 : Int32) (1 : Int32) μ10) n0x (0 : Int32) μ
set_option maxHeartbeats 4000000 in
set_option maxRecDepth 100000 in
theorem c_X1_findByPairs {l : Launch} {D : va_G} {ad : Nat → Nat} {cI cM : ClassId} (k1 : Nat) (hk1 : kd k1 = 5) (μ : TMem) (sz : Nat)  {Q : TMem → Prop} (h : wp_X1_findByPairs k1 μ Q) : TMv l yX1_findByPairs (.code yX1_findByPairs cX1_findByPairs 4 (Option.none : Option Jvm.ClassFile.FieldType)) 3 [.ref (ad 22), .ref (ad k1)] D ad cI cM sz μ Q := by
  refine T_metv (by decide +kernel) (Nat.le_of_ble_eq_true rfl) ?_
  intro p e s m below meth c Z ls hx hb hml hown ht hN hK hw hret hl
  have hl : lv_has ls 4 [(0, .ref (ad 22)), (1, .ref (ad k1))] := hl
  generalize s.heap = H at hw ⊢
  generalize ([] : List Loc) = locs at hw ⊢
  change ∃ n0x, wpl_X1_findByPairs_2 k1 (fun (μ10 : TMem) => ∃ n10x, wpl_X1_findByPairs_33 k1 (fun (μ20 : TMem) => ∃ n20x, wpl_X1_findByPairs_58 k1 Q n20x (0 : Int32) μ20) n10x (0 : Int32) (1 : Int32) μ10) n0x (0 : Int32) μ at h
  refine lv_iconst (v := (0 : Int32)) hx hb dX1_findByPairs_0 (by decide) ?_
  refine lv_istore_n (lv' := [(2, .int (0 : Int32)), (0, .ref (ad 22)), (1, .ref (ad k1))]) hx hb dX1_findByPairs_1 rfl hl (by decide) rfl (fun ls hl => ?_)
  obtain ⟨n9, h⟩ := h
  have L0 : ∀ (K29 : TMem → Prop), (∀ (μ3 : TMem) (H : Heap) (locs : List Loc) (ls : Array Slot), TW D ad cI cM s μ3 H locs → lv_has ls 4 [(0, .ref (ad 22)), (1, .ref (ad k1))] → K29 μ3 → W p l e (RM 3) s m #[.ref (ad 22), .ref (ad k1)] below meth c H locs 0 0 Z (F0 m 29 ls [])) → ∀ (n : Nat) (v2 : Int32) (μ3 : TMem) (H : Heap) (locs : List Loc) (ls : Array Slot), TW D ad cI cM s μ3 H locs → lv_has ls 4 [(2, .int v2), (0, .ref (ad 22)), (1, .ref (ad k1))] → wpl_X1_findByPairs_2 k1 K29 n v2 μ3 → W p l e (RM 3) s m #[.ref (ad 22), .ref (ad k1)] below meth c H locs 0 0 Z (F0 m 2 ls []) := by
    intro K29 hK29
    intro n
    induction n with
    | zero => intro v2 μ3 H locs ls hw hl h; exact False.elim h
    | succ n ih0 =>
      intro v2 μ3 H locs ls hw hl h
      change ((μ3 k1 1) ≤ v2 → (K29 μ3)) ∧ (¬ (μ3 k1 1) ≤ v2 → (wp_X1_ofOtherGoalness k1 μ3 v2 (fun (r5 : Int32) => wp_X6_put 27 μ3 v2 r5 (fun (μ8 : TMem) => wpl_X1_findByPairs_2 k1 K29 n (v2 + (1 : Int32)) μ8)))) at h
      refine lv_iload_n hx hb dX1_findByPairs_2 rfl (lv_at hl 0 rfl) ?_
      refine lv_aload_n hx hb dX1_findByPairs_3 rfl (lv_at hl 2 rfl) ?_
      refine gf_X1_30 hx hb ht hown hK hw hk1 dX1_findByPairs_4 ?_
      refine lv_icmp_ge (tgt := 29) hx hb dX1_findByPairs_7 (by decide) (fun c4 => ?_) (fun c4 => ?_)
      · have h := h.1 c4
        exact hK29 μ3 H locs ls hw (lv_sub hl [1, 2] rfl) h
      have h := h.2 c4
      refine lv_aload_n hx hb dX1_findByPairs_10 rfl (lv_at hl 1 rfl) ?_
      refine gf_X1_23 hx hb ht hown hK hw rfl dX1_findByPairs_11 ?_
      refine W.eq (g2 := F0 m 14 ls [.ref (ad 27)]) rfl ?_
      refine lv_iload_n hx hb dX1_findByPairs_14 rfl (lv_at hl 0 rfl) ?_
      refine lv_aload_n hx hb dX1_findByPairs_15 rfl (lv_at hl 2 rfl) ?_
      refine lv_iload_n hx hb dX1_findByPairs_16 rfl (lv_at hl 0 rfl) ?_
      refine T_calli hw (va_runS (own := "Leastreader$Likeness") (As := [.ref (ad k1), .int v2]) (rest := [.int v2, .ref (ad 27)]) ⟨hx, hb, hml, hown, ht⟩ (c_X1_ofOtherGoalness k1 hk1 μ3 H.size v2 h) (va_cwS 2 ht (G_S q_458 q_459 q_52 q_460) rfl rfl rfl hd_37 ⟨Nat.le_of_ble_eq_true rfl, Nat.le_of_ble_eq_true rfl⟩) ⟨TB.blind, TB.pre hK hN hw⟩ rfl rfl hl.1 rfl (lv_room (Nat.le_of_ble_eq_true rfl)) dX1_findByPairs_17 ⟨Nat.le_of_ble_eq_true rfl, Nat.le_of_ble_eq_true rfl⟩) (fun r5 μ6 H locs h hw => ?_)
      obtain ⟨e7, h⟩ := h
      rw [e7] at hw
      refine T_callv hw (va_runV (own := "Leastreader$Likeness") (As := [.int v2, .int r5]) (rest := []) ⟨hx, hb, hml, hown, ht⟩ (c_X6_put 27 rfl μ3 H.size v2 r5 h) (cwV 2 ht (G_V q_466 q_395 q_396 q_51 q_397) rfl rfl rfl ⟨rfl, hd_7⟩ ⟨Nat.le_of_ble_eq_true rfl, Nat.le_of_ble_eq_true rfl⟩) ⟨TB.blind, (T_recv hK hw (kd_of rfl (by decide)) (ent_6 rfl) cl_6), TB.pre hK hN hw⟩ rfl rfl hl.1 rfl (lv_room (Nat.le_of_ble_eq_true rfl)) dX1_findByPairs_20 ⟨Nat.le_of_ble_eq_true rfl, Nat.le_of_ble_eq_true rfl⟩) (fun μ8 H locs h hw => ?_)
      refine lv_iinc (v := (v2 + (1 : Int32))) (lv' := [(2, .int (v2 + (1 : Int32))), (0, .ref (ad 22)), (1, .ref (ad k1))]) hx hb dX1_findByPairs_23 hl (k := 0) rfl rfl (by decide) rfl (fun ls hl => ?_)
      refine lv_goto (tgt := 2) hx hb dX1_findByPairs_26 (by decide) ?_
      exact ih0 (v2 + (1 : Int32)) μ8 H locs ls hw (lv_sub hl [0, 1, 2] rfl) h
  refine L0 _ ?_ n9 (0 : Int32) μ H locs ls hw (lv_sub hl [0, 1, 2] rfl) h
  intro μ10 H locs ls hw hl h
  refine lv_iconst (v := (1 : Int32)) hx hb dX1_findByPairs_29 (by decide) ?_
  refine lv_istore_n (lv' := [(2, .int (1 : Int32)), (0, .ref (ad 22)), (1, .ref (ad k1))]) hx hb dX1_findByPairs_30 rfl hl (by decide) rfl (fun ls hl => ?_)
  refine lv_iconst (v := (0 : Int32)) hx hb dX1_findByPairs_31 (by decide) ?_
  refine lv_istore_n (lv' := [(3, .int (0 : Int32)), (2, .int (1 : Int32)), (0, .ref (ad 22)), (1, .ref (ad k1))]) hx hb dX1_findByPairs_32 rfl hl (by decide) rfl (fun ls hl => ?_)
  obtain ⟨n19, h⟩ := h
  have L10 : ∀ (K56 : TMem → Prop), (∀ (μ14 : TMem) (H : Heap) (locs : List Loc) (ls : Array Slot), TW D ad cI cM s μ14 H locs → lv_has ls 4 [(0, .ref (ad 22)), (1, .ref (ad k1))] → K56 μ14 → W p l e (RM 3) s m #[.ref (ad 22), .ref (ad k1)] below meth c H locs 0 0 Z (F0 m 56 ls [])) → ∀ (n : Nat) (v12 : Int32) (v13 : Int32) (μ14 : TMem) (H : Heap) (locs : List Loc) (ls : Array Slot), TW D ad cI cM s μ14 H locs → lv_has ls 4 [(3, .int v12), (2, .int v13), (0, .ref (ad 22)), (1, .ref (ad k1))] → wpl_X1_findByPairs_33 k1 K56 n v12 v13 μ14 → W p l e (RM 3) s m #[.ref (ad 22), .ref (ad k1)] below meth c H locs 0 0 Z (F0 m 33 ls []) := by
    intro K56 hK56
    intro n
    induction n with
    | zero => intro v12 v13 μ14 H locs ls hw hl h; exact False.elim h
    | succ n ih10 =>
      intro v12 v13 μ14 H locs ls hw hl h
      change ((1024 : Int32) ≤ v12 → (K56 μ14)) ∧ (¬ (1024 : Int32) ≤ v12 → ((v13 = 0 → (K56 μ14)) ∧ (¬ v13 = 0 → (wp_X1_tellFurther k1 μ14 (fun (r18 : Int32) (μ17 : TMem) => wpl_X1_findByPairs_33 k1 K56 n (v12 + (1 : Int32)) r18 μ17))))) at h
      refine lv_iload_n hx hb dX1_findByPairs_33 rfl (lv_at hl 0 rfl) ?_
      refine lv_sipush (v := (1024 : Int32)) hx hb dX1_findByPairs_34 (by decide) ?_
      refine lv_icmp_ge (tgt := 56) hx hb dX1_findByPairs_37 (by decide) (fun c15 => ?_) (fun c15 => ?_)
      · have h := h.1 c15
        exact hK56 μ14 H locs ls hw (lv_sub hl [2, 3] rfl) h
      have h := h.2 c15
      refine lv_iload_n hx hb dX1_findByPairs_40 rfl (lv_at hl 1 rfl) ?_
      refine lv_if_eq (tgt := 56) hx hb dX1_findByPairs_41 (by decide) (fun c16 => ?_) (fun c16 => ?_)
      · have h := h.1 c16
        exact hK56 μ14 H locs ls hw (lv_sub hl [2, 3] rfl) h
      have h := h.2 c16
      refine lv_aload_n hx hb dX1_findByPairs_44 rfl (lv_at hl 2 rfl) ?_
      refine lv_aload_n hx hb dX1_findByPairs_45 rfl (lv_at hl 3 rfl) ?_
      refine T_calli hw (va_runV (own := "Leastreader$Likeness") (As := [.ref (ad k1)]) (rest := []) ⟨hx, hb, hml, hown, ht⟩ (c_X1_tellFurther k1 hk1 μ14 H.size h) (cwV 1 ht (G_V q_467 q_469 q_5 q_52 q_470) rfl rfl rfl ⟨rfl, hd_38⟩ ⟨Nat.le_of_ble_eq_true rfl, Nat.le_of_ble_eq_true rfl⟩) ⟨TB.blind, (T_recv hK hw (kd_of rfl (by decide)) (ent_1 rfl) cl_1), TB.pre hK hN hw⟩ rfl rfl hl.1 rfl (lv_room (Nat.le_of_ble_eq_true rfl)) dX1_findByPairs_46 ⟨Nat.le_of_ble_eq_true rfl, Nat.le_of_ble_eq_true rfl⟩) (fun r18 μ17 H locs h hw => ?_)
      refine lv_istore_n (lv' := [(2, .int r18), (3, .int v12), (0, .ref (ad 22)), (1, .ref (ad k1))]) hx hb dX1_findByPairs_49 rfl hl (by decide) rfl (fun ls hl => ?_)
      refine lv_iinc (v := (v12 + (1 : Int32))) (lv' := [(3, .int (v12 + (1 : Int32))), (2, .int r18), (0, .ref (ad 22)), (1, .ref (ad k1))]) hx hb dX1_findByPairs_50 hl (k := 1) rfl rfl (by decide) rfl (fun ls hl => ?_)
      refine lv_goto (tgt := 33) hx hb dX1_findByPairs_53 (by decide) ?_
      exact ih10 (v12 + (1 : Int32)) r18 μ17 H locs ls hw (lv_sub hl [0, 1, 2, 3] rfl) h
  refine L10 _ ?_ n19 (0 : Int32) (1 : Int32) μ10 H locs ls hw (lv_sub hl [0, 1, 2, 3] rfl) h
  intro μ20 H locs ls hw hl h
  refine lv_iconst (v := (0 : Int32)) hx hb dX1_findByPairs_56 (by decide) ?_
  refine lv_istore_n (lv' := [(3, .int (0 : Int32)), (0, .ref (ad 22)), (1, .ref (ad k1))]) hx hb dX1_findByPairs_57 rfl hl (by decide) rfl (fun ls hl => ?_)
  obtain ⟨n29, h⟩ := h
  have L20 : ∀ (n : Nat) (v22 : Int32) (μ23 : TMem) (H : Heap) (locs : List Loc) (ls : Array Slot), TW D ad cI cM s μ23 H locs → lv_has ls 4 [(3, .int v22), (0, .ref (ad 22)), (1, .ref (ad k1))] → wpl_X1_findByPairs_58 k1 Q n v22 μ23 → W p l e (RM 3) s m #[.ref (ad 22), .ref (ad k1)] below meth c H locs 0 0 Z (F0 m 58 ls []) := by
    intro n
    induction n with
    | zero => intro v22 μ23 H locs ls hw hl h; exact False.elim h
    | succ n ih20 =>
      intro v22 μ23 H locs ls hw hl h
      change ((μ23 k1 1) ≤ v22 → (Q μ23)) ∧ (¬ (μ23 k1 1) ≤ v22 → (wp_X1_firstNotUnlike μ23 v22 (fun (r25 : Int32) => wp_X6_put 23 μ23 v22 r25 (fun (μ28 : TMem) => wpl_X1_findByPairs_58 k1 Q n (v22 + (1 : Int32)) μ28)))) at h
      refine lv_iload_n hx hb dX1_findByPairs_58 rfl (lv_at hl 0 rfl) ?_
      refine lv_aload_n hx hb dX1_findByPairs_59 rfl (lv_at hl 2 rfl) ?_
      refine gf_X1_30 hx hb ht hown hK hw hk1 dX1_findByPairs_60 ?_
      refine lv_icmp_ge (tgt := 85) hx hb dX1_findByPairs_63 (by decide) (fun c24 => ?_) (fun c24 => ?_)
      · have h := h.1 c24
        exact hret H locs ls 85 _ hw h dX1_findByPairs_85
      have h := h.2 c24
      refine lv_aload_n hx hb dX1_findByPairs_66 rfl (lv_at hl 1 rfl) ?_
      refine gf_X1_14 hx hb ht hown hK hw rfl dX1_findByPairs_67 ?_
      refine W.eq (g2 := F0 m 70 ls [.ref (ad 23)]) rfl ?_
      refine lv_iload_n hx hb dX1_findByPairs_70 rfl (lv_at hl 0 rfl) ?_
      refine lv_aload_n hx hb dX1_findByPairs_71 rfl (lv_at hl 1 rfl) ?_
      refine lv_iload_n hx hb dX1_findByPairs_72 rfl (lv_at hl 0 rfl) ?_
      refine T_calli hw (va_runV (own := "Leastreader$Likeness") (As := [.int v22]) (rest := [.int v22, .ref (ad 23)]) ⟨hx, hb, hml, hown, ht⟩ (c_X1_firstNotUnlike μ23 H.size v22 h) (cwV 1 ht (G_V q_478 q_480 q_7 q_52 q_481) rfl rfl rfl ⟨rfl, hd_39⟩ ⟨Nat.le_of_ble_eq_true rfl, Nat.le_of_ble_eq_true rfl⟩) ⟨TB.blind, (T_recv hK hw (kd_of rfl (by decide)) (ent_1 rfl) cl_1), TB.pre hK hN hw⟩ rfl rfl hl.1 rfl (lv_room (Nat.le_of_ble_eq_true rfl)) dX1_findByPairs_73 ⟨Nat.le_of_ble_eq_true rfl, Nat.le_of_ble_eq_true rfl⟩) (fun r25 μ26 H locs h hw => ?_)
      obtain ⟨e27, h⟩ := h
      rw [e27] at hw
      refine T_callv hw (va_runV (own := "Leastreader$Likeness") (As := [.int v22, .int r25]) (rest := []) ⟨hx, hb, hml, hown, ht⟩ (c_X6_put 23 rfl μ23 H.size v22 r25 h) (cwV 2 ht (G_V q_466 q_395 q_396 q_51 q_397) rfl rfl rfl ⟨rfl, hd_7⟩ ⟨Nat.le_of_ble_eq_true rfl, Nat.le_of_ble_eq_true rfl⟩) ⟨TB.blind, (T_recv hK hw (kd_of rfl (by decide)) (ent_6 rfl) cl_6), TB.pre hK hN hw⟩ rfl rfl hl.1 rfl (lv_room (Nat.le_of_ble_eq_true rfl)) dX1_findByPairs_76 ⟨Nat.le_of_ble_eq_true rfl, Nat.le_of_ble_eq_true rfl⟩) (fun μ28 H locs h hw => ?_)
      refine lv_iinc (v := (v22 + (1 : Int32))) (lv' := [(3, .int (v22 + (1 : Int32))), (0, .ref (ad 22)), (1, .ref (ad k1))]) hx hb dX1_findByPairs_79 hl (k := 0) rfl rfl (by decide) rfl (fun ls hl => ?_)
      refine lv_goto (tgt := 58) hx hb dX1_findByPairs_82 (by decide) ?_
      exact ih20 (v22 + (1 : Int32)) μ28 H locs ls hw (lv_sub hl [0, 1, 2] rfl) h
  exact L20 n29 (0 : Int32) μ20 H locs ls hw (lv_sub hl [0, 1, 2] rfl) h
