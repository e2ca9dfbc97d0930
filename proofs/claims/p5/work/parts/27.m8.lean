def wpl_X2_addState_2 (k0 : Nat) (Q : TMem → Prop) : Nat → Int32 → TMem → Prop
  | 0, _, _ => False
  | n + 1, v2, μ3 =>
    ((3 : Int32) ≤ v2 → (Q (tms μ3 k0 1 ((μ3 k0 1) + (1 : Int32))))) ∧ (¬ (3 : Int32) ≤ v2 → (wp_X7_put k0 μ3 (μ3 k0 1) v2 (0 : Int32) (fun (μ5 : TMem) => wpl_X2_addState_2 k0 Q n (v2 + (1 : Int32)) μ5)))
def wp_X2_addState (k0 : Nat) (μ : TMem) (Q : TMem → Prop) : Prop :=
  ∃ n0x, wpl_X2_addState_2 k0 Q n0x (0 : Int32) μ
set_option maxHeartbeats 4000000 in
set_option maxRecDepth 100000 in
theorem c_X2_addState {l : Launch} {D : va_G} {ad : Nat → Nat} {cI cM : ClassId} (k0 : Nat) (hk0 : kd k0 = 2) (μ : TMem) (sz : Nat)  {Q : TMem → Prop} (h : wp_X2_addState k0 μ Q) : TMv l yX2_addState (.code yX2_addState cX2_addState 2 (Option.none : Option Jvm.ClassFile.FieldType)) 1 [.ref (ad k0)] D ad cI cM sz μ Q := by
  refine T_metv (by decide +kernel) (Nat.le_of_ble_eq_true rfl) ?_
  intro p e s m below meth c Z ls hx hb hml hown ht hN hK hw hret hl
  have hl : lv_has ls 2 [(0, .ref (ad k0))] := hl
  generalize s.heap = H at hw ⊢
  generalize ([] : List Loc) = locs at hw ⊢
  change ∃ n0x, wpl_X2_addState_2 k0 Q n0x (0 : Int32) μ at h
  refine lv_iconst (v := (0 : Int32)) hx hb dX2_addState_0 (by decide) ?_
  refine lv_istore_n (lv' := [(1, .int (0 : Int32)), (0, .ref (ad k0))]) hx hb dX2_addState_1 rfl hl (by decide) rfl (fun ls hl => ?_)
  obtain ⟨n6, h⟩ := h
  have L0 : ∀ (n : Nat) (v2 : Int32) (μ3 : TMem) (H : Heap) (locs : List Loc) (ls : Array Slot), TW D ad cI cM s μ3 H locs → lv_has ls 2 [(1, .int v2), (0, .ref (ad k0))] → wpl_X2_addState_2 k0 Q n v2 μ3 → W p l e (RM 1) s m #[.ref (ad k0)] below meth c H locs 0 0 Z (F0 m 2 ls []) := by
    intro n
    induction n with
    | zero => intro v2 μ3 H locs ls hw hl h; exact False.elim h
    | succ n ih0 =>
      intro v2 μ3 H locs ls hw hl h
      change ((3 : Int32) ≤ v2 → (Q (tms μ3 k0 1 ((μ3 k0 1) + (1 : Int32))))) ∧ (¬ (3 : Int32) ≤ v2 → (wp_X7_put k0 μ3 (μ3 k0 1) v2 (0 : Int32) (fun (μ5 : TMem) => wpl_X2_addState_2 k0 Q n (v2 + (1 : Int32)) μ5))) at h
      refine lv_iload_n hx hb dX2_addState_2 rfl (lv_at hl 0 rfl) ?_
      refine lv_iconst (v := (3 : Int32)) hx hb dX2_addState_3 (by decide) ?_
      refine lv_icmp_ge (tgt := 23) hx hb dX2_addState_4 (by decide) (fun c4 => ?_) (fun c4 => ?_)
      · have h := h.1 c4
        refine lv_aload_n hx hb dX2_addState_23 rfl (lv_at hl 1 rfl) ?_
        refine lv_dup hx hb dX2_addState_24 rfl ?_
        refine gf_X2_15 hx hb ht hown hK hw hk0 dX2_addState_25 ?_
        refine lv_iconst (v := (1 : Int32)) hx hb dX2_addState_28 (by decide) ?_
        refine lv_iadd hx hb dX2_addState_29 ?_
        refine pgf_X2_15 hx hb ht hown hK hw hk0 dX2_addState_30 (fun H locs hw => ?_)
        exact hret H locs ls 33 _ hw h dX2_addState_33
      have h := h.2 c4
      refine lv_aload_n hx hb dX2_addState_7 rfl (lv_at hl 1 rfl) ?_
      refine lv_aload_n hx hb dX2_addState_8 rfl (lv_at hl 1 rfl) ?_
      refine gf_X2_15 hx hb ht hown hK hw hk0 dX2_addState_9 ?_
      refine lv_iload_n hx hb dX2_addState_12 rfl (lv_at hl 0 rfl) ?_
      refine lv_iconst (v := (0 : Int32)) hx hb dX2_addState_13 (by decide) ?_
      refine T_callv hw (va_runU (own := "Leastreader$Machine") (As := [.int (μ3 k0 1), .int v2, .int (0 : Int32)]) (rest := []) ⟨hx, hb, hml, hown, ht⟩ (c_X7_put_2 k0 hk0 μ3 H.size (μ3 k0 1) v2 (0 : Int32) h) (va_cwU (owner := "Leastreader$Table") 3 ht (G_U q_444 q_445 q_446 q_430 q_47 q_431) rfl rfl rfl rfl hd_1 ⟨Nat.le_of_ble_eq_true rfl, Nat.le_of_ble_eq_true rfl⟩) ⟨TB.blind, (T_recv hK hw (kd_of hk0 (by decide)) (ent_2 hk0) cl_2), TB.pre hK hN hw⟩ rfl rfl hl.1 rfl (lv_room (Nat.le_of_ble_eq_true rfl)) dX2_addState_14 ⟨Nat.le_of_ble_eq_true rfl, Nat.le_of_ble_eq_true rfl⟩) (fun μ5 H locs h hw => ?_)
      refine lv_iinc (v := (v2 + (1 : Int32))) (lv' := [(1, .int (v2 + (1 : Int32))), (0, .ref (ad k0))]) hx hb dX2_addState_17 hl (k := 0) rfl rfl (by decide) rfl (fun ls hl => ?_)
      refine lv_goto (tgt := 2) hx hb dX2_addState_20 (by decide) ?_
      exact ih0 (v2 + (1 : Int32)) μ5 H locs ls hw (lv_sub hl [0, 1] rfl) h
  exact L0 n6 (0 : Int32) μ H locs ls hw (lv_sub hl [0, 1] rfl) h
def wpl_X2_clear_12 (k0 : Nat) (v3 : Int32) (Q : TMem → Prop) : Nat → Int32 → TMem → Prop
  | 0, _, _ => False
  | n + 1, v2, μ4 =>
    (v3 ≤ v2 → (Q (tms μ4 k0 3 (1 : Int32)))) ∧ (¬ v3 ≤ v2 → (wp_X2_addState k0 μ4 (fun (μ6 : TMem) => wpl_X2_clear_12 k0 v3 Q n (v2 + (1 : Int32)) μ6)))
def wp_X2_clear (k0 : Nat) (μ : TMem) (a1 : Int32) (Q : TMem → Prop) : Prop :=
  ∃ n0x, wpl_X2_clear_12 k0 a1 Q n0x (0 : Int32) (tms (tms μ k0 1 (0 : Int32)) k0 2 (0 : Int32))
set_option maxHeartbeats 4000000 in
set_option maxRecDepth 100000 in
theorem c_X2_clear {l : Launch} {D : va_G} {ad : Nat → Nat} {cI cM : ClassId} (k0 : Nat) (hk0 : kd k0 = 2) (μ : TMem) (sz : Nat) (a1 : Int32) {Q : TMem → Prop} (h : wp_X2_clear k0 μ a1 Q) : TMv l yX2_clear (.code yX2_clear cX2_clear 3 (Option.none : Option Jvm.ClassFile.FieldType)) 2 [.ref (ad k0), .int a1] D ad cI cM sz μ Q := by
  refine T_metv (by decide +kernel) (Nat.le_of_ble_eq_true rfl) ?_
  intro p e s m below meth c Z ls hx hb hml hown ht hN hK hw hret hl
  have hl : lv_has ls 3 [(0, .ref (ad k0)), (1, .int a1)] := hl
  generalize s.heap = H at hw ⊢
  generalize ([] : List Loc) = locs at hw ⊢
  change ∃ n0x, wpl_X2_clear_12 k0 a1 Q n0x (0 : Int32) (tms (tms μ k0 1 (0 : Int32)) k0 2 (0 : Int32)) at h
  refine lv_aload_n hx hb dX2_clear_0 rfl (lv_at hl 0 rfl) ?_
  refine lv_iconst (v := (0 : Int32)) hx hb dX2_clear_1 (by decide) ?_
  refine pgf_X2_15 hx hb ht hown hK hw hk0 dX2_clear_2 (fun H locs hw => ?_)
  refine lv_aload_n hx hb dX2_clear_5 rfl (lv_at hl 0 rfl) ?_
  refine lv_iconst (v := (0 : Int32)) hx hb dX2_clear_6 (by decide) ?_
  refine pgf_X2_18 hx hb ht hown hK hw hk0 dX2_clear_7 (fun H locs hw => ?_)
  refine lv_iconst (v := (0 : Int32)) hx hb dX2_clear_10 (by decide) ?_
  refine lv_istore_n (lv' := [(2, .int (0 : Int32)), (0, .ref (ad k0)), (1, .int a1)]) hx hb dX2_clear_11 rfl hl (by decide) rfl (fun ls hl => ?_)
  obtain ⟨n7, h⟩ := h
  have L0 : ∀ (v3 : Int32), ∀ (n : Nat) (v2 : Int32) (μ4 : TMem) (H : Heap) (locs : List Loc) (ls : Array Slot), TW D ad cI cM s μ4 H locs → lv_has ls 3 [(2, .int v2), (0, .ref (ad k0)), (1, .int v3)] → wpl_X2_clear_12 k0 v3 Q n v2 μ4 → W p l e (RM 2) s m #[.ref (ad k0), .int a1] below meth c H locs 0 0 Z (F0 m 12 ls []) := by
    intro v3
    intro n
    induction n with
    | zero => intro v2 μ4 H locs ls hw hl h; exact False.elim h
    | succ n ih0 =>
      intro v2 μ4 H locs ls hw hl h
      change (v3 ≤ v2 → (Q (tms μ4 k0 3 (1 : Int32)))) ∧ (¬ v3 ≤ v2 → (wp_X2_addState k0 μ4 (fun (μ6 : TMem) => wpl_X2_clear_12 k0 v3 Q n (v2 + (1 : Int32)) μ6))) at h
      refine lv_iload_n hx hb dX2_clear_12 rfl (lv_at hl 0 rfl) ?_
      refine lv_iload_n hx hb dX2_clear_13 rfl (lv_at hl 2 rfl) ?_
      refine lv_icmp_ge (tgt := 27) hx hb dX2_clear_14 (by decide) (fun c5 => ?_) (fun c5 => ?_)
      · have h := h.1 c5
        refine lv_aload_n hx hb dX2_clear_27 rfl (lv_at hl 1 rfl) ?_
        refine lv_iconst (v := (1 : Int32)) hx hb dX2_clear_28 (by decide) ?_
        refine pgf_X2_9 hx hb ht hown hK hw hk0 dX2_clear_29 (fun H locs hw => ?_)
        exact hret H locs ls 32 _ hw h dX2_clear_32
      have h := h.2 c5
      refine lv_aload_n hx hb dX2_clear_17 rfl (lv_at hl 1 rfl) ?_
      refine T_callv hw (va_runV (own := "Leastreader$Machine") (As := []) (rest := []) ⟨hx, hb, hml, hown, ht⟩ (c_X2_addState k0 hk0 μ4 H.size h) (cwV 0 ht (G_V q_620 q_621 q_622 q_48 q_623) rfl rfl rfl ⟨rfl, hd_40⟩ ⟨Nat.le_of_ble_eq_true rfl, Nat.le_of_ble_eq_true rfl⟩) ⟨TB.blind, (T_recv hK hw (kd_of hk0 (by decide)) (ent_2 hk0) cl_2), TB.pre hK hN hw⟩ rfl rfl hl.1 rfl (lv_room (Nat.le_of_ble_eq_true rfl)) dX2_clear_18 ⟨Nat.le_of_ble_eq_true rfl, Nat.le_of_ble_eq_true rfl⟩) (fun μ6 H locs h hw => ?_)
      refine lv_iinc (v := (v2 + (1 : Int32))) (lv' := [(2, .int (v2 + (1 : Int32))), (0, .ref (ad k0)), (1, .int v3)]) hx hb dX2_clear_21 hl (k := 0) rfl rfl (by decide) rfl (fun ls hl => ?_)
      refine lv_goto (tgt := 12) hx hb dX2_clear_24 (by decide) ?_
      exact ih0 (v2 + (1 : Int32)) μ6 H locs ls hw (lv_sub hl [0, 1, 2] rfl) h
  exact L0 a1 n7 (0 : Int32) (tms (tms μ k0 1 (0 : Int32)) k0 2 (0 : Int32)) H locs ls hw (lv_sub hl [0, 1, 2] rfl) h
def wp_X2_allStates (k0 : Nat) (μ : TMem) (Q : Int32 → Prop) : Prop :=
  Q (((1 : Int32) <<< ((μ k0 1) &&& 31)) - (1 : Int32))
set_option maxHeartbeats 4000000 in
set_option maxRecDepth 100000 in
theorem c_X2_allStates {l : Launch} {D : va_G} {ad : Nat → Nat} {cI cM : ClassId} (k0 : Nat) (hk0 : kd k0 = 2) (μ : TMem) (sz : Nat)  {Q : Int32 → Prop} (h : wp_X2_allStates k0 μ Q) : TMi l yX2_allStates (.code yX2_allStates cX2_allStates 1 (Option.some Jvm.ClassFile.FieldType.int)) 0 [.ref (ad k0)] D ad cI cM sz μ (fun r μ1 => μ1 = μ ∧ Q r) := by
  refine T_meti (by decide +kernel) (Nat.le_of_ble_eq_true rfl) ?_
  intro p e s m below meth c Z ls hx hb hml hown ht hN hK hw hret hl
  have hl : lv_has ls 1 [(0, .ref (ad k0))] := hl
  generalize s.heap = H at hw ⊢
  generalize ([] : List Loc) = locs at hw ⊢
  change Q (((1 : Int32) <<< ((μ k0 1) &&& 31)) - (1 : Int32)) at h
  refine lv_iconst (v := (1 : Int32)) hx hb dX2_allStates_0 (by decide) ?_
  refine lv_aload_n hx hb dX2_allStates_1 rfl (lv_at hl 0 rfl) ?_
  refine gf_X2_15 hx hb ht hown hK hw hk0 dX2_allStates_2 ?_
  refine lv_ishl hx hb dX2_allStates_5 ?_
  refine lv_iconst (v := (1 : Int32)) hx hb dX2_allStates_6 (by decide) ?_
  refine lv_isub hx hb dX2_allStates_7 ?_
  exact hret H locs ls 8 _ _ hw ⟨rfl, h⟩ rfl dX2_allStates_8
def wp_X2_sowOne (k0 : Nat) (μ : TMem) (Q : Int32 → TMem → Prop) : Prop :=
  wp_X0_draw μ (fun (r2 : Int32) (μ1 : TMem) => ((μ1 k0 1) ≤ 0 → (Q (0 : Int32) μ1)) ∧ (¬ (μ1 k0 1) ≤ 0 → (¬ (μ1 k0 1) = 0 ∧ (Q ((1 : Int32) <<< ((r2 - r2 / (μ1 k0 1) * (μ1 k0 1)) &&& 31)) μ1))))
set_option maxHeartbeats 4000000 in
set_option maxRecDepth 100000 in
theorem c_X2_sowOne {l : Launch} {D : va_G} {ad : Nat → Nat} {cI cM : ClassId} (k0 : Nat) (hk0 : kd k0 = 2) (μ : TMem) (sz : Nat)  {Q : Int32 → TMem → Prop} (h : wp_X2_sowOne k0 μ Q) : TMi l yX2_sowOne (.code yX2_sowOne cX2_sowOne 3 (Option.some Jvm.ClassFile.FieldType.int)) 1 [.ref (ad k0), .ref (ad 14)] D ad cI cM sz μ Q := by
  refine T_meti (by decide +kernel) (Nat.le_of_ble_eq_true rfl) ?_
  intro p e s m below meth c Z ls hx hb hml hown ht hN hK hw hret hl
  have hl : lv_has ls 3 [(0, .ref (ad k0)), (1, .ref (ad 14))] := hl
  generalize s.heap = H at hw ⊢
  generalize ([] : List Loc) = locs at hw ⊢
  change wp_X0_draw μ (fun (r2 : Int32) (μ1 : TMem) => ((μ1 k0 1) ≤ 0 → (Q (0 : Int32) μ1)) ∧ (¬ (μ1 k0 1) ≤ 0 → (¬ (μ1 k0 1) = 0 ∧ (Q ((1 : Int32) <<< ((r2 - r2 / (μ1 k0 1) * (μ1 k0 1)) &&& 31)) μ1)))) at h
  refine lv_aload_n hx hb dX2_sowOne_0 rfl (lv_at hl 1 rfl) ?_
  refine T_calli hw (va_runV (own := "Leastreader$Machine") (As := []) (rest := []) ⟨hx, hb, hml, hown, ht⟩ (c_X0_draw μ H.size h) (cwV 0 ht (G_V q_679 q_680 q_681 q_49 q_682) rfl rfl rfl ⟨rfl, hd_41⟩ ⟨Nat.le_of_ble_eq_true rfl, Nat.le_of_ble_eq_true rfl⟩) ⟨TB.blind, (T_recv hK hw (kd_of rfl (by decide)) (ent_0 rfl) cl_0), TB.pre hK hN hw⟩ rfl rfl hl.1 rfl (lv_room (Nat.le_of_ble_eq_true rfl)) dX2_sowOne_1 ⟨Nat.le_of_ble_eq_true rfl, Nat.le_of_ble_eq_true rfl⟩) (fun r2 μ1 H locs h hw => ?_)
  refine lv_istore_n (lv' := [(2, .int r2), (0, .ref (ad k0)), (1, .ref (ad 14))]) hx hb dX2_sowOne_4 rfl hl (by decide) rfl (fun ls hl => ?_)
  refine lv_aload_n hx hb dX2_sowOne_5 rfl (lv_at hl 1 rfl) ?_
  refine gf_X2_15 hx hb ht hown hK hw hk0 dX2_sowOne_6 ?_
  refine lv_if_le (tgt := 23) hx hb dX2_sowOne_9 (by decide) (fun c3 => ?_) (fun c3 => ?_)
  · have h := h.1 c3
    refine lv_iconst (v := (0 : Int32)) hx hb dX2_sowOne_23 (by decide) ?_
    exact hret H locs ls 24 _ _ hw h rfl dX2_sowOne_24
  have h := h.2 c3
  refine lv_iconst (v := (1 : Int32)) hx hb dX2_sowOne_12 (by decide) ?_
  refine lv_iload_n hx hb dX2_sowOne_13 rfl (lv_at hl 0 rfl) ?_
  refine lv_aload_n hx hb dX2_sowOne_14 rfl (lv_at hl 1 rfl) ?_
  refine gf_X2_15 hx hb ht hown hK hw hk0 dX2_sowOne_15 ?_
  obtain ⟨z4, h⟩ := h
  refine lv_irem hx hb dX2_sowOne_18 z4 ?_
  refine lv_ishl hx hb dX2_sowOne_19 ?_
  refine lv_goto (tgt := 24) hx hb dX2_sowOne_20 (by decide) ?_
  exact hret H locs ls 24 _ _ hw h rfl dX2_sowOne_24
def wpl_X2_sowSome_5 (k0 : Nat) (v4 : Int32) (Q : Int32 → TMem → Prop) : Nat → Int32 → Int32 → TMem → Prop
  | 0, _, _, _ => False
  | n + 1, v2, v3, μ5 =>
    ((μ5 k0 1) ≤ v2 → (Q v3 μ5)) ∧ (¬ (μ5 k0 1) ≤ v2 → (wp_X0_draw μ5 (fun (r8 : Int32) (μ7 : TMem) => (v4 < 0 → (wpl_X2_sowSome_5 k0 v4 Q n (v2 + (1 : Int32)) v3 μ7)) ∧ (¬ v4 < 0 → (¬ (v4 + (1 : Int32)) = 0 ∧ ((¬ (r8 - r8 / (v4 + (1 : Int32)) * (v4 + (1 : Int32))) = 0 → (wpl_X2_sowSome_5 k0 v4 Q n (v2 + (1 : Int32)) v3 μ7)) ∧ ((r8 - r8 / (v4 + (1 : Int32)) * (v4 + (1 : Int32))) = 0 → (wpl_X2_sowSome_5 k0 v4 Q n (v2 + (1 : Int32)) (v3 ||| ((1 : Int32) <<< (v2 &&& 31))) μ7))))))))
def wp_X2_sowSome (k0 : Nat) (μ : TMem) (a2 : Int32) (Q : Int32 → TMem → Prop) : Prop :=
  ∃ n0x, wpl_X2_sowSome_5 k0 a2 Q n0x (0 : Int32) (0 : Int32) μ
set_option maxHeartbeats 4000000 in
set_option maxRecDepth 100000 in
theorem c_X2_sowSome {l : Launch} {D : va_G} {ad : Nat → Nat} {cI cM : ClassId} (k0 : Nat) (hk0 : kd k0 = 2) (μ : TMem) (sz : Nat) (a2 : Int32) {Q : Int32 → TMem → Prop} (h : wp_X2_sowSome k0 μ a2 Q) : TMi l yX2_sowSome (.code yX2_sowSome cX2_sowSome 6 (Option.some Jvm.ClassFile.FieldType.int)) 1 [.ref (ad k0), .ref (ad 14), .int a2] D ad cI cM sz μ Q := by
  refine T_meti (by decide +kernel) (Nat.le_of_ble_eq_true rfl) ?_
  intro p e s m below meth c Z ls hx hb hml hown ht hN hK hw hret hl
  have hl : lv_has ls 6 [(0, .ref (ad k0)), (1, .ref (ad 14)), (2, .int a2)] := hl
  generalize s.heap = H at hw ⊢
  generalize ([] : List Loc) = locs at hw ⊢
  change ∃ n0x, wpl_X2_sowSome_5 k0 a2 Q n0x (0 : Int32) (0 : Int32) μ at h
  refine lv_iconst (v := (0 : Int32)) hx hb dX2_sowSome_0 (by decide) ?_
  refine lv_istore_n (lv' := [(3, .int (0 : Int32)), (0, .ref (ad k0)), (1, .ref (ad 14)), (2, .int a2)]) hx hb dX2_sowSome_1 rfl hl (by decide) rfl (fun ls hl => ?_)
  refine lv_iconst (v := (0 : Int32)) hx hb dX2_sowSome_2 (by decide) ?_
  refine lv_istore (lv' := [(4, .int (0 : Int32)), (3, .int (0 : Int32)), (0, .ref (ad k0)), (1, .ref (ad 14)), (2, .int a2)]) hx hb dX2_sowSome_3 hl (by decide) rfl (fun ls hl => ?_)
  obtain ⟨n12, h⟩ := h
  have L0 : ∀ (v4 : Int32), ∀ (n : Nat) (v2 : Int32) (v3 : Int32) (μ5 : TMem) (H : Heap) (locs : List Loc) (ls : Array Slot), TW D ad cI cM s μ5 H locs → lv_has ls 6 [(4, .int v2), (3, .int v3), (0, .ref (ad k0)), (1, .ref (ad 14)), (2, .int v4)] → wpl_X2_sowSome_5 k0 v4 Q n v2 v3 μ5 → W p l e (RM 1) s m #[.ref (ad k0), .ref (ad 14), .int a2] below meth c H locs 0 0 Z (F0 m 5 ls []) := by
    intro v4
    intro n
    induction n with
    | zero => intro v2 v3 μ5 H locs ls hw hl h; exact False.elim h
    | succ n ih0 =>
      intro v2 v3 μ5 H locs ls hw hl h
      change ((μ5 k0 1) ≤ v2 → (Q v3 μ5)) ∧ (¬ (μ5 k0 1) ≤ v2 → (wp_X0_draw μ5 (fun (r8 : Int32) (μ7 : TMem) => (v4 < 0 → (wpl_X2_sowSome_5 k0 v4 Q n (v2 + (1 : Int32)) v3 μ7)) ∧ (¬ v4 < 0 → (¬ (v4 + (1 : Int32)) = 0 ∧ ((¬ (r8 - r8 / (v4 + (1 : Int32)) * (v4 + (1 : Int32))) = 0 → (wpl_X2_sowSome_5 k0 v4 Q n (v2 + (1 : Int32)) v3 μ7)) ∧ ((r8 - r8 / (v4 + (1 : Int32)) * (v4 + (1 : Int32))) = 0 → (wpl_X2_sowSome_5 k0 v4 Q n (v2 + (1 : Int32)) (v3 ||| ((1 : Int32) <<< (v2 &&& 31))) μ7)))))))) at h
      refine lv_iload hx hb dX2_sowSome_5 (lv_at hl 0 rfl) ?_
      refine lv_aload_n hx hb dX2_sowSome_7 rfl (lv_at hl 2 rfl) ?_
      refine gf_X2_15 hx hb ht hown hK hw hk0 dX2_sowSome_8 ?_
      refine lv_icmp_ge (tgt := 46) hx hb dX2_sowSome_11 (by decide) (fun c6 => ?_) (fun c6 => ?_)
      · have h := h.1 c6
        refine lv_iload_n hx hb dX2_sowSome_46 rfl (lv_at hl 1 rfl) ?_
        exact hret H locs ls 47 _ _ hw h rfl dX2_sowSome_47
      have h := h.2 c6
      refine lv_aload_n hx hb dX2_sowSome_14 rfl (lv_at hl 3 rfl) ?_
      refine T_calli hw (va_runV (own := "Leastreader$Machine") (As := []) (rest := []) ⟨hx, hb, hml, hown, ht⟩ (c_X0_draw μ5 H.size h) (cwV 0 ht (G_V q_679 q_680 q_681 q_49 q_682) rfl rfl rfl ⟨rfl, hd_41⟩ ⟨Nat.le_of_ble_eq_true rfl, Nat.le_of_ble_eq_true rfl⟩) ⟨TB.blind, (T_recv hK hw (kd_of rfl (by decide)) (ent_0 rfl) cl_0), TB.pre hK hN hw⟩ rfl rfl hl.1 rfl (lv_room (Nat.le_of_ble_eq_true rfl)) dX2_sowSome_15 ⟨Nat.le_of_ble_eq_true rfl, Nat.le_of_ble_eq_true rfl⟩) (fun r8 μ7 H locs h hw => ?_)
      refine lv_istore (lv' := [(5, .int r8), (4, .int v2), (3, .int v3), (0, .ref (ad k0)), (1, .ref (ad 14)), (2, .int v4)]) hx hb dX2_sowSome_18 hl (by decide) rfl (fun ls hl => ?_)
      refine lv_iload_n hx hb dX2_sowSome_20 rfl (lv_at hl 5 rfl) ?_
      refine lv_if_lt (tgt := 40) hx hb dX2_sowSome_21 (by decide) (fun c9 => ?_) (fun c9 => ?_)
      · have h := h.1 c9
        refine lv_iinc (v := (v2 + (1 : Int32))) (lv' := [(4, .int (v2 + (1 : Int32))), (5, .int r8), (3, .int v3), (0, .ref (ad k0)), (1, .ref (ad 14)), (2, .int v4)]) hx hb dX2_sowSome_40 hl (k := 1) rfl rfl (by decide) rfl (fun ls hl => ?_)
        refine lv_goto (tgt := 5) hx hb dX2_sowSome_43 (by decide) ?_
        exact ih0 (v2 + (1 : Int32)) v3 μ7 H locs ls hw (lv_sub hl [0, 2, 3, 4, 5] rfl) h
      have h := h.2 c9
      refine lv_iload hx hb dX2_sowSome_24 (lv_at hl 0 rfl) ?_
      refine lv_iload_n hx hb dX2_sowSome_26 rfl (lv_at hl 5 rfl) ?_
      refine lv_iconst (v := (1 : Int32)) hx hb dX2_sowSome_27 (by decide) ?_
      refine lv_iadd hx hb dX2_sowSome_28 ?_
      obtain ⟨z10, h⟩ := h
      refine lv_irem hx hb dX2_sowSome_29 z10 ?_
      refine lv_if_ne (tgt := 40) hx hb dX2_sowSome_30 (by decide) (fun c11 => ?_) (fun c11 => ?_)
      · have h := h.1 c11
        refine lv_iinc (v := (v2 + (1 : Int32))) (lv' := [(4, .int (v2 + (1 : Int32))), (5, .int r8), (3, .int v3), (0, .ref (ad k0)), (1, .ref (ad 14)), (2, .int v4)]) hx hb dX2_sowSome_40 hl (k := 1) rfl rfl (by decide) rfl (fun ls hl => ?_)
        refine lv_goto (tgt := 5) hx hb dX2_sowSome_43 (by decide) ?_
        exact ih0 (v2 + (1 : Int32)) v3 μ7 H locs ls hw (lv_sub hl [0, 2, 3, 4, 5] rfl) h
      have h := h.2 c11
      refine lv_iload_n hx hb dX2_sowSome_33 rfl (lv_at hl 2 rfl) ?_
      refine lv_iconst (v := (1 : Int32)) hx hb dX2_sowSome_34 (by decide) ?_
      refine lv_iload hx hb dX2_sowSome_35 (lv_at hl 1 rfl) ?_
      refine lv_ishl hx hb dX2_sowSome_37 ?_
      refine lv_ior hx hb dX2_sowSome_38 ?_
      refine lv_istore_n (lv' := [(3, .int (v3 ||| ((1 : Int32) <<< (v2 &&& 31)))), (5, .int r8), (4, .int v2), (0, .ref (ad k0)), (1, .ref (ad 14)), (2, .int v4)]) hx hb dX2_sowSome_39 rfl hl (by decide) rfl (fun ls hl => ?_)
      refine lv_iinc (v := (v2 + (1 : Int32))) (lv' := [(4, .int (v2 + (1 : Int32))), (3, .int (v3 ||| ((1 : Int32) <<< (v2 &&& 31)))), (5, .int r8), (0, .ref (ad k0)), (1, .ref (ad 14)), (2, .int v4)]) hx hb dX2_sowSome_40 hl (k := 2) rfl rfl (by decide) rfl (fun ls hl => ?_)
      refine lv_goto (tgt := 5) hx hb dX2_sowSome_43 (by decide) ?_
      exact ih0 (v2 + (1 : Int32)) (v3 ||| ((1 : Int32) <<< (v2 &&& 31))) μ7 H locs ls hw (lv_sub hl [0, 1, 3, 4, 5] rfl) h
  exact L0 a2 n12 (0 : Int32) (0 : Int32) μ H locs ls hw (lv_sub hl [0, 1, 2, 3, 4] rfl) h
def wpl_X2_sowArrows_13 (k0 : Nat) (v8 : Int32) (v9 : Int32) (K50 : TMem → Prop) : Nat → Int32 → TMem → Prop
  | 0, _, _ => False
  | n + 1, v7, μ10 =>
    ((3 : Int32) ≤ v7 → (K50 μ10)) ∧ (¬ (3 : Int32) ≤ v7 → (∀ J12 : Int32 → TMem → Prop, (∀ (j13 : Int32) (μ14 : TMem), (wp_X7_put k0 μ14 v8 v7 j13 (fun (μ15 : TMem) => wpl_X2_sowArrows_13 k0 v8 v9 K50 n (v7 + (1 : Int32)) μ15)) → J12 j13 μ14) → ((¬ v9 = 0 → (wp_X2_sowSome k0 μ10 v9 (fun (r18 : Int32) (μ17 : TMem) => J12 r18 μ17))) ∧ (v9 = 0 → (wp_X2_sowOne k0 μ10 (fun (r20 : Int32) (μ19 : TMem) => J12 r20 μ19))))))
def wpl_X2_sowArrows_2 (k0 : Nat) (v3 : Int32) (Q : TMem → Prop) : Nat → Int32 → TMem → Prop
  | 0, _, _ => False
  | n + 1, v2, μ4 =>
    ((μ4 k0 1) ≤ v2 → (Q μ4)) ∧ (¬ (μ4 k0 1) ≤ v2 → (∃ n5x, wpl_X2_sowArrows_13 k0 v2 v3 (fun (μ22 : TMem) => wpl_X2_sowArrows_2 k0 v3 Q n (v2 + (1 : Int32)) μ22) n5x (0 : Int32) μ4))
def wp_X2_sowArrows (k0 : Nat) (μ : TMem) (a2 : Int32) (Q : TMem → Prop) : Prop :=
  ∃ n0x, wpl_X2_sowArrows_2 k0 a2 Q n0x (0 : Int32) μ
set_option maxHeartbeats 4000000 in
set_option maxRecDepth 100000 in
theorem c_X2_sowArrows {l : Launch} {D : va_G} {ad : Nat → Nat} {cI cM : ClassId} (k0 : Nat) (hk0 : kd k0 = 2) (μ : TMem) (sz : Nat) (a2 : Int32) {Q : TMem → Prop} (h : wp_X2_sowArrows k0 μ a2 Q) : TMv l yX2_sowArrows (.code yX2_sowArrows cX2_sowArrows 5 (Option.none : Option Jvm.ClassFile.FieldType)) 2 [.ref (ad k0), .ref (ad 14), .int a2] D ad cI cM sz μ Q := by
  refine T_metv (by decide +kernel) (Nat.le_of_ble_eq_true rfl) ?_
  intro p e s m below meth c Z ls hx hb hml hown ht hN hK hw hret hl
  have hl : lv_has ls 5 [(0, .ref (ad k0)), (1, .ref (ad 14)), (2, .int a2)] := hl
  generalize s.heap = H at hw ⊢
  generalize ([] : List Loc) = locs at hw ⊢
  change ∃ n0x, wpl_X2_sowArrows_2 k0 a2 Q n0x (0 : Int32) μ at h
  refine lv_iconst (v := (0 : Int32)) hx hb dX2_sowArrows_0 (by decide) ?_
  refine lv_istore_n (lv' := [(3, .int (0 : Int32)), (0, .ref (ad k0)), (1, .ref (ad 14)), (2, .int a2)]) hx hb dX2_sowArrows_1 rfl hl (by decide) rfl (fun ls hl => ?_)
  obtain ⟨n23, h⟩ := h
  have L0 : ∀ (v3 : Int32), ∀ (n : Nat) (v2 : Int32) (μ4 : TMem) (H : Heap) (locs : List Loc) (ls : Array Slot), TW D ad cI cM s μ4 H locs → lv_has ls 5 [(3, .int v2), (0, .ref (ad k0)), (1, .ref (ad 14)), (2, .int v3)] → wpl_X2_sowArrows_2 k0 v3 Q n v2 μ4 → W p l e (RM 2) s m #[.ref (ad k0), .ref (ad 14), .int a2] below meth c H locs 0 0 Z (F0 m 2 ls []) := by
    intro v3
    intro n
    induction n with
    | zero => intro v2 μ4 H locs ls hw hl h; exact False.elim h
    | succ n ih0 =>
      intro v2 μ4 H locs ls hw hl h
      change ((μ4 k0 1) ≤ v2 → (Q μ4)) ∧ (¬ (μ4 k0 1) ≤ v2 → (∃ n5x, wpl_X2_sowArrows_13 k0 v2 v3 (fun (μ22 : TMem) => wpl_X2_sowArrows_2 k0 v3 Q n (v2 + (1 : Int32)) μ22) n5x (0 : Int32) μ4)) at h
      refine lv_iload_n hx hb dX2_sowArrows_2 rfl (lv_at hl 0 rfl) ?_
      refine lv_aload_n hx hb dX2_sowArrows_3 rfl (lv_at hl 1 rfl) ?_
      refine gf_X2_15 hx hb ht hown hK hw hk0 dX2_sowArrows_4 ?_
      refine lv_icmp_ge (tgt := 56) hx hb dX2_sowArrows_7 (by decide) (fun c5 => ?_) (fun c5 => ?_)
      · have h := h.1 c5
        exact hret H locs ls 56 _ hw h dX2_sowArrows_56
      have h := h.2 c5
      refine lv_iconst (v := (0 : Int32)) hx hb dX2_sowArrows_10 (by decide) ?_
      refine lv_istore (lv' := [(4, .int (0 : Int32)), (3, .int v2), (0, .ref (ad k0)), (1, .ref (ad 14)), (2, .int v3)]) hx hb dX2_sowArrows_11 hl (by decide) rfl (fun ls hl => ?_)
      obtain ⟨n21, h⟩ := h
      have L5 : ∀ (v8 : Int32) (v9 : Int32) (K50 : TMem → Prop), (∀ (μ10 : TMem) (H : Heap) (locs : List Loc) (ls : Array Slot), TW D ad cI cM s μ10 H locs → lv_has ls 5 [(3, .int v8), (0, .ref (ad k0)), (1, .ref (ad 14)), (2, .int v9)] → K50 μ10 → W p l e (RM 2) s m #[.ref (ad k0), .ref (ad 14), .int a2] below meth c H locs 0 0 Z (F0 m 50 ls [])) → ∀ (n : Nat) (v7 : Int32) (μ10 : TMem) (H : Heap) (locs : List Loc) (ls : Array Slot), TW D ad cI cM s μ10 H locs → lv_has ls 5 [(4, .int v7), (3, .int v8), (0, .ref (ad k0)), (1, .ref (ad 14)), (2, .int v9)] → wpl_X2_sowArrows_13 k0 v8 v9 K50 n v7 μ10 → W p l e (RM 2) s m #[.ref (ad k0), .ref (ad 14), .int a2] below meth c H locs 0 0 Z (F0 m 13 ls []) := by
        intro v8 v9 K50 hK50
        intro n
        induction n with
        | zero => intro v7 μ10 H locs ls hw hl h; exact False.elim h
        | succ n ih5 =>
          intro v7 μ10 H locs ls hw hl h
          change ((3 : Int32) ≤ v7 → (K50 μ10)) ∧ (¬ (3 : Int32) ≤ v7 → (∀ J12 : Int32 → TMem → Prop, (∀ (j13 : Int32) (μ14 : TMem), (wp_X7_put k0 μ14 v8 v7 j13 (fun (μ15 : TMem) => wpl_X2_sowArrows_13 k0 v8 v9 K50 n (v7 + (1 : Int32)) μ15)) → J12 j13 μ14) → ((¬ v9 = 0 → (wp_X2_sowSome k0 μ10 v9 (fun (r18 : Int32) (μ17 : TMem) => J12 r18 μ17))) ∧ (v9 = 0 → (wp_X2_sowOne k0 μ10 (fun (r20 : Int32) (μ19 : TMem) => J12 r20 μ19)))))) at h
          refine lv_iload hx hb dX2_sowArrows_13 (lv_at hl 0 rfl) ?_
          refine lv_iconst (v := (3 : Int32)) hx hb dX2_sowArrows_15 (by decide) ?_
          refine lv_icmp_ge (tgt := 50) hx hb dX2_sowArrows_16 (by decide) (fun c11 => ?_) (fun c11 => ?_)
          · have h := h.1 c11
            exact hK50 μ10 H locs ls hw (lv_sub hl [1, 2, 3, 4] rfl) h
          have h := h.2 c11
          refine lv_aload_n hx hb dX2_sowArrows_19 rfl (lv_at hl 2 rfl) ?_
          refine lv_iload_n hx hb dX2_sowArrows_20 rfl (lv_at hl 1 rfl) ?_
          refine lv_iload hx hb dX2_sowArrows_21 (lv_at hl 0 rfl) ?_
          refine lv_iload_n hx hb dX2_sowArrows_23 rfl (lv_at hl 4 rfl) ?_
          have h := h (fun j13 μ14 => ∀ (H : Heap) (locs : List Loc) (ls : Array Slot), TW D ad cI cM s μ14 H locs → lv_has ls 5 [(4, .int v7), (3, .int v8), (0, .ref (ad k0)), (1, .ref (ad 14)), (2, .int v9)] → W p l e (RM 2) s m #[.ref (ad k0), .ref (ad 14), .int a2] below meth c H locs 0 0 Z (F0 m 41 ls [.int j13, .int v7, .int v8, .ref (ad k0)])) (fun j13 μ14 h H locs ls hw hl => by
            refine T_callv hw (va_runU (own := "Leastreader$Machine") (As := [.int v8, .int v7, .int j13]) (rest := []) ⟨hx, hb, hml, hown, ht⟩ (c_X7_put_2 k0 hk0 μ14 H.size v8 v7 j13 h) (va_cwU (owner := "Leastreader$Table") 3 ht (G_U q_444 q_445 q_446 q_430 q_47 q_431) rfl rfl rfl rfl hd_1 ⟨Nat.le_of_ble_eq_true rfl, Nat.le_of_ble_eq_true rfl⟩) ⟨TB.blind, (T_recv hK hw (kd_of hk0 (by decide)) (ent_2 hk0) cl_2), TB.pre hK hN hw⟩ rfl rfl hl.1 rfl (lv_room (Nat.le_of_ble_eq_true rfl)) dX2_sowArrows_41 ⟨Nat.le_of_ble_eq_true rfl, Nat.le_of_ble_eq_true rfl⟩) (fun μ15 H locs h hw => ?_)
            refine lv_iinc (v := (v7 + (1 : Int32))) (lv' := [(4, .int (v7 + (1 : Int32))), (3, .int v8), (0, .ref (ad k0)), (1, .ref (ad 14)), (2, .int v9)]) hx hb dX2_sowArrows_44 hl (k := 0) rfl rfl (by decide) rfl (fun ls hl => ?_)
            refine lv_goto (tgt := 13) hx hb dX2_sowArrows_47 (by decide) ?_
            exact ih5 (v7 + (1 : Int32)) μ15 H locs ls hw (lv_sub hl [0, 1, 2, 3, 4] rfl) h)
          refine lv_if_ne (tgt := 35) hx hb dX2_sowArrows_24 (by decide) (fun c16 => ?_) (fun c16 => ?_)
          · have h := h.1 c16
            refine lv_aload_n hx hb dX2_sowArrows_35 rfl (lv_at hl 2 rfl) ?_
            refine lv_aload_n hx hb dX2_sowArrows_36 rfl (lv_at hl 3 rfl) ?_
            refine lv_iload_n hx hb dX2_sowArrows_37 rfl (lv_at hl 4 rfl) ?_
            refine T_calli hw (va_runV (own := "Leastreader$Machine") (As := [.ref (ad 14), .int v9]) (rest := [.int v7, .int v8, .ref (ad k0)]) ⟨hx, hb, hml, hown, ht⟩ (c_X2_sowSome k0 hk0 μ10 H.size v9 h) (cwV 2 ht (G_V q_684 q_686 q_15 q_48 q_687) rfl rfl rfl ⟨rfl, hd_42⟩ ⟨Nat.le_of_ble_eq_true rfl, Nat.le_of_ble_eq_true rfl⟩) ⟨TB.blind, (T_recv hK hw (kd_of hk0 (by decide)) (ent_2 hk0) cl_2), TB.pre hK hN hw⟩ rfl rfl hl.1 rfl (lv_room (Nat.le_of_ble_eq_true rfl)) dX2_sowArrows_38 ⟨Nat.le_of_ble_eq_true rfl, Nat.le_of_ble_eq_true rfl⟩) (fun r18 μ17 H locs h hw => ?_)
            exact h H locs ls hw (lv_sub hl [0, 1, 2, 3, 4] rfl)
          have h := h.2 c16
          refine lv_aload_n hx hb dX2_sowArrows_27 rfl (lv_at hl 2 rfl) ?_
          refine lv_aload_n hx hb dX2_sowArrows_28 rfl (lv_at hl 3 rfl) ?_
          refine T_calli hw (va_runV (own := "Leastreader$Machine") (As := [.ref (ad 14)]) (rest := [.int v7, .int v8, .ref (ad k0)]) ⟨hx, hb, hml, hown, ht⟩ (c_X2_sowOne k0 hk0 μ10 H.size h) (cwV 1 ht (G_V q_675 q_677 q_14 q_48 q_678) rfl rfl rfl ⟨rfl, hd_43⟩ ⟨Nat.le_of_ble_eq_true rfl, Nat.le_of_ble_eq_true rfl⟩) ⟨TB.blind, (T_recv hK hw (kd_of hk0 (by decide)) (ent_2 hk0) cl_2), TB.pre hK hN hw⟩ rfl rfl hl.1 rfl (lv_room (Nat.le_of_ble_eq_true rfl)) dX2_sowArrows_29 ⟨Nat.le_of_ble_eq_true rfl, Nat.le_of_ble_eq_true rfl⟩) (fun r20 μ19 H locs h hw => ?_)
          refine lv_goto (tgt := 41) hx hb dX2_sowArrows_32 (by decide) ?_
          exact h H locs ls hw (lv_sub hl [0, 1, 2, 3, 4] rfl)
      refine L5 v2 v3 _ ?_ n21 (0 : Int32) μ4 H locs ls hw (lv_sub hl [0, 1, 2, 3, 4] rfl) h
      intro μ22 H locs ls hw hl h
      refine lv_iinc (v := (v2 + (1 : Int32))) (lv' := [(3, .int (v2 + (1 : Int32))), (0, .ref (ad k0)), (1, .ref (ad 14)), (2, .int v3)]) hx hb dX2_sowArrows_50 hl (k := 0) rfl rfl (by decide) rfl (fun ls hl => ?_)
      refine lv_goto (tgt := 2) hx hb dX2_sowArrows_53 (by decide) ?_
      exact ih0 (v2 + (1 : Int32)) μ22 H locs ls hw (lv_sub hl [0, 1, 2, 3] rfl) h
  exact L0 a2 n23 (0 : Int32) μ H locs ls hw (lv_sub hl [0, 1, 2, 3] rfl) h
def wpl_X2_sowGoals_2 (k0 : Nat) (Q : TMem → Prop) : Nat → Int32 → TMem → Prop
  | 0, _, _ => False
  | n + 1, v2, μ3 =>
    ((μ3 k0 1) ≤ v2 → (Q μ3)) ∧ (¬ (μ3 k0 1) ≤ v2 → (wp_X0_draw μ3 (fun (r6 : Int32) (μ5 : TMem) => (¬ (r6 - r6 / (2 : Int32) * (2 : Int32)) = 0 → (wpl_X2_sowGoals_2 k0 Q n (v2 + (1 : Int32)) μ5)) ∧ ((r6 - r6 / (2 : Int32) * (2 : Int32)) = 0 → (wpl_X2_sowGoals_2 k0 Q n (v2 + (1 : Int32)) (tms μ5 k0 2 ((μ5 k0 2) ||| ((1 : Int32) <<< (v2 &&& 31)))))))))
def wp_X2_sowGoals (k0 : Nat) (μ : TMem) (Q : TMem → Prop) : Prop :=
  ∃ n0x, wpl_X2_sowGoals_2 k0 Q n0x (0 : Int32) μ
set_option maxHeartbeats 4000000 in
set_option maxRecDepth 100000 in
theorem c_X2_sowGoals {l : Launch} {D : va_G} {ad : Nat → Nat} {cI cM : ClassId} (k0 : Nat) (hk0 : kd k0 = 2) (μ : TMem) (sz : Nat)  {Q : TMem → Prop} (h : wp_X2_sowGoals k0 μ Q) : TMv l yX2_sowGoals (.code yX2_sowGoals cX2_sowGoals 3 (Option.none : Option Jvm.ClassFile.FieldType)) 1 [.ref (ad k0), .ref (ad 14)] D ad cI cM sz μ Q := by
  refine T_metv (by decide +kernel) (Nat.le_of_ble_eq_true rfl) ?_
  intro p e s m below meth c Z ls hx hb hml hown ht hN hK hw hret hl
  have hl : lv_has ls 3 [(0, .ref (ad k0)), (1, .ref (ad 14))] := hl
  generalize s.heap = H at hw ⊢
  generalize ([] : List Loc) = locs at hw ⊢
  change ∃ n0x, wpl_X2_sowGoals_2 k0 Q n0x (0 : Int32) μ at h
  refine lv_iconst (v := (0 : Int32)) hx hb dX2_sowGoals_0 (by decide) ?_
  refine lv_istore_n (lv' := [(2, .int (0 : Int32)), (0, .ref (ad k0)), (1, .ref (ad 14))]) hx hb dX2_sowGoals_1 rfl hl (by decide) rfl (fun ls hl => ?_)
  obtain ⟨n8, h⟩ := h
  have L0 : ∀ (n : Nat) (v2 : Int32) (μ3 : TMem) (H : Heap) (locs : List Loc) (ls : Array Slot), TW D ad cI cM s μ3 H locs → lv_has ls 3 [(2, .int v2), (0, .ref (ad k0)), (1, .ref (ad 14))] → wpl_X2_sowGoals_2 k0 Q n v2 μ3 → W p l e (RM 1) s m #[.ref (ad k0), .ref (ad 14)] below meth c H locs 0 0 Z (F0 m 2 ls []) := by
    intro n
    induction n with
    | zero => intro v2 μ3 H locs ls hw hl h; exact False.elim h
    | succ n ih0 =>
      intro v2 μ3 H locs ls hw hl h
      change ((μ3 k0 1) ≤ v2 → (Q μ3)) ∧ (¬ (μ3 k0 1) ≤ v2 → (wp_X0_draw μ3 (fun (r6 : Int32) (μ5 : TMem) => (¬ (r6 - r6 / (2 : Int32) * (2 : Int32)) = 0 → (wpl_X2_sowGoals_2 k0 Q n (v2 + (1 : Int32)) μ5)) ∧ ((r6 - r6 / (2 : Int32) * (2 : Int32)) = 0 → (wpl_X2_sowGoals_2 k0 Q n (v2 + (1 : Int32)) (tms μ5 k0 2 ((μ5 k0 2) ||| ((1 : Int32) <<< (v2 &&& 31))))))))) at h
      refine lv_iload_n hx hb dX2_sowGoals_2 rfl (lv_at hl 0 rfl) ?_
      refine lv_aload_n hx hb dX2_sowGoals_3 rfl (lv_at hl 1 rfl) ?_
      refine gf_X2_15 hx hb ht hown hK hw hk0 dX2_sowGoals_4 ?_
      refine lv_icmp_ge (tgt := 37) hx hb dX2_sowGoals_7 (by decide) (fun c4 => ?_) (fun c4 => ?_)
      · have h := h.1 c4
        exact hret H locs ls 37 _ hw h dX2_sowGoals_37
      have h := h.2 c4
      refine lv_aload_n hx hb dX2_sowGoals_10 rfl (lv_at hl 2 rfl) ?_
      refine T_calli hw (va_runV (own := "Leastreader$Machine") (As := []) (rest := []) ⟨hx, hb, hml, hown, ht⟩ (c_X0_draw μ3 H.size h) (cwV 0 ht (G_V q_679 q_680 q_681 q_49 q_682) rfl rfl rfl ⟨rfl, hd_41⟩ ⟨Nat.le_of_ble_eq_true rfl, Nat.le_of_ble_eq_true rfl⟩) ⟨TB.blind, (T_recv hK hw (kd_of rfl (by decide)) (ent_0 rfl) cl_0), TB.pre hK hN hw⟩ rfl rfl hl.1 rfl (lv_room (Nat.le_of_ble_eq_true rfl)) dX2_sowGoals_11 ⟨Nat.le_of_ble_eq_true rfl, Nat.le_of_ble_eq_true rfl⟩) (fun r6 μ5 H locs h hw => ?_)
      refine lv_iconst (v := (2 : Int32)) hx hb dX2_sowGoals_14 (by decide) ?_
      refine lv_irem hx hb dX2_sowGoals_15 (by decide) ?_
      refine lv_if_ne (tgt := 31) hx hb dX2_sowGoals_16 (by decide) (fun c7 => ?_) (fun c7 => ?_)
      · have h := h.1 c7
        refine lv_iinc (v := (v2 + (1 : Int32))) (lv' := [(2, .int (v2 + (1 : Int32))), (0, .ref (ad k0)), (1, .ref (ad 14))]) hx hb dX2_sowGoals_31 hl (k := 0) rfl rfl (by decide) rfl (fun ls hl => ?_)
        refine lv_goto (tgt := 2) hx hb dX2_sowGoals_34 (by decide) ?_
        exact ih0 (v2 + (1 : Int32)) μ5 H locs ls hw (lv_sub hl [0, 1, 2] rfl) h
      have h := h.2 c7
      refine lv_aload_n hx hb dX2_sowGoals_19 rfl (lv_at hl 1 rfl) ?_
      refine lv_dup hx hb dX2_sowGoals_20 rfl ?_
      refine gf_X2_18 hx hb ht hown hK hw hk0 dX2_sowGoals_21 ?_
      refine lv_iconst (v := (1 : Int32)) hx hb dX2_sowGoals_24 (by decide) ?_
      refine lv_iload_n hx hb dX2_sowGoals_25 rfl (lv_at hl 0 rfl) ?_
      refine lv_ishl hx hb dX2_sowGoals_26 ?_
      refine lv_ior hx hb dX2_sowGoals_27 ?_
      refine pgf_X2_18 hx hb ht hown hK hw hk0 dX2_sowGoals_28 (fun H locs hw => ?_)
      refine lv_iinc (v := (v2 + (1 : Int32))) (lv' := [(2, .int (v2 + (1 : Int32))), (0, .ref (ad k0)), (1, .ref (ad 14))]) hx hb dX2_sowGoals_31 hl (k := 0) rfl rfl (by decide) rfl (fun ls hl => ?_)
      refine lv_goto (tgt := 2) hx hb dX2_sowGoals_34 (by decide) ?_
      exact ih0 (v2 + (1 : Int32)) (tms μ5 k0 2 ((μ5 k0 2) ||| ((1 : Int32) <<< (v2 &&& 31)))) H locs ls hw (lv_sub hl [0, 1, 2] rfl) h
  exact L0 n8 (0 : Int32) μ H locs ls hw (lv_sub hl [0, 1, 2] rfl) h
def wpl_X7_isSameTable_36 (k0 : Nat) (k1 : Nat) (μ : TMem) (v8 : Int32) (K64 : Prop) (Q : Int32 → Prop) : Nat → Int32 → Prop
  | 0, _ => False
  | n + 1, v7 =>
    ((3 : Int32) ≤ v7 → (K64)) ∧ (¬ (3 : Int32) ≤ v7 → (wp_X7_at k0 μ v8 v7 (fun (r10 : Int32) => wp_X7_at k1 μ v8 v7 (fun (r13 : Int32) => (r10 = r13 → (wpl_X7_isSameTable_36 k0 k1 μ v8 K64 Q n (v7 + (1 : Int32)))) ∧ (¬ r10 = r13 → (Q (0 : Int32)))))))
def wpl_X7_isSameTable_26 (k0 : Nat) (k1 : Nat) (μ : TMem) (Q : Int32 → Prop) : Nat → Int32 → Prop
  | 0, _ => False
  | n + 1, v4 =>
    ((μ k0 1) ≤ v4 → (Q (1 : Int32))) ∧ (¬ (μ k0 1) ≤ v4 → (∃ n5x, wpl_X7_isSameTable_36 k0 k1 μ v4 (wpl_X7_isSameTable_26 k0 k1 μ Q n (v4 + (1 : Int32))) Q n5x (0 : Int32)))
def wp_X7_isSameTable (k0 : Nat) (k1 : Nat) (μ : TMem) (Q : Int32 → Prop) : Prop :=
  (¬ (μ k0 1) = (μ k1 1) → (Q (0 : Int32))) ∧ ((μ k0 1) = (μ k1 1) → (((μ k0 2) = (μ k1 2) → (∃ n2x, wpl_X7_isSameTable_26 k0 k1 μ Q n2x (0 : Int32))) ∧ (¬ (μ k0 2) = (μ k1 2) → (Q (0 : Int32)))))
set_option maxHeartbeats 4000000 in
set_option maxRecDepth 100000 in
theorem c_X7_isSameTable_2 {l : Launch} {D : va_G} {ad : Nat → Nat} {cI cM : ClassId} (k0 : Nat) (hk0 : kd k0 = 2) (k1 : Nat) (hk1 : kd k1 = 2) (μ : TMem) (sz : Nat)  {Q : Int32 → Prop} (h : wp_X7_isSameTable k0 k1 μ Q) : TMi l yX7_isSameTable (.code yX7_isSameTable cX7_isSameTable 4 (Option.some Jvm.ClassFile.FieldType.boolean)) 1 [.ref (ad k0), .ref (ad k1)] D ad cI cM sz μ (fun r μ1 => μ1 = μ ∧ Q r) := by
  refine T_meti (by decide +kernel) (Nat.le_of_ble_eq_true rfl) ?_
  intro p e s m below meth c Z ls hx hb hml hown ht hN hK hw hret hl
  have hl : lv_has ls 4 [(0, .ref (ad k0)), (1, .ref (ad k1))] := hl
  generalize s.heap = H at hw ⊢
  generalize ([] : List Loc) = locs at hw ⊢
  change (¬ (μ k0 1) = (μ k1 1) → (Q (0 : Int32))) ∧ ((μ k0 1) = (μ k1 1) → (((μ k0 2) = (μ k1 2) → (∃ n2x, wpl_X7_isSameTable_26 k0 k1 μ Q n2x (0 : Int32))) ∧ (¬ (μ k0 2) = (μ k1 2) → (Q (0 : Int32))))) at h
  refine lv_aload_n hx hb dX7_isSameTable_0 rfl (lv_at hl 0 rfl) ?_
  refine gf_X7_9 hx hb ht hown hK hw (Or.inl hk0) dX7_isSameTable_1 ?_
  refine lv_aload_n hx hb dX7_isSameTable_4 rfl (lv_at hl 1 rfl) ?_
  refine gf_X7_9 hx hb ht hown hK hw (Or.inl hk1) dX7_isSameTable_5 ?_
  refine lv_icmp_ne (tgt := 22) hx hb dX7_isSameTable_8 (by decide) (fun c1 => ?_) (fun c1 => ?_)
  · have h := h.1 c1
    refine lv_iconst (v := (0 : Int32)) hx hb dX7_isSameTable_22 (by decide) ?_
    exact hret H locs ls 23 _ _ hw ⟨rfl, h⟩ rfl dX7_isSameTable_23
  have h := h.2 c1
  refine lv_aload_n hx hb dX7_isSameTable_11 rfl (lv_at hl 0 rfl) ?_
  refine gf_X7_19 hx hb ht hown hK hw (Or.inl hk0) dX7_isSameTable_12 ?_
  refine lv_aload_n hx hb dX7_isSameTable_15 rfl (lv_at hl 1 rfl) ?_
  refine gf_X7_19 hx hb ht hown hK hw (Or.inl hk1) dX7_isSameTable_16 ?_
  refine lv_icmp_eq (tgt := 24) hx hb dX7_isSameTable_19 (by decide) (fun c2 => ?_) (fun c2 => ?_)
  · have h := h.1 c2
    refine lv_iconst (v := (0 : Int32)) hx hb dX7_isSameTable_24 (by decide) ?_
    refine lv_istore_n (lv' := [(2, .int (0 : Int32)), (0, .ref (ad k0)), (1, .ref (ad k1))]) hx hb dX7_isSameTable_25 rfl hl (by decide) rfl (fun ls hl => ?_)
    obtain ⟨n18, h⟩ := h
    have L2 : ∀ (n : Nat) (v4 : Int32) (H : Heap) (locs : List Loc) (ls : Array Slot), TW D ad cI cM s μ H locs → lv_has ls 4 [(2, .int v4), (0, .ref (ad k0)), (1, .ref (ad k1))] → wpl_X7_isSameTable_26 k0 k1 μ Q n v4 → W p l e (RM 1) s m #[.ref (ad k0), .ref (ad k1)] below meth c H locs 0 0 Z (F0 m 26 ls []) := by
      intro n
      induction n with
      | zero => intro v4 H locs ls hw hl h; exact False.elim h
      | succ n ih2 =>
        intro v4 H locs ls hw hl h
        change ((μ k0 1) ≤ v4 → (Q (1 : Int32))) ∧ (¬ (μ k0 1) ≤ v4 → (∃ n5x, wpl_X7_isSameTable_36 k0 k1 μ v4 (wpl_X7_isSameTable_26 k0 k1 μ Q n (v4 + (1 : Int32))) Q n5x (0 : Int32))) at h
        refine lv_iload_n hx hb dX7_isSameTable_26 rfl (lv_at hl 0 rfl) ?_
        refine lv_aload_n hx hb dX7_isSameTable_27 rfl (lv_at hl 1 rfl) ?_
        refine gf_X7_9 hx hb ht hown hK hw (Or.inl hk0) dX7_isSameTable_28 ?_
        refine lv_icmp_ge (tgt := 70) hx hb dX7_isSameTable_31 (by decide) (fun c5 => ?_) (fun c5 => ?_)
        · have h := h.1 c5
          refine lv_iconst (v := (1 : Int32)) hx hb dX7_isSameTable_70 (by decide) ?_
          exact hret H locs ls 71 _ _ hw ⟨rfl, h⟩ rfl dX7_isSameTable_71
        have h := h.2 c5
        refine lv_iconst (v := (0 : Int32)) hx hb dX7_isSameTable_34 (by decide) ?_
        refine lv_istore_n (lv' := [(3, .int (0 : Int32)), (2, .int v4), (0, .ref (ad k0)), (1, .ref (ad k1))]) hx hb dX7_isSameTable_35 rfl hl (by decide) rfl (fun ls hl => ?_)
        obtain ⟨n17, h⟩ := h
        have L5 : ∀ (v8 : Int32) (K64 : Prop), (∀ (H : Heap) (locs : List Loc) (ls : Array Slot), TW D ad cI cM s μ H locs → lv_has ls 4 [(2, .int v8), (0, .ref (ad k0)), (1, .ref (ad k1))] → K64 → W p l e (RM 1) s m #[.ref (ad k0), .ref (ad k1)] below meth c H locs 0 0 Z (F0 m 64 ls [])) → ∀ (n : Nat) (v7 : Int32) (H : Heap) (locs : List Loc) (ls : Array Slot), TW D ad cI cM s μ H locs → lv_has ls 4 [(3, .int v7), (2, .int v8), (0, .ref (ad k0)), (1, .ref (ad k1))] → wpl_X7_isSameTable_36 k0 k1 μ v8 K64 Q n v7 → W p l e (RM 1) s m #[.ref (ad k0), .ref (ad k1)] below meth c H locs 0 0 Z (F0 m 36 ls []) := by
          intro v8 K64 hK64
          intro n
          induction n with
          | zero => intro v7 H locs ls hw hl h; exact False.elim h
          | succ n ih5 =>
            intro v7 H locs ls hw hl h
            change ((3 : Int32) ≤ v7 → (K64)) ∧ (¬ (3 : Int32) ≤ v7 → (wp_X7_at k0 μ v8 v7 (fun (r10 : Int32) => wp_X7_at k1 μ v8 v7 (fun (r13 : Int32) => (r10 = r13 → (wpl_X7_isSameTable_36 k0 k1 μ v8 K64 Q n (v7 + (1 : Int32)))) ∧ (¬ r10 = r13 → (Q (0 : Int32))))))) at h
            refine lv_iload_n hx hb dX7_isSameTable_36 rfl (lv_at hl 0 rfl) ?_
            refine lv_iconst (v := (3 : Int32)) hx hb dX7_isSameTable_37 (by decide) ?_
            refine lv_icmp_ge (tgt := 64) hx hb dX7_isSameTable_38 (by decide) (fun c9 => ?_) (fun c9 => ?_)
            · have h := h.1 c9
              exact hK64 H locs ls hw (lv_sub hl [1, 2, 3] rfl) h
            have h := h.2 c9
            refine lv_aload_n hx hb dX7_isSameTable_41 rfl (lv_at hl 2 rfl) ?_
            refine lv_iload_n hx hb dX7_isSameTable_42 rfl (lv_at hl 1 rfl) ?_
            refine lv_iload_n hx hb dX7_isSameTable_43 rfl (lv_at hl 0 rfl) ?_
            refine T_calli hw (va_runU (own := "Leastreader$Table") (As := [.int v8, .int v7]) (rest := []) ⟨hx, hb, hml, hown, ht⟩ (c_X7_at_2 k0 hk0 μ H.size v8 v7 h) (va_cwU (owner := "Leastreader$Table") 2 ht (G_U q_526 q_1608 q_1609 q_416 q_47 q_417) rfl rfl rfl rfl hd_0 ⟨Nat.le_of_ble_eq_true rfl, Nat.le_of_ble_eq_true rfl⟩) ⟨TB.blind, (T_recv hK hw (kd_of hk0 (by decide)) (ent_2 hk0) cl_2), TB.pre hK hN hw⟩ rfl rfl hl.1 rfl (lv_room (Nat.le_of_ble_eq_true rfl)) dX7_isSameTable_44 ⟨Nat.le_of_ble_eq_true rfl, Nat.le_of_ble_eq_true rfl⟩) (fun r10 μ11 H locs h hw => ?_)
            obtain ⟨e12, h⟩ := h
            rw [e12] at hw
            refine lv_aload_n hx hb dX7_isSameTable_47 rfl (lv_at hl 3 rfl) ?_
            refine lv_iload_n hx hb dX7_isSameTable_48 rfl (lv_at hl 1 rfl) ?_
            refine lv_iload_n hx hb dX7_isSameTable_49 rfl (lv_at hl 0 rfl) ?_
            refine T_calli hw (va_runU (own := "Leastreader$Table") (As := [.int v8, .int v7]) (rest := [.int r10]) ⟨hx, hb, hml, hown, ht⟩ (c_X7_at_2 k1 hk1 μ H.size v8 v7 h) (va_cwU (owner := "Leastreader$Table") 2 ht (G_U q_526 q_1608 q_1609 q_416 q_47 q_417) rfl rfl rfl rfl hd_0 ⟨Nat.le_of_ble_eq_true rfl, Nat.le_of_ble_eq_true rfl⟩) ⟨TB.blind, (T_recv hK hw (kd_of hk1 (by decide)) (ent_2 hk1) cl_2), TB.pre hK hN hw⟩ rfl rfl hl.1 rfl (lv_room (Nat.le_of_ble_eq_true rfl)) dX7_isSameTable_50 ⟨Nat.le_of_ble_eq_true rfl, Nat.le_of_ble_eq_true rfl⟩) (fun r13 μ14 H locs h hw => ?_)
            obtain ⟨e15, h⟩ := h
            rw [e15] at hw
            refine lv_icmp_eq (tgt := 58) hx hb dX7_isSameTable_53 (by decide) (fun c16 => ?_) (fun c16 => ?_)
            · have h := h.1 c16
              refine lv_iinc (v := (v7 + (1 : Int32))) (lv' := [(3, .int (v7 + (1 : Int32))), (2, .int v8), (0, .ref (ad k0)), (1, .ref (ad k1))]) hx hb dX7_isSameTable_58 hl (k := 0) rfl rfl (by decide) rfl (fun ls hl => ?_)
              refine lv_goto (tgt := 36) hx hb dX7_isSameTable_61 (by decide) ?_
              exact ih5 (v7 + (1 : Int32)) H locs ls hw (lv_sub hl [0, 1, 2, 3] rfl) h
            have h := h.2 c16
            refine lv_iconst (v := (0 : Int32)) hx hb dX7_isSameTable_56 (by decide) ?_
            exact hret H locs ls 57 _ _ hw ⟨rfl, h⟩ rfl dX7_isSameTable_57
        refine L5 v4 _ ?_ n17 (0 : Int32) H locs ls hw (lv_sub hl [0, 1, 2, 3] rfl) h
        intro H locs ls hw hl h
        refine lv_iinc (v := (v4 + (1 : Int32))) (lv' := [(2, .int (v4 + (1 : Int32))), (0, .ref (ad k0)), (1, .ref (ad k1))]) hx hb dX7_isSameTable_64 hl (k := 0) rfl rfl (by decide) rfl (fun ls hl => ?_)
        refine lv_goto (tgt := 26) hx hb dX7_isSameTable_67 (by decide) ?_
        exact ih2 (v4 + (1 : Int32)) H locs ls hw (lv_sub hl [0, 1, 2] rfl) h
    exact L2 n18 (0 : Int32) H locs ls hw (lv_sub hl [0, 1, 2] rfl) h
  have h := h.2 c2
  refine lv_iconst (v := (0 : Int32)) hx hb dX7_isSameTable_22 (by decide) ?_
  exact hret H locs ls 23 _ _ hw ⟨rfl, h⟩ rfl dX7_isSameTable_23
set_option maxHeartbeats 4000000 in
set_option maxRecDepth 100000 in
theorem c_X7_isSameTable_5 {l : Launch} {D : va_G} {ad : Nat → Nat} {cI cM : ClassId} (k0 : Nat) (hk0 : kd k0 = 5) (k1 : Nat) (hk1 : kd k1 = 5) (μ : TMem) (sz : Nat)  {Q : Int32 → Prop} (h : wp_X7_isSameTable k0 k1 μ Q) : TMi l yX7_isSameTable (.code yX7_isSameTable cX7_isSameTable 4 (Option.some Jvm.ClassFile.FieldType.boolean)) 1 [.ref (ad k0), .ref (ad k1)] D ad cI cM sz μ (fun r μ1 => μ1 = μ ∧ Q r) := by
  refine T_meti (by decide +kernel) (Nat.le_of_ble_eq_true rfl) ?_
  intro p e s m below meth c Z ls hx hb hml hown ht hN hK hw hret hl
  have hl : lv_has ls 4 [(0, .ref (ad k0)), (1, .ref (ad k1))] := hl
  generalize s.heap = H at hw ⊢
  generalize ([] : List Loc) = locs at hw ⊢
  change (¬ (μ k0 1) = (μ k1 1) → (Q (0 : Int32))) ∧ ((μ k0 1) = (μ k1 1) → (((μ k0 2) = (μ k1 2) → (∃ n2x, wpl_X7_isSameTable_26 k0 k1 μ Q n2x (0 : Int32))) ∧ (¬ (μ k0 2) = (μ k1 2) → (Q (0 : Int32))))) at h
  refine lv_aload_n hx hb dX7_isSameTable_0 rfl (lv_at hl 0 rfl) ?_
  refine gf_X7_9 hx hb ht hown hK hw (Or.inr hk0) dX7_isSameTable_1 ?_
  refine lv_aload_n hx hb dX7_isSameTable_4 rfl (lv_at hl 1 rfl) ?_
  refine gf_X7_9 hx hb ht hown hK hw (Or.inr hk1) dX7_isSameTable_5 ?_
  refine lv_icmp_ne (tgt := 22) hx hb dX7_isSameTable_8 (by decide) (fun c1 => ?_) (fun c1 => ?_)
  · have h := h.1 c1
    refine lv_iconst (v := (0 : Int32)) hx hb dX7_isSameTable_22 (by decide) ?_
    exact hret H locs ls 23 _ _ hw ⟨rfl, h⟩ rfl dX7_isSameTable_23
  have h := h.2 c1
  refine lv_aload_n hx hb dX7_isSameTable_11 rfl (lv_at hl 0 rfl) ?_
  refine gf_X7_19 hx hb ht hown hK hw (Or.inr hk0) dX7_isSameTable_12 ?_
  refine lv_aload_n hx hb dX7_isSameTable_15 rfl (lv_at hl 1 rfl) ?_
  refine gf_X7_19 hx hb ht hown hK hw (Or.inr hk1) dX7_isSameTable_16 ?_
  refine lv_icmp_eq (tgt := 24) hx hb dX7_isSameTable_19 (by decide) (fun c2 => ?_) (fun c2 => ?_)
  · have h := h.1 c2
    refine lv_iconst (v := (0 : Int32)) hx hb dX7_isSameTable_24 (by decide) ?_
    refine lv_istore_n (lv' := [(2, .int (0 : Int32)), (0, .ref (ad k0)), (1, .ref (ad k1))]) hx hb dX7_isSameTable_25 rfl hl (by decide) rfl (fun ls hl => ?_)
    obtain ⟨n18, h⟩ := h
    have L2 : ∀ (n : Nat) (v4 : Int32) (H : Heap) (locs : List Loc) (ls : Array Slot), TW D ad cI cM s μ H locs → lv_has ls 4 [(2, .int v4), (0, .ref (ad k0)), (1, .ref (ad k1))] → wpl_X7_isSameTable_26 k0 k1 μ Q n v4 → W p l e (RM 1) s m #[.ref (ad k0), .ref (ad k1)] below meth c H locs 0 0 Z (F0 m 26 ls []) := by
      intro n
      induction n with
      | zero => intro v4 H locs ls hw hl h; exact False.elim h
      | succ n ih2 =>
        intro v4 H locs ls hw hl h
        change ((μ k0 1) ≤ v4 → (Q (1 : Int32))) ∧ (¬ (μ k0 1) ≤ v4 → (∃ n5x, wpl_X7_isSameTable_36 k0 k1 μ v4 (wpl_X7_isSameTable_26 k0 k1 μ Q n (v4 + (1 : Int32))) Q n5x (0 : Int32))) at h
        refine lv_iload_n hx hb dX7_isSameTable_26 rfl (lv_at hl 0 rfl) ?_
        refine lv_aload_n hx hb dX7_isSameTable_27 rfl (lv_at hl 1 rfl) ?_
        refine gf_X7_9 hx hb ht hown hK hw (Or.inr hk0) dX7_isSameTable_28 ?_
        refine lv_icmp_ge (tgt := 70) hx hb dX7_isSameTable_31 (by decide) (fun c5 => ?_) (fun c5 => ?_)
        · have h := h.1 c5
          refine lv_iconst (v := (1 : Int32)) hx hb dX7_isSameTable_70 (by decide) ?_
          exact hret H locs ls 71 _ _ hw ⟨rfl, h⟩ rfl dX7_isSameTable_71
        have h := h.2 c5
        refine lv_iconst (v := (0 : Int32)) hx hb dX7_isSameTable_34 (by decide) ?_
        refine lv_istore_n (lv' := [(3, .int (0 : Int32)), (2, .int v4), (0, .ref (ad k0)), (1, .ref (ad k1))]) hx hb dX7_isSameTable_35 rfl hl (by decide) rfl (fun ls hl => ?_)
        obtain ⟨n17, h⟩ := h
        have L5 : ∀ (v8 : Int32) (K64 : Prop), (∀ (H : Heap) (locs : List Loc) (ls : Array Slot), TW D ad cI cM s μ H locs → lv_has ls 4 [(2, .int v8), (0, .ref (ad k0)), (1, .ref (ad k1))] → K64 → W p l e (RM 1) s m #[.ref (ad k0), .ref (ad k1)] below meth c H locs 0 0 Z (F0 m 64 ls [])) → ∀ (n : Nat) (v7 : Int32) (H : Heap) (locs : List Loc) (ls : Array Slot), TW D ad cI cM s μ H locs → lv_has ls 4 [(3, .int v7), (2, .int v8), (0, .ref (ad k0)), (1, .ref (ad k1))] → wpl_X7_isSameTable_36 k0 k1 μ v8 K64 Q n v7 → W p l e (RM 1) s m #[.ref (ad k0), .ref (ad k1)] below meth c H locs 0 0 Z (F0 m 36 ls []) := by
          intro v8 K64 hK64
          intro n
          induction n with
          | zero => intro v7 H locs ls hw hl h; exact False.elim h
          | succ n ih5 =>
            intro v7 H locs ls hw hl h
            change ((3 : Int32) ≤ v7 → (K64)) ∧ (¬ (3 : Int32) ≤ v7 → (wp_X7_at k0 μ v8 v7 (fun (r10 : Int32) => wp_X7_at k1 μ v8 v7 (fun (r13 : Int32) => (r10 = r13 → (wpl_X7_isSameTable_36 k0 k1 μ v8 K64 Q n (v7 + (1 : Int32)))) ∧ (¬ r10 = r13 → (Q (0 : Int32))))))) at h
            refine lv_iload_n hx hb dX7_isSameTable_36 rfl (lv_at hl 0 rfl) ?_
            refine lv_iconst (v := (3 : Int32)) hx hb dX7_isSameTable_37 (by decide) ?_
            refine lv_icmp_ge (tgt := 64) hx hb dX7_isSameTable_38 (by decide) (fun c9 => ?_) (fun c9 => ?_)
            · have h := h.1 c9
              exact hK64 H locs ls hw (lv_sub hl [1, 2, 3] rfl) h
            have h := h.2 c9
            refine lv_aload_n hx hb dX7_isSameTable_41 rfl (lv_at hl 2 rfl) ?_
            refine lv_iload_n hx hb dX7_isSameTable_42 rfl (lv_at hl 1 rfl) ?_
            refine lv_iload_n hx hb dX7_isSameTable_43 rfl (lv_at hl 0 rfl) ?_
            refine T_calli hw (va_runU (own := "Leastreader$Table") (As := [.int v8, .int v7]) (rest := []) ⟨hx, hb, hml, hown, ht⟩ (c_X7_at_5 k0 hk0 μ H.size v8 v7 h) (va_cwU (owner := "Leastreader$Table") 2 ht (G_U q_526 q_1608 q_1610 q_416 q_47 q_417) rfl rfl rfl rfl hd_0 ⟨Nat.le_of_ble_eq_true rfl, Nat.le_of_ble_eq_true rfl⟩) ⟨TB.blind, (T_recv hK hw (kd_of hk0 (by decide)) (ent_5 hk0) cl_5), TB.pre hK hN hw⟩ rfl rfl hl.1 rfl (lv_room (Nat.le_of_ble_eq_true rfl)) dX7_isSameTable_44 ⟨Nat.le_of_ble_eq_true rfl, Nat.le_of_ble_eq_true rfl⟩) (fun r10 μ11 H locs h hw => ?_)
            obtain ⟨e12, h⟩ := h
            rw [e12] at hw
            refine lv_aload_n hx hb dX7_isSameTable_47 rfl (lv_at hl 3 rfl) ?_
            refine lv_iload_n hx hb dX7_isSameTable_48 rfl (lv_at hl 1 rfl) ?_
            refine lv_iload_n hx hb dX7_isSameTable_49 rfl (lv_at hl 0 rfl) ?_
            refine T_calli hw (va_runU (own := "Leastreader$Table") (As := [.int v8, .int v7]) (rest := [.int r10]) ⟨hx, hb, hml, hown, ht⟩ (c_X7_at_5 k1 hk1 μ H.size v8 v7 h) (va_cwU (owner := "Leastreader$Table") 2 ht (G_U q_526 q_1608 q_1610 q_416 q_47 q_417) rfl rfl rfl rfl hd_0 ⟨Nat.le_of_ble_eq_true rfl, Nat.le_of_ble_eq_true rfl⟩) ⟨TB.blind, (T_recv hK hw (kd_of hk1 (by decide)) (ent_5 hk1) cl_5), TB.pre hK hN hw⟩ rfl rfl hl.1 rfl (lv_room (Nat.le_of_ble_eq_true rfl)) dX7_isSameTable_50 ⟨Nat.le_of_ble_eq_true rfl, Nat.le_of_ble_eq_true rfl⟩) (fun r13 μ14 H locs h hw => ?_)
            obtain ⟨e15, h⟩ := h
            rw [e15] at hw
            refine lv_icmp_eq (tgt := 58) hx hb dX7_isSameTable_53 (by decide) (fun c16 => ?_) (fun c16 => ?_)
            · have h := h.1 c16
              refine lv_iinc (v := (v7 + (1 : Int32))) (lv' := [(3, .int (v7 + (1 : Int32))), (2, .int v8), (0, .ref (ad k0)), (1, .ref (ad k1))]) hx hb dX7_isSameTable_58 hl (k := 0) rfl rfl (by decide) rfl (fun ls hl => ?_)
              refine lv_goto (tgt := 36) hx hb dX7_isSameTable_61 (by decide) ?_
              exact ih5 (v7 + (1 : Int32)) H locs ls hw (lv_sub hl [0, 1, 2, 3] rfl) h
            have h := h.2 c16
            refine lv_iconst (v := (0 : Int32)) hx hb dX7_isSameTable_56 (by decide) ?_
            exact hret H locs ls 57 _ _ hw ⟨rfl, h⟩ rfl dX7_isSameTable_57
        refine L5 v4 _ ?_ n17 (0 : Int32) H locs ls hw (lv_sub hl [0, 1, 2, 3] rfl) h
        intro H locs ls hw hl h
        refine lv_iinc (v := (v4 + (1 : Int32))) (lv' := [(2, .int (v4 + (1 : Int32))), (0, .ref (ad k0)), (1, .ref (ad k1))]) hx hb dX7_isSameTable_64 hl (k := 0) rfl rfl (by decide) rfl (fun ls hl => ?_)
        refine lv_goto (tgt := 26) hx hb dX7_isSameTable_67 (by decide) ?_
        exact ih2 (v4 + (1 : Int32)) H locs ls hw (lv_sub hl [0, 1, 2] rfl) h
    exact L2 n18 (0 : Int32) H locs ls hw (lv_sub hl [0, 1, 2] rfl) h
  have h := h.2 c2
  refine lv_iconst (v := (0 : Int32)) hx hb dX7_isSameTable_22 (by decide) ?_
  exact hret H locs ls 23 _ _ hw ⟨rfl, h⟩ rfl dX7_isSameTable_23
