def wpl_X6_find_2 (k0 : Nat) (μ : TMem) (v3 : Int32) (v4 : Int32) (Q : Int32 → Prop) : Nat → Int32 → Prop
  | 0, _ => False
  | n + 1, v2 =>
    (v4 ≤ v2 → (Q (-1 : Int32))) ∧ (¬ v4 ≤ v2 → (((nI (tl (k0 + 1))) ≤ v2 → (Q (-1 : Int32))) ∧ (¬ (nI (tl (k0 + 1))) ≤ v2 → (vp_in v2 (tl (k0 + 1)) ∧ ((¬ (μ (k0 + 1) v2.toNatClampNeg) = v3 → (wpl_X6_find_2 k0 μ v3 v4 Q n (v2 + (1 : Int32)))) ∧ ((μ (k0 + 1) v2.toNatClampNeg) = v3 → (Q v2)))))))
def wp_X6_find (k0 : Nat) (μ : TMem) (a1 : Int32) (a2 : Int32) (Q : Int32 → Prop) : Prop :=
  ∃ n0x, wpl_X6_find_2 k0 μ a1 a2 Q n0x (0 : Int32)
set_option maxHeartbeats 4000000 in
set_option maxRecDepth 100000 in
theorem c_X6_find {l : Launch} {D : va_G} {ad : Nat → Nat} {cI cM : ClassId} (k0 : Nat) (hk0 : kd k0 = 6) (μ : TMem) (sz : Nat) (a1 : Int32) (a2 : Int32) {Q : Int32 → Prop} (h : wp_X6_find k0 μ a1 a2 Q) : TMi l yX6_find (.code yX6_find cX6_find 4 (Option.some Jvm.ClassFile.FieldType.int)) 0 [.ref (ad k0), .int a1, .int a2] D ad cI cM sz μ (fun r μ1 => μ1 = μ ∧ Q r) := by
  refine T_meti (by decide +kernel) (Nat.le_of_ble_eq_true rfl) ?_
  intro p e s m below meth c Z ls hx hb hml hown ht hN hK hw hret hl
  have hl : lv_has ls 4 [(0, .ref (ad k0)), (1, .int a1), (2, .int a2)] := hl
  generalize s.heap = H at hw ⊢
  generalize ([] : List Loc) = locs at hw ⊢
  change ∃ n0x, wpl_X6_find_2 k0 μ a1 a2 Q n0x (0 : Int32) at h
  refine lv_iconst (v := (0 : Int32)) hx hb dX6_find_0 (by decide) ?_
  refine lv_istore_n (lv' := [(3, .int (0 : Int32)), (0, .ref (ad k0)), (1, .int a1), (2, .int a2)]) hx hb dX6_find_1 rfl hl (by decide) rfl (fun ls hl => ?_)
  obtain ⟨n9, h⟩ := h
  have L0 : ∀ (v3 : Int32) (v4 : Int32), ∀ (n : Nat) (v2 : Int32) (H : Heap) (locs : List Loc) (ls : Array Slot), TW D ad cI cM s μ H locs → lv_has ls 4 [(3, .int v2), (0, .ref (ad k0)), (1, .int v3), (2, .int v4)] → wpl_X6_find_2 k0 μ v3 v4 Q n v2 → W p l e (RM 0) s m #[.ref (ad k0), .int a1, .int a2] below meth c H locs 0 0 Z (F0 m 2 ls []) := by
    intro v3 v4
    intro n
    induction n with
    | zero => intro v2 H locs ls hw hl h; exact False.elim h
    | succ n ih0 =>
      intro v2 H locs ls hw hl h
      change (v4 ≤ v2 → (Q (-1 : Int32))) ∧ (¬ v4 ≤ v2 → (((nI (tl (k0 + 1))) ≤ v2 → (Q (-1 : Int32))) ∧ (¬ (nI (tl (k0 + 1))) ≤ v2 → (vp_in v2 (tl (k0 + 1)) ∧ ((¬ (μ (k0 + 1) v2.toNatClampNeg) = v3 → (wpl_X6_find_2 k0 μ v3 v4 Q n (v2 + (1 : Int32)))) ∧ ((μ (k0 + 1) v2.toNatClampNeg) = v3 → (Q v2))))))) at h
      refine lv_iload_n hx hb dX6_find_2 rfl (lv_at hl 0 rfl) ?_
      refine lv_iload_n hx hb dX6_find_3 rfl (lv_at hl 3 rfl) ?_
      refine lv_icmp_ge (tgt := 34) hx hb dX6_find_4 (by decide) (fun c5 => ?_) (fun c5 => ?_)
      · have h := h.1 c5
        refine lv_iconst (v := (-1 : Int32)) hx hb dX6_find_34 (by decide) ?_
        exact hret H locs ls 35 _ _ hw ⟨rfl, h⟩ rfl dX6_find_35
      have h := h.2 c5
      refine lv_iload_n hx hb dX6_find_7 rfl (lv_at hl 0 rfl) ?_
      refine lv_aload_n hx hb dX6_find_8 rfl (lv_at hl 1 rfl) ?_
      refine gf_X6_9 hx hb ht hown hK hw hk0 dX6_find_9 ?_
      refine t_alen hx hb hK hw (ka_6 hk0) dX6_find_12 ?_
      refine lv_icmp_ge (tgt := 34) hx hb dX6_find_13 (by decide) (fun c6 => ?_) (fun c6 => ?_)
      · have h := h.1 c6
        refine lv_iconst (v := (-1 : Int32)) hx hb dX6_find_34 (by decide) ?_
        exact hret H locs ls 35 _ _ hw ⟨rfl, h⟩ rfl dX6_find_35
      have h := h.2 c6
      refine lv_aload_n hx hb dX6_find_16 rfl (lv_at hl 1 rfl) ?_
      refine gf_X6_9 hx hb ht hown hK hw hk0 dX6_find_17 ?_
      refine lv_iload_n hx hb dX6_find_20 rfl (lv_at hl 0 rfl) ?_
      obtain ⟨z7, h⟩ := h
      refine t_iald hx hb hK hw (ka_6 hk0) z7 dX6_find_21 ?_
      refine lv_iload_n hx hb dX6_find_22 rfl (lv_at hl 2 rfl) ?_
      refine lv_icmp_ne (tgt := 28) hx hb dX6_find_23 (by decide) (fun c8 => ?_) (fun c8 => ?_)
      · have h := h.1 c8
        refine lv_iinc (v := (v2 + (1 : Int32))) (lv' := [(3, .int (v2 + (1 : Int32))), (0, .ref (ad k0)), (1, .int v3), (2, .int v4)]) hx hb dX6_find_28 hl (k := 0) rfl rfl (by decide) rfl (fun ls hl => ?_)
        refine lv_goto (tgt := 2) hx hb dX6_find_31 (by decide) ?_
        exact ih0 (v2 + (1 : Int32)) H locs ls hw (lv_sub hl [0, 1, 2, 3] rfl) h
      have h := h.2 c8
      refine lv_iload_n hx hb dX6_find_26 rfl (lv_at hl 0 rfl) ?_
      exact hret H locs ls 27 _ _ hw ⟨rfl, h⟩ rfl dX6_find_27
  exact L0 a1 a2 n9 (0 : Int32) H locs ls hw (lv_sub hl [0, 1, 2, 3] rfl) h
def wp_X3_numberOf (k2 : Nat) (μ : TMem) (a1 : Int32) (Q : Int32 → TMem → Prop) : Prop :=
  wp_X6_find 16 μ a1 (μ k2 1) (fun (r1 : Int32) => (¬ r1 = (-1 : Int32) → (Q r1 μ)) ∧ (r1 = (-1 : Int32) → (((μ k2 1) < (32 : Int32) → (wp_X6_put 16 μ (μ k2 1) a1 (fun (μ6 : TMem) => Q (((tms μ6 k2 1 ((μ6 k2 1) + (1 : Int32))) k2 1) - (1 : Int32)) (tms μ6 k2 1 ((μ6 k2 1) + (1 : Int32)))))) ∧ (¬ (μ k2 1) < (32 : Int32) → (Q r1 μ)))))
set_option maxHeartbeats 4000000 in
set_option maxRecDepth 100000 in
theorem c_X3_numberOf {l : Launch} {D : va_G} {ad : Nat → Nat} {cI cM : ClassId} (k2 : Nat) (hk2 : kd k2 = 5) (μ : TMem) (sz : Nat) (a1 : Int32) {Q : Int32 → TMem → Prop} (h : wp_X3_numberOf k2 μ a1 Q) : TMi l yX3_numberOf (.code yX3_numberOf cX3_numberOf 4 (Option.some Jvm.ClassFile.FieldType.int)) 1 [.ref (ad 15), .int a1, .ref (ad k2)] D ad cI cM sz μ Q := by
  refine T_meti (by decide +kernel) (Nat.le_of_ble_eq_true rfl) ?_
  intro p e s m below meth c Z ls hx hb hml hown ht hN hK hw hret hl
  have hl : lv_has ls 4 [(0, .ref (ad 15)), (1, .int a1), (2, .ref (ad k2))] := hl
  generalize s.heap = H at hw ⊢
  generalize ([] : List Loc) = locs at hw ⊢
  change wp_X6_find 16 μ a1 (μ k2 1) (fun (r1 : Int32) => (¬ r1 = (-1 : Int32) → (Q r1 μ)) ∧ (r1 = (-1 : Int32) → (((μ k2 1) < (32 : Int32) → (wp_X6_put 16 μ (μ k2 1) a1 (fun (μ6 : TMem) => Q (((tms μ6 k2 1 ((μ6 k2 1) + (1 : Int32))) k2 1) - (1 : Int32)) (tms μ6 k2 1 ((μ6 k2 1) + (1 : Int32)))))) ∧ (¬ (μ k2 1) < (32 : Int32) → (Q r1 μ))))) at h
  refine lv_aload_n hx hb dX3_numberOf_0 rfl (lv_at hl 0 rfl) ?_
  refine gf_X3_14 hx hb ht hown hK hw rfl dX3_numberOf_1 ?_
  refine W.eq (g2 := F0 m 4 ls [.ref (ad 16)]) rfl ?_
  refine lv_iload_n hx hb dX3_numberOf_4 rfl (lv_at hl 1 rfl) ?_
  refine lv_aload_n hx hb dX3_numberOf_5 rfl (lv_at hl 2 rfl) ?_
  refine gf_X3_83 hx hb ht hown hK hw hk2 dX3_numberOf_6 ?_
  refine T_calli hw (va_runV (own := "Leastreader$Maker") (As := [.int a1, .int (μ k2 1)]) (rest := []) ⟨hx, hb, hml, hown, ht⟩ (c_X6_find 16 rfl μ H.size a1 (μ k2 1) h) (cwV 2 ht (G_V q_422 q_423 q_424 q_51 q_425) rfl rfl rfl ⟨rfl, hd_6⟩ ⟨Nat.le_of_ble_eq_true rfl, Nat.le_of_ble_eq_true rfl⟩) ⟨TB.blind, (T_recv hK hw (kd_of rfl (by decide)) (ent_6 rfl) cl_6), TB.pre hK hN hw⟩ rfl rfl hl.1 rfl (lv_room (Nat.le_of_ble_eq_true rfl)) dX3_numberOf_9 ⟨Nat.le_of_ble_eq_true rfl, Nat.le_of_ble_eq_true rfl⟩) (fun r1 μ2 H locs h hw => ?_)
  obtain ⟨e3, h⟩ := h
  rw [e3] at hw
  refine lv_istore_n (lv' := [(3, .int r1), (0, .ref (ad 15)), (1, .int a1), (2, .ref (ad k2))]) hx hb dX3_numberOf_12 rfl hl (by decide) rfl (fun ls hl => ?_)
  refine lv_iload_n hx hb dX3_numberOf_13 rfl (lv_at hl 0 rfl) ?_
  refine lv_iconst (v := (-1 : Int32)) hx hb dX3_numberOf_14 (by decide) ?_
  refine lv_icmp_ne (tgt := 27) hx hb dX3_numberOf_15 (by decide) (fun c4 => ?_) (fun c4 => ?_)
  · have h := h.1 c4
    refine lv_iload_n hx hb dX3_numberOf_27 rfl (lv_at hl 0 rfl) ?_
    exact hret H locs ls 28 _ _ hw h rfl dX3_numberOf_28
  have h := h.2 c4
  refine lv_aload_n hx hb dX3_numberOf_18 rfl (lv_at hl 3 rfl) ?_
  refine gf_X3_83 hx hb ht hown hK hw hk2 dX3_numberOf_19 ?_
  refine lv_bipush (v := (32 : Int32)) hx hb dX3_numberOf_22 (by decide) ?_
  refine lv_icmp_lt (tgt := 29) hx hb dX3_numberOf_24 (by decide) (fun c5 => ?_) (fun c5 => ?_)
  · have h := h.1 c5
    refine lv_aload_n hx hb dX3_numberOf_29 rfl (lv_at hl 1 rfl) ?_
    refine gf_X3_14 hx hb ht hown hK hw rfl dX3_numberOf_30 ?_
    refine W.eq (g2 := F0 m 33 ls [.ref (ad 16)]) rfl ?_
    refine lv_aload_n hx hb dX3_numberOf_33 rfl (lv_at hl 3 rfl) ?_
    refine gf_X3_83 hx hb ht hown hK hw hk2 dX3_numberOf_34 ?_
    refine lv_iload_n hx hb dX3_numberOf_37 rfl (lv_at hl 2 rfl) ?_
    refine T_callv hw (va_runV (own := "Leastreader$Maker") (As := [.int (μ k2 1), .int a1]) (rest := []) ⟨hx, hb, hml, hown, ht⟩ (c_X6_put 16 rfl μ H.size (μ k2 1) a1 h) (cwV 2 ht (G_V q_394 q_395 q_396 q_51 q_397) rfl rfl rfl ⟨rfl, hd_7⟩ ⟨Nat.le_of_ble_eq_true rfl, Nat.le_of_ble_eq_true rfl⟩) ⟨TB.blind, (T_recv hK hw (kd_of rfl (by decide)) (ent_6 rfl) cl_6), TB.pre hK hN hw⟩ rfl rfl hl.1 rfl (lv_room (Nat.le_of_ble_eq_true rfl)) dX3_numberOf_38 ⟨Nat.le_of_ble_eq_true rfl, Nat.le_of_ble_eq_true rfl⟩) (fun μ6 H locs h hw => ?_)
    refine lv_aload_n hx hb dX3_numberOf_41 rfl (lv_at hl 3 rfl) ?_
    refine lv_dup hx hb dX3_numberOf_42 rfl ?_
    refine gf_X3_83 hx hb ht hown hK hw hk2 dX3_numberOf_43 ?_
    refine lv_iconst (v := (1 : Int32)) hx hb dX3_numberOf_46 (by decide) ?_
    refine lv_iadd hx hb dX3_numberOf_47 ?_
    refine pgf_X3_83 hx hb ht hown hK hw hk2 dX3_numberOf_48 (fun H locs hw => ?_)
    refine lv_aload_n hx hb dX3_numberOf_51 rfl (lv_at hl 3 rfl) ?_
    refine gf_X3_83 hx hb ht hown hK hw hk2 dX3_numberOf_52 ?_
    refine lv_iconst (v := (1 : Int32)) hx hb dX3_numberOf_55 (by decide) ?_
    refine lv_isub hx hb dX3_numberOf_56 ?_
    exact hret H locs ls 57 _ _ hw h rfl dX3_numberOf_57
  have h := h.2 c5
  refine lv_iload_n hx hb dX3_numberOf_27 rfl (lv_at hl 0 rfl) ?_
  exact hret H locs ls 28 _ _ hw h rfl dX3_numberOf_28
def wpl_X3_makeOneWay_78 (k1 : Nat) (k2 : Nat) (v15 : Int32) (v16 : Int32) (K122 : TMem → Prop) (Q : Int32 → TMem → Prop) : Nat → Int32 → TMem → Prop
  | 0, _, _ => False
  | n + 1, v14, μ17 =>
    ((3 : Int32) ≤ v14 → (K122 μ17)) ∧ (¬ (3 : Int32) ≤ v14 → (wp_X2_reach k1 μ17 v15 v14 (fun (r19 : Int32) => wp_X3_numberOf k2 μ17 r19 (fun (r23 : Int32) (μ22 : TMem) => (¬ r23 = (-1 : Int32) → (wp_X7_put k2 μ22 v16 v14 r23 (fun (μ25 : TMem) => wpl_X3_makeOneWay_78 k1 k2 v15 v16 K122 Q n (v14 + (1 : Int32)) μ25))) ∧ (r23 = (-1 : Int32) → (Q (0 : Int32) μ22))))))
def wpl_X3_makeOneWay_24 (k1 : Nat) (k2 : Nat) (Q : Int32 → TMem → Prop) : Nat → Int32 → TMem → Prop
  | 0, _, _ => False
  | n + 1, v3, μ4 =>
    ((32 : Int32) ≤ v3 → (Q (1 : Int32) μ4)) ∧ (¬ (32 : Int32) ≤ v3 → (((μ4 k2 1) ≤ v3 → (Q (1 : Int32) μ4)) ∧ (¬ (μ4 k2 1) ≤ v3 → (wp_X6_at 16 μ4 v3 (fun (r7 : Int32) => ∀ J10 : Int32 → Prop, (∀ (j11 : Int32), (wp_X9_withOrWithout (μ4 k2 2) v3 j11 (fun (r12 : Int32) => ∃ n12x, wpl_X3_makeOneWay_78 k1 k2 r7 v3 (fun (μ27 : TMem) => wpl_X3_makeOneWay_24 k1 k2 Q n (v3 + (1 : Int32)) μ27) Q n12x (0 : Int32) (tms μ4 k2 2 r12))) → J10 j11) → (((r7 &&& (μ4 k1 2)) = 0 → (J10 (0 : Int32))) ∧ (¬ (r7 &&& (μ4 k1 2)) = 0 → (J10 (1 : Int32)))))))))
def wp_X3_makeOneWay (k1 : Nat) (k2 : Nat) (μ : TMem) (Q : Int32 → TMem → Prop) : Prop :=
  wp_X6_put 16 μ (0 : Int32) (μ k1 3) (fun (μ1 : TMem) => ∃ n1x, wpl_X3_makeOneWay_24 k1 k2 Q n1x (0 : Int32) (tms (tms μ1 k2 1 (1 : Int32)) k2 2 (0 : Int32)))
set_option maxHeartbeats 4000000 in
set_option maxRecDepth 100000 in
theorem c_X3_makeOneWay {l : Launch} {D : va_G} {ad : Nat → Nat} {cI cM : ClassId} (k1 : Nat) (hk1 : kd k1 = 2) (k2 : Nat) (hk2 : kd k2 = 5) (μ : TMem) (sz : Nat)  {Q : Int32 → TMem → Prop} (h : wp_X3_makeOneWay k1 k2 μ Q) : TMi l yX3_makeOneWay (.code yX3_makeOneWay cX3_makeOneWay 7 (Option.some Jvm.ClassFile.FieldType.boolean)) 2 [.ref (ad 15), .ref (ad k1), .ref (ad k2)] D ad cI cM sz μ Q := by
  refine T_meti (by decide +kernel) (Nat.le_of_ble_eq_true rfl) ?_
  intro p e s m below meth c Z ls hx hb hml hown ht hN hK hw hret hl
  have hl : lv_has ls 7 [(0, .ref (ad 15)), (1, .ref (ad k1)), (2, .ref (ad k2))] := hl
  generalize s.heap = H at hw ⊢
  generalize ([] : List Loc) = locs at hw ⊢
  change wp_X6_put 16 μ (0 : Int32) (μ k1 3) (fun (μ1 : TMem) => ∃ n1x, wpl_X3_makeOneWay_24 k1 k2 Q n1x (0 : Int32) (tms (tms μ1 k2 1 (1 : Int32)) k2 2 (0 : Int32))) at h
  refine lv_aload_n hx hb dX3_makeOneWay_0 rfl (lv_at hl 0 rfl) ?_
  refine gf_X3_14 hx hb ht hown hK hw rfl dX3_makeOneWay_1 ?_
  refine W.eq (g2 := F0 m 4 ls [.ref (ad 16)]) rfl ?_
  refine lv_iconst (v := (0 : Int32)) hx hb dX3_makeOneWay_4 (by decide) ?_
  refine lv_aload_n hx hb dX3_makeOneWay_5 rfl (lv_at hl 1 rfl) ?_
  refine gf_X3_75 hx hb ht hN hown hK hw hk1 dX3_makeOneWay_6 ?_
  refine T_callv hw (va_runV (own := "Leastreader$Maker") (As := [.int (0 : Int32), .int (μ k1 3)]) (rest := []) ⟨hx, hb, hml, hown, ht⟩ (c_X6_put 16 rfl μ H.size (0 : Int32) (μ k1 3) h) (cwV 2 ht (G_V q_394 q_395 q_396 q_51 q_397) rfl rfl rfl ⟨rfl, hd_7⟩ ⟨Nat.le_of_ble_eq_true rfl, Nat.le_of_ble_eq_true rfl⟩) ⟨TB.blind, (T_recv hK hw (kd_of rfl (by decide)) (ent_6 rfl) cl_6), TB.pre hK hN hw⟩ rfl rfl hl.1 rfl (lv_room (Nat.le_of_ble_eq_true rfl)) dX3_makeOneWay_9 ⟨Nat.le_of_ble_eq_true rfl, Nat.le_of_ble_eq_true rfl⟩) (fun μ1 H locs h hw => ?_)
  refine lv_aload_n hx hb dX3_makeOneWay_12 rfl (lv_at hl 2 rfl) ?_
  refine lv_iconst (v := (1 : Int32)) hx hb dX3_makeOneWay_13 (by decide) ?_
  refine pgf_X3_83 hx hb ht hown hK hw hk2 dX3_makeOneWay_14 (fun H locs hw => ?_)
  refine lv_aload_n hx hb dX3_makeOneWay_17 rfl (lv_at hl 2 rfl) ?_
  refine lv_iconst (v := (0 : Int32)) hx hb dX3_makeOneWay_18 (by decide) ?_
  refine pgf_X3_86 hx hb ht hown hK hw hk2 dX3_makeOneWay_19 (fun H locs hw => ?_)
  refine lv_iconst (v := (0 : Int32)) hx hb dX3_makeOneWay_22 (by decide) ?_
  refine lv_istore_n (lv' := [(3, .int (0 : Int32)), (0, .ref (ad 15)), (1, .ref (ad k1)), (2, .ref (ad k2))]) hx hb dX3_makeOneWay_23 rfl hl (by decide) rfl (fun ls hl => ?_)
  obtain ⟨n29, h⟩ := h
  have L1 : ∀ (n : Nat) (v3 : Int32) (μ4 : TMem) (H : Heap) (locs : List Loc) (ls : Array Slot), TW D ad cI cM s μ4 H locs → lv_has ls 7 [(3, .int v3), (0, .ref (ad 15)), (1, .ref (ad k1)), (2, .ref (ad k2))] → wpl_X3_makeOneWay_24 k1 k2 Q n v3 μ4 → W p l e (RM 2) s m #[.ref (ad 15), .ref (ad k1), .ref (ad k2)] below meth c H locs 0 0 Z (F0 m 24 ls []) := by
    intro n
    induction n with
    | zero => intro v3 μ4 H locs ls hw hl h; exact False.elim h
    | succ n ih1 =>
      intro v3 μ4 H locs ls hw hl h
      change ((32 : Int32) ≤ v3 → (Q (1 : Int32) μ4)) ∧ (¬ (32 : Int32) ≤ v3 → (((μ4 k2 1) ≤ v3 → (Q (1 : Int32) μ4)) ∧ (¬ (μ4 k2 1) ≤ v3 → (wp_X6_at 16 μ4 v3 (fun (r7 : Int32) => ∀ J10 : Int32 → Prop, (∀ (j11 : Int32), (wp_X9_withOrWithout (μ4 k2 2) v3 j11 (fun (r12 : Int32) => ∃ n12x, wpl_X3_makeOneWay_78 k1 k2 r7 v3 (fun (μ27 : TMem) => wpl_X3_makeOneWay_24 k1 k2 Q n (v3 + (1 : Int32)) μ27) Q n12x (0 : Int32) (tms μ4 k2 2 r12))) → J10 j11) → (((r7 &&& (μ4 k1 2)) = 0 → (J10 (0 : Int32))) ∧ (¬ (r7 &&& (μ4 k1 2)) = 0 → (J10 (1 : Int32))))))))) at h
      refine lv_iload_n hx hb dX3_makeOneWay_24 rfl (lv_at hl 0 rfl) ?_
      refine lv_bipush (v := (32 : Int32)) hx hb dX3_makeOneWay_25 (by decide) ?_
      refine lv_icmp_ge (tgt := 128) hx hb dX3_makeOneWay_27 (by decide) (fun c5 => ?_) (fun c5 => ?_)
      · have h := h.1 c5
        refine lv_iconst (v := (1 : Int32)) hx hb dX3_makeOneWay_128 (by decide) ?_
        exact hret H locs ls 129 _ _ hw h rfl dX3_makeOneWay_129
      have h := h.2 c5
      refine lv_iload_n hx hb dX3_makeOneWay_30 rfl (lv_at hl 0 rfl) ?_
      refine lv_aload_n hx hb dX3_makeOneWay_31 rfl (lv_at hl 3 rfl) ?_
      refine gf_X3_83 hx hb ht hown hK hw hk2 dX3_makeOneWay_32 ?_
      refine lv_icmp_ge (tgt := 128) hx hb dX3_makeOneWay_35 (by decide) (fun c6 => ?_) (fun c6 => ?_)
      · have h := h.1 c6
        refine lv_iconst (v := (1 : Int32)) hx hb dX3_makeOneWay_128 (by decide) ?_
        exact hret H locs ls 129 _ _ hw h rfl dX3_makeOneWay_129
      have h := h.2 c6
      refine lv_aload_n hx hb dX3_makeOneWay_38 rfl (lv_at hl 1 rfl) ?_
      refine gf_X3_14 hx hb ht hown hK hw rfl dX3_makeOneWay_39 ?_
      refine W.eq (g2 := F0 m 42 ls [.ref (ad 16)]) rfl ?_
      refine lv_iload_n hx hb dX3_makeOneWay_42 rfl (lv_at hl 0 rfl) ?_
      refine T_calli hw (va_runV (own := "Leastreader$Maker") (As := [.int v3]) (rest := []) ⟨hx, hb, hml, hown, ht⟩ (c_X6_at 16 rfl μ4 H.size v3 h) (cwV 1 ht (G_V q_398 q_399 q_400 q_51 q_401) rfl rfl rfl ⟨rfl, hd_8⟩ ⟨Nat.le_of_ble_eq_true rfl, Nat.le_of_ble_eq_true rfl⟩) ⟨TB.blind, (T_recv hK hw (kd_of rfl (by decide)) (ent_6 rfl) cl_6), TB.pre hK hN hw⟩ rfl rfl hl.1 rfl (lv_room (Nat.le_of_ble_eq_true rfl)) dX3_makeOneWay_43 ⟨Nat.le_of_ble_eq_true rfl, Nat.le_of_ble_eq_true rfl⟩) (fun r7 μ8 H locs h hw => ?_)
      obtain ⟨e9, h⟩ := h
      rw [e9] at hw
      refine lv_istore (lv' := [(4, .int r7), (3, .int v3), (0, .ref (ad 15)), (1, .ref (ad k1)), (2, .ref (ad k2))]) hx hb dX3_makeOneWay_46 hl (by decide) rfl (fun ls hl => ?_)
      refine lv_aload_n hx hb dX3_makeOneWay_48 rfl (lv_at hl 4 rfl) ?_
      refine lv_aload_n hx hb dX3_makeOneWay_49 rfl (lv_at hl 4 rfl) ?_
      refine gf_X3_86 hx hb ht hown hK hw hk2 dX3_makeOneWay_50 ?_
      refine lv_iload_n hx hb dX3_makeOneWay_53 rfl (lv_at hl 1 rfl) ?_
      refine lv_iload hx hb dX3_makeOneWay_54 (lv_at hl 0 rfl) ?_
      refine lv_aload_n hx hb dX3_makeOneWay_56 rfl (lv_at hl 3 rfl) ?_
      refine gf_X3_93 hx hb ht hown hK hw hk1 dX3_makeOneWay_57 ?_
      refine lv_iand hx hb dX3_makeOneWay_60 ?_
      have h := h (fun j11 => ∀ (H : Heap) (locs : List Loc) (ls : Array Slot), TW D ad cI cM s μ4 H locs → lv_has ls 7 [(4, .int r7), (3, .int v3), (0, .ref (ad 15)), (1, .ref (ad k1)), (2, .ref (ad k2))] → W p l e (RM 2) s m #[.ref (ad 15), .ref (ad k1), .ref (ad k2)] below meth c H locs 0 0 Z (F0 m 69 ls [.int j11, .int v3, .int (μ4 k2 2), .ref (ad k2)])) (fun j11 h H locs ls hw hl => by
        refine P_calli (va_runSN (own := "Leastreader$Maker") (As := [.int (μ4 k2 2), .int v3, .int j11]) (rest := [.ref (ad k2)]) ⟨hx, hb, hml, hown, ht⟩ (c_X9_withOrWithout (μ4 k2 2) v3 j11 h) ⟨va_cnB 3 ht (G_ws q_404) rfl rfl rfl (nw_402 hN) (ht _ q_46) hd_9 ⟨Nat.le_of_ble_eq_true rfl, Nat.le_of_ble_eq_true rfl⟩, ht _ q_403, trivial⟩ ⟨PM_blind, PM_pre⟩ rfl rfl hl.1 rfl (lv_room (Nat.le_of_ble_eq_true rfl)) dX3_makeOneWay_69 ⟨Nat.le_of_ble_eq_true rfl, Nat.le_of_ble_eq_true rfl⟩) (fun r12 h => ?_)
        refine pgf_X3_86 hx hb ht hown hK hw hk2 dX3_makeOneWay_72 (fun H locs hw => ?_)
        refine lv_iconst (v := (0 : Int32)) hx hb dX3_makeOneWay_75 (by decide) ?_
        refine lv_istore (lv' := [(5, .int (0 : Int32)), (4, .int r7), (3, .int v3), (0, .ref (ad 15)), (1, .ref (ad k1)), (2, .ref (ad k2))]) hx hb dX3_makeOneWay_76 hl (by decide) rfl (fun ls hl => ?_)
        obtain ⟨n26, h⟩ := h
        have L12 : ∀ (v15 : Int32) (v16 : Int32) (K122 : TMem → Prop), (∀ (μ17 : TMem) (H : Heap) (locs : List Loc) (ls : Array Slot), TW D ad cI cM s μ17 H locs → lv_has ls 7 [(3, .int v16), (0, .ref (ad 15)), (1, .ref (ad k1)), (2, .ref (ad k2))] → K122 μ17 → W p l e (RM 2) s m #[.ref (ad 15), .ref (ad k1), .ref (ad k2)] below meth c H locs 0 0 Z (F0 m 122 ls [])) → ∀ (n : Nat) (v14 : Int32) (μ17 : TMem) (H : Heap) (locs : List Loc) (ls : Array Slot), TW D ad cI cM s μ17 H locs → lv_has ls 7 [(5, .int v14), (4, .int v15), (3, .int v16), (0, .ref (ad 15)), (1, .ref (ad k1)), (2, .ref (ad k2))] → wpl_X3_makeOneWay_78 k1 k2 v15 v16 K122 Q n v14 μ17 → W p l e (RM 2) s m #[.ref (ad 15), .ref (ad k1), .ref (ad k2)] below meth c H locs 0 0 Z (F0 m 78 ls []) := by
          intro v15 v16 K122 hK122
          intro n
          induction n with
          | zero => intro v14 μ17 H locs ls hw hl h; exact False.elim h
          | succ n ih12 =>
            intro v14 μ17 H locs ls hw hl h
            change ((3 : Int32) ≤ v14 → (K122 μ17)) ∧ (¬ (3 : Int32) ≤ v14 → (wp_X2_reach k1 μ17 v15 v14 (fun (r19 : Int32) => wp_X3_numberOf k2 μ17 r19 (fun (r23 : Int32) (μ22 : TMem) => (¬ r23 = (-1 : Int32) → (wp_X7_put k2 μ22 v16 v14 r23 (fun (μ25 : TMem) => wpl_X3_makeOneWay_78 k1 k2 v15 v16 K122 Q n (v14 + (1 : Int32)) μ25))) ∧ (r23 = (-1 : Int32) → (Q (0 : Int32) μ22)))))) at h
            refine lv_iload hx hb dX3_makeOneWay_78 (lv_at hl 0 rfl) ?_
            refine lv_iconst (v := (3 : Int32)) hx hb dX3_makeOneWay_80 (by decide) ?_
            refine lv_icmp_ge (tgt := 122) hx hb dX3_makeOneWay_81 (by decide) (fun c18 => ?_) (fun c18 => ?_)
            · have h := h.1 c18
              exact hK122 μ17 H locs ls hw (lv_sub hl [2, 3, 4, 5] rfl) h
            have h := h.2 c18
            refine lv_aload_n hx hb dX3_makeOneWay_84 rfl (lv_at hl 3 rfl) ?_
            refine lv_aload_n hx hb dX3_makeOneWay_85 rfl (lv_at hl 4 rfl) ?_
            refine lv_iload hx hb dX3_makeOneWay_86 (lv_at hl 1 rfl) ?_
            refine lv_iload hx hb dX3_makeOneWay_88 (lv_at hl 0 rfl) ?_
            refine T_calli hw (va_runV (own := "Leastreader$Maker") (As := [.int v15, .int v14]) (rest := [.ref (ad 15)]) ⟨hx, hb, hml, hown, ht⟩ (c_X2_reach k1 hk1 μ17 H.size v15 v14 h) (cwV 2 ht (G_V q_405 q_406 q_407 q_48 q_408) rfl rfl rfl ⟨rfl, hd_10⟩ ⟨Nat.le_of_ble_eq_true rfl, Nat.le_of_ble_eq_true rfl⟩) ⟨TB.blind, (T_recv hK hw (kd_of hk1 (by decide)) (ent_2 hk1) cl_2), TB.pre hK hN hw⟩ rfl rfl hl.1 rfl (lv_room (Nat.le_of_ble_eq_true rfl)) dX3_makeOneWay_90 ⟨Nat.le_of_ble_eq_true rfl, Nat.le_of_ble_eq_true rfl⟩) (fun r19 μ20 H locs h hw => ?_)
            obtain ⟨e21, h⟩ := h
            rw [e21] at hw
            refine lv_aload_n hx hb dX3_makeOneWay_93 rfl (lv_at hl 5 rfl) ?_
            refine T_calli hw (va_runV (own := "Leastreader$Maker") (As := [.int r19, .ref (ad k2)]) (rest := []) ⟨hx, hb, hml, hown, ht⟩ (c_X3_numberOf k2 hk2 μ17 H.size r19 h) (cwV 2 ht (G_V q_418 q_420 q_2 q_50 q_421) rfl rfl rfl ⟨rfl, hd_11⟩ ⟨Nat.le_of_ble_eq_true rfl, Nat.le_of_ble_eq_true rfl⟩) ⟨TB.blind, (T_recv hK hw (kd_of rfl (by decide)) (ent_3 rfl) cl_3), TB.pre hK hN hw⟩ rfl rfl hl.1 rfl (lv_room (Nat.le_of_ble_eq_true rfl)) dX3_makeOneWay_94 ⟨Nat.le_of_ble_eq_true rfl, Nat.le_of_ble_eq_true rfl⟩) (fun r23 μ22 H locs h hw => ?_)
            refine lv_istore (lv' := [(6, .int r23), (5, .int v14), (4, .int v15), (3, .int v16), (0, .ref (ad 15)), (1, .ref (ad k1)), (2, .ref (ad k2))]) hx hb dX3_makeOneWay_97 hl (by decide) rfl (fun ls hl => ?_)
            refine lv_iload hx hb dX3_makeOneWay_99 (lv_at hl 0 rfl) ?_
            refine lv_iconst (v := (-1 : Int32)) hx hb dX3_makeOneWay_101 (by decide) ?_
            refine lv_icmp_ne (tgt := 107) hx hb dX3_makeOneWay_102 (by decide) (fun c24 => ?_) (fun c24 => ?_)
            · have h := h.1 c24
              refine lv_aload_n hx hb dX3_makeOneWay_107 rfl (lv_at hl 6 rfl) ?_
              refine lv_iload_n hx hb dX3_makeOneWay_108 rfl (lv_at hl 3 rfl) ?_
              refine lv_iload hx hb dX3_makeOneWay_109 (lv_at hl 1 rfl) ?_
              refine lv_iload hx hb dX3_makeOneWay_111 (lv_at hl 0 rfl) ?_
              refine T_callv hw (va_runU (own := "Leastreader$Maker") (As := [.int v16, .int v14, .int r23]) (rest := []) ⟨hx, hb, hml, hown, ht⟩ (c_X7_put_5 k2 hk2 μ22 H.size v16 v14 r23 h) (va_cwU (owner := "Leastreader$Table") 3 ht (G_U q_426 q_427 q_429 q_430 q_47 q_431) rfl rfl rfl rfl hd_1 ⟨Nat.le_of_ble_eq_true rfl, Nat.le_of_ble_eq_true rfl⟩) ⟨TB.blind, (T_recv hK hw (kd_of hk2 (by decide)) (ent_5 hk2) cl_5), TB.pre hK hN hw⟩ rfl rfl hl.1 rfl (lv_room (Nat.le_of_ble_eq_true rfl)) dX3_makeOneWay_113 ⟨Nat.le_of_ble_eq_true rfl, Nat.le_of_ble_eq_true rfl⟩) (fun μ25 H locs h hw => ?_)
              refine lv_iinc (v := (v14 + (1 : Int32))) (lv' := [(5, .int (v14 + (1 : Int32))), (6, .int r23), (4, .int v15), (3, .int v16), (0, .ref (ad 15)), (1, .ref (ad k1)), (2, .ref (ad k2))]) hx hb dX3_makeOneWay_116 hl (k := 1) rfl rfl (by decide) rfl (fun ls hl => ?_)
              refine lv_goto (tgt := 78) hx hb dX3_makeOneWay_119 (by decide) ?_
              exact ih12 (v14 + (1 : Int32)) μ25 H locs ls hw (lv_sub hl [0, 2, 3, 4, 5, 6] rfl) h
            have h := h.2 c24
            refine lv_iconst (v := (0 : Int32)) hx hb dX3_makeOneWay_105 (by decide) ?_
            exact hret H locs ls 106 _ _ hw h rfl dX3_makeOneWay_106
        refine L12 r7 v3 _ ?_ n26 (0 : Int32) (tms μ4 k2 2 r12) H locs ls hw (lv_sub hl [0, 1, 2, 3, 4, 5] rfl) h
        intro μ27 H locs ls hw hl h
        refine lv_iinc (v := (v3 + (1 : Int32))) (lv' := [(3, .int (v3 + (1 : Int32))), (0, .ref (ad 15)), (1, .ref (ad k1)), (2, .ref (ad k2))]) hx hb dX3_makeOneWay_122 hl (k := 0) rfl rfl (by decide) rfl (fun ls hl => ?_)
        refine lv_goto (tgt := 24) hx hb dX3_makeOneWay_125 (by decide) ?_
        exact ih1 (v3 + (1 : Int32)) μ27 H locs ls hw (lv_sub hl [0, 1, 2, 3] rfl) h)
      refine lv_if_eq (tgt := 68) hx hb dX3_makeOneWay_61 (by decide) (fun c28 => ?_) (fun c28 => ?_)
      · have h := h.1 c28
        refine lv_iconst (v := (0 : Int32)) hx hb dX3_makeOneWay_68 (by decide) ?_
        exact h H locs ls hw (lv_sub hl [0, 1, 2, 3, 4] rfl)
      have h := h.2 c28
      refine lv_iconst (v := (1 : Int32)) hx hb dX3_makeOneWay_64 (by decide) ?_
      refine lv_goto (tgt := 69) hx hb dX3_makeOneWay_65 (by decide) ?_
      exact h H locs ls hw (lv_sub hl [0, 1, 2, 3, 4] rfl)
  exact L1 n29 (0 : Int32) (tms (tms μ1 k2 1 (1 : Int32)) k2 2 (0 : Int32)) H locs ls hw (lv_sub hl [0, 1, 2, 3] rfl) h
def wpl_X6_fill_2 (k0 : Nat) (v3 : Int32) (Q : TMem → Prop) : Nat → Int32 → TMem → Prop
  | 0, _, _ => False
  | n + 1, v2, μ4 =>
    ((nI (tl (k0 + 1))) ≤ v2 → (Q μ4)) ∧ (¬ (nI (tl (k0 + 1))) ≤ v2 → (vp_in v2 (tl (k0 + 1)) ∧ (wpl_X6_fill_2 k0 v3 Q n (v2 + (1 : Int32)) (tms μ4 (k0 + 1) v2.toNatClampNeg v3))))
def wp_X6_fill (k0 : Nat) (μ : TMem) (a1 : Int32) (Q : TMem → Prop) : Prop :=
  ∃ n0x, wpl_X6_fill_2 k0 a1 Q n0x (0 : Int32) μ
set_option maxHeartbeats 4000000 in
set_option maxRecDepth 100000 in
theorem c_X6_fill {l : Launch} {D : va_G} {ad : Nat → Nat} {cI cM : ClassId} (k0 : Nat) (hk0 : kd k0 = 6) (μ : TMem) (sz : Nat) (a1 : Int32) {Q : TMem → Prop} (h : wp_X6_fill k0 μ a1 Q) : TMv l yX6_fill (.code yX6_fill cX6_fill 3 (Option.none : Option Jvm.ClassFile.FieldType)) 0 [.ref (ad k0), .int a1] D ad cI cM sz μ Q := by
  refine T_metv (by decide +kernel) (Nat.le_of_ble_eq_true rfl) ?_
  intro p e s m below meth c Z ls hx hb hml hown ht hN hK hw hret hl
  have hl : lv_has ls 3 [(0, .ref (ad k0)), (1, .int a1)] := hl
  generalize s.heap = H at hw ⊢
  generalize ([] : List Loc) = locs at hw ⊢
  change ∃ n0x, wpl_X6_fill_2 k0 a1 Q n0x (0 : Int32) μ at h
  refine lv_iconst (v := (0 : Int32)) hx hb dX6_fill_0 (by decide) ?_
  refine lv_istore_n (lv' := [(2, .int (0 : Int32)), (0, .ref (ad k0)), (1, .int a1)]) hx hb dX6_fill_1 rfl hl (by decide) rfl (fun ls hl => ?_)
  obtain ⟨n7, h⟩ := h
  have L0 : ∀ (v3 : Int32), ∀ (n : Nat) (v2 : Int32) (μ4 : TMem) (H : Heap) (locs : List Loc) (ls : Array Slot), TW D ad cI cM s μ4 H locs → lv_has ls 3 [(2, .int v2), (0, .ref (ad k0)), (1, .int v3)] → wpl_X6_fill_2 k0 v3 Q n v2 μ4 → W p l e (RM 0) s m #[.ref (ad k0), .int a1] below meth c H locs 0 0 Z (F0 m 2 ls []) := by
    intro v3
    intro n
    induction n with
    | zero => intro v2 μ4 H locs ls hw hl h; exact False.elim h
    | succ n ih0 =>
      intro v2 μ4 H locs ls hw hl h
      change ((nI (tl (k0 + 1))) ≤ v2 → (Q μ4)) ∧ (¬ (nI (tl (k0 + 1))) ≤ v2 → (vp_in v2 (tl (k0 + 1)) ∧ (wpl_X6_fill_2 k0 v3 Q n (v2 + (1 : Int32)) (tms μ4 (k0 + 1) v2.toNatClampNeg v3)))) at h
      refine lv_iload_n hx hb dX6_fill_2 rfl (lv_at hl 0 rfl) ?_
      refine lv_aload_n hx hb dX6_fill_3 rfl (lv_at hl 1 rfl) ?_
      refine gf_X6_9 hx hb ht hown hK hw hk0 dX6_fill_4 ?_
      refine t_alen hx hb hK hw (ka_6 hk0) dX6_fill_7 ?_
      refine lv_icmp_ge (tgt := 24) hx hb dX6_fill_8 (by decide) (fun c5 => ?_) (fun c5 => ?_)
      · have h := h.1 c5
        exact hret H locs ls 24 _ hw h dX6_fill_24
      have h := h.2 c5
      refine lv_aload_n hx hb dX6_fill_11 rfl (lv_at hl 1 rfl) ?_
      refine gf_X6_9 hx hb ht hown hK hw hk0 dX6_fill_12 ?_
      refine lv_iload_n hx hb dX6_fill_15 rfl (lv_at hl 0 rfl) ?_
      refine lv_iload_n hx hb dX6_fill_16 rfl (lv_at hl 2 rfl) ?_
      obtain ⟨z6, h⟩ := h
      refine t_iast hx hb hK hw (ka_6 hk0) z6 dX6_fill_17 (fun H locs hw => ?_)
      refine lv_iinc (v := (v2 + (1 : Int32))) (lv' := [(2, .int (v2 + (1 : Int32))), (0, .ref (ad k0)), (1, .int v3)]) hx hb dX6_fill_18 hl (k := 0) rfl rfl (by decide) rfl (fun ls hl => ?_)
      refine lv_goto (tgt := 2) hx hb dX6_fill_21 (by decide) ?_
      exact ih0 (v2 + (1 : Int32)) (tms μ4 (k0 + 1) v2.toNatClampNeg v3) H locs ls hw (lv_sub hl [0, 1, 2] rfl) h
  exact L0 a1 n7 (0 : Int32) μ H locs ls hw (lv_sub hl [0, 1, 2] rfl) h
def wp_X4_isGoal (μ : TMem) (a1 : Int32) (a2 : Int32) (Q : Int32 → Prop) : Prop :=
  wp_X6_at 36 μ a1 (fun (r1 : Int32) => wp_X9_isIn (μ 35 6) r1 (fun (r4 : Int32) => wp_X6_at 38 μ a1 (fun (r5 : Int32) => wp_X9_isIn (μ 35 7) r5 (fun (r8 : Int32) => (a2 = (0 : Int32) → ((¬ r4 = 0 → (Q (1 : Int32))) ∧ (r4 = 0 → ((r8 = 0 → (Q (0 : Int32))) ∧ (¬ r8 = 0 → (Q (1 : Int32))))))) ∧ (¬ a2 = (0 : Int32) → (a2 = (1 : Int32) → ((r4 = 0 → (Q (0 : Int32))) ∧ (¬ r4 = 0 → ((r8 = 0 → (Q (0 : Int32))) ∧ (¬ r8 = 0 → (Q (1 : Int32))))))) ∧ (¬ a2 = (1 : Int32) → (a2 = (2 : Int32) → ((r4 = 0 → (Q (0 : Int32))) ∧ (¬ r4 = 0 → ((¬ r8 = 0 → (Q (0 : Int32))) ∧ (r8 = 0 → (Q (1 : Int32))))))) ∧ (¬ a2 = (2 : Int32) → ((r4 = r8 → (Q (0 : Int32))) ∧ (¬ r4 = r8 → (Q (1 : Int32)))))))))))
set_option maxHeartbeats 4000000 in
set_option maxRecDepth 100000 in
theorem c_X4_isGoal {l : Launch} {D : va_G} {ad : Nat → Nat} {cI cM : ClassId}  (μ : TMem) (sz : Nat) (a1 : Int32) (a2 : Int32) {Q : Int32 → Prop} (h : wp_X4_isGoal μ a1 a2 Q) : TMi l yX4_isGoal (.code yX4_isGoal cX4_isGoal 5 (Option.some Jvm.ClassFile.FieldType.boolean)) 1 [.ref (ad 35), .int a1, .int a2] D ad cI cM sz μ (fun r μ1 => μ1 = μ ∧ Q r) := by
  refine T_meti (by decide +kernel) (Nat.le_of_ble_eq_true rfl) ?_
  intro p e s m below meth c Z ls hx hb hml hown ht hN hK hw hret hl
  have hl : lv_has ls 5 [(0, .ref (ad 35)), (1, .int a1), (2, .int a2)] := hl
  generalize s.heap = H at hw ⊢
  generalize ([] : List Loc) = locs at hw ⊢
  change wp_X6_at 36 μ a1 (fun (r1 : Int32) => wp_X9_isIn (μ 35 6) r1 (fun (r4 : Int32) => wp_X6_at 38 μ a1 (fun (r5 : Int32) => wp_X9_isIn (μ 35 7) r5 (fun (r8 : Int32) => (a2 = (0 : Int32) → ((¬ r4 = 0 → (Q (1 : Int32))) ∧ (r4 = 0 → ((r8 = 0 → (Q (0 : Int32))) ∧ (¬ r8 = 0 → (Q (1 : Int32))))))) ∧ (¬ a2 = (0 : Int32) → (a2 = (1 : Int32) → ((r4 = 0 → (Q (0 : Int32))) ∧ (¬ r4 = 0 → ((r8 = 0 → (Q (0 : Int32))) ∧ (¬ r8 = 0 → (Q (1 : Int32))))))) ∧ (¬ a2 = (1 : Int32) → (a2 = (2 : Int32) → ((r4 = 0 → (Q (0 : Int32))) ∧ (¬ r4 = 0 → ((¬ r8 = 0 → (Q (0 : Int32))) ∧ (r8 = 0 → (Q (1 : Int32))))))) ∧ (¬ a2 = (2 : Int32) → ((r4 = r8 → (Q (0 : Int32))) ∧ (¬ r4 = r8 → (Q (1 : Int32))))))))))) at h
  refine lv_aload_n hx hb dX4_isGoal_0 rfl (lv_at hl 0 rfl) ?_
  refine gf_X4_44 hx hb ht hown hK hw rfl dX4_isGoal_1 ?_
  refine lv_aload_n hx hb dX4_isGoal_4 rfl (lv_at hl 0 rfl) ?_
  refine gf_X4_14 hx hb ht hown hK hw rfl dX4_isGoal_5 ?_
  refine W.eq (g2 := F0 m 8 ls [.ref (ad 36), .int (μ 35 6)]) rfl ?_
  refine lv_iload_n hx hb dX4_isGoal_8 rfl (lv_at hl 1 rfl) ?_
  refine T_calli hw (va_runV (own := "Leastreader$Meeting") (As := [.int a1]) (rest := [.int (μ 35 6)]) ⟨hx, hb, hml, hown, ht⟩ (c_X6_at 36 rfl μ H.size a1 h) (cwV 1 ht (G_V q_803 q_399 q_400 q_51 q_401) rfl rfl rfl ⟨rfl, hd_8⟩ ⟨Nat.le_of_ble_eq_true rfl, Nat.le_of_ble_eq_true rfl⟩) ⟨TB.blind, (T_recv hK hw (kd_of rfl (by decide)) (ent_6 rfl) cl_6), TB.pre hK hN hw⟩ rfl rfl hl.1 rfl (lv_room (Nat.le_of_ble_eq_true rfl)) dX4_isGoal_9 ⟨Nat.le_of_ble_eq_true rfl, Nat.le_of_ble_eq_true rfl⟩) (fun r1 μ2 H locs h hw => ?_)
  obtain ⟨e3, h⟩ := h
  rw [e3] at hw
  refine P_calli (va_runSN (own := "Leastreader$Meeting") (As := [.int (μ 35 6), .int r1]) (rest := []) ⟨hx, hb, hml, hown, ht⟩ (c_X9_isIn (μ 35 6) r1 h) ⟨va_cnB 2 ht (G_ws q_411) rfl rfl rfl (nw_804 hN) (ht _ q_46) hd_5 ⟨Nat.le_of_ble_eq_true rfl, Nat.le_of_ble_eq_true rfl⟩, ht _ q_410, trivial⟩ ⟨PM_blind, PM_pre⟩ rfl rfl hl.1 rfl (lv_room (Nat.le_of_ble_eq_true rfl)) dX4_isGoal_12 ⟨Nat.le_of_ble_eq_true rfl, Nat.le_of_ble_eq_true rfl⟩) (fun r4 h => ?_)
  refine lv_istore_n (lv' := [(3, .int r4), (0, .ref (ad 35)), (1, .int a1), (2, .int a2)]) hx hb dX4_isGoal_15 rfl hl (by decide) rfl (fun ls hl => ?_)
  refine lv_aload_n hx hb dX4_isGoal_16 rfl (lv_at hl 1 rfl) ?_
  refine gf_X4_47 hx hb ht hown hK hw rfl dX4_isGoal_17 ?_
  refine lv_aload_n hx hb dX4_isGoal_20 rfl (lv_at hl 1 rfl) ?_
  refine gf_X4_20 hx hb ht hown hK hw rfl dX4_isGoal_21 ?_
  refine W.eq (g2 := F0 m 24 ls [.ref (ad 38), .int (μ 35 7)]) rfl ?_
  refine lv_iload_n hx hb dX4_isGoal_24 rfl (lv_at hl 2 rfl) ?_
  refine T_calli hw (va_runV (own := "Leastreader$Meeting") (As := [.int a1]) (rest := [.int (μ 35 7)]) ⟨hx, hb, hml, hown, ht⟩ (c_X6_at 38 rfl μ H.size a1 h) (cwV 1 ht (G_V q_803 q_399 q_400 q_51 q_401) rfl rfl rfl ⟨rfl, hd_8⟩ ⟨Nat.le_of_ble_eq_true rfl, Nat.le_of_ble_eq_true rfl⟩) ⟨TB.blind, (T_recv hK hw (kd_of rfl (by decide)) (ent_6 rfl) cl_6), TB.pre hK hN hw⟩ rfl rfl hl.1 rfl (lv_room (Nat.le_of_ble_eq_true rfl)) dX4_isGoal_25 ⟨Nat.le_of_ble_eq_true rfl, Nat.le_of_ble_eq_true rfl⟩) (fun r5 μ6 H locs h hw => ?_)
  obtain ⟨e7, h⟩ := h
  rw [e7] at hw
  refine P_calli (va_runSN (own := "Leastreader$Meeting") (As := [.int (μ 35 7), .int r5]) (rest := []) ⟨hx, hb, hml, hown, ht⟩ (c_X9_isIn (μ 35 7) r5 h) ⟨va_cnB 2 ht (G_ws q_411) rfl rfl rfl (nw_804 hN) (ht _ q_46) hd_5 ⟨Nat.le_of_ble_eq_true rfl, Nat.le_of_ble_eq_true rfl⟩, ht _ q_410, trivial⟩ ⟨PM_blind, PM_pre⟩ rfl rfl hl.1 rfl (lv_room (Nat.le_of_ble_eq_true rfl)) dX4_isGoal_28 ⟨Nat.le_of_ble_eq_true rfl, Nat.le_of_ble_eq_true rfl⟩) (fun r8 h => ?_)
  refine lv_istore (lv' := [(4, .int r8), (3, .int r4), (0, .ref (ad 35)), (1, .int a1), (2, .int a2)]) hx hb dX4_isGoal_31 hl (by decide) rfl (fun ls hl => ?_)
  refine lv_iload_n hx hb dX4_isGoal_33 rfl (lv_at hl 4 rfl) ?_
  by_cases c12 : a2 = (0 : Int32)
  · have h := h.1 c12
    refine lv_tableIn (tgt := 60) hx hb dX4_isGoal_34 (by rw [c12]; decide) (by rw [c12]; decide) (by rw [c12]; rfl) (by decide) ?_
    refine lv_iload_n hx hb dX4_isGoal_60 rfl (lv_at hl 1 rfl) ?_
    refine lv_if_ne (tgt := 69) hx hb dX4_isGoal_61 (by decide) (fun c10 => ?_) (fun c10 => ?_)
    · have h := h.1 c10
      refine lv_iconst (v := (1 : Int32)) hx hb dX4_isGoal_69 (by decide) ?_
      refine lv_goto (tgt := 74) hx hb dX4_isGoal_70 (by decide) ?_
      exact hret H locs ls 74 _ _ hw ⟨rfl, h⟩ rfl dX4_isGoal_74
    have h := h.2 c10
    refine lv_iload hx hb dX4_isGoal_64 (lv_at hl 0 rfl) ?_
    refine lv_if_eq (tgt := 73) hx hb dX4_isGoal_66 (by decide) (fun c11 => ?_) (fun c11 => ?_)
    · have h := h.1 c11
      refine lv_iconst (v := (0 : Int32)) hx hb dX4_isGoal_73 (by decide) ?_
      exact hret H locs ls 74 _ _ hw ⟨rfl, h⟩ rfl dX4_isGoal_74
    have h := h.2 c11
    refine lv_iconst (v := (1 : Int32)) hx hb dX4_isGoal_69 (by decide) ?_
    refine lv_goto (tgt := 74) hx hb dX4_isGoal_70 (by decide) ?_
    exact hret H locs ls 74 _ _ hw ⟨rfl, h⟩ rfl dX4_isGoal_74
  have h := h.2 c12
  by_cases c15 : a2 = (1 : Int32)
  · have h := h.1 c15
    refine lv_tableIn (tgt := 75) hx hb dX4_isGoal_34 (by rw [c15]; decide) (by rw [c15]; decide) (by rw [c15]; rfl) (by decide) ?_
    refine lv_iload_n hx hb dX4_isGoal_75 rfl (lv_at hl 1 rfl) ?_
    refine lv_if_eq (tgt := 88) hx hb dX4_isGoal_76 (by decide) (fun c13 => ?_) (fun c13 => ?_)
    · have h := h.1 c13
      refine lv_iconst (v := (0 : Int32)) hx hb dX4_isGoal_88 (by decide) ?_
      exact hret H locs ls 89 _ _ hw ⟨rfl, h⟩ rfl dX4_isGoal_89
    have h := h.2 c13
    refine lv_iload hx hb dX4_isGoal_79 (lv_at hl 0 rfl) ?_
    refine lv_if_eq (tgt := 88) hx hb dX4_isGoal_81 (by decide) (fun c14 => ?_) (fun c14 => ?_)
    · have h := h.1 c14
      refine lv_iconst (v := (0 : Int32)) hx hb dX4_isGoal_88 (by decide) ?_
      exact hret H locs ls 89 _ _ hw ⟨rfl, h⟩ rfl dX4_isGoal_89
    have h := h.2 c14
    refine lv_iconst (v := (1 : Int32)) hx hb dX4_isGoal_84 (by decide) ?_
    refine lv_goto (tgt := 89) hx hb dX4_isGoal_85 (by decide) ?_
    exact hret H locs ls 89 _ _ hw ⟨rfl, h⟩ rfl dX4_isGoal_89
  have h := h.2 c15
  by_cases c18 : a2 = (2 : Int32)
  · have h := h.1 c18
    refine lv_tableIn (tgt := 90) hx hb dX4_isGoal_34 (by rw [c18]; decide) (by rw [c18]; decide) (by rw [c18]; rfl) (by decide) ?_
    refine lv_iload_n hx hb dX4_isGoal_90 rfl (lv_at hl 1 rfl) ?_
    refine lv_if_eq (tgt := 103) hx hb dX4_isGoal_91 (by decide) (fun c16 => ?_) (fun c16 => ?_)
    · have h := h.1 c16
      refine lv_iconst (v := (0 : Int32)) hx hb dX4_isGoal_103 (by decide) ?_
      exact hret H locs ls 104 _ _ hw ⟨rfl, h⟩ rfl dX4_isGoal_104
    have h := h.2 c16
    refine lv_iload hx hb dX4_isGoal_94 (lv_at hl 0 rfl) ?_
    refine lv_if_ne (tgt := 103) hx hb dX4_isGoal_96 (by decide) (fun c17 => ?_) (fun c17 => ?_)
    · have h := h.1 c17
      refine lv_iconst (v := (0 : Int32)) hx hb dX4_isGoal_103 (by decide) ?_
      exact hret H locs ls 104 _ _ hw ⟨rfl, h⟩ rfl dX4_isGoal_104
    have h := h.2 c17
    refine lv_iconst (v := (1 : Int32)) hx hb dX4_isGoal_99 (by decide) ?_
    refine lv_goto (tgt := 104) hx hb dX4_isGoal_100 (by decide) ?_
    exact hret H locs ls 104 _ _ hw ⟨rfl, h⟩ rfl dX4_isGoal_104
  have h := h.2 c18
  have so20 : (a2).toInt < 0 ∨ 2 < (a2).toInt := sw_out (fun j h1 h2 => by
    rcases (show j = 0 ∨ j = 1 ∨ j = 2 by omega) with rfl | rfl | rfl
    · exact fun q => c12 (q.trans (by decide))
    · exact fun q => c15 (q.trans (by decide))
    · exact fun q => c18 (q.trans (by decide)))
  refine lv_tableOut (tgt := 105) hx hb dX4_isGoal_34 so20 (by decide) ?_
  refine lv_iload_n hx hb dX4_isGoal_105 rfl (lv_at hl 1 rfl) ?_
  refine lv_iload hx hb dX4_isGoal_106 (lv_at hl 0 rfl) ?_
  refine lv_icmp_eq (tgt := 115) hx hb dX4_isGoal_108 (by decide) (fun c19 => ?_) (fun c19 => ?_)
  · have h := h.1 c19
    refine lv_iconst (v := (0 : Int32)) hx hb dX4_isGoal_115 (by decide) ?_
    exact hret H locs ls 116 _ _ hw ⟨rfl, h⟩ rfl dX4_isGoal_116
  have h := h.2 c19
  refine lv_iconst (v := (1 : Int32)) hx hb dX4_isGoal_111 (by decide) ?_
  refine lv_goto (tgt := 116) hx hb dX4_isGoal_112 (by decide) ?_
  exact hret H locs ls 116 _ _ hw ⟨rfl, h⟩ rfl dX4_isGoal_116
def wp_X4_add (μ : TMem) (a1 : Int32) (a2 : Int32) (a3 : Int32) (a4 : Int32) (Q : TMem → Prop) : Prop :=
  wp_X6_put 36 μ (μ 35 8) a1 (fun (μ1 : TMem) => wp_X6_put 38 μ1 (μ1 35 8) a2 (fun (μ2 : TMem) => wp_X6_put 40 μ2 (μ2 35 8) a3 (fun (μ3 : TMem) => wp_X6_put 42 μ3 (μ3 35 8) a4 (fun (μ4 : TMem) => wp_X6_put 46 μ4 ((a1 * (32 : Int32)) + a2) (μ4 35 8) (fun (μ5 : TMem) => (¬ (μ5 35 9) = (-1 : Int32) → (Q (tms μ5 35 8 ((μ5 35 8) + (1 : Int32))))) ∧ ((μ5 35 9) = (-1 : Int32) → (wp_X4_isGoal μ5 (μ5 35 8) (3 : Int32) (fun (r7 : Int32) => (r7 = 0 → (Q (tms μ5 35 8 ((μ5 35 8) + (1 : Int32))))) ∧ (¬ r7 = 0 → (Q (tms (tms μ5 35 9 (μ5 35 8)) 35 8 (((tms μ5 35 9 (μ5 35 8)) 35 8) + (1 : Int32)))))))))))))
set_option maxHeartbeats 4000000 in
set_option maxRecDepth 100000 in
theorem c_X4_add {l : Launch} {D : va_G} {ad : Nat → Nat} {cI cM : ClassId}  (μ : TMem) (sz : Nat) (a1 : Int32) (a2 : Int32) (a3 : Int32) (a4 : Int32) {Q : TMem → Prop} (h : wp_X4_add μ a1 a2 a3 a4 Q) : TMv l yX4_add (.code yX4_add cX4_add 5 (Option.none : Option Jvm.ClassFile.FieldType)) 2 [.ref (ad 35), .int a1, .int a2, .int a3, .int a4] D ad cI cM sz μ Q := by
  refine T_metv (by decide +kernel) (Nat.le_of_ble_eq_true rfl) ?_
  intro p e s m below meth c Z ls hx hb hml hown ht hN hK hw hret hl
  have hl : lv_has ls 5 [(0, .ref (ad 35)), (1, .int a1), (2, .int a2), (3, .int a3), (4, .int a4)] := hl
  generalize s.heap = H at hw ⊢
  generalize ([] : List Loc) = locs at hw ⊢
  change wp_X6_put 36 μ (μ 35 8) a1 (fun (μ1 : TMem) => wp_X6_put 38 μ1 (μ1 35 8) a2 (fun (μ2 : TMem) => wp_X6_put 40 μ2 (μ2 35 8) a3 (fun (μ3 : TMem) => wp_X6_put 42 μ3 (μ3 35 8) a4 (fun (μ4 : TMem) => wp_X6_put 46 μ4 ((a1 * (32 : Int32)) + a2) (μ4 35 8) (fun (μ5 : TMem) => (¬ (μ5 35 9) = (-1 : Int32) → (Q (tms μ5 35 8 ((μ5 35 8) + (1 : Int32))))) ∧ ((μ5 35 9) = (-1 : Int32) → (wp_X4_isGoal μ5 (μ5 35 8) (3 : Int32) (fun (r7 : Int32) => (r7 = 0 → (Q (tms μ5 35 8 ((μ5 35 8) + (1 : Int32))))) ∧ (¬ r7 = 0 → (Q (tms (tms μ5 35 9 (μ5 35 8)) 35 8 (((tms μ5 35 9 (μ5 35 8)) 35 8) + (1 : Int32))))))))))))) at h
  refine lv_aload_n hx hb dX4_add_0 rfl (lv_at hl 0 rfl) ?_
  refine gf_X4_14 hx hb ht hown hK hw rfl dX4_add_1 ?_
  refine W.eq (g2 := F0 m 4 ls [.ref (ad 36)]) rfl ?_
  refine lv_aload_n hx hb dX4_add_4 rfl (lv_at hl 0 rfl) ?_
  refine gf_X4_50 hx hb ht hown hK hw rfl dX4_add_5 ?_
  refine lv_iload_n hx hb dX4_add_8 rfl (lv_at hl 1 rfl) ?_
  refine T_callv hw (va_runV (own := "Leastreader$Meeting") (As := [.int (μ 35 8), .int a1]) (rest := []) ⟨hx, hb, hml, hown, ht⟩ (c_X6_put 36 rfl μ H.size (μ 35 8) a1 h) (cwV 2 ht (G_V q_798 q_395 q_396 q_51 q_397) rfl rfl rfl ⟨rfl, hd_7⟩ ⟨Nat.le_of_ble_eq_true rfl, Nat.le_of_ble_eq_true rfl⟩) ⟨TB.blind, (T_recv hK hw (kd_of rfl (by decide)) (ent_6 rfl) cl_6), TB.pre hK hN hw⟩ rfl rfl hl.1 rfl (lv_room (Nat.le_of_ble_eq_true rfl)) dX4_add_9 ⟨Nat.le_of_ble_eq_true rfl, Nat.le_of_ble_eq_true rfl⟩) (fun μ1 H locs h hw => ?_)
  refine lv_aload_n hx hb dX4_add_12 rfl (lv_at hl 0 rfl) ?_
  refine gf_X4_20 hx hb ht hown hK hw rfl dX4_add_13 ?_
  refine W.eq (g2 := F0 m 16 ls [.ref (ad 38)]) rfl ?_
  refine lv_aload_n hx hb dX4_add_16 rfl (lv_at hl 0 rfl) ?_
  refine gf_X4_50 hx hb ht hown hK hw rfl dX4_add_17 ?_
  refine lv_iload_n hx hb dX4_add_20 rfl (lv_at hl 2 rfl) ?_
  refine T_callv hw (va_runV (own := "Leastreader$Meeting") (As := [.int (μ1 35 8), .int a2]) (rest := []) ⟨hx, hb, hml, hown, ht⟩ (c_X6_put 38 rfl μ1 H.size (μ1 35 8) a2 h) (cwV 2 ht (G_V q_798 q_395 q_396 q_51 q_397) rfl rfl rfl ⟨rfl, hd_7⟩ ⟨Nat.le_of_ble_eq_true rfl, Nat.le_of_ble_eq_true rfl⟩) ⟨TB.blind, (T_recv hK hw (kd_of rfl (by decide)) (ent_6 rfl) cl_6), TB.pre hK hN hw⟩ rfl rfl hl.1 rfl (lv_room (Nat.le_of_ble_eq_true rfl)) dX4_add_21 ⟨Nat.le_of_ble_eq_true rfl, Nat.le_of_ble_eq_true rfl⟩) (fun μ2 H locs h hw => ?_)
  refine lv_aload_n hx hb dX4_add_24 rfl (lv_at hl 0 rfl) ?_
  refine gf_X4_23 hx hb ht hown hK hw rfl dX4_add_25 ?_
  refine W.eq (g2 := F0 m 28 ls [.ref (ad 40)]) rfl ?_
  refine lv_aload_n hx hb dX4_add_28 rfl (lv_at hl 0 rfl) ?_
  refine gf_X4_50 hx hb ht hown hK hw rfl dX4_add_29 ?_
  refine lv_iload_n hx hb dX4_add_32 rfl (lv_at hl 3 rfl) ?_
  refine T_callv hw (va_runV (own := "Leastreader$Meeting") (As := [.int (μ2 35 8), .int a3]) (rest := []) ⟨hx, hb, hml, hown, ht⟩ (c_X6_put 40 rfl μ2 H.size (μ2 35 8) a3 h) (cwV 2 ht (G_V q_798 q_395 q_396 q_51 q_397) rfl rfl rfl ⟨rfl, hd_7⟩ ⟨Nat.le_of_ble_eq_true rfl, Nat.le_of_ble_eq_true rfl⟩) ⟨TB.blind, (T_recv hK hw (kd_of rfl (by decide)) (ent_6 rfl) cl_6), TB.pre hK hN hw⟩ rfl rfl hl.1 rfl (lv_room (Nat.le_of_ble_eq_true rfl)) dX4_add_33 ⟨Nat.le_of_ble_eq_true rfl, Nat.le_of_ble_eq_true rfl⟩) (fun μ3 H locs h hw => ?_)
  refine lv_aload_n hx hb dX4_add_36 rfl (lv_at hl 0 rfl) ?_
  refine gf_X4_26 hx hb ht hown hK hw rfl dX4_add_37 ?_
  refine W.eq (g2 := F0 m 40 ls [.ref (ad 42)]) rfl ?_
  refine lv_aload_n hx hb dX4_add_40 rfl (lv_at hl 0 rfl) ?_
  refine gf_X4_50 hx hb ht hown hK hw rfl dX4_add_41 ?_
  refine lv_iload hx hb dX4_add_44 (lv_at hl 4 rfl) ?_
  refine T_callv hw (va_runV (own := "Leastreader$Meeting") (As := [.int (μ3 35 8), .int a4]) (rest := []) ⟨hx, hb, hml, hown, ht⟩ (c_X6_put 42 rfl μ3 H.size (μ3 35 8) a4 h) (cwV 2 ht (G_V q_798 q_395 q_396 q_51 q_397) rfl rfl rfl ⟨rfl, hd_7⟩ ⟨Nat.le_of_ble_eq_true rfl, Nat.le_of_ble_eq_true rfl⟩) ⟨TB.blind, (T_recv hK hw (kd_of rfl (by decide)) (ent_6 rfl) cl_6), TB.pre hK hN hw⟩ rfl rfl hl.1 rfl (lv_room (Nat.le_of_ble_eq_true rfl)) dX4_add_46 ⟨Nat.le_of_ble_eq_true rfl, Nat.le_of_ble_eq_true rfl⟩) (fun μ4 H locs h hw => ?_)
  refine lv_aload_n hx hb dX4_add_49 rfl (lv_at hl 0 rfl) ?_
  refine gf_X4_32 hx hb ht hown hK hw rfl dX4_add_50 ?_
  refine W.eq (g2 := F0 m 53 ls [.ref (ad 46)]) rfl ?_
  refine lv_iload_n hx hb dX4_add_53 rfl (lv_at hl 1 rfl) ?_
  refine lv_bipush (v := (32 : Int32)) hx hb dX4_add_54 (by decide) ?_
  refine lv_imul hx hb dX4_add_56 ?_
  refine lv_iload_n hx hb dX4_add_57 rfl (lv_at hl 2 rfl) ?_
  refine lv_iadd hx hb dX4_add_58 ?_
  refine lv_aload_n hx hb dX4_add_59 rfl (lv_at hl 0 rfl) ?_
  refine gf_X4_50 hx hb ht hown hK hw rfl dX4_add_60 ?_
  refine T_callv hw (va_runV (own := "Leastreader$Meeting") (As := [.int ((a1 * (32 : Int32)) + a2), .int (μ4 35 8)]) (rest := []) ⟨hx, hb, hml, hown, ht⟩ (c_X6_put 46 rfl μ4 H.size ((a1 * (32 : Int32)) + a2) (μ4 35 8) h) (cwV 2 ht (G_V q_798 q_395 q_396 q_51 q_397) rfl rfl rfl ⟨rfl, hd_7⟩ ⟨Nat.le_of_ble_eq_true rfl, Nat.le_of_ble_eq_true rfl⟩) ⟨TB.blind, (T_recv hK hw (kd_of rfl (by decide)) (ent_6 rfl) cl_6), TB.pre hK hN hw⟩ rfl rfl hl.1 rfl (lv_room (Nat.le_of_ble_eq_true rfl)) dX4_add_63 ⟨Nat.le_of_ble_eq_true rfl, Nat.le_of_ble_eq_true rfl⟩) (fun μ5 H locs h hw => ?_)
  refine lv_aload_n hx hb dX4_add_66 rfl (lv_at hl 0 rfl) ?_
  refine gf_X4_53 hx hb ht hown hK hw rfl dX4_add_67 ?_
  refine lv_iconst (v := (-1 : Int32)) hx hb dX4_add_70 (by decide) ?_
  refine lv_icmp_ne (tgt := 94) hx hb dX4_add_71 (by decide) (fun c6 => ?_) (fun c6 => ?_)
  · have h := h.1 c6
    refine lv_aload_n hx hb dX4_add_94 rfl (lv_at hl 0 rfl) ?_
    refine lv_dup hx hb dX4_add_95 rfl ?_
    refine gf_X4_50 hx hb ht hown hK hw rfl dX4_add_96 ?_
    refine lv_iconst (v := (1 : Int32)) hx hb dX4_add_99 (by decide) ?_
    refine lv_iadd hx hb dX4_add_100 ?_
    refine pgf_X4_50 hx hb ht hown hK hw rfl dX4_add_101 (fun H locs hw => ?_)
    exact hret H locs ls 104 _ hw h dX4_add_104
  have h := h.2 c6
  refine lv_aload_n hx hb dX4_add_74 rfl (lv_at hl 0 rfl) ?_
  refine lv_aload_n hx hb dX4_add_75 rfl (lv_at hl 0 rfl) ?_
  refine gf_X4_50 hx hb ht hown hK hw rfl dX4_add_76 ?_
  refine lv_iconst (v := (3 : Int32)) hx hb dX4_add_79 (by decide) ?_
  refine T_calli hw (va_runV (own := "Leastreader$Meeting") (As := [.int (μ5 35 8), .int (3 : Int32)]) (rest := []) ⟨hx, hb, hml, hown, ht⟩ (c_X4_isGoal μ5 H.size (μ5 35 8) (3 : Int32) h) (cwV 2 ht (G_V q_799 q_800 q_801 q_54 q_802) rfl rfl rfl ⟨rfl, hd_12⟩ ⟨Nat.le_of_ble_eq_true rfl, Nat.le_of_ble_eq_true rfl⟩) ⟨TB.blind, (T_recv hK hw (kd_of rfl (by decide)) (ent_4 rfl) cl_4), TB.pre hK hN hw⟩ rfl rfl hl.1 rfl (lv_room (Nat.le_of_ble_eq_true rfl)) dX4_add_80 ⟨Nat.le_of_ble_eq_true rfl, Nat.le_of_ble_eq_true rfl⟩) (fun r7 μ8 H locs h hw => ?_)
  obtain ⟨e9, h⟩ := h
  rw [e9] at hw
  refine lv_if_eq (tgt := 94) hx hb dX4_add_83 (by decide) (fun c10 => ?_) (fun c10 => ?_)
  · have h := h.1 c10
    refine lv_aload_n hx hb dX4_add_94 rfl (lv_at hl 0 rfl) ?_
    refine lv_dup hx hb dX4_add_95 rfl ?_
    refine gf_X4_50 hx hb ht hown hK hw rfl dX4_add_96 ?_
    refine lv_iconst (v := (1 : Int32)) hx hb dX4_add_99 (by decide) ?_
    refine lv_iadd hx hb dX4_add_100 ?_
    refine pgf_X4_50 hx hb ht hown hK hw rfl dX4_add_101 (fun H locs hw => ?_)
    exact hret H locs ls 104 _ hw h dX4_add_104
  have h := h.2 c10
  refine lv_aload_n hx hb dX4_add_86 rfl (lv_at hl 0 rfl) ?_
  refine lv_aload_n hx hb dX4_add_87 rfl (lv_at hl 0 rfl) ?_
  refine gf_X4_50 hx hb ht hown hK hw rfl dX4_add_88 ?_
  refine pgf_X4_53 hx hb ht hown hK hw rfl dX4_add_91 (fun H locs hw => ?_)
  refine lv_aload_n hx hb dX4_add_94 rfl (lv_at hl 0 rfl) ?_
  refine lv_dup hx hb dX4_add_95 rfl ?_
  refine gf_X4_50 hx hb ht hown hK hw rfl dX4_add_96 ?_
  refine lv_iconst (v := (1 : Int32)) hx hb dX4_add_99 (by decide) ?_
  refine lv_iadd hx hb dX4_add_100 ?_
  refine pgf_X4_50 hx hb ht hown hK hw rfl dX4_add_101 (fun H locs hw => ?_)
  exact hret H locs ls 104 _ hw h dX4_add_104
