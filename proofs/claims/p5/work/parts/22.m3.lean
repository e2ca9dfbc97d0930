def wpl_X4_meet_63 (k1 : Nat) (k2 : Nat) (v12 : Int32) (v13 : Int32) (v14 : Int32) (K194 : TMem → Prop) (Q : Int32 → TMem → Prop) : Nat → Int32 → TMem → Prop
  | 0, _, _ => False
  | n + 1, v11, μ15 =>
    ((3 : Int32) ≤ v11 → (K194 μ15)) ∧ (¬ (3 : Int32) ≤ v11 → (((μ15 35 9) = (-1 : Int32) → (wp_X6_at 36 μ15 v12 (fun (r18 : Int32) => wp_X7_at k1 μ15 r18 v11 (fun (r21 : Int32) => wp_X6_at 38 μ15 v12 (fun (r24 : Int32) => wp_X7_at k2 μ15 r24 v11 (fun (r27 : Int32) => wp_X6_at 46 μ15 ((r21 * (32 : Int32)) + r27) (fun (r30 : Int32) => (¬ r30 = (-1 : Int32) → (wp_X6_at 46 μ15 ((r21 * (32 : Int32)) + r27) (fun (r34 : Int32) => wp_X6_put 44 μ15 ((v12 * (3 : Int32)) + v11) r34 (fun (μ37 : TMem) => wpl_X4_meet_63 k1 k2 v12 v13 v14 K194 Q n (v11 + (1 : Int32)) μ37)))) ∧ (r30 = (-1 : Int32) → (((μ15 35 8) < v13 → (wp_X4_add μ15 r21 r27 v12 v11 (fun (μ39 : TMem) => wp_X6_at 46 μ39 ((r21 * (32 : Int32)) + r27) (fun (r40 : Int32) => wp_X6_put 44 μ39 ((v12 * (3 : Int32)) + v11) r40 (fun (μ43 : TMem) => wpl_X4_meet_63 k1 k2 v12 v13 v14 K194 Q n (v11 + (1 : Int32)) μ43))))) ∧ (¬ (μ15 35 8) < v13 → (Q (0 : Int32) μ15))))))))))) ∧ (¬ (μ15 35 9) = (-1 : Int32) → ((¬ v14 = 0 → (wp_X6_at 36 μ15 v12 (fun (r45 : Int32) => wp_X7_at k1 μ15 r45 v11 (fun (r48 : Int32) => wp_X6_at 38 μ15 v12 (fun (r51 : Int32) => wp_X7_at k2 μ15 r51 v11 (fun (r54 : Int32) => wp_X6_at 46 μ15 ((r48 * (32 : Int32)) + r54) (fun (r57 : Int32) => (¬ r57 = (-1 : Int32) → (wp_X6_at 46 μ15 ((r48 * (32 : Int32)) + r54) (fun (r61 : Int32) => wp_X6_put 44 μ15 ((v12 * (3 : Int32)) + v11) r61 (fun (μ64 : TMem) => wpl_X4_meet_63 k1 k2 v12 v13 v14 K194 Q n (v11 + (1 : Int32)) μ64)))) ∧ (r57 = (-1 : Int32) → (((μ15 35 8) < v13 → (wp_X4_add μ15 r48 r54 v12 v11 (fun (μ66 : TMem) => wp_X6_at 46 μ66 ((r48 * (32 : Int32)) + r54) (fun (r67 : Int32) => wp_X6_put 44 μ66 ((v12 * (3 : Int32)) + v11) r67 (fun (μ70 : TMem) => wpl_X4_meet_63 k1 k2 v12 v13 v14 K194 Q n (v11 + (1 : Int32)) μ70))))) ∧ (¬ (μ15 35 8) < v13 → (Q (0 : Int32) μ15))))))))))) ∧ (v14 = 0 → (Q (1 : Int32) μ15))))))
def wpl_X4_meet_45 (k1 : Nat) (k2 : Nat) (v5 : Int32) (v6 : Int32) (Q : Int32 → TMem → Prop) : Nat → Int32 → TMem → Prop
  | 0, _, _ => False
  | n + 1, v4, μ7 =>
    (v5 ≤ v4 → (Q (1 : Int32) μ7)) ∧ (¬ v5 ≤ v4 → (((μ7 35 8) ≤ v4 → (Q (1 : Int32) μ7)) ∧ (¬ (μ7 35 8) ≤ v4 → (∃ n9x, wpl_X4_meet_63 k1 k2 v4 v5 v6 (fun (μ72 : TMem) => wpl_X4_meet_45 k1 k2 v5 v6 Q n (v4 + (1 : Int32)) μ72) Q n9x (0 : Int32) μ7))))
def wp_X4_meet (k1 : Nat) (k2 : Nat) (μ : TMem) (a3 : Int32) (a4 : Int32) (Q : Int32 → TMem → Prop) : Prop :=
  wp_X6_fill 46 μ (-1 : Int32) (fun (μ1 : TMem) => wp_X4_add (tms (tms (tms (tms μ1 35 6 (μ1 k1 2)) 35 7 ((tms μ1 35 6 (μ1 k1 2)) k2 2)) 35 8 (0 : Int32)) 35 9 (-1 : Int32)) (0 : Int32) (0 : Int32) (-1 : Int32) (-1 : Int32) (fun (μ2 : TMem) => ∃ n2x, wpl_X4_meet_45 k1 k2 a3 a4 Q n2x (0 : Int32) μ2))
set_option maxHeartbeats 4000000 in
set_option maxRecDepth 100000 in
theorem c_X4_meet {l : Launch} {D : va_G} {ad : Nat → Nat} {cI cM : ClassId} (k1 : Nat) (hk1 : kd k1 = 5) (k2 : Nat) (hk2 : kd k2 = 5) (μ : TMem) (sz : Nat) (a3 : Int32) (a4 : Int32) {Q : Int32 → TMem → Prop} (h : wp_X4_meet k1 k2 μ a3 a4 Q) : TMi l yX4_meet (.code yX4_meet cX4_meet 9 (Option.some Jvm.ClassFile.FieldType.boolean)) 3 [.ref (ad 35), .ref (ad k1), .ref (ad k2), .int a3, .int a4] D ad cI cM sz μ Q := by
  refine T_meti (by decide +kernel) (Nat.le_of_ble_eq_true rfl) ?_
  intro p e s m below meth c Z ls hx hb hml hown ht hN hK hw hret hl
  have hl : lv_has ls 9 [(0, .ref (ad 35)), (1, .ref (ad k1)), (2, .ref (ad k2)), (3, .int a3), (4, .int a4)] := hl
  generalize s.heap = H at hw ⊢
  generalize ([] : List Loc) = locs at hw ⊢
  change wp_X6_fill 46 μ (-1 : Int32) (fun (μ1 : TMem) => wp_X4_add (tms (tms (tms (tms μ1 35 6 (μ1 k1 2)) 35 7 ((tms μ1 35 6 (μ1 k1 2)) k2 2)) 35 8 (0 : Int32)) 35 9 (-1 : Int32)) (0 : Int32) (0 : Int32) (-1 : Int32) (-1 : Int32) (fun (μ2 : TMem) => ∃ n2x, wpl_X4_meet_45 k1 k2 a3 a4 Q n2x (0 : Int32) μ2)) at h
  refine lv_aload_n hx hb dX4_meet_0 rfl (lv_at hl 0 rfl) ?_
  refine gf_X4_32 hx hb ht hown hK hw rfl dX4_meet_1 ?_
  refine W.eq (g2 := F0 m 4 ls [.ref (ad 46)]) rfl ?_
  refine lv_iconst (v := (-1 : Int32)) hx hb dX4_meet_4 (by decide) ?_
  refine T_callv hw (va_runV (own := "Leastreader$Meeting") (As := [.int (-1 : Int32)]) (rest := []) ⟨hx, hb, hml, hown, ht⟩ (c_X6_fill 46 rfl μ H.size (-1 : Int32) h) (cwV 1 ht (G_V q_793 q_503 q_504 q_51 q_505) rfl rfl rfl ⟨rfl, hd_13⟩ ⟨Nat.le_of_ble_eq_true rfl, Nat.le_of_ble_eq_true rfl⟩) ⟨TB.blind, (T_recv hK hw (kd_of rfl (by decide)) (ent_6 rfl) cl_6), TB.pre hK hN hw⟩ rfl rfl hl.1 rfl (lv_room (Nat.le_of_ble_eq_true rfl)) dX4_meet_5 ⟨Nat.le_of_ble_eq_true rfl, Nat.le_of_ble_eq_true rfl⟩) (fun μ1 H locs h hw => ?_)
  refine lv_aload_n hx hb dX4_meet_8 rfl (lv_at hl 0 rfl) ?_
  refine lv_aload_n hx hb dX4_meet_9 rfl (lv_at hl 1 rfl) ?_
  refine gf_X4_38 hx hb ht hown hK hw hk1 dX4_meet_10 ?_
  refine pgf_X4_44 hx hb ht hown hK hw rfl dX4_meet_13 (fun H locs hw => ?_)
  refine lv_aload_n hx hb dX4_meet_16 rfl (lv_at hl 0 rfl) ?_
  refine lv_aload_n hx hb dX4_meet_17 rfl (lv_at hl 2 rfl) ?_
  refine gf_X4_38 hx hb ht hown hK hw hk2 dX4_meet_18 ?_
  refine pgf_X4_47 hx hb ht hown hK hw rfl dX4_meet_21 (fun H locs hw => ?_)
  refine lv_aload_n hx hb dX4_meet_24 rfl (lv_at hl 0 rfl) ?_
  refine lv_iconst (v := (0 : Int32)) hx hb dX4_meet_25 (by decide) ?_
  refine pgf_X4_50 hx hb ht hown hK hw rfl dX4_meet_26 (fun H locs hw => ?_)
  refine lv_aload_n hx hb dX4_meet_29 rfl (lv_at hl 0 rfl) ?_
  refine lv_iconst (v := (-1 : Int32)) hx hb dX4_meet_30 (by decide) ?_
  refine pgf_X4_53 hx hb ht hown hK hw rfl dX4_meet_31 (fun H locs hw => ?_)
  refine lv_aload_n hx hb dX4_meet_34 rfl (lv_at hl 0 rfl) ?_
  refine lv_iconst (v := (0 : Int32)) hx hb dX4_meet_35 (by decide) ?_
  refine lv_iconst (v := (0 : Int32)) hx hb dX4_meet_36 (by decide) ?_
  refine lv_iconst (v := (-1 : Int32)) hx hb dX4_meet_37 (by decide) ?_
  refine lv_iconst (v := (-1 : Int32)) hx hb dX4_meet_38 (by decide) ?_
  refine T_callv hw (va_runV (own := "Leastreader$Meeting") (As := [.int (0 : Int32), .int (0 : Int32), .int (-1 : Int32), .int (-1 : Int32)]) (rest := []) ⟨hx, hb, hml, hown, ht⟩ (c_X4_add (tms (tms (tms (tms μ1 35 6 (μ1 k1 2)) 35 7 ((tms μ1 35 6 (μ1 k1 2)) k2 2)) 35 8 (0 : Int32)) 35 9 (-1 : Int32)) H.size (0 : Int32) (0 : Int32) (-1 : Int32) (-1 : Int32) h) (cwV 4 ht (G_V q_794 q_796 q_20 q_54 q_797) rfl rfl rfl ⟨rfl, hd_14⟩ ⟨Nat.le_of_ble_eq_true rfl, Nat.le_of_ble_eq_true rfl⟩) ⟨TB.blind, (T_recv hK hw (kd_of rfl (by decide)) (ent_4 rfl) cl_4), TB.pre hK hN hw⟩ rfl rfl hl.1 rfl (lv_room (Nat.le_of_ble_eq_true rfl)) dX4_meet_39 ⟨Nat.le_of_ble_eq_true rfl, Nat.le_of_ble_eq_true rfl⟩) (fun μ2 H locs h hw => ?_)
  refine lv_iconst (v := (0 : Int32)) hx hb dX4_meet_42 (by decide) ?_
  refine lv_istore (lv' := [(5, .int (0 : Int32)), (0, .ref (ad 35)), (1, .ref (ad k1)), (2, .ref (ad k2)), (3, .int a3), (4, .int a4)]) hx hb dX4_meet_43 hl (by decide) rfl (fun ls hl => ?_)
  obtain ⟨n73, h⟩ := h
  have L2 : ∀ (v5 : Int32) (v6 : Int32), ∀ (n : Nat) (v4 : Int32) (μ7 : TMem) (H : Heap) (locs : List Loc) (ls : Array Slot), TW D ad cI cM s μ7 H locs → lv_has ls 9 [(5, .int v4), (0, .ref (ad 35)), (1, .ref (ad k1)), (2, .ref (ad k2)), (3, .int v5), (4, .int v6)] → wpl_X4_meet_45 k1 k2 v5 v6 Q n v4 μ7 → W p l e (RM 3) s m #[.ref (ad 35), .ref (ad k1), .ref (ad k2), .int a3, .int a4] below meth c H locs 0 0 Z (F0 m 45 ls []) := by
    intro v5 v6
    intro n
    induction n with
    | zero => intro v4 μ7 H locs ls hw hl h; exact False.elim h
    | succ n ih2 =>
      intro v4 μ7 H locs ls hw hl h
      change (v5 ≤ v4 → (Q (1 : Int32) μ7)) ∧ (¬ v5 ≤ v4 → (((μ7 35 8) ≤ v4 → (Q (1 : Int32) μ7)) ∧ (¬ (μ7 35 8) ≤ v4 → (∃ n9x, wpl_X4_meet_63 k1 k2 v4 v5 v6 (fun (μ72 : TMem) => wpl_X4_meet_45 k1 k2 v5 v6 Q n (v4 + (1 : Int32)) μ72) Q n9x (0 : Int32) μ7)))) at h
      refine lv_iload hx hb dX4_meet_45 (lv_at hl 0 rfl) ?_
      refine lv_iload_n hx hb dX4_meet_47 rfl (lv_at hl 4 rfl) ?_
      refine lv_icmp_ge (tgt := 200) hx hb dX4_meet_48 (by decide) (fun c8 => ?_) (fun c8 => ?_)
      · have h := h.1 c8
        refine lv_iconst (v := (1 : Int32)) hx hb dX4_meet_200 (by decide) ?_
        exact hret H locs ls 201 _ _ hw h rfl dX4_meet_201
      have h := h.2 c8
      refine lv_iload hx hb dX4_meet_51 (lv_at hl 0 rfl) ?_
      refine lv_aload_n hx hb dX4_meet_53 rfl (lv_at hl 1 rfl) ?_
      refine gf_X4_50 hx hb ht hown hK hw rfl dX4_meet_54 ?_
      refine lv_icmp_ge (tgt := 200) hx hb dX4_meet_57 (by decide) (fun c9 => ?_) (fun c9 => ?_)
      · have h := h.1 c9
        refine lv_iconst (v := (1 : Int32)) hx hb dX4_meet_200 (by decide) ?_
        exact hret H locs ls 201 _ _ hw h rfl dX4_meet_201
      have h := h.2 c9
      refine lv_iconst (v := (0 : Int32)) hx hb dX4_meet_60 (by decide) ?_
      refine lv_istore (lv' := [(6, .int (0 : Int32)), (5, .int v4), (0, .ref (ad 35)), (1, .ref (ad k1)), (2, .ref (ad k2)), (3, .int v5), (4, .int v6)]) hx hb dX4_meet_61 hl (by decide) rfl (fun ls hl => ?_)
      obtain ⟨n71, h⟩ := h
      have L9 : ∀ (v12 : Int32) (v13 : Int32) (v14 : Int32) (K194 : TMem → Prop), (∀ (μ15 : TMem) (H : Heap) (locs : List Loc) (ls : Array Slot), TW D ad cI cM s μ15 H locs → lv_has ls 9 [(5, .int v12), (0, .ref (ad 35)), (1, .ref (ad k1)), (2, .ref (ad k2)), (3, .int v13), (4, .int v14)] → K194 μ15 → W p l e (RM 3) s m #[.ref (ad 35), .ref (ad k1), .ref (ad k2), .int a3, .int a4] below meth c H locs 0 0 Z (F0 m 194 ls [])) → ∀ (n : Nat) (v11 : Int32) (μ15 : TMem) (H : Heap) (locs : List Loc) (ls : Array Slot), TW D ad cI cM s μ15 H locs → lv_has ls 9 [(6, .int v11), (5, .int v12), (0, .ref (ad 35)), (1, .ref (ad k1)), (2, .ref (ad k2)), (3, .int v13), (4, .int v14)] → wpl_X4_meet_63 k1 k2 v12 v13 v14 K194 Q n v11 μ15 → W p l e (RM 3) s m #[.ref (ad 35), .ref (ad k1), .ref (ad k2), .int a3, .int a4] below meth c H locs 0 0 Z (F0 m 63 ls []) := by
        intro v12 v13 v14 K194 hK194
        intro n
        induction n with
        | zero => intro v11 μ15 H locs ls hw hl h; exact False.elim h
        | succ n ih9 =>
          intro v11 μ15 H locs ls hw hl h
          change ((3 : Int32) ≤ v11 → (K194 μ15)) ∧ (¬ (3 : Int32) ≤ v11 → (((μ15 35 9) = (-1 : Int32) → (wp_X6_at 36 μ15 v12 (fun (r18 : Int32) => wp_X7_at k1 μ15 r18 v11 (fun (r21 : Int32) => wp_X6_at 38 μ15 v12 (fun (r24 : Int32) => wp_X7_at k2 μ15 r24 v11 (fun (r27 : Int32) => wp_X6_at 46 μ15 ((r21 * (32 : Int32)) + r27) (fun (r30 : Int32) => (¬ r30 = (-1 : Int32) → (wp_X6_at 46 μ15 ((r21 * (32 : Int32)) + r27) (fun (r34 : Int32) => wp_X6_put 44 μ15 ((v12 * (3 : Int32)) + v11) r34 (fun (μ37 : TMem) => wpl_X4_meet_63 k1 k2 v12 v13 v14 K194 Q n (v11 + (1 : Int32)) μ37)))) ∧ (r30 = (-1 : Int32) → (((μ15 35 8) < v13 → (wp_X4_add μ15 r21 r27 v12 v11 (fun (μ39 : TMem) => wp_X6_at 46 μ39 ((r21 * (32 : Int32)) + r27) (fun (r40 : Int32) => wp_X6_put 44 μ39 ((v12 * (3 : Int32)) + v11) r40 (fun (μ43 : TMem) => wpl_X4_meet_63 k1 k2 v12 v13 v14 K194 Q n (v11 + (1 : Int32)) μ43))))) ∧ (¬ (μ15 35 8) < v13 → (Q (0 : Int32) μ15))))))))))) ∧ (¬ (μ15 35 9) = (-1 : Int32) → ((¬ v14 = 0 → (wp_X6_at 36 μ15 v12 (fun (r45 : Int32) => wp_X7_at k1 μ15 r45 v11 (fun (r48 : Int32) => wp_X6_at 38 μ15 v12 (fun (r51 : Int32) => wp_X7_at k2 μ15 r51 v11 (fun (r54 : Int32) => wp_X6_at 46 μ15 ((r48 * (32 : Int32)) + r54) (fun (r57 : Int32) => (¬ r57 = (-1 : Int32) → (wp_X6_at 46 μ15 ((r48 * (32 : Int32)) + r54) (fun (r61 : Int32) => wp_X6_put 44 μ15 ((v12 * (3 : Int32)) + v11) r61 (fun (μ64 : TMem) => wpl_X4_meet_63 k1 k2 v12 v13 v14 K194 Q n (v11 + (1 : Int32)) μ64)))) ∧ (r57 = (-1 : Int32) → (((μ15 35 8) < v13 → (wp_X4_add μ15 r48 r54 v12 v11 (fun (μ66 : TMem) => wp_X6_at 46 μ66 ((r48 * (32 : Int32)) + r54) (fun (r67 : Int32) => wp_X6_put 44 μ66 ((v12 * (3 : Int32)) + v11) r67 (fun (μ70 : TMem) => wpl_X4_meet_63 k1 k2 v12 v13 v14 K194 Q n (v11 + (1 : Int32)) μ70))))) ∧ (¬ (μ15 35 8) < v13 → (Q (0 : Int32) μ15))))))))))) ∧ (v14 = 0 → (Q (1 : Int32) μ15)))))) at h
          refine lv_iload hx hb dX4_meet_63 (lv_at hl 0 rfl) ?_
          refine lv_iconst (v := (3 : Int32)) hx hb dX4_meet_65 (by decide) ?_
          refine lv_icmp_ge (tgt := 194) hx hb dX4_meet_66 (by decide) (fun c16 => ?_) (fun c16 => ?_)
          · have h := h.1 c16
            exact hK194 μ15 H locs ls hw (lv_sub hl [1, 2, 3, 4, 5, 6] rfl) h
          have h := h.2 c16
          refine lv_aload_n hx hb dX4_meet_69 rfl (lv_at hl 2 rfl) ?_
          refine gf_X4_53 hx hb ht hown hK hw rfl dX4_meet_70 ?_
          refine lv_iconst (v := (-1 : Int32)) hx hb dX4_meet_73 (by decide) ?_
          refine lv_icmp_eq (tgt := 84) hx hb dX4_meet_74 (by decide) (fun c17 => ?_) (fun c17 => ?_)
          · have h := h.1 c17
            refine lv_aload_n hx hb dX4_meet_84 rfl (lv_at hl 3 rfl) ?_
            refine lv_aload_n hx hb dX4_meet_85 rfl (lv_at hl 2 rfl) ?_
            refine gf_X4_14 hx hb ht hown hK hw rfl dX4_meet_86 ?_
            refine W.eq (g2 := F0 m 89 ls [.ref (ad 36), .ref (ad k1)]) rfl ?_
            refine lv_iload hx hb dX4_meet_89 (lv_at hl 1 rfl) ?_
            refine T_calli hw (va_runV (own := "Leastreader$Meeting") (As := [.int v12]) (rest := [.ref (ad k1)]) ⟨hx, hb, hml, hown, ht⟩ (c_X6_at 36 rfl μ15 H.size v12 h) (cwV 1 ht (G_V q_803 q_399 q_400 q_51 q_401) rfl rfl rfl ⟨rfl, hd_8⟩ ⟨Nat.le_of_ble_eq_true rfl, Nat.le_of_ble_eq_true rfl⟩) ⟨TB.blind, (T_recv hK hw (kd_of rfl (by decide)) (ent_6 rfl) cl_6), TB.pre hK hN hw⟩ rfl rfl hl.1 rfl (lv_room (Nat.le_of_ble_eq_true rfl)) dX4_meet_91 ⟨Nat.le_of_ble_eq_true rfl, Nat.le_of_ble_eq_true rfl⟩) (fun r18 μ19 H locs h hw => ?_)
            obtain ⟨e20, h⟩ := h
            rw [e20] at hw
            refine lv_iload hx hb dX4_meet_94 (lv_at hl 0 rfl) ?_
            refine T_calli hw (va_runU (own := "Leastreader$Meeting") (As := [.int r18, .int v11]) (rest := []) ⟨hx, hb, hml, hown, ht⟩ (c_X7_at_5 k1 hk1 μ15 H.size r18 v11 h) (va_cwU (owner := "Leastreader$Table") 2 ht (G_U q_805 q_452 q_453 q_416 q_47 q_417) rfl rfl rfl rfl hd_0 ⟨Nat.le_of_ble_eq_true rfl, Nat.le_of_ble_eq_true rfl⟩) ⟨TB.blind, (T_recv hK hw (kd_of hk1 (by decide)) (ent_5 hk1) cl_5), TB.pre hK hN hw⟩ rfl rfl hl.1 rfl (lv_room (Nat.le_of_ble_eq_true rfl)) dX4_meet_96 ⟨Nat.le_of_ble_eq_true rfl, Nat.le_of_ble_eq_true rfl⟩) (fun r21 μ22 H locs h hw => ?_)
            obtain ⟨e23, h⟩ := h
            rw [e23] at hw
            refine lv_istore (lv' := [(7, .int r21), (6, .int v11), (5, .int v12), (0, .ref (ad 35)), (1, .ref (ad k1)), (2, .ref (ad k2)), (3, .int v13), (4, .int v14)]) hx hb dX4_meet_99 hl (by decide) rfl (fun ls hl => ?_)
            refine lv_aload_n hx hb dX4_meet_101 rfl (lv_at hl 5 rfl) ?_
            refine lv_aload_n hx hb dX4_meet_102 rfl (lv_at hl 3 rfl) ?_
            refine gf_X4_20 hx hb ht hown hK hw rfl dX4_meet_103 ?_
            refine W.eq (g2 := F0 m 106 ls [.ref (ad 38), .ref (ad k2)]) rfl ?_
            refine lv_iload hx hb dX4_meet_106 (lv_at hl 2 rfl) ?_
            refine T_calli hw (va_runV (own := "Leastreader$Meeting") (As := [.int v12]) (rest := [.ref (ad k2)]) ⟨hx, hb, hml, hown, ht⟩ (c_X6_at 38 rfl μ15 H.size v12 h) (cwV 1 ht (G_V q_803 q_399 q_400 q_51 q_401) rfl rfl rfl ⟨rfl, hd_8⟩ ⟨Nat.le_of_ble_eq_true rfl, Nat.le_of_ble_eq_true rfl⟩) ⟨TB.blind, (T_recv hK hw (kd_of rfl (by decide)) (ent_6 rfl) cl_6), TB.pre hK hN hw⟩ rfl rfl hl.1 rfl (lv_room (Nat.le_of_ble_eq_true rfl)) dX4_meet_108 ⟨Nat.le_of_ble_eq_true rfl, Nat.le_of_ble_eq_true rfl⟩) (fun r24 μ25 H locs h hw => ?_)
            obtain ⟨e26, h⟩ := h
            rw [e26] at hw
            refine lv_iload hx hb dX4_meet_111 (lv_at hl 1 rfl) ?_
            refine T_calli hw (va_runU (own := "Leastreader$Meeting") (As := [.int r24, .int v11]) (rest := []) ⟨hx, hb, hml, hown, ht⟩ (c_X7_at_5 k2 hk2 μ15 H.size r24 v11 h) (va_cwU (owner := "Leastreader$Table") 2 ht (G_U q_805 q_452 q_453 q_416 q_47 q_417) rfl rfl rfl rfl hd_0 ⟨Nat.le_of_ble_eq_true rfl, Nat.le_of_ble_eq_true rfl⟩) ⟨TB.blind, (T_recv hK hw (kd_of hk2 (by decide)) (ent_5 hk2) cl_5), TB.pre hK hN hw⟩ rfl rfl hl.1 rfl (lv_room (Nat.le_of_ble_eq_true rfl)) dX4_meet_113 ⟨Nat.le_of_ble_eq_true rfl, Nat.le_of_ble_eq_true rfl⟩) (fun r27 μ28 H locs h hw => ?_)
            obtain ⟨e29, h⟩ := h
            rw [e29] at hw
            refine lv_istore (lv' := [(8, .int r27), (7, .int r21), (6, .int v11), (5, .int v12), (0, .ref (ad 35)), (1, .ref (ad k1)), (2, .ref (ad k2)), (3, .int v13), (4, .int v14)]) hx hb dX4_meet_116 hl (by decide) rfl (fun ls hl => ?_)
            refine lv_aload_n hx hb dX4_meet_118 rfl (lv_at hl 4 rfl) ?_
            refine gf_X4_32 hx hb ht hown hK hw rfl dX4_meet_119 ?_
            refine W.eq (g2 := F0 m 122 ls [.ref (ad 46)]) rfl ?_
            refine lv_iload hx hb dX4_meet_122 (lv_at hl 1 rfl) ?_
            refine lv_bipush (v := (32 : Int32)) hx hb dX4_meet_124 (by decide) ?_
            refine lv_imul hx hb dX4_meet_126 ?_
            refine lv_iload hx hb dX4_meet_127 (lv_at hl 0 rfl) ?_
            refine lv_iadd hx hb dX4_meet_129 ?_
            refine T_calli hw (va_runV (own := "Leastreader$Meeting") (As := [.int ((r21 * (32 : Int32)) + r27)]) (rest := []) ⟨hx, hb, hml, hown, ht⟩ (c_X6_at 46 rfl μ15 H.size ((r21 * (32 : Int32)) + r27) h) (cwV 1 ht (G_V q_803 q_399 q_400 q_51 q_401) rfl rfl rfl ⟨rfl, hd_8⟩ ⟨Nat.le_of_ble_eq_true rfl, Nat.le_of_ble_eq_true rfl⟩) ⟨TB.blind, (T_recv hK hw (kd_of rfl (by decide)) (ent_6 rfl) cl_6), TB.pre hK hN hw⟩ rfl rfl hl.1 rfl (lv_room (Nat.le_of_ble_eq_true rfl)) dX4_meet_130 ⟨Nat.le_of_ble_eq_true rfl, Nat.le_of_ble_eq_true rfl⟩) (fun r30 μ31 H locs h hw => ?_)
            obtain ⟨e32, h⟩ := h
            rw [e32] at hw
            refine lv_iconst (v := (-1 : Int32)) hx hb dX4_meet_133 (by decide) ?_
            refine lv_icmp_ne (tgt := 159) hx hb dX4_meet_134 (by decide) (fun c33 => ?_) (fun c33 => ?_)
            · have h := h.1 c33
              refine lv_aload_n hx hb dX4_meet_159 rfl (lv_at hl 4 rfl) ?_
              refine gf_X4_29 hx hb ht hown hK hw rfl dX4_meet_160 ?_
              refine W.eq (g2 := F0 m 163 ls [.ref (ad 44)]) rfl ?_
              refine lv_iload hx hb dX4_meet_163 (lv_at hl 3 rfl) ?_
              refine lv_iconst (v := (3 : Int32)) hx hb dX4_meet_165 (by decide) ?_
              refine lv_imul hx hb dX4_meet_166 ?_
              refine lv_iload hx hb dX4_meet_167 (lv_at hl 2 rfl) ?_
              refine lv_iadd hx hb dX4_meet_169 ?_
              refine lv_aload_n hx hb dX4_meet_170 rfl (lv_at hl 4 rfl) ?_
              refine gf_X4_32 hx hb ht hown hK hw rfl dX4_meet_171 ?_
              refine W.eq (g2 := F0 m 174 ls [.ref (ad 46), .int ((v12 * (3 : Int32)) + v11), .ref (ad 44)]) rfl ?_
              refine lv_iload hx hb dX4_meet_174 (lv_at hl 1 rfl) ?_
              refine lv_bipush (v := (32 : Int32)) hx hb dX4_meet_176 (by decide) ?_
              refine lv_imul hx hb dX4_meet_178 ?_
              refine lv_iload hx hb dX4_meet_179 (lv_at hl 0 rfl) ?_
              refine lv_iadd hx hb dX4_meet_181 ?_
              refine T_calli hw (va_runV (own := "Leastreader$Meeting") (As := [.int ((r21 * (32 : Int32)) + r27)]) (rest := [.int ((v12 * (3 : Int32)) + v11), .ref (ad 44)]) ⟨hx, hb, hml, hown, ht⟩ (c_X6_at 46 rfl μ15 H.size ((r21 * (32 : Int32)) + r27) h) (cwV 1 ht (G_V q_803 q_399 q_400 q_51 q_401) rfl rfl rfl ⟨rfl, hd_8⟩ ⟨Nat.le_of_ble_eq_true rfl, Nat.le_of_ble_eq_true rfl⟩) ⟨TB.blind, (T_recv hK hw (kd_of rfl (by decide)) (ent_6 rfl) cl_6), TB.pre hK hN hw⟩ rfl rfl hl.1 rfl (lv_room (Nat.le_of_ble_eq_true rfl)) dX4_meet_182 ⟨Nat.le_of_ble_eq_true rfl, Nat.le_of_ble_eq_true rfl⟩) (fun r34 μ35 H locs h hw => ?_)
              obtain ⟨e36, h⟩ := h
              rw [e36] at hw
              refine T_callv hw (va_runV (own := "Leastreader$Meeting") (As := [.int ((v12 * (3 : Int32)) + v11), .int r34]) (rest := []) ⟨hx, hb, hml, hown, ht⟩ (c_X6_put 44 rfl μ15 H.size ((v12 * (3 : Int32)) + v11) r34 h) (cwV 2 ht (G_V q_798 q_395 q_396 q_51 q_397) rfl rfl rfl ⟨rfl, hd_7⟩ ⟨Nat.le_of_ble_eq_true rfl, Nat.le_of_ble_eq_true rfl⟩) ⟨TB.blind, (T_recv hK hw (kd_of rfl (by decide)) (ent_6 rfl) cl_6), TB.pre hK hN hw⟩ rfl rfl hl.1 rfl (lv_room (Nat.le_of_ble_eq_true rfl)) dX4_meet_185 ⟨Nat.le_of_ble_eq_true rfl, Nat.le_of_ble_eq_true rfl⟩) (fun μ37 H locs h hw => ?_)
              refine lv_iinc (v := (v11 + (1 : Int32))) (lv' := [(6, .int (v11 + (1 : Int32))), (8, .int r27), (7, .int r21), (5, .int v12), (0, .ref (ad 35)), (1, .ref (ad k1)), (2, .ref (ad k2)), (3, .int v13), (4, .int v14)]) hx hb dX4_meet_188 hl (k := 2) rfl rfl (by decide) rfl (fun ls hl => ?_)
              refine lv_goto (tgt := 63) hx hb dX4_meet_191 (by decide) ?_
              exact ih9 (v11 + (1 : Int32)) μ37 H locs ls hw (lv_sub hl [0, 3, 4, 5, 6, 7, 8] rfl) h
            have h := h.2 c33
            refine lv_aload_n hx hb dX4_meet_137 rfl (lv_at hl 4 rfl) ?_
            refine gf_X4_50 hx hb ht hown hK hw rfl dX4_meet_138 ?_
            refine lv_iload_n hx hb dX4_meet_141 rfl (lv_at hl 7 rfl) ?_
            refine lv_icmp_lt (tgt := 147) hx hb dX4_meet_142 (by decide) (fun c38 => ?_) (fun c38 => ?_)
            · have h := h.1 c38
              refine lv_aload_n hx hb dX4_meet_147 rfl (lv_at hl 4 rfl) ?_
              refine lv_iload hx hb dX4_meet_148 (lv_at hl 1 rfl) ?_
              refine lv_iload hx hb dX4_meet_150 (lv_at hl 0 rfl) ?_
              refine lv_iload hx hb dX4_meet_152 (lv_at hl 3 rfl) ?_
              refine lv_iload hx hb dX4_meet_154 (lv_at hl 2 rfl) ?_
              refine T_callv hw (va_runV (own := "Leastreader$Meeting") (As := [.int r21, .int r27, .int v12, .int v11]) (rest := []) ⟨hx, hb, hml, hown, ht⟩ (c_X4_add μ15 H.size r21 r27 v12 v11 h) (cwV 4 ht (G_V q_794 q_796 q_20 q_54 q_797) rfl rfl rfl ⟨rfl, hd_14⟩ ⟨Nat.le_of_ble_eq_true rfl, Nat.le_of_ble_eq_true rfl⟩) ⟨TB.blind, (T_recv hK hw (kd_of rfl (by decide)) (ent_4 rfl) cl_4), TB.pre hK hN hw⟩ rfl rfl hl.1 rfl (lv_room (Nat.le_of_ble_eq_true rfl)) dX4_meet_156 ⟨Nat.le_of_ble_eq_true rfl, Nat.le_of_ble_eq_true rfl⟩) (fun μ39 H locs h hw => ?_)
              refine lv_aload_n hx hb dX4_meet_159 rfl (lv_at hl 4 rfl) ?_
              refine gf_X4_29 hx hb ht hown hK hw rfl dX4_meet_160 ?_
              refine W.eq (g2 := F0 m 163 ls [.ref (ad 44)]) rfl ?_
              refine lv_iload hx hb dX4_meet_163 (lv_at hl 3 rfl) ?_
              refine lv_iconst (v := (3 : Int32)) hx hb dX4_meet_165 (by decide) ?_
              refine lv_imul hx hb dX4_meet_166 ?_
              refine lv_iload hx hb dX4_meet_167 (lv_at hl 2 rfl) ?_
              refine lv_iadd hx hb dX4_meet_169 ?_
              refine lv_aload_n hx hb dX4_meet_170 rfl (lv_at hl 4 rfl) ?_
              refine gf_X4_32 hx hb ht hown hK hw rfl dX4_meet_171 ?_
              refine W.eq (g2 := F0 m 174 ls [.ref (ad 46), .int ((v12 * (3 : Int32)) + v11), .ref (ad 44)]) rfl ?_
              refine lv_iload hx hb dX4_meet_174 (lv_at hl 1 rfl) ?_
              refine lv_bipush (v := (32 : Int32)) hx hb dX4_meet_176 (by decide) ?_
              refine lv_imul hx hb dX4_meet_178 ?_
              refine lv_iload hx hb dX4_meet_179 (lv_at hl 0 rfl) ?_
              refine lv_iadd hx hb dX4_meet_181 ?_
              refine T_calli hw (va_runV (own := "Leastreader$Meeting") (As := [.int ((r21 * (32 : Int32)) + r27)]) (rest := [.int ((v12 * (3 : Int32)) + v11), .ref (ad 44)]) ⟨hx, hb, hml, hown, ht⟩ (c_X6_at 46 rfl μ39 H.size ((r21 * (32 : Int32)) + r27) h) (cwV 1 ht (G_V q_803 q_399 q_400 q_51 q_401) rfl rfl rfl ⟨rfl, hd_8⟩ ⟨Nat.le_of_ble_eq_true rfl, Nat.le_of_ble_eq_true rfl⟩) ⟨TB.blind, (T_recv hK hw (kd_of rfl (by decide)) (ent_6 rfl) cl_6), TB.pre hK hN hw⟩ rfl rfl hl.1 rfl (lv_room (Nat.le_of_ble_eq_true rfl)) dX4_meet_182 ⟨Nat.le_of_ble_eq_true rfl, Nat.le_of_ble_eq_true rfl⟩) (fun r40 μ41 H locs h hw => ?_)
              obtain ⟨e42, h⟩ := h
              rw [e42] at hw
              refine T_callv hw (va_runV (own := "Leastreader$Meeting") (As := [.int ((v12 * (3 : Int32)) + v11), .int r40]) (rest := []) ⟨hx, hb, hml, hown, ht⟩ (c_X6_put 44 rfl μ39 H.size ((v12 * (3 : Int32)) + v11) r40 h) (cwV 2 ht (G_V q_798 q_395 q_396 q_51 q_397) rfl rfl rfl ⟨rfl, hd_7⟩ ⟨Nat.le_of_ble_eq_true rfl, Nat.le_of_ble_eq_true rfl⟩) ⟨TB.blind, (T_recv hK hw (kd_of rfl (by decide)) (ent_6 rfl) cl_6), TB.pre hK hN hw⟩ rfl rfl hl.1 rfl (lv_room (Nat.le_of_ble_eq_true rfl)) dX4_meet_185 ⟨Nat.le_of_ble_eq_true rfl, Nat.le_of_ble_eq_true rfl⟩) (fun μ43 H locs h hw => ?_)
              refine lv_iinc (v := (v11 + (1 : Int32))) (lv' := [(6, .int (v11 + (1 : Int32))), (8, .int r27), (7, .int r21), (5, .int v12), (0, .ref (ad 35)), (1, .ref (ad k1)), (2, .ref (ad k2)), (3, .int v13), (4, .int v14)]) hx hb dX4_meet_188 hl (k := 2) rfl rfl (by decide) rfl (fun ls hl => ?_)
              refine lv_goto (tgt := 63) hx hb dX4_meet_191 (by decide) ?_
              exact ih9 (v11 + (1 : Int32)) μ43 H locs ls hw (lv_sub hl [0, 3, 4, 5, 6, 7, 8] rfl) h
            have h := h.2 c38
            refine lv_iconst (v := (0 : Int32)) hx hb dX4_meet_145 (by decide) ?_
            exact hret H locs ls 146 _ _ hw h rfl dX4_meet_146
          have h := h.2 c17
          refine lv_iload hx hb dX4_meet_77 (lv_at hl 6 rfl) ?_
          refine lv_if_ne (tgt := 84) hx hb dX4_meet_79 (by decide) (fun c44 => ?_) (fun c44 => ?_)
          · have h := h.1 c44
            refine lv_aload_n hx hb dX4_meet_84 rfl (lv_at hl 3 rfl) ?_
            refine lv_aload_n hx hb dX4_meet_85 rfl (lv_at hl 2 rfl) ?_
            refine gf_X4_14 hx hb ht hown hK hw rfl dX4_meet_86 ?_
            refine W.eq (g2 := F0 m 89 ls [.ref (ad 36), .ref (ad k1)]) rfl ?_
            refine lv_iload hx hb dX4_meet_89 (lv_at hl 1 rfl) ?_
            refine T_calli hw (va_runV (own := "Leastreader$Meeting") (As := [.int v12]) (rest := [.ref (ad k1)]) ⟨hx, hb, hml, hown, ht⟩ (c_X6_at 36 rfl μ15 H.size v12 h) (cwV 1 ht (G_V q_803 q_399 q_400 q_51 q_401) rfl rfl rfl ⟨rfl, hd_8⟩ ⟨Nat.le_of_ble_eq_true rfl, Nat.le_of_ble_eq_true rfl⟩) ⟨TB.blind, (T_recv hK hw (kd_of rfl (by decide)) (ent_6 rfl) cl_6), TB.pre hK hN hw⟩ rfl rfl hl.1 rfl (lv_room (Nat.le_of_ble_eq_true rfl)) dX4_meet_91 ⟨Nat.le_of_ble_eq_true rfl, Nat.le_of_ble_eq_true rfl⟩) (fun r45 μ46 H locs h hw => ?_)
            obtain ⟨e47, h⟩ := h
            rw [e47] at hw
            refine lv_iload hx hb dX4_meet_94 (lv_at hl 0 rfl) ?_
            refine T_calli hw (va_runU (own := "Leastreader$Meeting") (As := [.int r45, .int v11]) (rest := []) ⟨hx, hb, hml, hown, ht⟩ (c_X7_at_5 k1 hk1 μ15 H.size r45 v11 h) (va_cwU (owner := "Leastreader$Table") 2 ht (G_U q_805 q_452 q_453 q_416 q_47 q_417) rfl rfl rfl rfl hd_0 ⟨Nat.le_of_ble_eq_true rfl, Nat.le_of_ble_eq_true rfl⟩) ⟨TB.blind, (T_recv hK hw (kd_of hk1 (by decide)) (ent_5 hk1) cl_5), TB.pre hK hN hw⟩ rfl rfl hl.1 rfl (lv_room (Nat.le_of_ble_eq_true rfl)) dX4_meet_96 ⟨Nat.le_of_ble_eq_true rfl, Nat.le_of_ble_eq_true rfl⟩) (fun r48 μ49 H locs h hw => ?_)
            obtain ⟨e50, h⟩ := h
            rw [e50] at hw
            refine lv_istore (lv' := [(7, .int r48), (6, .int v11), (5, .int v12), (0, .ref (ad 35)), (1, .ref (ad k1)), (2, .ref (ad k2)), (3, .int v13), (4, .int v14)]) hx hb dX4_meet_99 hl (by decide) rfl (fun ls hl => ?_)
            refine lv_aload_n hx hb dX4_meet_101 rfl (lv_at hl 5 rfl) ?_
            refine lv_aload_n hx hb dX4_meet_102 rfl (lv_at hl 3 rfl) ?_
            refine gf_X4_20 hx hb ht hown hK hw rfl dX4_meet_103 ?_
            refine W.eq (g2 := F0 m 106 ls [.ref (ad 38), .ref (ad k2)]) rfl ?_
            refine lv_iload hx hb dX4_meet_106 (lv_at hl 2 rfl) ?_
            refine T_calli hw (va_runV (own := "Leastreader$Meeting") (As := [.int v12]) (rest := [.ref (ad k2)]) ⟨hx, hb, hml, hown, ht⟩ (c_X6_at 38 rfl μ15 H.size v12 h) (cwV 1 ht (G_V q_803 q_399 q_400 q_51 q_401) rfl rfl rfl ⟨rfl, hd_8⟩ ⟨Nat.le_of_ble_eq_true rfl, Nat.le_of_ble_eq_true rfl⟩) ⟨TB.blind, (T_recv hK hw (kd_of rfl (by decide)) (ent_6 rfl) cl_6), TB.pre hK hN hw⟩ rfl rfl hl.1 rfl (lv_room (Nat.le_of_ble_eq_true rfl)) dX4_meet_108 ⟨Nat.le_of_ble_eq_true rfl, Nat.le_of_ble_eq_true rfl⟩) (fun r51 μ52 H locs h hw => ?_)
            obtain ⟨e53, h⟩ := h
            rw [e53] at hw
            refine lv_iload hx hb dX4_meet_111 (lv_at hl 1 rfl) ?_
            refine T_calli hw (va_runU (own := "Leastreader$Meeting") (As := [.int r51, .int v11]) (rest := []) ⟨hx, hb, hml, hown, ht⟩ (c_X7_at_5 k2 hk2 μ15 H.size r51 v11 h) (va_cwU (owner := "Leastreader$Table") 2 ht (G_U q_805 q_452 q_453 q_416 q_47 q_417) rfl rfl rfl rfl hd_0 ⟨Nat.le_of_ble_eq_true rfl, Nat.le_of_ble_eq_true rfl⟩) ⟨TB.blind, (T_recv hK hw (kd_of hk2 (by decide)) (ent_5 hk2) cl_5), TB.pre hK hN hw⟩ rfl rfl hl.1 rfl (lv_room (Nat.le_of_ble_eq_true rfl)) dX4_meet_113 ⟨Nat.le_of_ble_eq_true rfl, Nat.le_of_ble_eq_true rfl⟩) (fun r54 μ55 H locs h hw => ?_)
            obtain ⟨e56, h⟩ := h
            rw [e56] at hw
            refine lv_istore (lv' := [(8, .int r54), (7, .int r48), (6, .int v11), (5, .int v12), (0, .ref (ad 35)), (1, .ref (ad k1)), (2, .ref (ad k2)), (3, .int v13), (4, .int v14)]) hx hb dX4_meet_116 hl (by decide) rfl (fun ls hl => ?_)
            refine lv_aload_n hx hb dX4_meet_118 rfl (lv_at hl 4 rfl) ?_
            refine gf_X4_32 hx hb ht hown hK hw rfl dX4_meet_119 ?_
            refine W.eq (g2 := F0 m 122 ls [.ref (ad 46)]) rfl ?_
            refine lv_iload hx hb dX4_meet_122 (lv_at hl 1 rfl) ?_
            refine lv_bipush (v := (32 : Int32)) hx hb dX4_meet_124 (by decide) ?_
            refine lv_imul hx hb dX4_meet_126 ?_
            refine lv_iload hx hb dX4_meet_127 (lv_at hl 0 rfl) ?_
            refine lv_iadd hx hb dX4_meet_129 ?_
            refine T_calli hw (va_runV (own := "Leastreader$Meeting") (As := [.int ((r48 * (32 : Int32)) + r54)]) (rest := []) ⟨hx, hb, hml, hown, ht⟩ (c_X6_at 46 rfl μ15 H.size ((r48 * (32 : Int32)) + r54) h) (cwV 1 ht (G_V q_803 q_399 q_400 q_51 q_401) rfl rfl rfl ⟨rfl, hd_8⟩ ⟨Nat.le_of_ble_eq_true rfl, Nat.le_of_ble_eq_true rfl⟩) ⟨TB.blind, (T_recv hK hw (kd_of rfl (by decide)) (ent_6 rfl) cl_6), TB.pre hK hN hw⟩ rfl rfl hl.1 rfl (lv_room (Nat.le_of_ble_eq_true rfl)) dX4_meet_130 ⟨Nat.le_of_ble_eq_true rfl, Nat.le_of_ble_eq_true rfl⟩) (fun r57 μ58 H locs h hw => ?_)
            obtain ⟨e59, h⟩ := h
            rw [e59] at hw
            refine lv_iconst (v := (-1 : Int32)) hx hb dX4_meet_133 (by decide) ?_
            refine lv_icmp_ne (tgt := 159) hx hb dX4_meet_134 (by decide) (fun c60 => ?_) (fun c60 => ?_)
            · have h := h.1 c60
              refine lv_aload_n hx hb dX4_meet_159 rfl (lv_at hl 4 rfl) ?_
              refine gf_X4_29 hx hb ht hown hK hw rfl dX4_meet_160 ?_
              refine W.eq (g2 := F0 m 163 ls [.ref (ad 44)]) rfl ?_
              refine lv_iload hx hb dX4_meet_163 (lv_at hl 3 rfl) ?_
              refine lv_iconst (v := (3 : Int32)) hx hb dX4_meet_165 (by decide) ?_
              refine lv_imul hx hb dX4_meet_166 ?_
              refine lv_iload hx hb dX4_meet_167 (lv_at hl 2 rfl) ?_
              refine lv_iadd hx hb dX4_meet_169 ?_
              refine lv_aload_n hx hb dX4_meet_170 rfl (lv_at hl 4 rfl) ?_
              refine gf_X4_32 hx hb ht hown hK hw rfl dX4_meet_171 ?_
              refine W.eq (g2 := F0 m 174 ls [.ref (ad 46), .int ((v12 * (3 : Int32)) + v11), .ref (ad 44)]) rfl ?_
              refine lv_iload hx hb dX4_meet_174 (lv_at hl 1 rfl) ?_
              refine lv_bipush (v := (32 : Int32)) hx hb dX4_meet_176 (by decide) ?_
              refine lv_imul hx hb dX4_meet_178 ?_
              refine lv_iload hx hb dX4_meet_179 (lv_at hl 0 rfl) ?_
              refine lv_iadd hx hb dX4_meet_181 ?_
              refine T_calli hw (va_runV (own := "Leastreader$Meeting") (As := [.int ((r48 * (32 : Int32)) + r54)]) (rest := [.int ((v12 * (3 : Int32)) + v11), .ref (ad 44)]) ⟨hx, hb, hml, hown, ht⟩ (c_X6_at 46 rfl μ15 H.size ((r48 * (32 : Int32)) + r54) h) (cwV 1 ht (G_V q_803 q_399 q_400 q_51 q_401) rfl rfl rfl ⟨rfl, hd_8⟩ ⟨Nat.le_of_ble_eq_true rfl, Nat.le_of_ble_eq_true rfl⟩) ⟨TB.blind, (T_recv hK hw (kd_of rfl (by decide)) (ent_6 rfl) cl_6), TB.pre hK hN hw⟩ rfl rfl hl.1 rfl (lv_room (Nat.le_of_ble_eq_true rfl)) dX4_meet_182 ⟨Nat.le_of_ble_eq_true rfl, Nat.le_of_ble_eq_true rfl⟩) (fun r61 μ62 H locs h hw => ?_)
              obtain ⟨e63, h⟩ := h
              rw [e63] at hw
              refine T_callv hw (va_runV (own := "Leastreader$Meeting") (As := [.int ((v12 * (3 : Int32)) + v11), .int r61]) (rest := []) ⟨hx, hb, hml, hown, ht⟩ (c_X6_put 44 rfl μ15 H.size ((v12 * (3 : Int32)) + v11) r61 h) (cwV 2 ht (G_V q_798 q_395 q_396 q_51 q_397) rfl rfl rfl ⟨rfl, hd_7⟩ ⟨Nat.le_of_ble_eq_true rfl, Nat.le_of_ble_eq_true rfl⟩) ⟨TB.blind, (T_recv hK hw (kd_of rfl (by decide)) (ent_6 rfl) cl_6), TB.pre hK hN hw⟩ rfl rfl hl.1 rfl (lv_room (Nat.le_of_ble_eq_true rfl)) dX4_meet_185 ⟨Nat.le_of_ble_eq_true rfl, Nat.le_of_ble_eq_true rfl⟩) (fun μ64 H locs h hw => ?_)
              refine lv_iinc (v := (v11 + (1 : Int32))) (lv' := [(6, .int (v11 + (1 : Int32))), (8, .int r54), (7, .int r48), (5, .int v12), (0, .ref (ad 35)), (1, .ref (ad k1)), (2, .ref (ad k2)), (3, .int v13), (4, .int v14)]) hx hb dX4_meet_188 hl (k := 2) rfl rfl (by decide) rfl (fun ls hl => ?_)
              refine lv_goto (tgt := 63) hx hb dX4_meet_191 (by decide) ?_
              exact ih9 (v11 + (1 : Int32)) μ64 H locs ls hw (lv_sub hl [0, 3, 4, 5, 6, 7, 8] rfl) h
            have h := h.2 c60
            refine lv_aload_n hx hb dX4_meet_137 rfl (lv_at hl 4 rfl) ?_
            refine gf_X4_50 hx hb ht hown hK hw rfl dX4_meet_138 ?_
            refine lv_iload_n hx hb dX4_meet_141 rfl (lv_at hl 7 rfl) ?_
            refine lv_icmp_lt (tgt := 147) hx hb dX4_meet_142 (by decide) (fun c65 => ?_) (fun c65 => ?_)
            · have h := h.1 c65
              refine lv_aload_n hx hb dX4_meet_147 rfl (lv_at hl 4 rfl) ?_
              refine lv_iload hx hb dX4_meet_148 (lv_at hl 1 rfl) ?_
              refine lv_iload hx hb dX4_meet_150 (lv_at hl 0 rfl) ?_
              refine lv_iload hx hb dX4_meet_152 (lv_at hl 3 rfl) ?_
              refine lv_iload hx hb dX4_meet_154 (lv_at hl 2 rfl) ?_
              refine T_callv hw (va_runV (own := "Leastreader$Meeting") (As := [.int r48, .int r54, .int v12, .int v11]) (rest := []) ⟨hx, hb, hml, hown, ht⟩ (c_X4_add μ15 H.size r48 r54 v12 v11 h) (cwV 4 ht (G_V q_794 q_796 q_20 q_54 q_797) rfl rfl rfl ⟨rfl, hd_14⟩ ⟨Nat.le_of_ble_eq_true rfl, Nat.le_of_ble_eq_true rfl⟩) ⟨TB.blind, (T_recv hK hw (kd_of rfl (by decide)) (ent_4 rfl) cl_4), TB.pre hK hN hw⟩ rfl rfl hl.1 rfl (lv_room (Nat.le_of_ble_eq_true rfl)) dX4_meet_156 ⟨Nat.le_of_ble_eq_true rfl, Nat.le_of_ble_eq_true rfl⟩) (fun μ66 H locs h hw => ?_)
              refine lv_aload_n hx hb dX4_meet_159 rfl (lv_at hl 4 rfl) ?_
              refine gf_X4_29 hx hb ht hown hK hw rfl dX4_meet_160 ?_
              refine W.eq (g2 := F0 m 163 ls [.ref (ad 44)]) rfl ?_
              refine lv_iload hx hb dX4_meet_163 (lv_at hl 3 rfl) ?_
              refine lv_iconst (v := (3 : Int32)) hx hb dX4_meet_165 (by decide) ?_
              refine lv_imul hx hb dX4_meet_166 ?_
              refine lv_iload hx hb dX4_meet_167 (lv_at hl 2 rfl) ?_
              refine lv_iadd hx hb dX4_meet_169 ?_
              refine lv_aload_n hx hb dX4_meet_170 rfl (lv_at hl 4 rfl) ?_
              refine gf_X4_32 hx hb ht hown hK hw rfl dX4_meet_171 ?_
              refine W.eq (g2 := F0 m 174 ls [.ref (ad 46), .int ((v12 * (3 : Int32)) + v11), .ref (ad 44)]) rfl ?_
              refine lv_iload hx hb dX4_meet_174 (lv_at hl 1 rfl) ?_
              refine lv_bipush (v := (32 : Int32)) hx hb dX4_meet_176 (by decide) ?_
              refine lv_imul hx hb dX4_meet_178 ?_
              refine lv_iload hx hb dX4_meet_179 (lv_at hl 0 rfl) ?_
              refine lv_iadd hx hb dX4_meet_181 ?_
              refine T_calli hw (va_runV (own := "Leastreader$Meeting") (As := [.int ((r48 * (32 : Int32)) + r54)]) (rest := [.int ((v12 * (3 : Int32)) + v11), .ref (ad 44)]) ⟨hx, hb, hml, hown, ht⟩ (c_X6_at 46 rfl μ66 H.size ((r48 * (32 : Int32)) + r54) h) (cwV 1 ht (G_V q_803 q_399 q_400 q_51 q_401) rfl rfl rfl ⟨rfl, hd_8⟩ ⟨Nat.le_of_ble_eq_true rfl, Nat.le_of_ble_eq_true rfl⟩) ⟨TB.blind, (T_recv hK hw (kd_of rfl (by decide)) (ent_6 rfl) cl_6), TB.pre hK hN hw⟩ rfl rfl hl.1 rfl (lv_room (Nat.le_of_ble_eq_true rfl)) dX4_meet_182 ⟨Nat.le_of_ble_eq_true rfl, Nat.le_of_ble_eq_true rfl⟩) (fun r67 μ68 H locs h hw => ?_)
              obtain ⟨e69, h⟩ := h
              rw [e69] at hw
              refine T_callv hw (va_runV (own := "Leastreader$Meeting") (As := [.int ((v12 * (3 : Int32)) + v11), .int r67]) (rest := []) ⟨hx, hb, hml, hown, ht⟩ (c_X6_put 44 rfl μ66 H.size ((v12 * (3 : Int32)) + v11) r67 h) (cwV 2 ht (G_V q_798 q_395 q_396 q_51 q_397) rfl rfl rfl ⟨rfl, hd_7⟩ ⟨Nat.le_of_ble_eq_true rfl, Nat.le_of_ble_eq_true rfl⟩) ⟨TB.blind, (T_recv hK hw (kd_of rfl (by decide)) (ent_6 rfl) cl_6), TB.pre hK hN hw⟩ rfl rfl hl.1 rfl (lv_room (Nat.le_of_ble_eq_true rfl)) dX4_meet_185 ⟨Nat.le_of_ble_eq_true rfl, Nat.le_of_ble_eq_true rfl⟩) (fun μ70 H locs h hw => ?_)
              refine lv_iinc (v := (v11 + (1 : Int32))) (lv' := [(6, .int (v11 + (1 : Int32))), (8, .int r54), (7, .int r48), (5, .int v12), (0, .ref (ad 35)), (1, .ref (ad k1)), (2, .ref (ad k2)), (3, .int v13), (4, .int v14)]) hx hb dX4_meet_188 hl (k := 2) rfl rfl (by decide) rfl (fun ls hl => ?_)
              refine lv_goto (tgt := 63) hx hb dX4_meet_191 (by decide) ?_
              exact ih9 (v11 + (1 : Int32)) μ70 H locs ls hw (lv_sub hl [0, 3, 4, 5, 6, 7, 8] rfl) h
            have h := h.2 c65
            refine lv_iconst (v := (0 : Int32)) hx hb dX4_meet_145 (by decide) ?_
            exact hret H locs ls 146 _ _ hw h rfl dX4_meet_146
          have h := h.2 c44
          refine lv_iconst (v := (1 : Int32)) hx hb dX4_meet_82 (by decide) ?_
          exact hret H locs ls 83 _ _ hw h rfl dX4_meet_83
      refine L9 v4 v5 v6 _ ?_ n71 (0 : Int32) μ7 H locs ls hw (lv_sub hl [0, 1, 2, 3, 4, 5, 6] rfl) h
      intro μ72 H locs ls hw hl h
      refine lv_iinc (v := (v4 + (1 : Int32))) (lv' := [(5, .int (v4 + (1 : Int32))), (0, .ref (ad 35)), (1, .ref (ad k1)), (2, .ref (ad k2)), (3, .int v5), (4, .int v6)]) hx hb dX4_meet_194 hl (k := 0) rfl rfl (by decide) rfl (fun ls hl => ?_)
      refine lv_goto (tgt := 45) hx hb dX4_meet_197 (by decide) ?_
      exact ih2 (v4 + (1 : Int32)) μ72 H locs ls hw (lv_sub hl [0, 1, 2, 3, 4, 5] rfl) h
  exact L2 a3 a4 n73 (0 : Int32) μ2 H locs ls hw (lv_sub hl [0, 1, 2, 3, 4, 5] rfl) h
def wp_X9_meetPairs (k1 : Nat) (k2 : Nat) (μ : TMem) (a3 : Int32) (a4 : Int32) (Q : Int32 → TMem → Prop) : Prop :=
  wp_X3_makeOneWay k1 51 μ (fun (r2 : Int32) (μ1 : TMem) => (r2 = 0 → (Q (0 : Int32) μ1)) ∧ (¬ r2 = 0 → (wp_X3_makeOneWay k2 53 μ1 (fun (r5 : Int32) (μ4 : TMem) => (r5 = 0 → (Q (0 : Int32) μ4)) ∧ (¬ r5 = 0 → (wp_X4_meet 51 53 μ4 a3 a4 (fun (r8 : Int32) (μ7 : TMem) => (r8 = 0 → (Q (0 : Int32) μ7)) ∧ (¬ r8 = 0 → (Q (1 : Int32) μ7)))))))))
set_option maxHeartbeats 4000000 in
set_option maxRecDepth 100000 in
theorem c_X9_meetPairs {l : Launch} {D : va_G} {ad : Nat → Nat} {cI cM : ClassId} (k1 : Nat) (hk1 : kd k1 = 2) (k2 : Nat) (hk2 : kd k2 = 2) (μ : TMem) (sz : Nat) (a3 : Int32) (a4 : Int32) {Q : Int32 → TMem → Prop} (h : wp_X9_meetPairs k1 k2 μ a3 a4 Q) : TMi l yX9_meetPairs (.code yX9_meetPairs cX9_meetPairs 5 (Option.some Jvm.ClassFile.FieldType.boolean)) 4 [.ref (ad 0), .ref (ad k1), .ref (ad k2), .int a3, .int a4] D ad cI cM sz μ Q := by
  refine T_meti (by decide +kernel) (Nat.le_of_ble_eq_true rfl) ?_
  intro p e s m below meth c Z ls hx hb hml hown ht hN hK hw hret hl
  have hl : lv_has ls 5 [(0, .ref (ad 0)), (1, .ref (ad k1)), (2, .ref (ad k2)), (3, .int a3), (4, .int a4)] := hl
  generalize s.heap = H at hw ⊢
  generalize ([] : List Loc) = locs at hw ⊢
  change wp_X3_makeOneWay k1 51 μ (fun (r2 : Int32) (μ1 : TMem) => (r2 = 0 → (Q (0 : Int32) μ1)) ∧ (¬ r2 = 0 → (wp_X3_makeOneWay k2 53 μ1 (fun (r5 : Int32) (μ4 : TMem) => (r5 = 0 → (Q (0 : Int32) μ4)) ∧ (¬ r5 = 0 → (wp_X4_meet 51 53 μ4 a3 a4 (fun (r8 : Int32) (μ7 : TMem) => (r8 = 0 → (Q (0 : Int32) μ7)) ∧ (¬ r8 = 0 → (Q (1 : Int32) μ7))))))))) at h
  refine lv_aload_n hx hb dX9_meetPairs_0 rfl (lv_at hl 0 rfl) ?_
  refine gf_X9_35 hx hb ht hown hK hw rfl dX9_meetPairs_1 ?_
  refine lv_aload_n hx hb dX9_meetPairs_4 rfl (lv_at hl 1 rfl) ?_
  refine lv_aload_n hx hb dX9_meetPairs_5 rfl (lv_at hl 0 rfl) ?_
  refine gf_X9_56 hx hb ht hown hK hw rfl dX9_meetPairs_6 ?_
  refine T_calli hw (va_runV (own := "Leastreader") (As := [.ref (ad k1), .ref (ad 51)]) (rest := []) ⟨hx, hb, hml, hown, ht⟩ (c_X3_makeOneWay k1 hk1 51 rfl μ H.size h) (cwV 2 ht (G_V q_788 q_391 q_392 q_50 q_393) rfl rfl rfl ⟨rfl, hd_15⟩ ⟨Nat.le_of_ble_eq_true rfl, Nat.le_of_ble_eq_true rfl⟩) ⟨TB.blind, (T_recv hK hw (kd_of rfl (by decide)) (ent_3 rfl) cl_3), TB.pre hK hN hw⟩ rfl rfl hl.1 rfl (lv_room (Nat.le_of_ble_eq_true rfl)) dX9_meetPairs_9 ⟨Nat.le_of_ble_eq_true rfl, Nat.le_of_ble_eq_true rfl⟩) (fun r2 μ1 H locs h hw => ?_)
  refine lv_if_eq (tgt := 55) hx hb dX9_meetPairs_12 (by decide) (fun c3 => ?_) (fun c3 => ?_)
  · have h := h.1 c3
    refine lv_iconst (v := (0 : Int32)) hx hb dX9_meetPairs_55 (by decide) ?_
    exact hret H locs ls 56 _ _ hw h rfl dX9_meetPairs_56
  have h := h.2 c3
  refine lv_aload_n hx hb dX9_meetPairs_15 rfl (lv_at hl 0 rfl) ?_
  refine gf_X9_35 hx hb ht hown hK hw rfl dX9_meetPairs_16 ?_
  refine lv_aload_n hx hb dX9_meetPairs_19 rfl (lv_at hl 2 rfl) ?_
  refine lv_aload_n hx hb dX9_meetPairs_20 rfl (lv_at hl 0 rfl) ?_
  refine gf_X9_60 hx hb ht hown hK hw rfl dX9_meetPairs_21 ?_
  refine T_calli hw (va_runV (own := "Leastreader") (As := [.ref (ad k2), .ref (ad 53)]) (rest := []) ⟨hx, hb, hml, hown, ht⟩ (c_X3_makeOneWay k2 hk2 53 rfl μ1 H.size h) (cwV 2 ht (G_V q_788 q_391 q_392 q_50 q_393) rfl rfl rfl ⟨rfl, hd_15⟩ ⟨Nat.le_of_ble_eq_true rfl, Nat.le_of_ble_eq_true rfl⟩) ⟨TB.blind, (T_recv hK hw (kd_of rfl (by decide)) (ent_3 rfl) cl_3), TB.pre hK hN hw⟩ rfl rfl hl.1 rfl (lv_room (Nat.le_of_ble_eq_true rfl)) dX9_meetPairs_24 ⟨Nat.le_of_ble_eq_true rfl, Nat.le_of_ble_eq_true rfl⟩) (fun r5 μ4 H locs h hw => ?_)
  refine lv_if_eq (tgt := 55) hx hb dX9_meetPairs_27 (by decide) (fun c6 => ?_) (fun c6 => ?_)
  · have h := h.1 c6
    refine lv_iconst (v := (0 : Int32)) hx hb dX9_meetPairs_55 (by decide) ?_
    exact hret H locs ls 56 _ _ hw h rfl dX9_meetPairs_56
  have h := h.2 c6
  refine lv_aload_n hx hb dX9_meetPairs_30 rfl (lv_at hl 0 rfl) ?_
  refine gf_X9_42 hx hb ht hown hK hw rfl dX9_meetPairs_31 ?_
  refine lv_aload_n hx hb dX9_meetPairs_34 rfl (lv_at hl 0 rfl) ?_
  refine gf_X9_56 hx hb ht hown hK hw rfl dX9_meetPairs_35 ?_
  refine lv_aload_n hx hb dX9_meetPairs_38 rfl (lv_at hl 0 rfl) ?_
  refine gf_X9_60 hx hb ht hown hK hw rfl dX9_meetPairs_39 ?_
  refine lv_iload_n hx hb dX9_meetPairs_42 rfl (lv_at hl 3 rfl) ?_
  refine lv_iload hx hb dX9_meetPairs_43 (lv_at hl 4 rfl) ?_
  refine T_calli hw (va_runV (own := "Leastreader") (As := [.ref (ad 51), .ref (ad 53), .int a3, .int a4]) (rest := []) ⟨hx, hb, hml, hown, ht⟩ (c_X4_meet 51 rfl 53 rfl μ4 H.size a3 a4 h) (cwV 4 ht (G_V q_789 q_790 q_791 q_54 q_792) rfl rfl rfl ⟨rfl, hd_16⟩ ⟨Nat.le_of_ble_eq_true rfl, Nat.le_of_ble_eq_true rfl⟩) ⟨TB.blind, (T_recv hK hw (kd_of rfl (by decide)) (ent_4 rfl) cl_4), TB.pre hK hN hw⟩ rfl rfl hl.1 rfl (lv_room (Nat.le_of_ble_eq_true rfl)) dX9_meetPairs_45 ⟨Nat.le_of_ble_eq_true rfl, Nat.le_of_ble_eq_true rfl⟩) (fun r8 μ7 H locs h hw => ?_)
  refine lv_if_eq (tgt := 55) hx hb dX9_meetPairs_48 (by decide) (fun c9 => ?_) (fun c9 => ?_)
  · have h := h.1 c9
    refine lv_iconst (v := (0 : Int32)) hx hb dX9_meetPairs_55 (by decide) ?_
    exact hret H locs ls 56 _ _ hw h rfl dX9_meetPairs_56
  have h := h.2 c9
  refine lv_iconst (v := (1 : Int32)) hx hb dX9_meetPairs_51 (by decide) ?_
  refine lv_goto (tgt := 56) hx hb dX9_meetPairs_52 (by decide) ?_
  exact hret H locs ls 56 _ _ hw h rfl dX9_meetPairs_56
def wp_X4_target (μ : TMem) (a1 : Int32) (a2 : Int32) (Q : Int32 → Prop) : Prop :=
  wp_X6_at 44 μ ((a1 * (3 : Int32)) + a2) (fun (r1 : Int32) => Q r1)
set_option maxHeartbeats 4000000 in
set_option maxRecDepth 100000 in
theorem c_X4_target {l : Launch} {D : va_G} {ad : Nat → Nat} {cI cM : ClassId}  (μ : TMem) (sz : Nat) (a1 : Int32) (a2 : Int32) {Q : Int32 → Prop} (h : wp_X4_target μ a1 a2 Q) : TMi l yX4_target (.code yX4_target cX4_target 3 (Option.some Jvm.ClassFile.FieldType.int)) 1 [.ref (ad 35), .int a1, .int a2] D ad cI cM sz μ (fun r μ1 => μ1 = μ ∧ Q r) := by
  refine T_meti (by decide +kernel) (Nat.le_of_ble_eq_true rfl) ?_
  intro p e s m below meth c Z ls hx hb hml hown ht hN hK hw hret hl
  have hl : lv_has ls 3 [(0, .ref (ad 35)), (1, .int a1), (2, .int a2)] := hl
  generalize s.heap = H at hw ⊢
  generalize ([] : List Loc) = locs at hw ⊢
  change wp_X6_at 44 μ ((a1 * (3 : Int32)) + a2) (fun (r1 : Int32) => Q r1) at h
  refine lv_aload_n hx hb dX4_target_0 rfl (lv_at hl 0 rfl) ?_
  refine gf_X4_29 hx hb ht hown hK hw rfl dX4_target_1 ?_
  refine W.eq (g2 := F0 m 4 ls [.ref (ad 44)]) rfl ?_
  refine lv_iload_n hx hb dX4_target_4 rfl (lv_at hl 1 rfl) ?_
  refine lv_iconst (v := (3 : Int32)) hx hb dX4_target_5 (by decide) ?_
  refine lv_imul hx hb dX4_target_6 ?_
  refine lv_iload_n hx hb dX4_target_7 rfl (lv_at hl 2 rfl) ?_
  refine lv_iadd hx hb dX4_target_8 ?_
  refine T_calli hw (va_runV (own := "Leastreader$Meeting") (As := [.int ((a1 * (3 : Int32)) + a2)]) (rest := []) ⟨hx, hb, hml, hown, ht⟩ (c_X6_at 44 rfl μ H.size ((a1 * (3 : Int32)) + a2) h) (cwV 1 ht (G_V q_803 q_399 q_400 q_51 q_401) rfl rfl rfl ⟨rfl, hd_8⟩ ⟨Nat.le_of_ble_eq_true rfl, Nat.le_of_ble_eq_true rfl⟩) ⟨TB.blind, (T_recv hK hw (kd_of rfl (by decide)) (ent_6 rfl) cl_6), TB.pre hK hN hw⟩ rfl rfl hl.1 rfl (lv_room (Nat.le_of_ble_eq_true rfl)) dX4_target_9 ⟨Nat.le_of_ble_eq_true rfl, Nat.le_of_ble_eq_true rfl⟩) (fun r1 μ2 H locs h hw => ?_)
  obtain ⟨e3, h⟩ := h
  rw [e3] at hw
  exact hret H locs ls 12 _ _ hw ⟨rfl, h⟩ rfl dX4_target_12
