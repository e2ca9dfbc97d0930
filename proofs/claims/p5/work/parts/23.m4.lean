def wpl_X5_becomePairs_44 (k0 : Nat) (v12 : Int32) (v13 : Int32) (K70 : TMem → Prop) : Nat → Int32 → TMem → Prop
  | 0, _, _ => False
  | n + 1, v11, μ14 =>
    ((3 : Int32) ≤ v11 → (K70 μ14)) ∧ (¬ (3 : Int32) ≤ v11 → (wp_X4_target μ14 v12 v11 (fun (r16 : Int32) => wp_X7_put k0 μ14 v12 v11 r16 (fun (μ19 : TMem) => wpl_X5_becomePairs_44 k0 v12 v13 K70 n (v11 + (1 : Int32)) μ19))))
def wpl_X5_becomePairs_15 (k0 : Nat) (v3 : Int32) (Q : TMem → Prop) : Nat → Int32 → TMem → Prop
  | 0, _, _ => False
  | n + 1, v2, μ4 =>
    ((μ4 k0 1) ≤ v2 → (Q μ4)) ∧ (¬ (μ4 k0 1) ≤ v2 → (wp_X4_isGoal μ4 v2 v3 (fun (r6 : Int32) => wp_X9_withOrWithout (μ4 k0 2) v2 r6 (fun (r9 : Int32) => ∃ n9x, wpl_X5_becomePairs_44 k0 v2 v3 (fun (μ21 : TMem) => wpl_X5_becomePairs_15 k0 v3 Q n (v2 + (1 : Int32)) μ21) n9x (0 : Int32) (tms μ4 k0 2 r9)))))
def wp_X5_becomePairs (k0 : Nat) (μ : TMem) (a2 : Int32) (Q : TMem → Prop) : Prop :=
  ∃ n0x, wpl_X5_becomePairs_15 k0 a2 Q n0x (0 : Int32) (tms (tms μ k0 1 (μ 35 8)) k0 2 (0 : Int32))
set_option maxHeartbeats 4000000 in
set_option maxRecDepth 100000 in
theorem c_X5_becomePairs {l : Launch} {D : va_G} {ad : Nat → Nat} {cI cM : ClassId} (k0 : Nat) (hk0 : kd k0 = 5) (μ : TMem) (sz : Nat) (a2 : Int32) {Q : TMem → Prop} (h : wp_X5_becomePairs k0 μ a2 Q) : TMv l yX5_becomePairs (.code yX5_becomePairs cX5_becomePairs 5 (Option.none : Option Jvm.ClassFile.FieldType)) 2 [.ref (ad k0), .ref (ad 35), .int a2] D ad cI cM sz μ Q := by
  refine T_metv (by decide +kernel) (Nat.le_of_ble_eq_true rfl) ?_
  intro p e s m below meth c Z ls hx hb hml hown ht hN hK hw hret hl
  have hl : lv_has ls 5 [(0, .ref (ad k0)), (1, .ref (ad 35)), (2, .int a2)] := hl
  generalize s.heap = H at hw ⊢
  generalize ([] : List Loc) = locs at hw ⊢
  change ∃ n0x, wpl_X5_becomePairs_15 k0 a2 Q n0x (0 : Int32) (tms (tms μ k0 1 (μ 35 8)) k0 2 (0 : Int32)) at h
  refine lv_aload_n hx hb dX5_becomePairs_0 rfl (lv_at hl 0 rfl) ?_
  refine lv_aload_n hx hb dX5_becomePairs_1 rfl (lv_at hl 1 rfl) ?_
  refine gf_X5_23 hx hb ht hN hown hK hw rfl dX5_becomePairs_2 ?_
  refine pgf_X5_28 hx hb ht hown hK hw hk0 dX5_becomePairs_5 (fun H locs hw => ?_)
  refine lv_aload_n hx hb dX5_becomePairs_8 rfl (lv_at hl 0 rfl) ?_
  refine lv_iconst (v := (0 : Int32)) hx hb dX5_becomePairs_9 (by decide) ?_
  refine pgf_X5_9 hx hb ht hown hK hw hk0 dX5_becomePairs_10 (fun H locs hw => ?_)
  refine lv_iconst (v := (0 : Int32)) hx hb dX5_becomePairs_13 (by decide) ?_
  refine lv_istore_n (lv' := [(3, .int (0 : Int32)), (0, .ref (ad k0)), (1, .ref (ad 35)), (2, .int a2)]) hx hb dX5_becomePairs_14 rfl hl (by decide) rfl (fun ls hl => ?_)
  obtain ⟨n22, h⟩ := h
  have L0 : ∀ (v3 : Int32), ∀ (n : Nat) (v2 : Int32) (μ4 : TMem) (H : Heap) (locs : List Loc) (ls : Array Slot), TW D ad cI cM s μ4 H locs → lv_has ls 5 [(3, .int v2), (0, .ref (ad k0)), (1, .ref (ad 35)), (2, .int v3)] → wpl_X5_becomePairs_15 k0 v3 Q n v2 μ4 → W p l e (RM 2) s m #[.ref (ad k0), .ref (ad 35), .int a2] below meth c H locs 0 0 Z (F0 m 15 ls []) := by
    intro v3
    intro n
    induction n with
    | zero => intro v2 μ4 H locs ls hw hl h; exact False.elim h
    | succ n ih0 =>
      intro v2 μ4 H locs ls hw hl h
      change ((μ4 k0 1) ≤ v2 → (Q μ4)) ∧ (¬ (μ4 k0 1) ≤ v2 → (wp_X4_isGoal μ4 v2 v3 (fun (r6 : Int32) => wp_X9_withOrWithout (μ4 k0 2) v2 r6 (fun (r9 : Int32) => ∃ n9x, wpl_X5_becomePairs_44 k0 v2 v3 (fun (μ21 : TMem) => wpl_X5_becomePairs_15 k0 v3 Q n (v2 + (1 : Int32)) μ21) n9x (0 : Int32) (tms μ4 k0 2 r9))))) at h
      refine lv_iload_n hx hb dX5_becomePairs_15 rfl (lv_at hl 0 rfl) ?_
      refine lv_aload_n hx hb dX5_becomePairs_16 rfl (lv_at hl 1 rfl) ?_
      refine gf_X5_28 hx hb ht hown hK hw hk0 dX5_becomePairs_17 ?_
      refine lv_icmp_ge (tgt := 76) hx hb dX5_becomePairs_20 (by decide) (fun c5 => ?_) (fun c5 => ?_)
      · have h := h.1 c5
        exact hret H locs ls 76 _ hw h dX5_becomePairs_76
      have h := h.2 c5
      refine lv_aload_n hx hb dX5_becomePairs_23 rfl (lv_at hl 1 rfl) ?_
      refine lv_aload_n hx hb dX5_becomePairs_24 rfl (lv_at hl 1 rfl) ?_
      refine gf_X5_9 hx hb ht hown hK hw hk0 dX5_becomePairs_25 ?_
      refine lv_iload_n hx hb dX5_becomePairs_28 rfl (lv_at hl 0 rfl) ?_
      refine lv_aload_n hx hb dX5_becomePairs_29 rfl (lv_at hl 2 rfl) ?_
      refine lv_iload_n hx hb dX5_becomePairs_30 rfl (lv_at hl 0 rfl) ?_
      refine lv_iload_n hx hb dX5_becomePairs_31 rfl (lv_at hl 3 rfl) ?_
      refine T_calli hw (va_runV (own := "Leastreader$Plain") (As := [.int v2, .int v3]) (rest := [.int v2, .int (μ4 k0 2), .ref (ad k0)]) ⟨hx, hb, hml, hown, ht⟩ (c_X4_isGoal μ4 H.size v2 v3 h) (cwV 2 ht (G_V q_810 q_800 q_801 q_54 q_802) rfl rfl rfl ⟨rfl, hd_12⟩ ⟨Nat.le_of_ble_eq_true rfl, Nat.le_of_ble_eq_true rfl⟩) ⟨TB.blind, (T_recv hK hw (kd_of rfl (by decide)) (ent_4 rfl) cl_4), TB.pre hK hN hw⟩ rfl rfl hl.1 rfl (lv_room (Nat.le_of_ble_eq_true rfl)) dX5_becomePairs_32 ⟨Nat.le_of_ble_eq_true rfl, Nat.le_of_ble_eq_true rfl⟩) (fun r6 μ7 H locs h hw => ?_)
      obtain ⟨e8, h⟩ := h
      rw [e8] at hw
      refine P_calli (va_runSN (own := "Leastreader$Plain") (As := [.int (μ4 k0 2), .int v2, .int r6]) (rest := [.ref (ad k0)]) ⟨hx, hb, hml, hown, ht⟩ (c_X9_withOrWithout (μ4 k0 2) v2 r6 h) ⟨va_cnB 3 ht (G_ws q_404) rfl rfl rfl (nw_811 hN) (ht _ q_46) hd_9 ⟨Nat.le_of_ble_eq_true rfl, Nat.le_of_ble_eq_true rfl⟩, ht _ q_403, trivial⟩ ⟨PM_blind, PM_pre⟩ rfl rfl hl.1 rfl (lv_room (Nat.le_of_ble_eq_true rfl)) dX5_becomePairs_35 ⟨Nat.le_of_ble_eq_true rfl, Nat.le_of_ble_eq_true rfl⟩) (fun r9 h => ?_)
      refine pgf_X5_9 hx hb ht hown hK hw hk0 dX5_becomePairs_38 (fun H locs hw => ?_)
      refine lv_iconst (v := (0 : Int32)) hx hb dX5_becomePairs_41 (by decide) ?_
      refine lv_istore (lv' := [(4, .int (0 : Int32)), (3, .int v2), (0, .ref (ad k0)), (1, .ref (ad 35)), (2, .int v3)]) hx hb dX5_becomePairs_42 hl (by decide) rfl (fun ls hl => ?_)
      obtain ⟨n20, h⟩ := h
      have L9 : ∀ (v12 : Int32) (v13 : Int32) (K70 : TMem → Prop), (∀ (μ14 : TMem) (H : Heap) (locs : List Loc) (ls : Array Slot), TW D ad cI cM s μ14 H locs → lv_has ls 5 [(3, .int v12), (0, .ref (ad k0)), (1, .ref (ad 35)), (2, .int v13)] → K70 μ14 → W p l e (RM 2) s m #[.ref (ad k0), .ref (ad 35), .int a2] below meth c H locs 0 0 Z (F0 m 70 ls [])) → ∀ (n : Nat) (v11 : Int32) (μ14 : TMem) (H : Heap) (locs : List Loc) (ls : Array Slot), TW D ad cI cM s μ14 H locs → lv_has ls 5 [(4, .int v11), (3, .int v12), (0, .ref (ad k0)), (1, .ref (ad 35)), (2, .int v13)] → wpl_X5_becomePairs_44 k0 v12 v13 K70 n v11 μ14 → W p l e (RM 2) s m #[.ref (ad k0), .ref (ad 35), .int a2] below meth c H locs 0 0 Z (F0 m 44 ls []) := by
        intro v12 v13 K70 hK70
        intro n
        induction n with
        | zero => intro v11 μ14 H locs ls hw hl h; exact False.elim h
        | succ n ih9 =>
          intro v11 μ14 H locs ls hw hl h
          change ((3 : Int32) ≤ v11 → (K70 μ14)) ∧ (¬ (3 : Int32) ≤ v11 → (wp_X4_target μ14 v12 v11 (fun (r16 : Int32) => wp_X7_put k0 μ14 v12 v11 r16 (fun (μ19 : TMem) => wpl_X5_becomePairs_44 k0 v12 v13 K70 n (v11 + (1 : Int32)) μ19)))) at h
          refine lv_iload hx hb dX5_becomePairs_44 (lv_at hl 0 rfl) ?_
          refine lv_iconst (v := (3 : Int32)) hx hb dX5_becomePairs_46 (by decide) ?_
          refine lv_icmp_ge (tgt := 70) hx hb dX5_becomePairs_47 (by decide) (fun c15 => ?_) (fun c15 => ?_)
          · have h := h.1 c15
            exact hK70 μ14 H locs ls hw (lv_sub hl [1, 2, 3, 4] rfl) h
          have h := h.2 c15
          refine lv_aload_n hx hb dX5_becomePairs_50 rfl (lv_at hl 2 rfl) ?_
          refine lv_iload_n hx hb dX5_becomePairs_51 rfl (lv_at hl 1 rfl) ?_
          refine lv_iload hx hb dX5_becomePairs_52 (lv_at hl 0 rfl) ?_
          refine lv_aload_n hx hb dX5_becomePairs_54 rfl (lv_at hl 3 rfl) ?_
          refine lv_iload_n hx hb dX5_becomePairs_55 rfl (lv_at hl 1 rfl) ?_
          refine lv_iload hx hb dX5_becomePairs_56 (lv_at hl 0 rfl) ?_
          refine T_calli hw (va_runV (own := "Leastreader$Plain") (As := [.int v12, .int v11]) (rest := [.int v11, .int v12, .ref (ad k0)]) ⟨hx, hb, hml, hown, ht⟩ (c_X4_target μ14 H.size v12 v11 h) (cwV 2 ht (G_V q_812 q_813 q_814 q_54 q_815) rfl rfl rfl ⟨rfl, hd_17⟩ ⟨Nat.le_of_ble_eq_true rfl, Nat.le_of_ble_eq_true rfl⟩) ⟨TB.blind, (T_recv hK hw (kd_of rfl (by decide)) (ent_4 rfl) cl_4), TB.pre hK hN hw⟩ rfl rfl hl.1 rfl (lv_room (Nat.le_of_ble_eq_true rfl)) dX5_becomePairs_58 ⟨Nat.le_of_ble_eq_true rfl, Nat.le_of_ble_eq_true rfl⟩) (fun r16 μ17 H locs h hw => ?_)
          obtain ⟨e18, h⟩ := h
          rw [e18] at hw
          refine T_callv hw (va_runU (own := "Leastreader$Plain") (As := [.int v12, .int v11, .int r16]) (rest := []) ⟨hx, hb, hml, hown, ht⟩ (c_X7_put_5 k0 hk0 μ14 H.size v12 v11 r16 h) (va_cwU (owner := "Leastreader$Table") 3 ht (G_U q_816 q_427 q_429 q_430 q_47 q_431) rfl rfl rfl rfl hd_1 ⟨Nat.le_of_ble_eq_true rfl, Nat.le_of_ble_eq_true rfl⟩) ⟨TB.blind, (T_recv hK hw (kd_of hk0 (by decide)) (ent_5 hk0) cl_5), TB.pre hK hN hw⟩ rfl rfl hl.1 rfl (lv_room (Nat.le_of_ble_eq_true rfl)) dX5_becomePairs_61 ⟨Nat.le_of_ble_eq_true rfl, Nat.le_of_ble_eq_true rfl⟩) (fun μ19 H locs h hw => ?_)
          refine lv_iinc (v := (v11 + (1 : Int32))) (lv' := [(4, .int (v11 + (1 : Int32))), (3, .int v12), (0, .ref (ad k0)), (1, .ref (ad 35)), (2, .int v13)]) hx hb dX5_becomePairs_64 hl (k := 0) rfl rfl (by decide) rfl (fun ls hl => ?_)
          refine lv_goto (tgt := 44) hx hb dX5_becomePairs_67 (by decide) ?_
          exact ih9 (v11 + (1 : Int32)) μ19 H locs ls hw (lv_sub hl [0, 1, 2, 3, 4] rfl) h
      refine L9 v2 v3 _ ?_ n20 (0 : Int32) (tms μ4 k0 2 r9) H locs ls hw (lv_sub hl [0, 1, 2, 3, 4] rfl) h
      intro μ21 H locs ls hw hl h
      refine lv_iinc (v := (v2 + (1 : Int32))) (lv' := [(3, .int (v2 + (1 : Int32))), (0, .ref (ad k0)), (1, .ref (ad 35)), (2, .int v3)]) hx hb dX5_becomePairs_70 hl (k := 0) rfl rfl (by decide) rfl (fun ls hl => ?_)
      refine lv_goto (tgt := 15) hx hb dX5_becomePairs_73 (by decide) ?_
      exact ih0 (v2 + (1 : Int32)) μ21 H locs ls hw (lv_sub hl [0, 1, 2, 3] rfl) h
  exact L0 a2 n22 (0 : Int32) (tms (tms μ k0 1 (μ 35 8)) k0 2 (0 : Int32)) H locs ls hw (lv_sub hl [0, 1, 2, 3] rfl) h
def wp_X5_isGoal (k0 : Nat) (μ : TMem) (a1 : Int32) (Q : Int32 → Prop) : Prop :=
  wp_X9_isIn (μ k0 2) a1 (fun (r1 : Int32) => isB r1 ∧ Q r1)
set_option maxHeartbeats 4000000 in
set_option maxRecDepth 100000 in
theorem c_X5_isGoal {l : Launch} {D : va_G} {ad : Nat → Nat} {cI cM : ClassId} (k0 : Nat) (hk0 : kd k0 = 5) (μ : TMem) (sz : Nat) (a1 : Int32) {Q : Int32 → Prop} (h : wp_X5_isGoal k0 μ a1 Q) : TMi l yX5_isGoal (.code yX5_isGoal cX5_isGoal 2 (Option.some Jvm.ClassFile.FieldType.boolean)) 1 [.ref (ad k0), .int a1] D ad cI cM sz μ (fun r μ1 => μ1 = μ ∧ Q r) := by
  refine T_meti (by decide +kernel) (Nat.le_of_ble_eq_true rfl) ?_
  intro p e s m below meth c Z ls hx hb hml hown ht hN hK hw hret hl
  have hl : lv_has ls 2 [(0, .ref (ad k0)), (1, .int a1)] := hl
  generalize s.heap = H at hw ⊢
  generalize ([] : List Loc) = locs at hw ⊢
  change wp_X9_isIn (μ k0 2) a1 (fun (r1 : Int32) => isB r1 ∧ Q r1) at h
  refine lv_aload_n hx hb dX5_isGoal_0 rfl (lv_at hl 0 rfl) ?_
  refine gf_X5_9 hx hb ht hown hK hw hk0 dX5_isGoal_1 ?_
  refine lv_iload_n hx hb dX5_isGoal_4 rfl (lv_at hl 1 rfl) ?_
  refine P_calli (va_runSN (own := "Leastreader$Plain") (As := [.int (μ k0 2), .int a1]) (rest := []) ⟨hx, hb, hml, hown, ht⟩ (c_X9_isIn (μ k0 2) a1 h) ⟨va_cnB 2 ht (G_ws q_411) rfl rfl rfl (nw_465 hN) (ht _ q_46) hd_5 ⟨Nat.le_of_ble_eq_true rfl, Nat.le_of_ble_eq_true rfl⟩, ht _ q_410, trivial⟩ ⟨PM_blind, PM_pre⟩ rfl rfl hl.1 rfl (lv_room (Nat.le_of_ble_eq_true rfl)) dX5_isGoal_5 ⟨Nat.le_of_ble_eq_true rfl, Nat.le_of_ble_eq_true rfl⟩) (fun r1 h => ?_)
  obtain ⟨z2, h⟩ := h
  exact hret H locs ls 8 _ _ hw ⟨rfl, h⟩ (isB_n z2) dX5_isGoal_8
def wpl_X1_firstOfGoalness_2 (k0 : Nat) (μ : TMem) (v3 : Int32) (Q : Int32 → Prop) : Nat → Int32 → Prop
  | 0, _ => False
  | n + 1, v2 =>
    (v3 ≤ v2 → (Q v3)) ∧ (¬ v3 ≤ v2 → (wp_X5_isGoal k0 μ v2 (fun (r5 : Int32) => wp_X5_isGoal k0 μ v3 (fun (r8 : Int32) => (¬ r5 = r8 → (wpl_X1_firstOfGoalness_2 k0 μ v3 Q n (v2 + (1 : Int32)))) ∧ (r5 = r8 → (Q v2))))))
def wp_X1_firstOfGoalness (k0 : Nat) (μ : TMem) (a1 : Int32) (Q : Int32 → Prop) : Prop :=
  ∃ n0x, wpl_X1_firstOfGoalness_2 k0 μ a1 Q n0x (0 : Int32)
set_option maxHeartbeats 4000000 in
set_option maxRecDepth 100000 in
theorem c_X1_firstOfGoalness {l : Launch} {D : va_G} {ad : Nat → Nat} {cI cM : ClassId} (k0 : Nat) (hk0 : kd k0 = 5) (μ : TMem) (sz : Nat) (a1 : Int32) {Q : Int32 → Prop} (h : wp_X1_firstOfGoalness k0 μ a1 Q) : TMi l yX1_firstOfGoalness (.code yX1_firstOfGoalness cX1_firstOfGoalness 3 (Option.some Jvm.ClassFile.FieldType.int)) 2 [.ref (ad k0), .int a1] D ad cI cM sz μ (fun r μ1 => μ1 = μ ∧ Q r) := by
  refine T_meti (by decide +kernel) (Nat.le_of_ble_eq_true rfl) ?_
  intro p e s m below meth c Z ls hx hb hml hown ht hN hK hw hret hl
  have hl : lv_has ls 3 [(0, .ref (ad k0)), (1, .int a1)] := hl
  generalize s.heap = H at hw ⊢
  generalize ([] : List Loc) = locs at hw ⊢
  change ∃ n0x, wpl_X1_firstOfGoalness_2 k0 μ a1 Q n0x (0 : Int32) at h
  refine lv_iconst (v := (0 : Int32)) hx hb dX1_firstOfGoalness_0 (by decide) ?_
  refine lv_istore_n (lv' := [(2, .int (0 : Int32)), (0, .ref (ad k0)), (1, .int a1)]) hx hb dX1_firstOfGoalness_1 rfl hl (by decide) rfl (fun ls hl => ?_)
  obtain ⟨n12, h⟩ := h
  have L0 : ∀ (v3 : Int32), ∀ (n : Nat) (v2 : Int32) (H : Heap) (locs : List Loc) (ls : Array Slot), TW D ad cI cM s μ H locs → lv_has ls 3 [(2, .int v2), (0, .ref (ad k0)), (1, .int v3)] → wpl_X1_firstOfGoalness_2 k0 μ v3 Q n v2 → W p l e (RM 2) s m #[.ref (ad k0), .int a1] below meth c H locs 0 0 Z (F0 m 2 ls []) := by
    intro v3
    intro n
    induction n with
    | zero => intro v2 H locs ls hw hl h; exact False.elim h
    | succ n ih0 =>
      intro v2 H locs ls hw hl h
      change (v3 ≤ v2 → (Q v3)) ∧ (¬ v3 ≤ v2 → (wp_X5_isGoal k0 μ v2 (fun (r5 : Int32) => wp_X5_isGoal k0 μ v3 (fun (r8 : Int32) => (¬ r5 = r8 → (wpl_X1_firstOfGoalness_2 k0 μ v3 Q n (v2 + (1 : Int32)))) ∧ (r5 = r8 → (Q v2)))))) at h
      refine lv_iload_n hx hb dX1_firstOfGoalness_2 rfl (lv_at hl 0 rfl) ?_
      refine lv_iload_n hx hb dX1_firstOfGoalness_3 rfl (lv_at hl 2 rfl) ?_
      refine lv_icmp_ge (tgt := 28) hx hb dX1_firstOfGoalness_4 (by decide) (fun c4 => ?_) (fun c4 => ?_)
      · have h := h.1 c4
        refine lv_iload_n hx hb dX1_firstOfGoalness_28 rfl (lv_at hl 2 rfl) ?_
        exact hret H locs ls 29 _ _ hw ⟨rfl, h⟩ rfl dX1_firstOfGoalness_29
      have h := h.2 c4
      refine lv_aload_n hx hb dX1_firstOfGoalness_7 rfl (lv_at hl 1 rfl) ?_
      refine lv_iload_n hx hb dX1_firstOfGoalness_8 rfl (lv_at hl 0 rfl) ?_
      refine T_calli hw (va_runV (own := "Leastreader$Likeness") (As := [.int v2]) (rest := []) ⟨hx, hb, hml, hown, ht⟩ (c_X5_isGoal k0 hk0 μ H.size v2 h) (cwV 1 ht (G_V q_461 q_462 q_463 q_53 q_464) rfl rfl rfl ⟨rfl, hd_18⟩ ⟨Nat.le_of_ble_eq_true rfl, Nat.le_of_ble_eq_true rfl⟩) ⟨TB.blind, (T_recv hK hw (kd_of hk0 (by decide)) (ent_5 hk0) cl_5), TB.pre hK hN hw⟩ rfl rfl hl.1 rfl (lv_room (Nat.le_of_ble_eq_true rfl)) dX1_firstOfGoalness_9 ⟨Nat.le_of_ble_eq_true rfl, Nat.le_of_ble_eq_true rfl⟩) (fun r5 μ6 H locs h hw => ?_)
      obtain ⟨e7, h⟩ := h
      rw [e7] at hw
      refine lv_aload_n hx hb dX1_firstOfGoalness_12 rfl (lv_at hl 1 rfl) ?_
      refine lv_iload_n hx hb dX1_firstOfGoalness_13 rfl (lv_at hl 2 rfl) ?_
      refine T_calli hw (va_runV (own := "Leastreader$Likeness") (As := [.int v3]) (rest := [.int r5]) ⟨hx, hb, hml, hown, ht⟩ (c_X5_isGoal k0 hk0 μ H.size v3 h) (cwV 1 ht (G_V q_461 q_462 q_463 q_53 q_464) rfl rfl rfl ⟨rfl, hd_18⟩ ⟨Nat.le_of_ble_eq_true rfl, Nat.le_of_ble_eq_true rfl⟩) ⟨TB.blind, (T_recv hK hw (kd_of hk0 (by decide)) (ent_5 hk0) cl_5), TB.pre hK hN hw⟩ rfl rfl hl.1 rfl (lv_room (Nat.le_of_ble_eq_true rfl)) dX1_firstOfGoalness_14 ⟨Nat.le_of_ble_eq_true rfl, Nat.le_of_ble_eq_true rfl⟩) (fun r8 μ9 H locs h hw => ?_)
      obtain ⟨e10, h⟩ := h
      rw [e10] at hw
      refine lv_icmp_ne (tgt := 22) hx hb dX1_firstOfGoalness_17 (by decide) (fun c11 => ?_) (fun c11 => ?_)
      · have h := h.1 c11
        refine lv_iinc (v := (v2 + (1 : Int32))) (lv' := [(2, .int (v2 + (1 : Int32))), (0, .ref (ad k0)), (1, .int v3)]) hx hb dX1_firstOfGoalness_22 hl (k := 0) rfl rfl (by decide) rfl (fun ls hl => ?_)
        refine lv_goto (tgt := 2) hx hb dX1_firstOfGoalness_25 (by decide) ?_
        exact ih0 (v2 + (1 : Int32)) H locs ls hw (lv_sub hl [0, 1, 2] rfl) h
      have h := h.2 c11
      refine lv_iload_n hx hb dX1_firstOfGoalness_20 rfl (lv_at hl 0 rfl) ?_
      exact hret H locs ls 21 _ _ hw ⟨rfl, h⟩ rfl dX1_firstOfGoalness_21
  exact L0 a1 n12 (0 : Int32) H locs ls hw (lv_sub hl [0, 1, 2] rfl) h
def wpl_X1_codeOf_12 (k1 : Nat) (μ : TMem) (v7 : Int32) (Q : Int32 → Prop) : Nat → Int32 → Int32 → Prop
  | 0, _, _ => False
  | n + 1, v5, v6 =>
    ((3 : Int32) ≤ v5 → (Q v6)) ∧ (¬ (3 : Int32) ≤ v5 → (wp_X7_at k1 μ v7 v5 (fun (r9 : Int32) => wp_X6_at 23 μ r9 (fun (r12 : Int32) => wpl_X1_codeOf_12 k1 μ v7 Q n (v5 + (1 : Int32)) ((v6 * (32 : Int32)) + r12)))))
def wp_X1_codeOf (k1 : Nat) (μ : TMem) (a2 : Int32) (Q : Int32 → Prop) : Prop :=
  wp_X6_at 23 μ a2 (fun (r1 : Int32) => ∃ n3x, wpl_X1_codeOf_12 k1 μ a2 Q n3x (0 : Int32) r1)
set_option maxHeartbeats 4000000 in
set_option maxRecDepth 100000 in
theorem c_X1_codeOf {l : Launch} {D : va_G} {ad : Nat → Nat} {cI cM : ClassId} (k1 : Nat) (hk1 : kd k1 = 5) (μ : TMem) (sz : Nat) (a2 : Int32) {Q : Int32 → Prop} (h : wp_X1_codeOf k1 μ a2 Q) : TMi l yX1_codeOf (.code yX1_codeOf cX1_codeOf 5 (Option.some Jvm.ClassFile.FieldType.int)) 1 [.ref (ad 22), .ref (ad k1), .int a2] D ad cI cM sz μ (fun r μ1 => μ1 = μ ∧ Q r) := by
  refine T_meti (by decide +kernel) (Nat.le_of_ble_eq_true rfl) ?_
  intro p e s m below meth c Z ls hx hb hml hown ht hN hK hw hret hl
  have hl : lv_has ls 5 [(0, .ref (ad 22)), (1, .ref (ad k1)), (2, .int a2)] := hl
  generalize s.heap = H at hw ⊢
  generalize ([] : List Loc) = locs at hw ⊢
  change wp_X6_at 23 μ a2 (fun (r1 : Int32) => ∃ n3x, wpl_X1_codeOf_12 k1 μ a2 Q n3x (0 : Int32) r1) at h
  refine lv_aload_n hx hb dX1_codeOf_0 rfl (lv_at hl 0 rfl) ?_
  refine gf_X1_14 hx hb ht hown hK hw rfl dX1_codeOf_1 ?_
  refine W.eq (g2 := F0 m 4 ls [.ref (ad 23)]) rfl ?_
  refine lv_iload_n hx hb dX1_codeOf_4 rfl (lv_at hl 2 rfl) ?_
  refine T_calli hw (va_runV (own := "Leastreader$Likeness") (As := [.int a2]) (rest := []) ⟨hx, hb, hml, hown, ht⟩ (c_X6_at 23 rfl μ H.size a2 h) (cwV 1 ht (G_V q_471 q_399 q_400 q_51 q_401) rfl rfl rfl ⟨rfl, hd_8⟩ ⟨Nat.le_of_ble_eq_true rfl, Nat.le_of_ble_eq_true rfl⟩) ⟨TB.blind, (T_recv hK hw (kd_of rfl (by decide)) (ent_6 rfl) cl_6), TB.pre hK hN hw⟩ rfl rfl hl.1 rfl (lv_room (Nat.le_of_ble_eq_true rfl)) dX1_codeOf_5 ⟨Nat.le_of_ble_eq_true rfl, Nat.le_of_ble_eq_true rfl⟩) (fun r1 μ2 H locs h hw => ?_)
  obtain ⟨e3, h⟩ := h
  rw [e3] at hw
  refine lv_istore_n (lv' := [(3, .int r1), (0, .ref (ad 22)), (1, .ref (ad k1)), (2, .int a2)]) hx hb dX1_codeOf_8 rfl hl (by decide) rfl (fun ls hl => ?_)
  refine lv_iconst (v := (0 : Int32)) hx hb dX1_codeOf_9 (by decide) ?_
  refine lv_istore (lv' := [(4, .int (0 : Int32)), (3, .int r1), (0, .ref (ad 22)), (1, .ref (ad k1)), (2, .int a2)]) hx hb dX1_codeOf_10 hl (by decide) rfl (fun ls hl => ?_)
  obtain ⟨n15, h⟩ := h
  have L3 : ∀ (v7 : Int32), ∀ (n : Nat) (v5 : Int32) (v6 : Int32) (H : Heap) (locs : List Loc) (ls : Array Slot), TW D ad cI cM s μ H locs → lv_has ls 5 [(4, .int v5), (3, .int v6), (0, .ref (ad 22)), (1, .ref (ad k1)), (2, .int v7)] → wpl_X1_codeOf_12 k1 μ v7 Q n v5 v6 → W p l e (RM 1) s m #[.ref (ad 22), .ref (ad k1), .int a2] below meth c H locs 0 0 Z (F0 m 12 ls []) := by
    intro v7
    intro n
    induction n with
    | zero => intro v5 v6 H locs ls hw hl h; exact False.elim h
    | succ n ih3 =>
      intro v5 v6 H locs ls hw hl h
      change ((3 : Int32) ≤ v5 → (Q v6)) ∧ (¬ (3 : Int32) ≤ v5 → (wp_X7_at k1 μ v7 v5 (fun (r9 : Int32) => wp_X6_at 23 μ r9 (fun (r12 : Int32) => wpl_X1_codeOf_12 k1 μ v7 Q n (v5 + (1 : Int32)) ((v6 * (32 : Int32)) + r12))))) at h
      refine lv_iload hx hb dX1_codeOf_12 (lv_at hl 0 rfl) ?_
      refine lv_iconst (v := (3 : Int32)) hx hb dX1_codeOf_14 (by decide) ?_
      refine lv_icmp_ge (tgt := 44) hx hb dX1_codeOf_15 (by decide) (fun c8 => ?_) (fun c8 => ?_)
      · have h := h.1 c8
        refine lv_iload_n hx hb dX1_codeOf_44 rfl (lv_at hl 1 rfl) ?_
        exact hret H locs ls 45 _ _ hw ⟨rfl, h⟩ rfl dX1_codeOf_45
      have h := h.2 c8
      refine lv_iload_n hx hb dX1_codeOf_18 rfl (lv_at hl 1 rfl) ?_
      refine lv_bipush (v := (32 : Int32)) hx hb dX1_codeOf_19 (by decide) ?_
      refine lv_imul hx hb dX1_codeOf_21 ?_
      refine lv_aload_n hx hb dX1_codeOf_22 rfl (lv_at hl 2 rfl) ?_
      refine gf_X1_14 hx hb ht hown hK hw rfl dX1_codeOf_23 ?_
      refine W.eq (g2 := F0 m 26 ls [.ref (ad 23), .int (v6 * (32 : Int32))]) rfl ?_
      refine lv_aload_n hx hb dX1_codeOf_26 rfl (lv_at hl 3 rfl) ?_
      refine lv_iload_n hx hb dX1_codeOf_27 rfl (lv_at hl 4 rfl) ?_
      refine lv_iload hx hb dX1_codeOf_28 (lv_at hl 0 rfl) ?_
      refine T_calli hw (va_runU (own := "Leastreader$Likeness") (As := [.int v7, .int v5]) (rest := [.ref (ad 23), .int (v6 * (32 : Int32))]) ⟨hx, hb, hml, hown, ht⟩ (c_X7_at_5 k1 hk1 μ H.size v7 v5 h) (va_cwU (owner := "Leastreader$Table") 2 ht (G_U q_477 q_452 q_453 q_416 q_47 q_417) rfl rfl rfl rfl hd_0 ⟨Nat.le_of_ble_eq_true rfl, Nat.le_of_ble_eq_true rfl⟩) ⟨TB.blind, (T_recv hK hw (kd_of hk1 (by decide)) (ent_5 hk1) cl_5), TB.pre hK hN hw⟩ rfl rfl hl.1 rfl (lv_room (Nat.le_of_ble_eq_true rfl)) dX1_codeOf_30 ⟨Nat.le_of_ble_eq_true rfl, Nat.le_of_ble_eq_true rfl⟩) (fun r9 μ10 H locs h hw => ?_)
      obtain ⟨e11, h⟩ := h
      rw [e11] at hw
      refine T_calli hw (va_runV (own := "Leastreader$Likeness") (As := [.int r9]) (rest := [.int (v6 * (32 : Int32))]) ⟨hx, hb, hml, hown, ht⟩ (c_X6_at 23 rfl μ H.size r9 h) (cwV 1 ht (G_V q_471 q_399 q_400 q_51 q_401) rfl rfl rfl ⟨rfl, hd_8⟩ ⟨Nat.le_of_ble_eq_true rfl, Nat.le_of_ble_eq_true rfl⟩) ⟨TB.blind, (T_recv hK hw (kd_of rfl (by decide)) (ent_6 rfl) cl_6), TB.pre hK hN hw⟩ rfl rfl hl.1 rfl (lv_room (Nat.le_of_ble_eq_true rfl)) dX1_codeOf_33 ⟨Nat.le_of_ble_eq_true rfl, Nat.le_of_ble_eq_true rfl⟩) (fun r12 μ13 H locs h hw => ?_)
      obtain ⟨e14, h⟩ := h
      rw [e14] at hw
      refine lv_iadd hx hb dX1_codeOf_36 ?_
      refine lv_istore_n (lv' := [(3, .int ((v6 * (32 : Int32)) + r12)), (4, .int v5), (0, .ref (ad 22)), (1, .ref (ad k1)), (2, .int v7)]) hx hb dX1_codeOf_37 rfl hl (by decide) rfl (fun ls hl => ?_)
      refine lv_iinc (v := (v5 + (1 : Int32))) (lv' := [(4, .int (v5 + (1 : Int32))), (3, .int ((v6 * (32 : Int32)) + r12)), (0, .ref (ad 22)), (1, .ref (ad k1)), (2, .int v7)]) hx hb dX1_codeOf_38 hl (k := 1) rfl rfl (by decide) rfl (fun ls hl => ?_)
      refine lv_goto (tgt := 12) hx hb dX1_codeOf_41 (by decide) ?_
      exact ih3 (v5 + (1 : Int32)) ((v6 * (32 : Int32)) + r12) H locs ls hw (lv_sub hl [0, 1, 2, 3, 4] rfl) h
  exact L3 a2 n15 (0 : Int32) r1 H locs ls hw (lv_sub hl [0, 1, 2, 3, 4] rfl) h
def wpl_X1_partOnce_2 (k1 : Nat) (K30 : TMem → Prop) : Nat → Int32 → TMem → Prop
  | 0, _, _ => False
  | n + 1, v2, μ3 =>
    ((μ3 k1 1) ≤ v2 → (K30 μ3)) ∧ (¬ (μ3 k1 1) ≤ v2 → (wp_X1_codeOf k1 μ3 v2 (fun (r5 : Int32) => wp_X6_put 25 μ3 v2 r5 (fun (μ8 : TMem) => wpl_X1_partOnce_2 k1 K30 n (v2 + (1 : Int32)) μ8))))
def wpl_X1_partOnce_34 (k1 : Nat) (Q : Int32 → TMem → Prop) : Nat → Int32 → Int32 → TMem → Prop
  | 0, _, _, _ => False
  | n + 1, v12, v13, μ14 =>
    ((μ14 k1 1) ≤ v12 → (isB v13 ∧ Q v13 μ14)) ∧ (¬ (μ14 k1 1) ≤ v12 → (wp_X6_at 25 μ14 v12 (fun (r17 : Int32) => wp_X6_find 25 μ14 r17 (μ14 k1 1) (fun (r20 : Int32) => wp_X6_at 23 μ14 v12 (fun (r23 : Int32) => ∀ J26 : Int32 → Prop, (∀ (j27 : Int32), (wp_X6_put 23 μ14 v12 r20 (fun (μ28 : TMem) => wpl_X1_partOnce_34 k1 Q n (v12 + (1 : Int32)) (v13 ||| j27) μ28)) → J26 j27) → ((r20 = r23 → (J26 (0 : Int32))) ∧ (¬ r20 = r23 → (J26 (1 : Int32)))))))))
def wp_X1_partOnce (k1 : Nat) (μ : TMem) (Q : Int32 → TMem → Prop) : Prop :=
  ∃ n0x, wpl_X1_partOnce_2 k1 (fun (μ10 : TMem) => ∃ n10x, wpl_X1_partOnce_34 k1 Q n10x (0 : Int32) (0 : Int32) μ10) n0x (0 : Int32) μ
set_option maxHeartbeats 4000000 in
set_option maxRecDepth 100000 in
theorem c_X1_partOnce {l : Launch} {D : va_G} {ad : Nat → Nat} {cI cM : ClassId} (k1 : Nat) (hk1 : kd k1 = 5) (μ : TMem) (sz : Nat)  {Q : Int32 → TMem → Prop} (h : wp_X1_partOnce k1 μ Q) : TMi l yX1_partOnce (.code yX1_partOnce cX1_partOnce 5 (Option.some Jvm.ClassFile.FieldType.boolean)) 2 [.ref (ad 22), .ref (ad k1)] D ad cI cM sz μ Q := by
  refine T_meti (by decide +kernel) (Nat.le_of_ble_eq_true rfl) ?_
  intro p e s m below meth c Z ls hx hb hml hown ht hN hK hw hret hl
  have hl : lv_has ls 5 [(0, .ref (ad 22)), (1, .ref (ad k1))] := hl
  generalize s.heap = H at hw ⊢
  generalize ([] : List Loc) = locs at hw ⊢
  change ∃ n0x, wpl_X1_partOnce_2 k1 (fun (μ10 : TMem) => ∃ n10x, wpl_X1_partOnce_34 k1 Q n10x (0 : Int32) (0 : Int32) μ10) n0x (0 : Int32) μ at h
  refine lv_iconst (v := (0 : Int32)) hx hb dX1_partOnce_0 (by decide) ?_
  refine lv_istore_n (lv' := [(2, .int (0 : Int32)), (0, .ref (ad 22)), (1, .ref (ad k1))]) hx hb dX1_partOnce_1 rfl hl (by decide) rfl (fun ls hl => ?_)
  obtain ⟨n9, h⟩ := h
  have L0 : ∀ (K30 : TMem → Prop), (∀ (μ3 : TMem) (H : Heap) (locs : List Loc) (ls : Array Slot), TW D ad cI cM s μ3 H locs → lv_has ls 5 [(0, .ref (ad 22)), (1, .ref (ad k1))] → K30 μ3 → W p l e (RM 2) s m #[.ref (ad 22), .ref (ad k1)] below meth c H locs 0 0 Z (F0 m 30 ls [])) → ∀ (n : Nat) (v2 : Int32) (μ3 : TMem) (H : Heap) (locs : List Loc) (ls : Array Slot), TW D ad cI cM s μ3 H locs → lv_has ls 5 [(2, .int v2), (0, .ref (ad 22)), (1, .ref (ad k1))] → wpl_X1_partOnce_2 k1 K30 n v2 μ3 → W p l e (RM 2) s m #[.ref (ad 22), .ref (ad k1)] below meth c H locs 0 0 Z (F0 m 2 ls []) := by
    intro K30 hK30
    intro n
    induction n with
    | zero => intro v2 μ3 H locs ls hw hl h; exact False.elim h
    | succ n ih0 =>
      intro v2 μ3 H locs ls hw hl h
      change ((μ3 k1 1) ≤ v2 → (K30 μ3)) ∧ (¬ (μ3 k1 1) ≤ v2 → (wp_X1_codeOf k1 μ3 v2 (fun (r5 : Int32) => wp_X6_put 25 μ3 v2 r5 (fun (μ8 : TMem) => wpl_X1_partOnce_2 k1 K30 n (v2 + (1 : Int32)) μ8)))) at h
      refine lv_iload_n hx hb dX1_partOnce_2 rfl (lv_at hl 0 rfl) ?_
      refine lv_aload_n hx hb dX1_partOnce_3 rfl (lv_at hl 2 rfl) ?_
      refine gf_X1_30 hx hb ht hown hK hw hk1 dX1_partOnce_4 ?_
      refine lv_icmp_ge (tgt := 30) hx hb dX1_partOnce_7 (by decide) (fun c4 => ?_) (fun c4 => ?_)
      · have h := h.1 c4
        exact hK30 μ3 H locs ls hw (lv_sub hl [1, 2] rfl) h
      have h := h.2 c4
      refine lv_aload_n hx hb dX1_partOnce_10 rfl (lv_at hl 1 rfl) ?_
      refine gf_X1_20 hx hb ht hown hK hw rfl dX1_partOnce_11 ?_
      refine W.eq (g2 := F0 m 14 ls [.ref (ad 25)]) rfl ?_
      refine lv_iload_n hx hb dX1_partOnce_14 rfl (lv_at hl 0 rfl) ?_
      refine lv_aload_n hx hb dX1_partOnce_15 rfl (lv_at hl 1 rfl) ?_
      refine lv_aload_n hx hb dX1_partOnce_16 rfl (lv_at hl 2 rfl) ?_
      refine lv_iload_n hx hb dX1_partOnce_17 rfl (lv_at hl 0 rfl) ?_
      refine T_calli hw (va_runV (own := "Leastreader$Likeness") (As := [.ref (ad k1), .int v2]) (rest := [.int v2, .ref (ad 25)]) ⟨hx, hb, hml, hown, ht⟩ (c_X1_codeOf k1 hk1 μ3 H.size v2 h) (cwV 2 ht (G_V q_493 q_495 q_9 q_52 q_496) rfl rfl rfl ⟨rfl, hd_19⟩ ⟨Nat.le_of_ble_eq_true rfl, Nat.le_of_ble_eq_true rfl⟩) ⟨TB.blind, (T_recv hK hw (kd_of rfl (by decide)) (ent_1 rfl) cl_1), TB.pre hK hN hw⟩ rfl rfl hl.1 rfl (lv_room (Nat.le_of_ble_eq_true rfl)) dX1_partOnce_18 ⟨Nat.le_of_ble_eq_true rfl, Nat.le_of_ble_eq_true rfl⟩) (fun r5 μ6 H locs h hw => ?_)
      obtain ⟨e7, h⟩ := h
      rw [e7] at hw
      refine T_callv hw (va_runV (own := "Leastreader$Likeness") (As := [.int v2, .int r5]) (rest := []) ⟨hx, hb, hml, hown, ht⟩ (c_X6_put 25 rfl μ3 H.size v2 r5 h) (cwV 2 ht (G_V q_466 q_395 q_396 q_51 q_397) rfl rfl rfl ⟨rfl, hd_7⟩ ⟨Nat.le_of_ble_eq_true rfl, Nat.le_of_ble_eq_true rfl⟩) ⟨TB.blind, (T_recv hK hw (kd_of rfl (by decide)) (ent_6 rfl) cl_6), TB.pre hK hN hw⟩ rfl rfl hl.1 rfl (lv_room (Nat.le_of_ble_eq_true rfl)) dX1_partOnce_21 ⟨Nat.le_of_ble_eq_true rfl, Nat.le_of_ble_eq_true rfl⟩) (fun μ8 H locs h hw => ?_)
      refine lv_iinc (v := (v2 + (1 : Int32))) (lv' := [(2, .int (v2 + (1 : Int32))), (0, .ref (ad 22)), (1, .ref (ad k1))]) hx hb dX1_partOnce_24 hl (k := 0) rfl rfl (by decide) rfl (fun ls hl => ?_)
      refine lv_goto (tgt := 2) hx hb dX1_partOnce_27 (by decide) ?_
      exact ih0 (v2 + (1 : Int32)) μ8 H locs ls hw (lv_sub hl [0, 1, 2] rfl) h
  refine L0 _ ?_ n9 (0 : Int32) μ H locs ls hw (lv_sub hl [0, 1, 2] rfl) h
  intro μ10 H locs ls hw hl h
  refine lv_iconst (v := (0 : Int32)) hx hb dX1_partOnce_30 (by decide) ?_
  refine lv_istore_n (lv' := [(2, .int (0 : Int32)), (0, .ref (ad 22)), (1, .ref (ad k1))]) hx hb dX1_partOnce_31 rfl hl (by decide) rfl (fun ls hl => ?_)
  refine lv_iconst (v := (0 : Int32)) hx hb dX1_partOnce_32 (by decide) ?_
  refine lv_istore_n (lv' := [(3, .int (0 : Int32)), (2, .int (0 : Int32)), (0, .ref (ad 22)), (1, .ref (ad k1))]) hx hb dX1_partOnce_33 rfl hl (by decide) rfl (fun ls hl => ?_)
  obtain ⟨n30, h⟩ := h
  have L10 : ∀ (n : Nat) (v12 : Int32) (v13 : Int32) (μ14 : TMem) (H : Heap) (locs : List Loc) (ls : Array Slot), TW D ad cI cM s μ14 H locs → lv_has ls 5 [(3, .int v12), (2, .int v13), (0, .ref (ad 22)), (1, .ref (ad k1))] → wpl_X1_partOnce_34 k1 Q n v12 v13 μ14 → W p l e (RM 2) s m #[.ref (ad 22), .ref (ad k1)] below meth c H locs 0 0 Z (F0 m 34 ls []) := by
    intro n
    induction n with
    | zero => intro v12 v13 μ14 H locs ls hw hl h; exact False.elim h
    | succ n ih10 =>
      intro v12 v13 μ14 H locs ls hw hl h
      change ((μ14 k1 1) ≤ v12 → (isB v13 ∧ Q v13 μ14)) ∧ (¬ (μ14 k1 1) ≤ v12 → (wp_X6_at 25 μ14 v12 (fun (r17 : Int32) => wp_X6_find 25 μ14 r17 (μ14 k1 1) (fun (r20 : Int32) => wp_X6_at 23 μ14 v12 (fun (r23 : Int32) => ∀ J26 : Int32 → Prop, (∀ (j27 : Int32), (wp_X6_put 23 μ14 v12 r20 (fun (μ28 : TMem) => wpl_X1_partOnce_34 k1 Q n (v12 + (1 : Int32)) (v13 ||| j27) μ28)) → J26 j27) → ((r20 = r23 → (J26 (0 : Int32))) ∧ (¬ r20 = r23 → (J26 (1 : Int32))))))))) at h
      refine lv_iload_n hx hb dX1_partOnce_34 rfl (lv_at hl 0 rfl) ?_
      refine lv_aload_n hx hb dX1_partOnce_35 rfl (lv_at hl 3 rfl) ?_
      refine gf_X1_30 hx hb ht hown hK hw hk1 dX1_partOnce_36 ?_
      refine lv_icmp_ge (tgt := 100) hx hb dX1_partOnce_39 (by decide) (fun c15 => ?_) (fun c15 => ?_)
      · have h := h.1 c15
        refine lv_iload_n hx hb dX1_partOnce_100 rfl (lv_at hl 1 rfl) ?_
        obtain ⟨z16, h⟩ := h
        exact hret H locs ls 101 _ _ hw h (isB_n z16) dX1_partOnce_101
      have h := h.2 c15
      refine lv_aload_n hx hb dX1_partOnce_42 rfl (lv_at hl 2 rfl) ?_
      refine gf_X1_20 hx hb ht hown hK hw rfl dX1_partOnce_43 ?_
      refine W.eq (g2 := F0 m 46 ls [.ref (ad 25)]) rfl ?_
      refine lv_aload_n hx hb dX1_partOnce_46 rfl (lv_at hl 2 rfl) ?_
      refine gf_X1_20 hx hb ht hown hK hw rfl dX1_partOnce_47 ?_
      refine W.eq (g2 := F0 m 50 ls [.ref (ad 25), .ref (ad 25)]) rfl ?_
      refine lv_iload_n hx hb dX1_partOnce_50 rfl (lv_at hl 0 rfl) ?_
      refine T_calli hw (va_runV (own := "Leastreader$Likeness") (As := [.int v12]) (rest := [.ref (ad 25)]) ⟨hx, hb, hml, hown, ht⟩ (c_X6_at 25 rfl μ14 H.size v12 h) (cwV 1 ht (G_V q_471 q_399 q_400 q_51 q_401) rfl rfl rfl ⟨rfl, hd_8⟩ ⟨Nat.le_of_ble_eq_true rfl, Nat.le_of_ble_eq_true rfl⟩) ⟨TB.blind, (T_recv hK hw (kd_of rfl (by decide)) (ent_6 rfl) cl_6), TB.pre hK hN hw⟩ rfl rfl hl.1 rfl (lv_room (Nat.le_of_ble_eq_true rfl)) dX1_partOnce_51 ⟨Nat.le_of_ble_eq_true rfl, Nat.le_of_ble_eq_true rfl⟩) (fun r17 μ18 H locs h hw => ?_)
      obtain ⟨e19, h⟩ := h
      rw [e19] at hw
      refine lv_aload_n hx hb dX1_partOnce_54 rfl (lv_at hl 3 rfl) ?_
      refine gf_X1_30 hx hb ht hown hK hw hk1 dX1_partOnce_55 ?_
      refine T_calli hw (va_runV (own := "Leastreader$Likeness") (As := [.int r17, .int (μ14 k1 1)]) (rest := []) ⟨hx, hb, hml, hown, ht⟩ (c_X6_find 25 rfl μ14 H.size r17 (μ14 k1 1) h) (cwV 2 ht (G_V q_497 q_423 q_424 q_51 q_425) rfl rfl rfl ⟨rfl, hd_6⟩ ⟨Nat.le_of_ble_eq_true rfl, Nat.le_of_ble_eq_true rfl⟩) ⟨TB.blind, (T_recv hK hw (kd_of rfl (by decide)) (ent_6 rfl) cl_6), TB.pre hK hN hw⟩ rfl rfl hl.1 rfl (lv_room (Nat.le_of_ble_eq_true rfl)) dX1_partOnce_58 ⟨Nat.le_of_ble_eq_true rfl, Nat.le_of_ble_eq_true rfl⟩) (fun r20 μ21 H locs h hw => ?_)
      obtain ⟨e22, h⟩ := h
      rw [e22] at hw
      refine lv_istore (lv' := [(4, .int r20), (3, .int v12), (2, .int v13), (0, .ref (ad 22)), (1, .ref (ad k1))]) hx hb dX1_partOnce_61 hl (by decide) rfl (fun ls hl => ?_)
      refine lv_iload_n hx hb dX1_partOnce_63 rfl (lv_at hl 2 rfl) ?_
      refine lv_iload hx hb dX1_partOnce_64 (lv_at hl 0 rfl) ?_
      refine lv_aload_n hx hb dX1_partOnce_66 rfl (lv_at hl 3 rfl) ?_
      refine gf_X1_14 hx hb ht hown hK hw rfl dX1_partOnce_67 ?_
      refine W.eq (g2 := F0 m 70 ls [.ref (ad 23), .int r20, .int v13]) rfl ?_
      refine lv_iload_n hx hb dX1_partOnce_70 rfl (lv_at hl 1 rfl) ?_
      refine T_calli hw (va_runV (own := "Leastreader$Likeness") (As := [.int v12]) (rest := [.int r20, .int v13]) ⟨hx, hb, hml, hown, ht⟩ (c_X6_at 23 rfl μ14 H.size v12 h) (cwV 1 ht (G_V q_471 q_399 q_400 q_51 q_401) rfl rfl rfl ⟨rfl, hd_8⟩ ⟨Nat.le_of_ble_eq_true rfl, Nat.le_of_ble_eq_true rfl⟩) ⟨TB.blind, (T_recv hK hw (kd_of rfl (by decide)) (ent_6 rfl) cl_6), TB.pre hK hN hw⟩ rfl rfl hl.1 rfl (lv_room (Nat.le_of_ble_eq_true rfl)) dX1_partOnce_71 ⟨Nat.le_of_ble_eq_true rfl, Nat.le_of_ble_eq_true rfl⟩) (fun r23 μ24 H locs h hw => ?_)
      obtain ⟨e25, h⟩ := h
      rw [e25] at hw
      have h := h (fun j27 => ∀ (H : Heap) (locs : List Loc) (ls : Array Slot), TW D ad cI cM s μ14 H locs → lv_has ls 5 [(4, .int r20), (3, .int v12), (0, .ref (ad 22)), (1, .ref (ad k1))] → W p l e (RM 2) s m #[.ref (ad 22), .ref (ad k1)] below meth c H locs 0 0 Z (F0 m 82 ls [.int j27, .int v13])) (fun j27 h H locs ls hw hl => by
        refine lv_ior hx hb dX1_partOnce_82 ?_
        refine lv_istore_n (lv' := [(2, .int (v13 ||| j27)), (4, .int r20), (3, .int v12), (0, .ref (ad 22)), (1, .ref (ad k1))]) hx hb dX1_partOnce_83 rfl hl (by decide) rfl (fun ls hl => ?_)
        refine lv_aload_n hx hb dX1_partOnce_84 rfl (lv_at hl 3 rfl) ?_
        refine gf_X1_14 hx hb ht hown hK hw rfl dX1_partOnce_85 ?_
        refine W.eq (g2 := F0 m 88 ls [.ref (ad 23)]) rfl ?_
        refine lv_iload_n hx hb dX1_partOnce_88 rfl (lv_at hl 2 rfl) ?_
        refine lv_iload hx hb dX1_partOnce_89 (lv_at hl 1 rfl) ?_
        refine T_callv hw (va_runV (own := "Leastreader$Likeness") (As := [.int v12, .int r20]) (rest := []) ⟨hx, hb, hml, hown, ht⟩ (c_X6_put 23 rfl μ14 H.size v12 r20 h) (cwV 2 ht (G_V q_466 q_395 q_396 q_51 q_397) rfl rfl rfl ⟨rfl, hd_7⟩ ⟨Nat.le_of_ble_eq_true rfl, Nat.le_of_ble_eq_true rfl⟩) ⟨TB.blind, (T_recv hK hw (kd_of rfl (by decide)) (ent_6 rfl) cl_6), TB.pre hK hN hw⟩ rfl rfl hl.1 rfl (lv_room (Nat.le_of_ble_eq_true rfl)) dX1_partOnce_91 ⟨Nat.le_of_ble_eq_true rfl, Nat.le_of_ble_eq_true rfl⟩) (fun μ28 H locs h hw => ?_)
        refine lv_iinc (v := (v12 + (1 : Int32))) (lv' := [(3, .int (v12 + (1 : Int32))), (2, .int (v13 ||| j27)), (4, .int r20), (0, .ref (ad 22)), (1, .ref (ad k1))]) hx hb dX1_partOnce_94 hl (k := 2) rfl rfl (by decide) rfl (fun ls hl => ?_)
        refine lv_goto (tgt := 34) hx hb dX1_partOnce_97 (by decide) ?_
        exact ih10 (v12 + (1 : Int32)) (v13 ||| j27) μ28 H locs ls hw (lv_sub hl [0, 1, 3, 4] rfl) h)
      refine lv_icmp_eq (tgt := 81) hx hb dX1_partOnce_74 (by decide) (fun c29 => ?_) (fun c29 => ?_)
      · have h := h.1 c29
        refine lv_iconst (v := (0 : Int32)) hx hb dX1_partOnce_81 (by decide) ?_
        exact h H locs ls hw (lv_sub hl [0, 1, 3, 4] rfl)
      have h := h.2 c29
      refine lv_iconst (v := (1 : Int32)) hx hb dX1_partOnce_77 (by decide) ?_
      refine lv_goto (tgt := 82) hx hb dX1_partOnce_78 (by decide) ?_
      exact h H locs ls hw (lv_sub hl [0, 1, 3, 4] rfl)
  exact L10 n30 (0 : Int32) (0 : Int32) μ10 H locs ls hw (lv_sub hl [0, 1, 2, 3] rfl) h
def wpl_X1_findByParting_2 (k1 : Nat) (K29 : TMem → Prop) : Nat → Int32 → TMem → Prop
  | 0, _, _ => False
  | n + 1, v2, μ3 =>
    ((μ3 k1 1) ≤ v2 → (K29 μ3)) ∧ (¬ (μ3 k1 1) ≤ v2 → (wp_X1_firstOfGoalness k1 μ3 v2 (fun (r5 : Int32) => wp_X6_put 23 μ3 v2 r5 (fun (μ8 : TMem) => wpl_X1_findByParting_2 k1 K29 n (v2 + (1 : Int32)) μ8))))
def wpl_X1_findByParting_33 (k1 : Nat) (Q : TMem → Prop) : Nat → Int32 → Int32 → TMem → Prop
  | 0, _, _, _ => False
  | n + 1, v12, v13, μ14 =>
    ((32 : Int32) ≤ v12 → (Q μ14)) ∧ (¬ (32 : Int32) ≤ v12 → ((v13 = 0 → (Q μ14)) ∧ (¬ v13 = 0 → (wp_X1_partOnce k1 μ14 (fun (r18 : Int32) (μ17 : TMem) => wpl_X1_findByParting_33 k1 Q n (v12 + (1 : Int32)) r18 μ17)))))
def wp_X1_findByParting (k1 : Nat) (μ : TMem) (Q : TMem → Prop) : Prop :=
  ∃ n0x, wpl_X1_findByParting_2 k1 (fun (μ10 : TMem) => ∃ n10x, wpl_X1_findByParting_33 k1 Q n10x (0 : Int32) (1 : Int32) μ10) n0x (0 : Int32) μ
set_option maxHeartbeats 4000000 in
set_option maxRecDepth 100000 in
theorem c_X1_findByParting {l : Launch} {D : va_G} {ad : Nat → Nat} {cI cM : ClassId} (k1 : Nat) (hk1 : kd k1 = 5) (μ : TMem) (sz : Nat)  {Q : TMem → Prop} (h : wp_X1_findByParting k1 μ Q) : TMv l yX1_findByParting (.code yX1_findByParting cX1_findByParting 4 (Option.none : Option Jvm.ClassFile.FieldType)) 3 [.ref (ad 22), .ref (ad k1)] D ad cI cM sz μ Q := by
  refine T_metv (by decide +kernel) (Nat.le_of_ble_eq_true rfl) ?_
  intro p e s m below meth c Z ls hx hb hml hown ht hN hK hw hret hl
  have hl : lv_has ls 4 [(0, .ref (ad 22)), (1, .ref (ad k1))] := hl
  generalize s.heap = H at hw ⊢
  generalize ([] : List Loc) = locs at hw ⊢
  change ∃ n0x, wpl_X1_findByParting_2 k1 (fun (μ10 : TMem) => ∃ n10x, wpl_X1_findByParting_33 k1 Q n10x (0 : Int32) (1 : Int32) μ10) n0x (0 : Int32) μ at h
  refine lv_iconst (v := (0 : Int32)) hx hb dX1_findByParting_0 (by decide) ?_
  refine lv_istore_n (lv' := [(2, .int (0 : Int32)), (0, .ref (ad 22)), (1, .ref (ad k1))]) hx hb dX1_findByParting_1 rfl hl (by decide) rfl (fun ls hl => ?_)
  obtain ⟨n9, h⟩ := h
  have L0 : ∀ (K29 : TMem → Prop), (∀ (μ3 : TMem) (H : Heap) (locs : List Loc) (ls : Array Slot), TW D ad cI cM s μ3 H locs → lv_has ls 4 [(0, .ref (ad 22)), (1, .ref (ad k1))] → K29 μ3 → W p l e (RM 3) s m #[.ref (ad 22), .ref (ad k1)] below meth c H locs 0 0 Z (F0 m 29 ls [])) → ∀ (n : Nat) (v2 : Int32) (μ3 : TMem) (H : Heap) (locs : List Loc) (ls : Array Slot), TW D ad cI cM s μ3 H locs → lv_has ls 4 [(2, .int v2), (0, .ref (ad 22)), (1, .ref (ad k1))] → wpl_X1_findByParting_2 k1 K29 n v2 μ3 → W p l e (RM 3) s m #[.ref (ad 22), .ref (ad k1)] below meth c H locs 0 0 Z (F0 m 2 ls []) := by
    intro K29 hK29
    intro n
    induction n with
    | zero => intro v2 μ3 H locs ls hw hl h; exact False.elim h
    | succ n ih0 =>
      intro v2 μ3 H locs ls hw hl h
      change ((μ3 k1 1) ≤ v2 → (K29 μ3)) ∧ (¬ (μ3 k1 1) ≤ v2 → (wp_X1_firstOfGoalness k1 μ3 v2 (fun (r5 : Int32) => wp_X6_put 23 μ3 v2 r5 (fun (μ8 : TMem) => wpl_X1_findByParting_2 k1 K29 n (v2 + (1 : Int32)) μ8)))) at h
      refine lv_iload_n hx hb dX1_findByParting_2 rfl (lv_at hl 0 rfl) ?_
      refine lv_aload_n hx hb dX1_findByParting_3 rfl (lv_at hl 2 rfl) ?_
      refine gf_X1_30 hx hb ht hown hK hw hk1 dX1_findByParting_4 ?_
      refine lv_icmp_ge (tgt := 29) hx hb dX1_findByParting_7 (by decide) (fun c4 => ?_) (fun c4 => ?_)
      · have h := h.1 c4
        exact hK29 μ3 H locs ls hw (lv_sub hl [1, 2] rfl) h
      have h := h.2 c4
      refine lv_aload_n hx hb dX1_findByParting_10 rfl (lv_at hl 1 rfl) ?_
      refine gf_X1_14 hx hb ht hown hK hw rfl dX1_findByParting_11 ?_
      refine W.eq (g2 := F0 m 14 ls [.ref (ad 23)]) rfl ?_
      refine lv_iload_n hx hb dX1_findByParting_14 rfl (lv_at hl 0 rfl) ?_
      refine lv_aload_n hx hb dX1_findByParting_15 rfl (lv_at hl 2 rfl) ?_
      refine lv_iload_n hx hb dX1_findByParting_16 rfl (lv_at hl 0 rfl) ?_
      refine T_calli hw (va_runS (own := "Leastreader$Likeness") (As := [.ref (ad k1), .int v2]) (rest := [.int v2, .ref (ad 23)]) ⟨hx, hb, hml, hown, ht⟩ (c_X1_firstOfGoalness k1 hk1 μ3 H.size v2 h) (va_cwS 2 ht (G_S q_486 q_487 q_52 q_488) rfl rfl rfl hd_20 ⟨Nat.le_of_ble_eq_true rfl, Nat.le_of_ble_eq_true rfl⟩) ⟨TB.blind, TB.pre hK hN hw⟩ rfl rfl hl.1 rfl (lv_room (Nat.le_of_ble_eq_true rfl)) dX1_findByParting_17 ⟨Nat.le_of_ble_eq_true rfl, Nat.le_of_ble_eq_true rfl⟩) (fun r5 μ6 H locs h hw => ?_)
      obtain ⟨e7, h⟩ := h
      rw [e7] at hw
      refine T_callv hw (va_runV (own := "Leastreader$Likeness") (As := [.int v2, .int r5]) (rest := []) ⟨hx, hb, hml, hown, ht⟩ (c_X6_put 23 rfl μ3 H.size v2 r5 h) (cwV 2 ht (G_V q_466 q_395 q_396 q_51 q_397) rfl rfl rfl ⟨rfl, hd_7⟩ ⟨Nat.le_of_ble_eq_true rfl, Nat.le_of_ble_eq_true rfl⟩) ⟨TB.blind, (T_recv hK hw (kd_of rfl (by decide)) (ent_6 rfl) cl_6), TB.pre hK hN hw⟩ rfl rfl hl.1 rfl (lv_room (Nat.le_of_ble_eq_true rfl)) dX1_findByParting_20 ⟨Nat.le_of_ble_eq_true rfl, Nat.le_of_ble_eq_true rfl⟩) (fun μ8 H locs h hw => ?_)
      refine lv_iinc (v := (v2 + (1 : Int32))) (lv' := [(2, .int (v2 + (1 : Int32))), (0, .ref (ad 22)), (1, .ref (ad k1))]) hx hb dX1_findByParting_23 hl (k := 0) rfl rfl (by decide) rfl (fun ls hl => ?_)
      refine lv_goto (tgt := 2) hx hb dX1_findByParting_26 (by decide) ?_
      exact ih0 (v2 + (1 : Int32)) μ8 H locs ls hw (lv_sub hl [0, 1, 2] rfl) h
  refine L0 _ ?_ n9 (0 : Int32) μ H locs ls hw (lv_sub hl [0, 1, 2] rfl) h
  intro μ10 H locs ls hw hl h
  refine lv_iconst (v := (1 : Int32)) hx hb dX1_findByParting_29 (by decide) ?_
  refine lv_istore_n (lv' := [(2, .int (1 : Int32)), (0, .ref (ad 22)), (1, .ref (ad k1))]) hx hb dX1_findByParting_30 rfl hl (by decide) rfl (fun ls hl => ?_)
  refine lv_iconst (v := (0 : Int32)) hx hb dX1_findByParting_31 (by decide) ?_
  refine lv_istore_n (lv' := [(3, .int (0 : Int32)), (2, .int (1 : Int32)), (0, .ref (ad 22)), (1, .ref (ad k1))]) hx hb dX1_findByParting_32 rfl hl (by decide) rfl (fun ls hl => ?_)
  obtain ⟨n19, h⟩ := h
  have L10 : ∀ (n : Nat) (v12 : Int32) (v13 : Int32) (μ14 : TMem) (H : Heap) (locs : List Loc) (ls : Array Slot), TW D ad cI cM s μ14 H locs → lv_has ls 4 [(3, .int v12), (2, .int v13), (0, .ref (ad 22)), (1, .ref (ad k1))] → wpl_X1_findByParting_33 k1 Q n v12 v13 μ14 → W p l e (RM 3) s m #[.ref (ad 22), .ref (ad k1)] below meth c H locs 0 0 Z (F0 m 33 ls []) := by
    intro n
    induction n with
    | zero => intro v12 v13 μ14 H locs ls hw hl h; exact False.elim h
    | succ n ih10 =>
      intro v12 v13 μ14 H locs ls hw hl h
      change ((32 : Int32) ≤ v12 → (Q μ14)) ∧ (¬ (32 : Int32) ≤ v12 → ((v13 = 0 → (Q μ14)) ∧ (¬ v13 = 0 → (wp_X1_partOnce k1 μ14 (fun (r18 : Int32) (μ17 : TMem) => wpl_X1_findByParting_33 k1 Q n (v12 + (1 : Int32)) r18 μ17))))) at h
      refine lv_iload_n hx hb dX1_findByParting_33 rfl (lv_at hl 0 rfl) ?_
      refine lv_bipush (v := (32 : Int32)) hx hb dX1_findByParting_34 (by decide) ?_
      refine lv_icmp_ge (tgt := 55) hx hb dX1_findByParting_36 (by decide) (fun c15 => ?_) (fun c15 => ?_)
      · have h := h.1 c15
        exact hret H locs ls 55 _ hw h dX1_findByParting_55
      have h := h.2 c15
      refine lv_iload_n hx hb dX1_findByParting_39 rfl (lv_at hl 1 rfl) ?_
      refine lv_if_eq (tgt := 55) hx hb dX1_findByParting_40 (by decide) (fun c16 => ?_) (fun c16 => ?_)
      · have h := h.1 c16
        exact hret H locs ls 55 _ hw h dX1_findByParting_55
      have h := h.2 c16
      refine lv_aload_n hx hb dX1_findByParting_43 rfl (lv_at hl 2 rfl) ?_
      refine lv_aload_n hx hb dX1_findByParting_44 rfl (lv_at hl 3 rfl) ?_
      refine T_calli hw (va_runV (own := "Leastreader$Likeness") (As := [.ref (ad k1)]) (rest := []) ⟨hx, hb, hml, hown, ht⟩ (c_X1_partOnce k1 hk1 μ14 H.size h) (cwV 1 ht (G_V q_489 q_491 q_8 q_52 q_492) rfl rfl rfl ⟨rfl, hd_21⟩ ⟨Nat.le_of_ble_eq_true rfl, Nat.le_of_ble_eq_true rfl⟩) ⟨TB.blind, (T_recv hK hw (kd_of rfl (by decide)) (ent_1 rfl) cl_1), TB.pre hK hN hw⟩ rfl rfl hl.1 rfl (lv_room (Nat.le_of_ble_eq_true rfl)) dX1_findByParting_45 ⟨Nat.le_of_ble_eq_true rfl, Nat.le_of_ble_eq_true rfl⟩) (fun r18 μ17 H locs h hw => ?_)
      refine lv_istore_n (lv' := [(2, .int r18), (3, .int v12), (0, .ref (ad 22)), (1, .ref (ad k1))]) hx hb dX1_findByParting_48 rfl hl (by decide) rfl (fun ls hl => ?_)
      refine lv_iinc (v := (v12 + (1 : Int32))) (lv' := [(3, .int (v12 + (1 : Int32))), (2, .int r18), (0, .ref (ad 22)), (1, .ref (ad k1))]) hx hb dX1_findByParting_49 hl (k := 1) rfl rfl (by decide) rfl (fun ls hl => ?_)
      refine lv_goto (tgt := 33) hx hb dX1_findByParting_52 (by decide) ?_
      exact ih10 (v12 + (1 : Int32)) r18 μ17 H locs ls hw (lv_sub hl [0, 1, 2, 3] rfl) h
  exact L10 n19 (0 : Int32) (1 : Int32) μ10 H locs ls hw (lv_sub hl [0, 1, 2, 3] rfl) h
