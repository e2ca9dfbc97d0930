def wp_X2_isSameAs (k0 : Nat) (k1 : Nat) (μ : TMem) (Q : Int32 → Prop) : Prop :=
  (¬ (μ k0 3) = (μ k1 3) → (Q (0 : Int32))) ∧ ((μ k0 3) = (μ k1 3) → (wp_X7_isSameTable k0 k1 μ (fun (r2 : Int32) => (r2 = 0 → (Q (0 : Int32))) ∧ (¬ r2 = 0 → (Q (1 : Int32))))))
set_option maxHeartbeats 4000000 in
set_option maxRecDepth 100000 in
theorem c_X2_isSameAs {l : Launch} {D : va_G} {ad : Nat → Nat} {cI cM : ClassId} (k0 : Nat) (hk0 : kd k0 = 2) (k1 : Nat) (hk1 : kd k1 = 2) (μ : TMem) (sz : Nat)  {Q : Int32 → Prop} (h : wp_X2_isSameAs k0 k1 μ Q) : TMi l yX2_isSameAs (.code yX2_isSameAs cX2_isSameAs 2 (Option.some Jvm.ClassFile.FieldType.boolean)) 2 [.ref (ad k0), .ref (ad k1)] D ad cI cM sz μ (fun r μ1 => μ1 = μ ∧ Q r) := by
  refine T_meti (by decide +kernel) (Nat.le_of_ble_eq_true rfl) ?_
  intro p e s m below meth c Z ls hx hb hml hown ht hN hK hw hret hl
  have hl : lv_has ls 2 [(0, .ref (ad k0)), (1, .ref (ad k1))] := hl
  generalize s.heap = H at hw ⊢
  generalize ([] : List Loc) = locs at hw ⊢
  change (¬ (μ k0 3) = (μ k1 3) → (Q (0 : Int32))) ∧ ((μ k0 3) = (μ k1 3) → (wp_X7_isSameTable k0 k1 μ (fun (r2 : Int32) => (r2 = 0 → (Q (0 : Int32))) ∧ (¬ r2 = 0 → (Q (1 : Int32)))))) at h
  refine lv_aload_n hx hb dX2_isSameAs_0 rfl (lv_at hl 0 rfl) ?_
  refine gf_X2_9 hx hb ht hown hK hw hk0 dX2_isSameAs_1 ?_
  refine lv_aload_n hx hb dX2_isSameAs_4 rfl (lv_at hl 1 rfl) ?_
  refine gf_X2_9 hx hb ht hown hK hw hk1 dX2_isSameAs_5 ?_
  refine lv_icmp_ne (tgt := 23) hx hb dX2_isSameAs_8 (by decide) (fun c1 => ?_) (fun c1 => ?_)
  · have h := h.1 c1
    refine lv_iconst (v := (0 : Int32)) hx hb dX2_isSameAs_23 (by decide) ?_
    exact hret H locs ls 24 _ _ hw ⟨rfl, h⟩ rfl dX2_isSameAs_24
  have h := h.2 c1
  refine lv_aload_n hx hb dX2_isSameAs_11 rfl (lv_at hl 0 rfl) ?_
  refine lv_aload_n hx hb dX2_isSameAs_12 rfl (lv_at hl 1 rfl) ?_
  refine T_calli hw (va_runU (own := "Leastreader$Machine") (As := [.ref (ad k1)]) (rest := []) ⟨hx, hb, hml, hown, ht⟩ (c_X7_isSameTable_2 k0 hk0 k1 hk1 μ H.size h) (va_cwU (owner := "Leastreader$Table") 1 ht (G_U q_703 q_704 q_705 q_524 q_47 q_525) rfl rfl rfl rfl hd_44 ⟨Nat.le_of_ble_eq_true rfl, Nat.le_of_ble_eq_true rfl⟩) ⟨TB.blind, (T_recv hK hw (kd_of hk0 (by decide)) (ent_2 hk0) cl_2), TB.pre hK hN hw⟩ rfl rfl hl.1 rfl (lv_room (Nat.le_of_ble_eq_true rfl)) dX2_isSameAs_13 ⟨Nat.le_of_ble_eq_true rfl, Nat.le_of_ble_eq_true rfl⟩) (fun r2 μ3 H locs h hw => ?_)
  obtain ⟨e4, h⟩ := h
  rw [e4] at hw
  refine lv_if_eq (tgt := 23) hx hb dX2_isSameAs_16 (by decide) (fun c5 => ?_) (fun c5 => ?_)
  · have h := h.1 c5
    refine lv_iconst (v := (0 : Int32)) hx hb dX2_isSameAs_23 (by decide) ?_
    exact hret H locs ls 24 _ _ hw ⟨rfl, h⟩ rfl dX2_isSameAs_24
  have h := h.2 c5
  refine lv_iconst (v := (1 : Int32)) hx hb dX2_isSameAs_19 (by decide) ?_
  refine lv_goto (tgt := 24) hx hb dX2_isSameAs_20 (by decide) ?_
  exact hret H locs ls 24 _ _ hw ⟨rfl, h⟩ rfl dX2_isSameAs_24
def wpl_X2_become_36 (k0 : Nat) (k1 : Nat) (v7 : Int32) (K59 : TMem → Prop) : Nat → Int32 → TMem → Prop
  | 0, _, _ => False
  | n + 1, v6, μ8 =>
    ((3 : Int32) ≤ v6 → (K59 μ8)) ∧ (¬ (3 : Int32) ≤ v6 → (wp_X7_at k1 μ8 v7 v6 (fun (r10 : Int32) => wp_X7_put k0 μ8 v7 v6 r10 (fun (μ13 : TMem) => wpl_X2_become_36 k0 k1 v7 K59 n (v6 + (1 : Int32)) μ13))))
def wpl_X2_become_26 (k0 : Nat) (k1 : Nat) (Q : TMem → Prop) : Nat → Int32 → TMem → Prop
  | 0, _, _ => False
  | n + 1, v2, μ3 =>
    ((μ3 k0 1) ≤ v2 → (Q μ3)) ∧ (¬ (μ3 k0 1) ≤ v2 → (∃ n4x, wpl_X2_become_36 k0 k1 v2 (fun (μ15 : TMem) => wpl_X2_become_26 k0 k1 Q n (v2 + (1 : Int32)) μ15) n4x (0 : Int32) μ3))
def wp_X2_become (k0 : Nat) (k1 : Nat) (μ : TMem) (Q : TMem → Prop) : Prop :=
  ∃ n0x, wpl_X2_become_26 k0 k1 Q n0x (0 : Int32) (tms (tms (tms μ k0 1 (μ k1 1)) k0 3 ((tms μ k0 1 (μ k1 1)) k1 3)) k0 2 ((tms (tms μ k0 1 (μ k1 1)) k0 3 ((tms μ k0 1 (μ k1 1)) k1 3)) k1 2))
set_option maxHeartbeats 4000000 in
set_option maxRecDepth 100000 in
theorem c_X2_become {l : Launch} {D : va_G} {ad : Nat → Nat} {cI cM : ClassId} (k0 : Nat) (hk0 : kd k0 = 2) (k1 : Nat) (hk1 : kd k1 = 2) (μ : TMem) (sz : Nat)  {Q : TMem → Prop} (h : wp_X2_become k0 k1 μ Q) : TMv l yX2_become (.code yX2_become cX2_become 4 (Option.none : Option Jvm.ClassFile.FieldType)) 1 [.ref (ad k0), .ref (ad k1)] D ad cI cM sz μ Q := by
  refine T_metv (by decide +kernel) (Nat.le_of_ble_eq_true rfl) ?_
  intro p e s m below meth c Z ls hx hb hml hown ht hN hK hw hret hl
  have hl : lv_has ls 4 [(0, .ref (ad k0)), (1, .ref (ad k1))] := hl
  generalize s.heap = H at hw ⊢
  generalize ([] : List Loc) = locs at hw ⊢
  change ∃ n0x, wpl_X2_become_26 k0 k1 Q n0x (0 : Int32) (tms (tms (tms μ k0 1 (μ k1 1)) k0 3 ((tms μ k0 1 (μ k1 1)) k1 3)) k0 2 ((tms (tms μ k0 1 (μ k1 1)) k0 3 ((tms μ k0 1 (μ k1 1)) k1 3)) k1 2)) at h
  refine lv_aload_n hx hb dX2_become_0 rfl (lv_at hl 0 rfl) ?_
  refine lv_aload_n hx hb dX2_become_1 rfl (lv_at hl 1 rfl) ?_
  refine gf_X2_15 hx hb ht hown hK hw hk1 dX2_become_2 ?_
  refine pgf_X2_15 hx hb ht hown hK hw hk0 dX2_become_5 (fun H locs hw => ?_)
  refine lv_aload_n hx hb dX2_become_8 rfl (lv_at hl 0 rfl) ?_
  refine lv_aload_n hx hb dX2_become_9 rfl (lv_at hl 1 rfl) ?_
  refine gf_X2_9 hx hb ht hown hK hw hk1 dX2_become_10 ?_
  refine pgf_X2_9 hx hb ht hown hK hw hk0 dX2_become_13 (fun H locs hw => ?_)
  refine lv_aload_n hx hb dX2_become_16 rfl (lv_at hl 0 rfl) ?_
  refine lv_aload_n hx hb dX2_become_17 rfl (lv_at hl 1 rfl) ?_
  refine gf_X2_18 hx hb ht hown hK hw hk1 dX2_become_18 ?_
  refine pgf_X2_18 hx hb ht hown hK hw hk0 dX2_become_21 (fun H locs hw => ?_)
  refine lv_iconst (v := (0 : Int32)) hx hb dX2_become_24 (by decide) ?_
  refine lv_istore_n (lv' := [(2, .int (0 : Int32)), (0, .ref (ad k0)), (1, .ref (ad k1))]) hx hb dX2_become_25 rfl hl (by decide) rfl (fun ls hl => ?_)
  obtain ⟨n16, h⟩ := h
  have L0 : ∀ (n : Nat) (v2 : Int32) (μ3 : TMem) (H : Heap) (locs : List Loc) (ls : Array Slot), TW D ad cI cM s μ3 H locs → lv_has ls 4 [(2, .int v2), (0, .ref (ad k0)), (1, .ref (ad k1))] → wpl_X2_become_26 k0 k1 Q n v2 μ3 → W p l e (RM 1) s m #[.ref (ad k0), .ref (ad k1)] below meth c H locs 0 0 Z (F0 m 26 ls []) := by
    intro n
    induction n with
    | zero => intro v2 μ3 H locs ls hw hl h; exact False.elim h
    | succ n ih0 =>
      intro v2 μ3 H locs ls hw hl h
      change ((μ3 k0 1) ≤ v2 → (Q μ3)) ∧ (¬ (μ3 k0 1) ≤ v2 → (∃ n4x, wpl_X2_become_36 k0 k1 v2 (fun (μ15 : TMem) => wpl_X2_become_26 k0 k1 Q n (v2 + (1 : Int32)) μ15) n4x (0 : Int32) μ3)) at h
      refine lv_iload_n hx hb dX2_become_26 rfl (lv_at hl 0 rfl) ?_
      refine lv_aload_n hx hb dX2_become_27 rfl (lv_at hl 1 rfl) ?_
      refine gf_X2_15 hx hb ht hown hK hw hk0 dX2_become_28 ?_
      refine lv_icmp_ge (tgt := 65) hx hb dX2_become_31 (by decide) (fun c4 => ?_) (fun c4 => ?_)
      · have h := h.1 c4
        exact hret H locs ls 65 _ hw h dX2_become_65
      have h := h.2 c4
      refine lv_iconst (v := (0 : Int32)) hx hb dX2_become_34 (by decide) ?_
      refine lv_istore_n (lv' := [(3, .int (0 : Int32)), (2, .int v2), (0, .ref (ad k0)), (1, .ref (ad k1))]) hx hb dX2_become_35 rfl hl (by decide) rfl (fun ls hl => ?_)
      obtain ⟨n14, h⟩ := h
      have L4 : ∀ (v7 : Int32) (K59 : TMem → Prop), (∀ (μ8 : TMem) (H : Heap) (locs : List Loc) (ls : Array Slot), TW D ad cI cM s μ8 H locs → lv_has ls 4 [(2, .int v7), (0, .ref (ad k0)), (1, .ref (ad k1))] → K59 μ8 → W p l e (RM 1) s m #[.ref (ad k0), .ref (ad k1)] below meth c H locs 0 0 Z (F0 m 59 ls [])) → ∀ (n : Nat) (v6 : Int32) (μ8 : TMem) (H : Heap) (locs : List Loc) (ls : Array Slot), TW D ad cI cM s μ8 H locs → lv_has ls 4 [(3, .int v6), (2, .int v7), (0, .ref (ad k0)), (1, .ref (ad k1))] → wpl_X2_become_36 k0 k1 v7 K59 n v6 μ8 → W p l e (RM 1) s m #[.ref (ad k0), .ref (ad k1)] below meth c H locs 0 0 Z (F0 m 36 ls []) := by
        intro v7 K59 hK59
        intro n
        induction n with
        | zero => intro v6 μ8 H locs ls hw hl h; exact False.elim h
        | succ n ih4 =>
          intro v6 μ8 H locs ls hw hl h
          change ((3 : Int32) ≤ v6 → (K59 μ8)) ∧ (¬ (3 : Int32) ≤ v6 → (wp_X7_at k1 μ8 v7 v6 (fun (r10 : Int32) => wp_X7_put k0 μ8 v7 v6 r10 (fun (μ13 : TMem) => wpl_X2_become_36 k0 k1 v7 K59 n (v6 + (1 : Int32)) μ13)))) at h
          refine lv_iload_n hx hb dX2_become_36 rfl (lv_at hl 0 rfl) ?_
          refine lv_iconst (v := (3 : Int32)) hx hb dX2_become_37 (by decide) ?_
          refine lv_icmp_ge (tgt := 59) hx hb dX2_become_38 (by decide) (fun c9 => ?_) (fun c9 => ?_)
          · have h := h.1 c9
            exact hK59 μ8 H locs ls hw (lv_sub hl [1, 2, 3] rfl) h
          have h := h.2 c9
          refine lv_aload_n hx hb dX2_become_41 rfl (lv_at hl 2 rfl) ?_
          refine lv_iload_n hx hb dX2_become_42 rfl (lv_at hl 1 rfl) ?_
          refine lv_iload_n hx hb dX2_become_43 rfl (lv_at hl 0 rfl) ?_
          refine lv_aload_n hx hb dX2_become_44 rfl (lv_at hl 3 rfl) ?_
          refine lv_iload_n hx hb dX2_become_45 rfl (lv_at hl 1 rfl) ?_
          refine lv_iload_n hx hb dX2_become_46 rfl (lv_at hl 0 rfl) ?_
          refine T_calli hw (va_runU (own := "Leastreader$Machine") (As := [.int v7, .int v6]) (rest := [.int v6, .int v7, .ref (ad k0)]) ⟨hx, hb, hml, hown, ht⟩ (c_X7_at_2 k1 hk1 μ8 H.size v7 v6 h) (va_cwU (owner := "Leastreader$Table") 2 ht (G_U q_412 q_413 q_415 q_416 q_47 q_417) rfl rfl rfl rfl hd_0 ⟨Nat.le_of_ble_eq_true rfl, Nat.le_of_ble_eq_true rfl⟩) ⟨TB.blind, (T_recv hK hw (kd_of hk1 (by decide)) (ent_2 hk1) cl_2), TB.pre hK hN hw⟩ rfl rfl hl.1 rfl (lv_room (Nat.le_of_ble_eq_true rfl)) dX2_become_47 ⟨Nat.le_of_ble_eq_true rfl, Nat.le_of_ble_eq_true rfl⟩) (fun r10 μ11 H locs h hw => ?_)
          obtain ⟨e12, h⟩ := h
          rw [e12] at hw
          refine T_callv hw (va_runU (own := "Leastreader$Machine") (As := [.int v7, .int v6, .int r10]) (rest := []) ⟨hx, hb, hml, hown, ht⟩ (c_X7_put_2 k0 hk0 μ8 H.size v7 v6 r10 h) (va_cwU (owner := "Leastreader$Table") 3 ht (G_U q_444 q_445 q_446 q_430 q_47 q_431) rfl rfl rfl rfl hd_1 ⟨Nat.le_of_ble_eq_true rfl, Nat.le_of_ble_eq_true rfl⟩) ⟨TB.blind, (T_recv hK hw (kd_of hk0 (by decide)) (ent_2 hk0) cl_2), TB.pre hK hN hw⟩ rfl rfl hl.1 rfl (lv_room (Nat.le_of_ble_eq_true rfl)) dX2_become_50 ⟨Nat.le_of_ble_eq_true rfl, Nat.le_of_ble_eq_true rfl⟩) (fun μ13 H locs h hw => ?_)
          refine lv_iinc (v := (v6 + (1 : Int32))) (lv' := [(3, .int (v6 + (1 : Int32))), (2, .int v7), (0, .ref (ad k0)), (1, .ref (ad k1))]) hx hb dX2_become_53 hl (k := 0) rfl rfl (by decide) rfl (fun ls hl => ?_)
          refine lv_goto (tgt := 36) hx hb dX2_become_56 (by decide) ?_
          exact ih4 (v6 + (1 : Int32)) μ13 H locs ls hw (lv_sub hl [0, 1, 2, 3] rfl) h
      refine L4 v2 _ ?_ n14 (0 : Int32) μ3 H locs ls hw (lv_sub hl [0, 1, 2, 3] rfl) h
      intro μ15 H locs ls hw hl h
      refine lv_iinc (v := (v2 + (1 : Int32))) (lv' := [(2, .int (v2 + (1 : Int32))), (0, .ref (ad k0)), (1, .ref (ad k1))]) hx hb dX2_become_59 hl (k := 0) rfl rfl (by decide) rfl (fun ls hl => ?_)
      refine lv_goto (tgt := 26) hx hb dX2_become_62 (by decide) ?_
      exact ih0 (v2 + (1 : Int32)) μ15 H locs ls hw (lv_sub hl [0, 1, 2] rfl) h
  exact L0 n16 (0 : Int32) (tms (tms (tms μ k0 1 (μ k1 1)) k0 3 ((tms μ k0 1 (μ k1 1)) k1 3)) k0 2 ((tms (tms μ k0 1 (μ k1 1)) k0 3 ((tms μ k0 1 (μ k1 1)) k1 3)) k1 2)) H locs ls hw (lv_sub hl [0, 1, 2] rfl) h
def wpl_X2_sources_5 (k0 : Nat) (μ : TMem) (v4 : Int32) (v5 : Int32) (Q : Int32 → Prop) : Nat → Int32 → Int32 → Prop
  | 0, _, _ => False
  | n + 1, v2, v3 =>
    ((μ k0 1) ≤ v2 → (Q v3)) ∧ (¬ (μ k0 1) ≤ v2 → (wp_X7_at k0 μ v2 v5 (fun (r7 : Int32) => wp_X9_isIn r7 v4 (fun (r10 : Int32) => (r10 = 0 → (wpl_X2_sources_5 k0 μ v4 v5 Q n (v2 + (1 : Int32)) v3)) ∧ (¬ r10 = 0 → (wpl_X2_sources_5 k0 μ v4 v5 Q n (v2 + (1 : Int32)) (v3 ||| ((1 : Int32) <<< (v2 &&& 31)))))))))
def wp_X2_sources (k0 : Nat) (μ : TMem) (a1 : Int32) (a2 : Int32) (Q : Int32 → Prop) : Prop :=
  ∃ n0x, wpl_X2_sources_5 k0 μ a1 a2 Q n0x (0 : Int32) (0 : Int32)
set_option maxHeartbeats 4000000 in
set_option maxRecDepth 100000 in
theorem c_X2_sources {l : Launch} {D : va_G} {ad : Nat → Nat} {cI cM : ClassId} (k0 : Nat) (hk0 : kd k0 = 2) (μ : TMem) (sz : Nat) (a1 : Int32) (a2 : Int32) {Q : Int32 → Prop} (h : wp_X2_sources k0 μ a1 a2 Q) : TMi l yX2_sources (.code yX2_sources cX2_sources 5 (Option.some Jvm.ClassFile.FieldType.int)) 1 [.ref (ad k0), .int a1, .int a2] D ad cI cM sz μ (fun r μ1 => μ1 = μ ∧ Q r) := by
  refine T_meti (by decide +kernel) (Nat.le_of_ble_eq_true rfl) ?_
  intro p e s m below meth c Z ls hx hb hml hown ht hN hK hw hret hl
  have hl : lv_has ls 5 [(0, .ref (ad k0)), (1, .int a1), (2, .int a2)] := hl
  generalize s.heap = H at hw ⊢
  generalize ([] : List Loc) = locs at hw ⊢
  change ∃ n0x, wpl_X2_sources_5 k0 μ a1 a2 Q n0x (0 : Int32) (0 : Int32) at h
  refine lv_iconst (v := (0 : Int32)) hx hb dX2_sources_0 (by decide) ?_
  refine lv_istore_n (lv' := [(3, .int (0 : Int32)), (0, .ref (ad k0)), (1, .int a1), (2, .int a2)]) hx hb dX2_sources_1 rfl hl (by decide) rfl (fun ls hl => ?_)
  refine lv_iconst (v := (0 : Int32)) hx hb dX2_sources_2 (by decide) ?_
  refine lv_istore (lv' := [(4, .int (0 : Int32)), (3, .int (0 : Int32)), (0, .ref (ad k0)), (1, .int a1), (2, .int a2)]) hx hb dX2_sources_3 hl (by decide) rfl (fun ls hl => ?_)
  obtain ⟨n12, h⟩ := h
  have L0 : ∀ (v4 : Int32) (v5 : Int32), ∀ (n : Nat) (v2 : Int32) (v3 : Int32) (H : Heap) (locs : List Loc) (ls : Array Slot), TW D ad cI cM s μ H locs → lv_has ls 5 [(4, .int v2), (3, .int v3), (0, .ref (ad k0)), (1, .int v4), (2, .int v5)] → wpl_X2_sources_5 k0 μ v4 v5 Q n v2 v3 → W p l e (RM 1) s m #[.ref (ad k0), .int a1, .int a2] below meth c H locs 0 0 Z (F0 m 5 ls []) := by
    intro v4 v5
    intro n
    induction n with
    | zero => intro v2 v3 H locs ls hw hl h; exact False.elim h
    | succ n ih0 =>
      intro v2 v3 H locs ls hw hl h
      change ((μ k0 1) ≤ v2 → (Q v3)) ∧ (¬ (μ k0 1) ≤ v2 → (wp_X7_at k0 μ v2 v5 (fun (r7 : Int32) => wp_X9_isIn r7 v4 (fun (r10 : Int32) => (r10 = 0 → (wpl_X2_sources_5 k0 μ v4 v5 Q n (v2 + (1 : Int32)) v3)) ∧ (¬ r10 = 0 → (wpl_X2_sources_5 k0 μ v4 v5 Q n (v2 + (1 : Int32)) (v3 ||| ((1 : Int32) <<< (v2 &&& 31))))))))) at h
      refine lv_iload hx hb dX2_sources_5 (lv_at hl 0 rfl) ?_
      refine lv_aload_n hx hb dX2_sources_7 rfl (lv_at hl 2 rfl) ?_
      refine gf_X2_15 hx hb ht hown hK hw hk0 dX2_sources_8 ?_
      refine lv_icmp_ge (tgt := 41) hx hb dX2_sources_11 (by decide) (fun c6 => ?_) (fun c6 => ?_)
      · have h := h.1 c6
        refine lv_iload_n hx hb dX2_sources_41 rfl (lv_at hl 1 rfl) ?_
        exact hret H locs ls 42 _ _ hw ⟨rfl, h⟩ rfl dX2_sources_42
      have h := h.2 c6
      refine lv_aload_n hx hb dX2_sources_14 rfl (lv_at hl 2 rfl) ?_
      refine lv_iload hx hb dX2_sources_15 (lv_at hl 0 rfl) ?_
      refine lv_iload_n hx hb dX2_sources_17 rfl (lv_at hl 4 rfl) ?_
      refine T_calli hw (va_runU (own := "Leastreader$Machine") (As := [.int v2, .int v5]) (rest := []) ⟨hx, hb, hml, hown, ht⟩ (c_X7_at_2 k0 hk0 μ H.size v2 v5 h) (va_cwU (owner := "Leastreader$Table") 2 ht (G_U q_412 q_413 q_415 q_416 q_47 q_417) rfl rfl rfl rfl hd_0 ⟨Nat.le_of_ble_eq_true rfl, Nat.le_of_ble_eq_true rfl⟩) ⟨TB.blind, (T_recv hK hw (kd_of hk0 (by decide)) (ent_2 hk0) cl_2), TB.pre hK hN hw⟩ rfl rfl hl.1 rfl (lv_room (Nat.le_of_ble_eq_true rfl)) dX2_sources_18 ⟨Nat.le_of_ble_eq_true rfl, Nat.le_of_ble_eq_true rfl⟩) (fun r7 μ8 H locs h hw => ?_)
      obtain ⟨e9, h⟩ := h
      rw [e9] at hw
      refine lv_iload_n hx hb dX2_sources_21 rfl (lv_at hl 3 rfl) ?_
      refine P_calli (va_runSN (own := "Leastreader$Machine") (As := [.int r7, .int v4]) (rest := []) ⟨hx, hb, hml, hown, ht⟩ (c_X9_isIn r7 v4 h) ⟨va_cnB 2 ht (G_ws q_411) rfl rfl rfl (nw_409 hN) (ht _ q_46) hd_5 ⟨Nat.le_of_ble_eq_true rfl, Nat.le_of_ble_eq_true rfl⟩, ht _ q_410, trivial⟩ ⟨PM_blind, PM_pre⟩ rfl rfl hl.1 rfl (lv_room (Nat.le_of_ble_eq_true rfl)) dX2_sources_22 ⟨Nat.le_of_ble_eq_true rfl, Nat.le_of_ble_eq_true rfl⟩) (fun r10 h => ?_)
      refine lv_if_eq (tgt := 35) hx hb dX2_sources_25 (by decide) (fun c11 => ?_) (fun c11 => ?_)
      · have h := h.1 c11
        refine lv_iinc (v := (v2 + (1 : Int32))) (lv' := [(4, .int (v2 + (1 : Int32))), (3, .int v3), (0, .ref (ad k0)), (1, .int v4), (2, .int v5)]) hx hb dX2_sources_35 hl (k := 0) rfl rfl (by decide) rfl (fun ls hl => ?_)
        refine lv_goto (tgt := 5) hx hb dX2_sources_38 (by decide) ?_
        exact ih0 (v2 + (1 : Int32)) v3 H locs ls hw (lv_sub hl [0, 1, 2, 3, 4] rfl) h
      have h := h.2 c11
      refine lv_iload_n hx hb dX2_sources_28 rfl (lv_at hl 1 rfl) ?_
      refine lv_iconst (v := (1 : Int32)) hx hb dX2_sources_29 (by decide) ?_
      refine lv_iload hx hb dX2_sources_30 (lv_at hl 0 rfl) ?_
      refine lv_ishl hx hb dX2_sources_32 ?_
      refine lv_ior hx hb dX2_sources_33 ?_
      refine lv_istore_n (lv' := [(3, .int (v3 ||| ((1 : Int32) <<< (v2 &&& 31)))), (4, .int v2), (0, .ref (ad k0)), (1, .int v4), (2, .int v5)]) hx hb dX2_sources_34 rfl hl (by decide) rfl (fun ls hl => ?_)
      refine lv_iinc (v := (v2 + (1 : Int32))) (lv' := [(4, .int (v2 + (1 : Int32))), (3, .int (v3 ||| ((1 : Int32) <<< (v2 &&& 31)))), (0, .ref (ad k0)), (1, .int v4), (2, .int v5)]) hx hb dX2_sources_35 hl (k := 1) rfl rfl (by decide) rfl (fun ls hl => ?_)
      refine lv_goto (tgt := 5) hx hb dX2_sources_38 (by decide) ?_
      exact ih0 (v2 + (1 : Int32)) (v3 ||| ((1 : Int32) <<< (v2 &&& 31))) H locs ls hw (lv_sub hl [0, 1, 2, 3, 4] rfl) h
  exact L0 a1 a2 n12 (0 : Int32) (0 : Int32) H locs ls hw (lv_sub hl [0, 1, 2, 3, 4] rfl) h
def wpl_X2_becomeRound_36 (k0 : Nat) (k1 : Nat) (v7 : Int32) (K59 : TMem → Prop) : Nat → Int32 → TMem → Prop
  | 0, _, _ => False
  | n + 1, v6, μ8 =>
    ((3 : Int32) ≤ v6 → (K59 μ8)) ∧ (¬ (3 : Int32) ≤ v6 → (wp_X2_sources k1 μ8 v7 v6 (fun (r10 : Int32) => wp_X7_put k0 μ8 v7 v6 r10 (fun (μ13 : TMem) => wpl_X2_becomeRound_36 k0 k1 v7 K59 n (v6 + (1 : Int32)) μ13))))
def wpl_X2_becomeRound_26 (k0 : Nat) (k1 : Nat) (Q : TMem → Prop) : Nat → Int32 → TMem → Prop
  | 0, _, _ => False
  | n + 1, v2, μ3 =>
    ((μ3 k0 1) ≤ v2 → (Q μ3)) ∧ (¬ (μ3 k0 1) ≤ v2 → (∃ n4x, wpl_X2_becomeRound_36 k0 k1 v2 (fun (μ15 : TMem) => wpl_X2_becomeRound_26 k0 k1 Q n (v2 + (1 : Int32)) μ15) n4x (0 : Int32) μ3))
def wp_X2_becomeRound (k0 : Nat) (k1 : Nat) (μ : TMem) (Q : TMem → Prop) : Prop :=
  ∃ n0x, wpl_X2_becomeRound_26 k0 k1 Q n0x (0 : Int32) (tms (tms (tms μ k0 1 (μ k1 1)) k0 3 ((tms μ k0 1 (μ k1 1)) k1 2)) k0 2 ((tms (tms μ k0 1 (μ k1 1)) k0 3 ((tms μ k0 1 (μ k1 1)) k1 2)) k1 3))
set_option maxHeartbeats 4000000 in
set_option maxRecDepth 100000 in
theorem c_X2_becomeRound {l : Launch} {D : va_G} {ad : Nat → Nat} {cI cM : ClassId} (k0 : Nat) (hk0 : kd k0 = 2) (k1 : Nat) (hk1 : kd k1 = 2) (μ : TMem) (sz : Nat)  {Q : TMem → Prop} (h : wp_X2_becomeRound k0 k1 μ Q) : TMv l yX2_becomeRound (.code yX2_becomeRound cX2_becomeRound 4 (Option.none : Option Jvm.ClassFile.FieldType)) 2 [.ref (ad k0), .ref (ad k1)] D ad cI cM sz μ Q := by
  refine T_metv (by decide +kernel) (Nat.le_of_ble_eq_true rfl) ?_
  intro p e s m below meth c Z ls hx hb hml hown ht hN hK hw hret hl
  have hl : lv_has ls 4 [(0, .ref (ad k0)), (1, .ref (ad k1))] := hl
  generalize s.heap = H at hw ⊢
  generalize ([] : List Loc) = locs at hw ⊢
  change ∃ n0x, wpl_X2_becomeRound_26 k0 k1 Q n0x (0 : Int32) (tms (tms (tms μ k0 1 (μ k1 1)) k0 3 ((tms μ k0 1 (μ k1 1)) k1 2)) k0 2 ((tms (tms μ k0 1 (μ k1 1)) k0 3 ((tms μ k0 1 (μ k1 1)) k1 2)) k1 3)) at h
  refine lv_aload_n hx hb dX2_becomeRound_0 rfl (lv_at hl 0 rfl) ?_
  refine lv_aload_n hx hb dX2_becomeRound_1 rfl (lv_at hl 1 rfl) ?_
  refine gf_X2_15 hx hb ht hown hK hw hk1 dX2_becomeRound_2 ?_
  refine pgf_X2_15 hx hb ht hown hK hw hk0 dX2_becomeRound_5 (fun H locs hw => ?_)
  refine lv_aload_n hx hb dX2_becomeRound_8 rfl (lv_at hl 0 rfl) ?_
  refine lv_aload_n hx hb dX2_becomeRound_9 rfl (lv_at hl 1 rfl) ?_
  refine gf_X2_18 hx hb ht hown hK hw hk1 dX2_becomeRound_10 ?_
  refine pgf_X2_9 hx hb ht hown hK hw hk0 dX2_becomeRound_13 (fun H locs hw => ?_)
  refine lv_aload_n hx hb dX2_becomeRound_16 rfl (lv_at hl 0 rfl) ?_
  refine lv_aload_n hx hb dX2_becomeRound_17 rfl (lv_at hl 1 rfl) ?_
  refine gf_X2_9 hx hb ht hown hK hw hk1 dX2_becomeRound_18 ?_
  refine pgf_X2_18 hx hb ht hown hK hw hk0 dX2_becomeRound_21 (fun H locs hw => ?_)
  refine lv_iconst (v := (0 : Int32)) hx hb dX2_becomeRound_24 (by decide) ?_
  refine lv_istore_n (lv' := [(2, .int (0 : Int32)), (0, .ref (ad k0)), (1, .ref (ad k1))]) hx hb dX2_becomeRound_25 rfl hl (by decide) rfl (fun ls hl => ?_)
  obtain ⟨n16, h⟩ := h
  have L0 : ∀ (n : Nat) (v2 : Int32) (μ3 : TMem) (H : Heap) (locs : List Loc) (ls : Array Slot), TW D ad cI cM s μ3 H locs → lv_has ls 4 [(2, .int v2), (0, .ref (ad k0)), (1, .ref (ad k1))] → wpl_X2_becomeRound_26 k0 k1 Q n v2 μ3 → W p l e (RM 2) s m #[.ref (ad k0), .ref (ad k1)] below meth c H locs 0 0 Z (F0 m 26 ls []) := by
    intro n
    induction n with
    | zero => intro v2 μ3 H locs ls hw hl h; exact False.elim h
    | succ n ih0 =>
      intro v2 μ3 H locs ls hw hl h
      change ((μ3 k0 1) ≤ v2 → (Q μ3)) ∧ (¬ (μ3 k0 1) ≤ v2 → (∃ n4x, wpl_X2_becomeRound_36 k0 k1 v2 (fun (μ15 : TMem) => wpl_X2_becomeRound_26 k0 k1 Q n (v2 + (1 : Int32)) μ15) n4x (0 : Int32) μ3)) at h
      refine lv_iload_n hx hb dX2_becomeRound_26 rfl (lv_at hl 0 rfl) ?_
      refine lv_aload_n hx hb dX2_becomeRound_27 rfl (lv_at hl 1 rfl) ?_
      refine gf_X2_15 hx hb ht hown hK hw hk0 dX2_becomeRound_28 ?_
      refine lv_icmp_ge (tgt := 65) hx hb dX2_becomeRound_31 (by decide) (fun c4 => ?_) (fun c4 => ?_)
      · have h := h.1 c4
        exact hret H locs ls 65 _ hw h dX2_becomeRound_65
      have h := h.2 c4
      refine lv_iconst (v := (0 : Int32)) hx hb dX2_becomeRound_34 (by decide) ?_
      refine lv_istore_n (lv' := [(3, .int (0 : Int32)), (2, .int v2), (0, .ref (ad k0)), (1, .ref (ad k1))]) hx hb dX2_becomeRound_35 rfl hl (by decide) rfl (fun ls hl => ?_)
      obtain ⟨n14, h⟩ := h
      have L4 : ∀ (v7 : Int32) (K59 : TMem → Prop), (∀ (μ8 : TMem) (H : Heap) (locs : List Loc) (ls : Array Slot), TW D ad cI cM s μ8 H locs → lv_has ls 4 [(2, .int v7), (0, .ref (ad k0)), (1, .ref (ad k1))] → K59 μ8 → W p l e (RM 2) s m #[.ref (ad k0), .ref (ad k1)] below meth c H locs 0 0 Z (F0 m 59 ls [])) → ∀ (n : Nat) (v6 : Int32) (μ8 : TMem) (H : Heap) (locs : List Loc) (ls : Array Slot), TW D ad cI cM s μ8 H locs → lv_has ls 4 [(3, .int v6), (2, .int v7), (0, .ref (ad k0)), (1, .ref (ad k1))] → wpl_X2_becomeRound_36 k0 k1 v7 K59 n v6 μ8 → W p l e (RM 2) s m #[.ref (ad k0), .ref (ad k1)] below meth c H locs 0 0 Z (F0 m 36 ls []) := by
        intro v7 K59 hK59
        intro n
        induction n with
        | zero => intro v6 μ8 H locs ls hw hl h; exact False.elim h
        | succ n ih4 =>
          intro v6 μ8 H locs ls hw hl h
          change ((3 : Int32) ≤ v6 → (K59 μ8)) ∧ (¬ (3 : Int32) ≤ v6 → (wp_X2_sources k1 μ8 v7 v6 (fun (r10 : Int32) => wp_X7_put k0 μ8 v7 v6 r10 (fun (μ13 : TMem) => wpl_X2_becomeRound_36 k0 k1 v7 K59 n (v6 + (1 : Int32)) μ13)))) at h
          refine lv_iload_n hx hb dX2_becomeRound_36 rfl (lv_at hl 0 rfl) ?_
          refine lv_iconst (v := (3 : Int32)) hx hb dX2_becomeRound_37 (by decide) ?_
          refine lv_icmp_ge (tgt := 59) hx hb dX2_becomeRound_38 (by decide) (fun c9 => ?_) (fun c9 => ?_)
          · have h := h.1 c9
            exact hK59 μ8 H locs ls hw (lv_sub hl [1, 2, 3] rfl) h
          have h := h.2 c9
          refine lv_aload_n hx hb dX2_becomeRound_41 rfl (lv_at hl 2 rfl) ?_
          refine lv_iload_n hx hb dX2_becomeRound_42 rfl (lv_at hl 1 rfl) ?_
          refine lv_iload_n hx hb dX2_becomeRound_43 rfl (lv_at hl 0 rfl) ?_
          refine lv_aload_n hx hb dX2_becomeRound_44 rfl (lv_at hl 3 rfl) ?_
          refine lv_iload_n hx hb dX2_becomeRound_45 rfl (lv_at hl 1 rfl) ?_
          refine lv_iload_n hx hb dX2_becomeRound_46 rfl (lv_at hl 0 rfl) ?_
          refine T_calli hw (va_runV (own := "Leastreader$Machine") (As := [.int v7, .int v6]) (rest := [.int v6, .int v7, .ref (ad k0)]) ⟨hx, hb, hml, hown, ht⟩ (c_X2_sources k1 hk1 μ8 H.size v7 v6 h) (cwV 2 ht (G_V q_440 q_442 q_4 q_48 q_443) rfl rfl rfl ⟨rfl, hd_45⟩ ⟨Nat.le_of_ble_eq_true rfl, Nat.le_of_ble_eq_true rfl⟩) ⟨TB.blind, (T_recv hK hw (kd_of hk1 (by decide)) (ent_2 hk1) cl_2), TB.pre hK hN hw⟩ rfl rfl hl.1 rfl (lv_room (Nat.le_of_ble_eq_true rfl)) dX2_becomeRound_47 ⟨Nat.le_of_ble_eq_true rfl, Nat.le_of_ble_eq_true rfl⟩) (fun r10 μ11 H locs h hw => ?_)
          obtain ⟨e12, h⟩ := h
          rw [e12] at hw
          refine T_callv hw (va_runU (own := "Leastreader$Machine") (As := [.int v7, .int v6, .int r10]) (rest := []) ⟨hx, hb, hml, hown, ht⟩ (c_X7_put_2 k0 hk0 μ8 H.size v7 v6 r10 h) (va_cwU (owner := "Leastreader$Table") 3 ht (G_U q_444 q_445 q_446 q_430 q_47 q_431) rfl rfl rfl rfl hd_1 ⟨Nat.le_of_ble_eq_true rfl, Nat.le_of_ble_eq_true rfl⟩) ⟨TB.blind, (T_recv hK hw (kd_of hk0 (by decide)) (ent_2 hk0) cl_2), TB.pre hK hN hw⟩ rfl rfl hl.1 rfl (lv_room (Nat.le_of_ble_eq_true rfl)) dX2_becomeRound_50 ⟨Nat.le_of_ble_eq_true rfl, Nat.le_of_ble_eq_true rfl⟩) (fun μ13 H locs h hw => ?_)
          refine lv_iinc (v := (v6 + (1 : Int32))) (lv' := [(3, .int (v6 + (1 : Int32))), (2, .int v7), (0, .ref (ad k0)), (1, .ref (ad k1))]) hx hb dX2_becomeRound_53 hl (k := 0) rfl rfl (by decide) rfl (fun ls hl => ?_)
          refine lv_goto (tgt := 36) hx hb dX2_becomeRound_56 (by decide) ?_
          exact ih4 (v6 + (1 : Int32)) μ13 H locs ls hw (lv_sub hl [0, 1, 2, 3] rfl) h
      refine L4 v2 _ ?_ n14 (0 : Int32) μ3 H locs ls hw (lv_sub hl [0, 1, 2, 3] rfl) h
      intro μ15 H locs ls hw hl h
      refine lv_iinc (v := (v2 + (1 : Int32))) (lv' := [(2, .int (v2 + (1 : Int32))), (0, .ref (ad k0)), (1, .ref (ad k1))]) hx hb dX2_becomeRound_59 hl (k := 0) rfl rfl (by decide) rfl (fun ls hl => ?_)
      refine lv_goto (tgt := 26) hx hb dX2_becomeRound_62 (by decide) ?_
      exact ih0 (v2 + (1 : Int32)) μ15 H locs ls hw (lv_sub hl [0, 1, 2] rfl) h
  exact L0 n16 (0 : Int32) (tms (tms (tms μ k0 1 (μ k1 1)) k0 3 ((tms μ k0 1 (μ k1 1)) k1 2)) k0 2 ((tms (tms μ k0 1 (μ k1 1)) k0 3 ((tms μ k0 1 (μ k1 1)) k1 2)) k1 3)) H locs ls hw (lv_sub hl [0, 1, 2] rfl) h
def wp_X2_closeUp (a0 : Int32) (a1 : Int32) (Q : Int32 → Prop) : Prop :=
  Q ((a0 &&& (((1 : Int32) <<< (a1 &&& 31)) - (1 : Int32))) ||| ((a0 >>> ((a1 + (1 : Int32)) &&& 31)) <<< (a1 &&& 31)))
set_option maxHeartbeats 4000000 in
set_option maxRecDepth 100000 in
theorem c_X2_closeUp {l : Launch} (a0 : Int32) (a1 : Int32) {Q : Int32 → Prop} (h : wp_X2_closeUp a0 a1 Q) : PMi l yX2_closeUp (.code yX2_closeUp cX2_closeUp 4 (Option.some Jvm.ClassFile.FieldType.int)) 0 [.int a0, .int a1] Q := by
  refine P_meti (by decide +kernel) (Nat.le_of_ble_eq_true rfl) ?_
  intro p e s m below meth c Z ls hx hb hml hown ht hret hl
  have hl : lv_has ls 4 [(0, .int a0), (1, .int a1)] := hl
  change Q ((a0 &&& (((1 : Int32) <<< (a1 &&& 31)) - (1 : Int32))) ||| ((a0 >>> ((a1 + (1 : Int32)) &&& 31)) <<< (a1 &&& 31))) at h
  refine lv_iload_n hx hb dX2_closeUp_0 rfl (lv_at hl 0 rfl) ?_
  refine lv_iconst (v := (1 : Int32)) hx hb dX2_closeUp_1 (by decide) ?_
  refine lv_iload_n hx hb dX2_closeUp_2 rfl (lv_at hl 1 rfl) ?_
  refine lv_ishl hx hb dX2_closeUp_3 ?_
  refine lv_iconst (v := (1 : Int32)) hx hb dX2_closeUp_4 (by decide) ?_
  refine lv_isub hx hb dX2_closeUp_5 ?_
  refine lv_iand hx hb dX2_closeUp_6 ?_
  refine lv_istore_n (lv' := [(2, .int (a0 &&& (((1 : Int32) <<< (a1 &&& 31)) - (1 : Int32)))), (0, .int a0), (1, .int a1)]) hx hb dX2_closeUp_7 rfl hl (by decide) rfl (fun ls hl => ?_)
  refine lv_iload_n hx hb dX2_closeUp_8 rfl (lv_at hl 1 rfl) ?_
  refine lv_iload_n hx hb dX2_closeUp_9 rfl (lv_at hl 2 rfl) ?_
  refine lv_iconst (v := (1 : Int32)) hx hb dX2_closeUp_10 (by decide) ?_
  refine lv_iadd hx hb dX2_closeUp_11 ?_
  refine lv_ishr hx hb dX2_closeUp_12 ?_
  refine lv_istore_n (lv' := [(3, .int (a0 >>> ((a1 + (1 : Int32)) &&& 31))), (2, .int (a0 &&& (((1 : Int32) <<< (a1 &&& 31)) - (1 : Int32)))), (0, .int a0), (1, .int a1)]) hx hb dX2_closeUp_13 rfl hl (by decide) rfl (fun ls hl => ?_)
  refine lv_iload_n hx hb dX2_closeUp_14 rfl (lv_at hl 1 rfl) ?_
  refine lv_iload_n hx hb dX2_closeUp_15 rfl (lv_at hl 0 rfl) ?_
  refine lv_iload_n hx hb dX2_closeUp_16 rfl (lv_at hl 3 rfl) ?_
  refine lv_ishl hx hb dX2_closeUp_17 ?_
  refine lv_ior hx hb dX2_closeUp_18 ?_
  exact hret ls 19 _ h rfl dX2_closeUp_19
def wpl_X2_removeState_28 (k0 : Nat) (v10 : Int32) (v11 : Int32) (v12 : Int32) (K58 : TMem → Prop) : Nat → Int32 → TMem → Prop
  | 0, _, _ => False
  | n + 1, v9, μ13 =>
    ((3 : Int32) ≤ v9 → (K58 μ13)) ∧ (¬ (3 : Int32) ≤ v9 → (wp_X7_at k0 μ13 v10 v9 (fun (r15 : Int32) => wp_X2_closeUp r15 v12 (fun (r18 : Int32) => wp_X7_put k0 μ13 v11 v9 r18 (fun (μ19 : TMem) => wpl_X2_removeState_28 k0 v10 v11 v12 K58 n (v9 + (1 : Int32)) μ19)))))
def wpl_X2_removeState_2 (k0 : Nat) (v3 : Int32) (K64 : TMem → Prop) : Nat → Int32 → TMem → Prop
  | 0, _, _ => False
  | n + 1, v2, μ4 =>
    (((μ4 k0 1) - (1 : Int32)) ≤ v2 → (K64 μ4)) ∧ (¬ ((μ4 k0 1) - (1 : Int32)) ≤ v2 → (∀ J6 : Int32 → Prop, (∀ (j7 : Int32), (∃ n7x, wpl_X2_removeState_28 k0 j7 v2 v3 (fun (μ21 : TMem) => wpl_X2_removeState_2 k0 v3 K64 n (v2 + (1 : Int32)) μ21) n7x (0 : Int32) μ4) → J6 j7) → ((v3 ≤ v2 → (J6 (v2 + (1 : Int32)))) ∧ (¬ v3 ≤ v2 → (J6 v2)))))
def wp_X2_removeState (k0 : Nat) (μ : TMem) (a1 : Int32) (Q : TMem → Prop) : Prop :=
  ∃ n0x, wpl_X2_removeState_2 k0 a1 (fun (μ24 : TMem) => wp_X2_closeUp (μ24 k0 3) a1 (fun (r25 : Int32) => wp_X2_closeUp ((tms μ24 k0 3 r25) k0 2) a1 (fun (r26 : Int32) => Q (tms (tms (tms μ24 k0 3 r25) k0 2 r26) k0 1 (((tms (tms μ24 k0 3 r25) k0 2 r26) k0 1) - (1 : Int32)))))) n0x (0 : Int32) μ
set_option maxHeartbeats 4000000 in
set_option maxRecDepth 100000 in
theorem c_X2_removeState {l : Launch} {D : va_G} {ad : Nat → Nat} {cI cM : ClassId} (k0 : Nat) (hk0 : kd k0 = 2) (μ : TMem) (sz : Nat) (a1 : Int32) {Q : TMem → Prop} (h : wp_X2_removeState k0 μ a1 Q) : TMv l yX2_removeState (.code yX2_removeState cX2_removeState 5 (Option.none : Option Jvm.ClassFile.FieldType)) 1 [.ref (ad k0), .int a1] D ad cI cM sz μ Q := by
  refine T_metv (by decide +kernel) (Nat.le_of_ble_eq_true rfl) ?_
  intro p e s m below meth c Z ls hx hb hml hown ht hN hK hw hret hl
  have hl : lv_has ls 5 [(0, .ref (ad k0)), (1, .int a1)] := hl
  generalize s.heap = H at hw ⊢
  generalize ([] : List Loc) = locs at hw ⊢
  change ∃ n0x, wpl_X2_removeState_2 k0 a1 (fun (μ24 : TMem) => wp_X2_closeUp (μ24 k0 3) a1 (fun (r25 : Int32) => wp_X2_closeUp ((tms μ24 k0 3 r25) k0 2) a1 (fun (r26 : Int32) => Q (tms (tms (tms μ24 k0 3 r25) k0 2 r26) k0 1 (((tms (tms μ24 k0 3 r25) k0 2 r26) k0 1) - (1 : Int32)))))) n0x (0 : Int32) μ at h
  refine lv_iconst (v := (0 : Int32)) hx hb dX2_removeState_0 (by decide) ?_
  refine lv_istore_n (lv' := [(2, .int (0 : Int32)), (0, .ref (ad k0)), (1, .int a1)]) hx hb dX2_removeState_1 rfl hl (by decide) rfl (fun ls hl => ?_)
  obtain ⟨n23, h⟩ := h
  have L0 : ∀ (v3 : Int32) (K64 : TMem → Prop), (∀ (μ4 : TMem) (H : Heap) (locs : List Loc) (ls : Array Slot), TW D ad cI cM s μ4 H locs → lv_has ls 5 [(0, .ref (ad k0)), (1, .int v3)] → K64 μ4 → W p l e (RM 1) s m #[.ref (ad k0), .int a1] below meth c H locs 0 0 Z (F0 m 64 ls [])) → ∀ (n : Nat) (v2 : Int32) (μ4 : TMem) (H : Heap) (locs : List Loc) (ls : Array Slot), TW D ad cI cM s μ4 H locs → lv_has ls 5 [(2, .int v2), (0, .ref (ad k0)), (1, .int v3)] → wpl_X2_removeState_2 k0 v3 K64 n v2 μ4 → W p l e (RM 1) s m #[.ref (ad k0), .int a1] below meth c H locs 0 0 Z (F0 m 2 ls []) := by
    intro v3 K64 hK64
    intro n
    induction n with
    | zero => intro v2 μ4 H locs ls hw hl h; exact False.elim h
    | succ n ih0 =>
      intro v2 μ4 H locs ls hw hl h
      change (((μ4 k0 1) - (1 : Int32)) ≤ v2 → (K64 μ4)) ∧ (¬ ((μ4 k0 1) - (1 : Int32)) ≤ v2 → (∀ J6 : Int32 → Prop, (∀ (j7 : Int32), (∃ n7x, wpl_X2_removeState_28 k0 j7 v2 v3 (fun (μ21 : TMem) => wpl_X2_removeState_2 k0 v3 K64 n (v2 + (1 : Int32)) μ21) n7x (0 : Int32) μ4) → J6 j7) → ((v3 ≤ v2 → (J6 (v2 + (1 : Int32)))) ∧ (¬ v3 ≤ v2 → (J6 v2))))) at h
      refine lv_iload_n hx hb dX2_removeState_2 rfl (lv_at hl 0 rfl) ?_
      refine lv_aload_n hx hb dX2_removeState_3 rfl (lv_at hl 1 rfl) ?_
      refine gf_X2_15 hx hb ht hown hK hw hk0 dX2_removeState_4 ?_
      refine lv_iconst (v := (1 : Int32)) hx hb dX2_removeState_7 (by decide) ?_
      refine lv_isub hx hb dX2_removeState_8 ?_
      refine lv_icmp_ge (tgt := 64) hx hb dX2_removeState_9 (by decide) (fun c5 => ?_) (fun c5 => ?_)
      · have h := h.1 c5
        exact hK64 μ4 H locs ls hw (lv_sub hl [1, 2] rfl) h
      have h := h.2 c5
      refine lv_iload_n hx hb dX2_removeState_12 rfl (lv_at hl 0 rfl) ?_
      refine lv_iload_n hx hb dX2_removeState_13 rfl (lv_at hl 2 rfl) ?_
      have h := h (fun j7 => ∀ (H : Heap) (locs : List Loc) (ls : Array Slot), TW D ad cI cM s μ4 H locs → lv_has ls 5 [(2, .int v2), (0, .ref (ad k0)), (1, .int v3)] → W p l e (RM 1) s m #[.ref (ad k0), .int a1] below meth c H locs 0 0 Z (F0 m 24 ls [.int j7])) (fun j7 h H locs ls hw hl => by
        refine lv_istore_n (lv' := [(3, .int j7), (2, .int v2), (0, .ref (ad k0)), (1, .int v3)]) hx hb dX2_removeState_24 rfl hl (by decide) rfl (fun ls hl => ?_)
        refine lv_iconst (v := (0 : Int32)) hx hb dX2_removeState_25 (by decide) ?_
        refine lv_istore (lv' := [(4, .int (0 : Int32)), (3, .int j7), (2, .int v2), (0, .ref (ad k0)), (1, .int v3)]) hx hb dX2_removeState_26 hl (by decide) rfl (fun ls hl => ?_)
        obtain ⟨n20, h⟩ := h
        have L7 : ∀ (v10 : Int32) (v11 : Int32) (v12 : Int32) (K58 : TMem → Prop), (∀ (μ13 : TMem) (H : Heap) (locs : List Loc) (ls : Array Slot), TW D ad cI cM s μ13 H locs → lv_has ls 5 [(2, .int v11), (0, .ref (ad k0)), (1, .int v12)] → K58 μ13 → W p l e (RM 1) s m #[.ref (ad k0), .int a1] below meth c H locs 0 0 Z (F0 m 58 ls [])) → ∀ (n : Nat) (v9 : Int32) (μ13 : TMem) (H : Heap) (locs : List Loc) (ls : Array Slot), TW D ad cI cM s μ13 H locs → lv_has ls 5 [(4, .int v9), (3, .int v10), (2, .int v11), (0, .ref (ad k0)), (1, .int v12)] → wpl_X2_removeState_28 k0 v10 v11 v12 K58 n v9 μ13 → W p l e (RM 1) s m #[.ref (ad k0), .int a1] below meth c H locs 0 0 Z (F0 m 28 ls []) := by
          intro v10 v11 v12 K58 hK58
          intro n
          induction n with
          | zero => intro v9 μ13 H locs ls hw hl h; exact False.elim h
          | succ n ih7 =>
            intro v9 μ13 H locs ls hw hl h
            change ((3 : Int32) ≤ v9 → (K58 μ13)) ∧ (¬ (3 : Int32) ≤ v9 → (wp_X7_at k0 μ13 v10 v9 (fun (r15 : Int32) => wp_X2_closeUp r15 v12 (fun (r18 : Int32) => wp_X7_put k0 μ13 v11 v9 r18 (fun (μ19 : TMem) => wpl_X2_removeState_28 k0 v10 v11 v12 K58 n (v9 + (1 : Int32)) μ19))))) at h
            refine lv_iload hx hb dX2_removeState_28 (lv_at hl 0 rfl) ?_
            refine lv_iconst (v := (3 : Int32)) hx hb dX2_removeState_30 (by decide) ?_
            refine lv_icmp_ge (tgt := 58) hx hb dX2_removeState_31 (by decide) (fun c14 => ?_) (fun c14 => ?_)
            · have h := h.1 c14
              exact hK58 μ13 H locs ls hw (lv_sub hl [2, 3, 4] rfl) h
            have h := h.2 c14
            refine lv_aload_n hx hb dX2_removeState_34 rfl (lv_at hl 3 rfl) ?_
            refine lv_iload_n hx hb dX2_removeState_35 rfl (lv_at hl 2 rfl) ?_
            refine lv_iload hx hb dX2_removeState_36 (lv_at hl 0 rfl) ?_
            refine lv_aload_n hx hb dX2_removeState_38 rfl (lv_at hl 3 rfl) ?_
            refine lv_iload_n hx hb dX2_removeState_39 rfl (lv_at hl 1 rfl) ?_
            refine lv_iload hx hb dX2_removeState_40 (lv_at hl 0 rfl) ?_
            refine T_calli hw (va_runU (own := "Leastreader$Machine") (As := [.int v10, .int v9]) (rest := [.int v9, .int v11, .ref (ad k0)]) ⟨hx, hb, hml, hown, ht⟩ (c_X7_at_2 k0 hk0 μ13 H.size v10 v9 h) (va_cwU (owner := "Leastreader$Table") 2 ht (G_U q_412 q_413 q_415 q_416 q_47 q_417) rfl rfl rfl rfl hd_0 ⟨Nat.le_of_ble_eq_true rfl, Nat.le_of_ble_eq_true rfl⟩) ⟨TB.blind, (T_recv hK hw (kd_of hk0 (by decide)) (ent_2 hk0) cl_2), TB.pre hK hN hw⟩ rfl rfl hl.1 rfl (lv_room (Nat.le_of_ble_eq_true rfl)) dX2_removeState_42 ⟨Nat.le_of_ble_eq_true rfl, Nat.le_of_ble_eq_true rfl⟩) (fun r15 μ16 H locs h hw => ?_)
            obtain ⟨e17, h⟩ := h
            rw [e17] at hw
            refine lv_iload_n hx hb dX2_removeState_45 rfl (lv_at hl 4 rfl) ?_
            refine P_calli (va_runS (own := "Leastreader$Machine") (As := [.int r15, .int v12]) (rest := [.int v9, .int v11, .ref (ad k0)]) ⟨hx, hb, hml, hown, ht⟩ (c_X2_closeUp r15 v12 h) (va_cwS 2 ht (G_S q_759 q_760 q_48 q_761) rfl rfl rfl hd_46 ⟨Nat.le_of_ble_eq_true rfl, Nat.le_of_ble_eq_true rfl⟩) ⟨PM_blind, PM_pre⟩ rfl rfl hl.1 rfl (lv_room (Nat.le_of_ble_eq_true rfl)) dX2_removeState_46 ⟨Nat.le_of_ble_eq_true rfl, Nat.le_of_ble_eq_true rfl⟩) (fun r18 h => ?_)
            refine T_callv hw (va_runU (own := "Leastreader$Machine") (As := [.int v11, .int v9, .int r18]) (rest := []) ⟨hx, hb, hml, hown, ht⟩ (c_X7_put_2 k0 hk0 μ13 H.size v11 v9 r18 h) (va_cwU (owner := "Leastreader$Table") 3 ht (G_U q_444 q_445 q_446 q_430 q_47 q_431) rfl rfl rfl rfl hd_1 ⟨Nat.le_of_ble_eq_true rfl, Nat.le_of_ble_eq_true rfl⟩) ⟨TB.blind, (T_recv hK hw (kd_of hk0 (by decide)) (ent_2 hk0) cl_2), TB.pre hK hN hw⟩ rfl rfl hl.1 rfl (lv_room (Nat.le_of_ble_eq_true rfl)) dX2_removeState_49 ⟨Nat.le_of_ble_eq_true rfl, Nat.le_of_ble_eq_true rfl⟩) (fun μ19 H locs h hw => ?_)
            refine lv_iinc (v := (v9 + (1 : Int32))) (lv' := [(4, .int (v9 + (1 : Int32))), (3, .int v10), (2, .int v11), (0, .ref (ad k0)), (1, .int v12)]) hx hb dX2_removeState_52 hl (k := 0) rfl rfl (by decide) rfl (fun ls hl => ?_)
            refine lv_goto (tgt := 28) hx hb dX2_removeState_55 (by decide) ?_
            exact ih7 (v9 + (1 : Int32)) μ19 H locs ls hw (lv_sub hl [0, 1, 2, 3, 4] rfl) h
        refine L7 j7 v2 v3 _ ?_ n20 (0 : Int32) μ4 H locs ls hw (lv_sub hl [0, 1, 2, 3, 4] rfl) h
        intro μ21 H locs ls hw hl h
        refine lv_iinc (v := (v2 + (1 : Int32))) (lv' := [(2, .int (v2 + (1 : Int32))), (0, .ref (ad k0)), (1, .int v3)]) hx hb dX2_removeState_58 hl (k := 0) rfl rfl (by decide) rfl (fun ls hl => ?_)
        refine lv_goto (tgt := 2) hx hb dX2_removeState_61 (by decide) ?_
        exact ih0 (v2 + (1 : Int32)) μ21 H locs ls hw (lv_sub hl [0, 1, 2] rfl) h)
      refine lv_icmp_ge (tgt := 21) hx hb dX2_removeState_14 (by decide) (fun c22 => ?_) (fun c22 => ?_)
      · have h := h.1 c22
        refine lv_iload_n hx hb dX2_removeState_21 rfl (lv_at hl 0 rfl) ?_
        refine lv_iconst (v := (1 : Int32)) hx hb dX2_removeState_22 (by decide) ?_
        refine lv_iadd hx hb dX2_removeState_23 ?_
        exact h H locs ls hw (lv_sub hl [0, 1, 2] rfl)
      have h := h.2 c22
      refine lv_iload_n hx hb dX2_removeState_17 rfl (lv_at hl 0 rfl) ?_
      refine lv_goto (tgt := 24) hx hb dX2_removeState_18 (by decide) ?_
      exact h H locs ls hw (lv_sub hl [0, 1, 2] rfl)
  refine L0 a1 _ ?_ n23 (0 : Int32) μ H locs ls hw (lv_sub hl [0, 1, 2] rfl) h
  intro μ24 H locs ls hw hl h
  refine lv_aload_n hx hb dX2_removeState_64 rfl (lv_at hl 0 rfl) ?_
  refine lv_aload_n hx hb dX2_removeState_65 rfl (lv_at hl 0 rfl) ?_
  refine gf_X2_9 hx hb ht hown hK hw hk0 dX2_removeState_66 ?_
  refine lv_iload_n hx hb dX2_removeState_69 rfl (lv_at hl 1 rfl) ?_
  refine P_calli (va_runS (own := "Leastreader$Machine") (As := [.int (μ24 k0 3), .int a1]) (rest := [.ref (ad k0)]) ⟨hx, hb, hml, hown, ht⟩ (c_X2_closeUp (μ24 k0 3) a1 h) (va_cwS 2 ht (G_S q_759 q_760 q_48 q_761) rfl rfl rfl hd_46 ⟨Nat.le_of_ble_eq_true rfl, Nat.le_of_ble_eq_true rfl⟩) ⟨PM_blind, PM_pre⟩ rfl rfl hl.1 rfl (lv_room (Nat.le_of_ble_eq_true rfl)) dX2_removeState_70 ⟨Nat.le_of_ble_eq_true rfl, Nat.le_of_ble_eq_true rfl⟩) (fun r25 h => ?_)
  refine pgf_X2_9 hx hb ht hown hK hw hk0 dX2_removeState_73 (fun H locs hw => ?_)
  refine lv_aload_n hx hb dX2_removeState_76 rfl (lv_at hl 0 rfl) ?_
  refine lv_aload_n hx hb dX2_removeState_77 rfl (lv_at hl 0 rfl) ?_
  refine gf_X2_18 hx hb ht hown hK hw hk0 dX2_removeState_78 ?_
  refine lv_iload_n hx hb dX2_removeState_81 rfl (lv_at hl 1 rfl) ?_
  refine P_calli (va_runS (own := "Leastreader$Machine") (As := [.int ((tms μ24 k0 3 r25) k0 2), .int a1]) (rest := [.ref (ad k0)]) ⟨hx, hb, hml, hown, ht⟩ (c_X2_closeUp ((tms μ24 k0 3 r25) k0 2) a1 h) (va_cwS 2 ht (G_S q_759 q_760 q_48 q_761) rfl rfl rfl hd_46 ⟨Nat.le_of_ble_eq_true rfl, Nat.le_of_ble_eq_true rfl⟩) ⟨PM_blind, PM_pre⟩ rfl rfl hl.1 rfl (lv_room (Nat.le_of_ble_eq_true rfl)) dX2_removeState_82 ⟨Nat.le_of_ble_eq_true rfl, Nat.le_of_ble_eq_true rfl⟩) (fun r26 h => ?_)
  refine pgf_X2_18 hx hb ht hown hK hw hk0 dX2_removeState_85 (fun H locs hw => ?_)
  refine lv_aload_n hx hb dX2_removeState_88 rfl (lv_at hl 0 rfl) ?_
  refine lv_dup hx hb dX2_removeState_89 rfl ?_
  refine gf_X2_15 hx hb ht hown hK hw hk0 dX2_removeState_90 ?_
  refine lv_iconst (v := (1 : Int32)) hx hb dX2_removeState_93 (by decide) ?_
  refine lv_isub hx hb dX2_removeState_94 ?_
  refine pgf_X2_15 hx hb ht hown hK hw hk0 dX2_removeState_95 (fun H locs hw => ?_)
  exact hret H locs ls 98 _ hw h dX2_removeState_98
def wpl_X2_countOneByOne_10 (k0 : Nat) (μ : TMem) (v5 : Int32) (v6 : Int32) (Q : Int32 → Prop) : Nat → Int32 → Int32 → Prop
  | 0, _, _ => False
  | n + 1, v3, v4 =>
    (v5 ≤ v3 → (Q v4)) ∧ (¬ v5 ≤ v3 → (wp_X2_isTaking k0 μ v6 v3 (fun (r8 : Int32) => (r8 = 0 → (wpl_X2_countOneByOne_10 k0 μ v5 v6 Q n (v3 + (1 : Int32)) v4)) ∧ (¬ r8 = 0 → (wpl_X2_countOneByOne_10 k0 μ v5 v6 Q n (v3 + (1 : Int32)) (v4 + (1 : Int32)))))))
def wp_X2_countOneByOne (k0 : Nat) (μ : TMem) (a1 : Int32) (Q : Int32 → Prop) : Prop :=
  wp_X9_countCodes a1 (fun (r1 : Int32) => ∃ n1x, wpl_X2_countOneByOne_10 k0 μ r1 a1 Q n1x (0 : Int32) (0 : Int32))
set_option maxHeartbeats 4000000 in
set_option maxRecDepth 100000 in
theorem c_X2_countOneByOne {l : Launch} {D : va_G} {ad : Nat → Nat} {cI cM : ClassId} (k0 : Nat) (hk0 : kd k0 = 2) (μ : TMem) (sz : Nat) (a1 : Int32) {Q : Int32 → Prop} (h : wp_X2_countOneByOne k0 μ a1 Q) : TMi l yX2_countOneByOne (.code yX2_countOneByOne cX2_countOneByOne 5 (Option.some Jvm.ClassFile.FieldType.int)) 4 [.ref (ad k0), .int a1] D ad cI cM sz μ (fun r μ1 => μ1 = μ ∧ Q r) := by
  refine T_meti (by decide +kernel) (Nat.le_of_ble_eq_true rfl) ?_
  intro p e s m below meth c Z ls hx hb hml hown ht hN hK hw hret hl
  have hl : lv_has ls 5 [(0, .ref (ad k0)), (1, .int a1)] := hl
  generalize s.heap = H at hw ⊢
  generalize ([] : List Loc) = locs at hw ⊢
  change wp_X9_countCodes a1 (fun (r1 : Int32) => ∃ n1x, wpl_X2_countOneByOne_10 k0 μ r1 a1 Q n1x (0 : Int32) (0 : Int32)) at h
  refine lv_iload_n hx hb dX2_countOneByOne_0 rfl (lv_at hl 1 rfl) ?_
  refine P_calli (va_runSN (own := "Leastreader$Machine") (As := [.int a1]) (rest := []) ⟨hx, hb, hml, hown, ht⟩ (c_X9_countCodes a1 h) ⟨va_cnB 1 ht (G_ws q_534) rfl rfl rfl (nw_1184 hN) (ht _ q_46) hd_30 ⟨Nat.le_of_ble_eq_true rfl, Nat.le_of_ble_eq_true rfl⟩, ht _ q_533, trivial⟩ ⟨PM_blind, PM_pre⟩ rfl rfl hl.1 rfl (lv_room (Nat.le_of_ble_eq_true rfl)) dX2_countOneByOne_1 ⟨Nat.le_of_ble_eq_true rfl, Nat.le_of_ble_eq_true rfl⟩) (fun r1 h => ?_)
  refine lv_istore_n (lv' := [(2, .int r1), (0, .ref (ad k0)), (1, .int a1)]) hx hb dX2_countOneByOne_4 rfl hl (by decide) rfl (fun ls hl => ?_)
  refine lv_iconst (v := (0 : Int32)) hx hb dX2_countOneByOne_5 (by decide) ?_
  refine lv_istore_n (lv' := [(3, .int (0 : Int32)), (2, .int r1), (0, .ref (ad k0)), (1, .int a1)]) hx hb dX2_countOneByOne_6 rfl hl (by decide) rfl (fun ls hl => ?_)
  refine lv_iconst (v := (0 : Int32)) hx hb dX2_countOneByOne_7 (by decide) ?_
  refine lv_istore (lv' := [(4, .int (0 : Int32)), (3, .int (0 : Int32)), (2, .int r1), (0, .ref (ad k0)), (1, .int a1)]) hx hb dX2_countOneByOne_8 hl (by decide) rfl (fun ls hl => ?_)
  obtain ⟨n12, h⟩ := h
  have L1 : ∀ (v5 : Int32) (v6 : Int32), ∀ (n : Nat) (v3 : Int32) (v4 : Int32) (H : Heap) (locs : List Loc) (ls : Array Slot), TW D ad cI cM s μ H locs → lv_has ls 5 [(4, .int v3), (3, .int v4), (2, .int v5), (0, .ref (ad k0)), (1, .int v6)] → wpl_X2_countOneByOne_10 k0 μ v5 v6 Q n v3 v4 → W p l e (RM 4) s m #[.ref (ad k0), .int a1] below meth c H locs 0 0 Z (F0 m 10 ls []) := by
    intro v5 v6
    intro n
    induction n with
    | zero => intro v3 v4 H locs ls hw hl h; exact False.elim h
    | succ n ih1 =>
      intro v3 v4 H locs ls hw hl h
      change (v5 ≤ v3 → (Q v4)) ∧ (¬ v5 ≤ v3 → (wp_X2_isTaking k0 μ v6 v3 (fun (r8 : Int32) => (r8 = 0 → (wpl_X2_countOneByOne_10 k0 μ v5 v6 Q n (v3 + (1 : Int32)) v4)) ∧ (¬ r8 = 0 → (wpl_X2_countOneByOne_10 k0 μ v5 v6 Q n (v3 + (1 : Int32)) (v4 + (1 : Int32))))))) at h
      refine lv_iload hx hb dX2_countOneByOne_10 (lv_at hl 0 rfl) ?_
      refine lv_iload_n hx hb dX2_countOneByOne_12 rfl (lv_at hl 2 rfl) ?_
      refine lv_icmp_ge (tgt := 35) hx hb dX2_countOneByOne_13 (by decide) (fun c7 => ?_) (fun c7 => ?_)
      · have h := h.1 c7
        refine lv_iload_n hx hb dX2_countOneByOne_35 rfl (lv_at hl 1 rfl) ?_
        exact hret H locs ls 36 _ _ hw ⟨rfl, h⟩ rfl dX2_countOneByOne_36
      have h := h.2 c7
      refine lv_aload_n hx hb dX2_countOneByOne_16 rfl (lv_at hl 3 rfl) ?_
      refine lv_iload_n hx hb dX2_countOneByOne_17 rfl (lv_at hl 4 rfl) ?_
      refine lv_iload hx hb dX2_countOneByOne_18 (lv_at hl 0 rfl) ?_
      refine T_calli hw (va_runV (own := "Leastreader$Machine") (As := [.int v6, .int v3]) (rest := []) ⟨hx, hb, hml, hown, ht⟩ (c_X2_isTaking k0 hk0 μ H.size v6 v3 h) (cwV 2 ht (G_V q_1185 q_542 q_543 q_48 q_544) rfl rfl rfl ⟨rfl, hd_32⟩ ⟨Nat.le_of_ble_eq_true rfl, Nat.le_of_ble_eq_true rfl⟩) ⟨TB.blind, (T_recv hK hw (kd_of hk0 (by decide)) (ent_2 hk0) cl_2), TB.pre hK hN hw⟩ rfl rfl hl.1 rfl (lv_room (Nat.le_of_ble_eq_true rfl)) dX2_countOneByOne_20 ⟨Nat.le_of_ble_eq_true rfl, Nat.le_of_ble_eq_true rfl⟩) (fun r8 μ9 H locs h hw => ?_)
      obtain ⟨e10, h⟩ := h
      rw [e10] at hw
      refine lv_if_eq (tgt := 29) hx hb dX2_countOneByOne_23 (by decide) (fun c11 => ?_) (fun c11 => ?_)
      · have h := h.1 c11
        refine lv_iinc (v := (v3 + (1 : Int32))) (lv' := [(4, .int (v3 + (1 : Int32))), (3, .int v4), (2, .int v5), (0, .ref (ad k0)), (1, .int v6)]) hx hb dX2_countOneByOne_29 hl (k := 0) rfl rfl (by decide) rfl (fun ls hl => ?_)
        refine lv_goto (tgt := 10) hx hb dX2_countOneByOne_32 (by decide) ?_
        exact ih1 (v3 + (1 : Int32)) v4 H locs ls hw (lv_sub hl [0, 1, 2, 3, 4] rfl) h
      have h := h.2 c11
      refine lv_iinc (v := (v4 + (1 : Int32))) (lv' := [(3, .int (v4 + (1 : Int32))), (4, .int v3), (2, .int v5), (0, .ref (ad k0)), (1, .int v6)]) hx hb dX2_countOneByOne_26 hl (k := 1) rfl rfl (by decide) rfl (fun ls hl => ?_)
      refine lv_iinc (v := (v3 + (1 : Int32))) (lv' := [(4, .int (v3 + (1 : Int32))), (3, .int (v4 + (1 : Int32))), (2, .int v5), (0, .ref (ad k0)), (1, .int v6)]) hx hb dX2_countOneByOne_29 hl (k := 1) rfl rfl (by decide) rfl (fun ls hl => ?_)
      refine lv_goto (tgt := 10) hx hb dX2_countOneByOne_32 (by decide) ?_
      exact ih1 (v3 + (1 : Int32)) (v4 + (1 : Int32)) H locs ls hw (lv_sub hl [0, 1, 2, 3, 4] rfl) h
  exact L1 r1 a1 n12 (0 : Int32) (0 : Int32) H locs ls hw (lv_sub hl [0, 1, 2, 3, 4] rfl) h
