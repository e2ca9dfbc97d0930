def wp_X11_arrows (μ : TMem) (a1 : Int32) (a2 : Int32) (a3 : Int32) (Q : Int32 → TMem → Prop) : Prop :=
  wp_X11_isOne a1 (fun (r1 : Int32) => ∀ J2 : Int32 → Prop, (∀ (j3 : Int32), (wp_X11_isIn a3 (0 : Int32) (2 : Int32) (fun (r4 : Int32) => wp_X11_isThrown μ j3 r4 (fun (r6 : Int32) (μ5 : TMem) => (r6 = 0 → (wp_X11_key a1 a2 a3 (fun (r8 : Int32) => vp_in r8 (ml 4) ∧ (Q (μ5 4 r8.toNatClampNeg) μ5)))) ∧ (¬ r6 = 0 → (Q (0 : Int32) μ5))))) → J2 j3) → ((r1 = 0 → (J2 (0 : Int32))) ∧ (¬ r1 = 0 → (wp_X11_isState μ a1 a2 (fun (r13 : Int32) => (r13 = 0 → (J2 (0 : Int32))) ∧ (¬ r13 = 0 → (J2 (1 : Int32))))))))
set_option maxHeartbeats 4000000 in
set_option maxRecDepth 100000 in
theorem c_X11_arrows {l : Launch} {D : va_G} {ad : Nat → Nat} {cI cL : ClassId}  (μ : TMem) (sz : Nat) (a1 : Int32) (a2 : Int32) (a3 : Int32)  {Q : Int32 → TMem → Prop} (h : wp_X11_arrows μ a1 a2 a3 Q) : MMi l yX11_arrows (.code yX11_arrows cX11_arrows 4 (Option.some Jvm.ClassFile.FieldType.int)) 2 0 0 [.ref (ad 0), .int a1, .int a2, .int a3] D ad cI cL sz μ [] Q := by
  refine M_meti (by decide +kernel) (Nat.le_of_ble_eq_true rfl) ?_
  intro p e s m below meth c Z ls hx hb hml hown ht hK hP0 hI hne hw hret hl
  have hl : lv_has ls 4 [(0, .ref (ad 0)), (1, .int a1), (2, .int a2), (3, .int a3)] := hl
  suffices hh : ∀ (H : Heap) (locs : List Loc), MW D (MR ad cI μ) [] (MA ad s.heap.size) s H locs → W p l e (RA 2 0 0) s m #[.ref (ad 0), .int a1, .int a2, .int a3] below meth c H locs 0 0 Z (F0 m 0 ls []) from hh _ _ hw
  intro H locs hw
  change wp_X11_isOne a1 (fun (r1 : Int32) => ∀ J2 : Int32 → Prop, (∀ (j3 : Int32), (wp_X11_isIn a3 (0 : Int32) (2 : Int32) (fun (r4 : Int32) => wp_X11_isThrown μ j3 r4 (fun (r6 : Int32) (μ5 : TMem) => (r6 = 0 → (wp_X11_key a1 a2 a3 (fun (r8 : Int32) => vp_in r8 (ml 4) ∧ (Q (μ5 4 r8.toNatClampNeg) μ5)))) ∧ (¬ r6 = 0 → (Q (0 : Int32) μ5))))) → J2 j3) → ((r1 = 0 → (J2 (0 : Int32))) ∧ (¬ r1 = 0 → (wp_X11_isState μ a1 a2 (fun (r13 : Int32) => (r13 = 0 → (J2 (0 : Int32))) ∧ (¬ r13 = 0 → (J2 (1 : Int32)))))))) at h
  refine lv_aload_n hx hb dX11_arrows_0 rfl (lv_at hl 0 rfl) ?_
  refine lv_iload_n hx hb dX11_arrows_1 rfl (lv_at hl 1 rfl) ?_
  refine P_calli (va_runS (own := "LeastreaderModel") (As := [.int a1]) (rest := [.ref (ad 0)]) ⟨hx, hb, hml, hown, ht⟩ (c_X11_isOne a1 h) (va_cwS 1 ht (G_S q_1346 q_1347 q_56 q_1348) rfl rfl rfl hd_91 ⟨Nat.le_of_ble_eq_true rfl, Nat.le_of_ble_eq_true rfl⟩) ⟨PM_blind, PM_pre⟩ rfl rfl hl.1 rfl (lv_room (Nat.le_of_ble_eq_true rfl)) dX11_arrows_2 ⟨show 0 + 0 ≤ 0 by omega, show 0 + 0 ≤ 0 by omega⟩) (fun r1 h => ?_)
  have h := h (fun (j3 : Int32) => ∀ (H : Heap) (locs : List Loc) (ls : Array Slot), MW D (MR ad cI μ) [] (MA ad s.heap.size) s H locs → lv_has ls 4 [(0, .ref (ad 0)), (1, .int a1), (2, .int a2), (3, .int a3)] → W p l e (RA 2 0 0) s m #[.ref (ad 0), .int a1, .int a2, .int a3] below meth c H locs 0 0 Z (F0 m 22 ls [.int j3, .ref (ad 0)])) (fun j3 h H locs ls hw hl => by
    refine lv_iload_n hx hb dX11_arrows_22 rfl (lv_at hl 3 rfl) ?_
    refine lv_iconst (v := (0 : Int32)) hx hb dX11_arrows_23 (by decide) ?_
    refine lv_iconst (v := (2 : Int32)) hx hb dX11_arrows_24 (by decide) ?_
    refine P_calli (va_runS (own := "LeastreaderModel") (As := [.int a3, .int (0 : Int32), .int (2 : Int32)]) (rest := [.int j3, .ref (ad 0)]) ⟨hx, hb, hml, hown, ht⟩ (c_X11_isIn a3 (0 : Int32) (2 : Int32) h) (va_cwS 3 ht (G_S q_1349 q_1350 q_56 q_1351) rfl rfl rfl hd_78 ⟨Nat.le_of_ble_eq_true rfl, Nat.le_of_ble_eq_true rfl⟩) ⟨PM_blind, PM_pre⟩ rfl rfl hl.1 rfl (lv_room (Nat.le_of_ble_eq_true rfl)) dX11_arrows_25 ⟨show 0 + 0 ≤ 0 by omega, show 0 + 0 ≤ 0 by omega⟩) (fun r4 h => ?_)
    refine M_calli hw (MA.up hw.2.2.1.1) (va_runV (own := "LeastreaderModel") (As := [.int j3, .int r4]) (rest := []) ⟨hx, hb, hml, hown, ht⟩ (c_X11_isThrown μ H.size j3 r4 h) (cwV 2 ht (G_V q_1352 q_1354 q_26 q_56 q_1355) rfl rfl rfl ⟨rfl, hd_92⟩ ⟨Nat.le_of_ble_eq_true rfl, Nat.le_of_ble_eq_true rfl⟩) ⟨MB.blind, M_recv hK hw, MB.pre hK hI hw va_P0 ne0⟩ rfl rfl hl.1 rfl (lv_room (Nat.le_of_ble_eq_true rfl)) dX11_arrows_28 ⟨show 0 + 0 ≤ 0 by omega, show 0 + 0 ≤ 0 by omega⟩) (fun r6 μ5 H locs h hw => ?_)
    refine lv_if_eq (tgt := 38) hx hb dX11_arrows_31 (by decide) (fun c7 => ?_) (fun c7 => ?_)
    · have h := h.1 c7
      refine lv_aload_n hx hb dX11_arrows_38 rfl (lv_at hl 0 rfl) ?_
      refine m_get (i := 3) hx hb ht hown hK hw (by decide) (ht _ q_1316) rfl rfl dX11_arrows_39 ?_
      refine lv_iload_n hx hb dX11_arrows_42 rfl (lv_at hl 1 rfl) ?_
      refine lv_iload_n hx hb dX11_arrows_43 rfl (lv_at hl 2 rfl) ?_
      refine lv_iload_n hx hb dX11_arrows_44 rfl (lv_at hl 3 rfl) ?_
      refine P_calli (va_runS (own := "LeastreaderModel") (As := [.int a1, .int a2, .int a3]) (rest := [.ref (ad 4)]) ⟨hx, hb, hml, hown, ht⟩ (c_X11_key a1 a2 a3 h) (va_cwS 3 ht (G_S q_1360 q_1361 q_56 q_1362) rfl rfl rfl hd_79 ⟨Nat.le_of_ble_eq_true rfl, Nat.le_of_ble_eq_true rfl⟩) ⟨PM_blind, PM_pre⟩ rfl rfl hl.1 rfl (lv_room (Nat.le_of_ble_eq_true rfl)) dX11_arrows_45 ⟨show 0 + 0 ≤ 0 by omega, show 0 + 0 ≤ 0 by omega⟩) (fun r8 h => ?_)
      obtain ⟨z9, h⟩ := h
      refine m_iald hx hb hK hw (by decide) z9 dX11_arrows_48 ?_
      exact hret H locs ls 49 _ _ _ _ _ hw h rfl (show 0 ≤ 0 by omega) (show 0 ≤ 0 by omega) dX11_arrows_49
    have h := h.2 c7
    refine lv_iconst (v := (0 : Int32)) hx hb dX11_arrows_34 (by decide) ?_
    refine lv_goto (tgt := 49) hx hb dX11_arrows_35 (by decide) ?_
    exact hret H locs ls 49 _ _ _ _ _ hw h rfl (show 0 ≤ 0 by omega) (show 0 ≤ 0 by omega) dX11_arrows_49)
  refine lv_if_eq (tgt := 21) hx hb dX11_arrows_5 (by decide) (fun c10 => ?_) (fun c10 => ?_)
  · have h := h.1 c10
    refine lv_iconst (v := (0 : Int32)) hx hb dX11_arrows_21 (by decide) ?_
    exact h H locs ls hw (lv_sub hl [0, 1, 2, 3] rfl)
  have h := h.2 c10
  refine lv_aload_n hx hb dX11_arrows_8 rfl (lv_at hl 0 rfl) ?_
  refine lv_iload_n hx hb dX11_arrows_9 rfl (lv_at hl 1 rfl) ?_
  refine lv_iload_n hx hb dX11_arrows_10 rfl (lv_at hl 2 rfl) ?_
  refine M_calli hw (MA.up hw.2.2.1.1) (va_runV (own := "LeastreaderModel") (As := [.int a1, .int a2]) (rest := [.ref (ad 0)]) ⟨hx, hb, hml, hown, ht⟩ (c_X11_isState μ H.size a1 a2 h) (cwV 2 ht (G_V q_1380 q_1382 q_31 q_56 q_1383) rfl rfl rfl ⟨rfl, hd_96⟩ ⟨Nat.le_of_ble_eq_true rfl, Nat.le_of_ble_eq_true rfl⟩) ⟨MB.blind, M_recv hK hw, MB.pre hK hI hw va_P0 ne0⟩ rfl rfl hl.1 rfl (lv_room (Nat.le_of_ble_eq_true rfl)) dX11_arrows_11 ⟨show 0 + 0 ≤ 0 by omega, show 0 + 0 ≤ 0 by omega⟩) (fun r13 μ11 H locs h hw => ?_)
  obtain ⟨e12, h⟩ := h
  rw [e12] at hw
  refine lv_if_eq (tgt := 21) hx hb dX11_arrows_14 (by decide) (fun c14 => ?_) (fun c14 => ?_)
  · have h := h.1 c14
    refine lv_iconst (v := (0 : Int32)) hx hb dX11_arrows_21 (by decide) ?_
    exact h H locs ls hw (lv_sub hl [0, 1, 2, 3] rfl)
  have h := h.2 c14
  refine lv_iconst (v := (1 : Int32)) hx hb dX11_arrows_17 (by decide) ?_
  refine lv_goto (tgt := 22) hx hb dX11_arrows_18 (by decide) ?_
  exact h H locs ls hw (lv_sub hl [0, 1, 2, 3] rfl)
def wpl_X11_power_4 (v4 : Int32) (Q : Int32 → Prop) : Nat → Int32 → Int32 → Prop
  | 0, _, _ => False
  | n + 1, v2, v3 =>
    (v4 ≤ v2 → (Q v3)) ∧ (¬ v4 ≤ v2 → (wpl_X11_power_4 v4 Q n (v2 + (1 : Int32)) (v3 * (3 : Int32))))
def wp_X11_power (a0 : Int32) (Q : Int32 → Prop) : Prop :=
  ∃ n0x, wpl_X11_power_4 a0 Q n0x (0 : Int32) (1 : Int32)
set_option maxHeartbeats 4000000 in
set_option maxRecDepth 100000 in
theorem c_X11_power {l : Launch} (a0 : Int32) {Q : Int32 → Prop} (h : wp_X11_power a0 Q) : PMi l yX11_power (.code yX11_power cX11_power 3 (Option.some Jvm.ClassFile.FieldType.int)) 0 [.int a0] Q := by
  refine P_meti (by decide +kernel) (Nat.le_of_ble_eq_true rfl) ?_
  intro p e s m below meth c Z ls hx hb hml hown ht hret hl
  have hl : lv_has ls 3 [(0, .int a0)] := hl
  change ∃ n0x, wpl_X11_power_4 a0 Q n0x (0 : Int32) (1 : Int32) at h
  refine lv_iconst (v := (1 : Int32)) hx hb dX11_power_0 (by decide) ?_
  refine lv_istore_n (lv' := [(1, .int (1 : Int32)), (0, .int a0)]) hx hb dX11_power_1 rfl hl (by decide) rfl (fun ls hl => ?_)
  refine lv_iconst (v := (0 : Int32)) hx hb dX11_power_2 (by decide) ?_
  refine lv_istore_n (lv' := [(2, .int (0 : Int32)), (1, .int (1 : Int32)), (0, .int a0)]) hx hb dX11_power_3 rfl hl (by decide) rfl (fun ls hl => ?_)
  obtain ⟨n6, h⟩ := h
  have L0 : ∀ (v4 : Int32), ∀ (n : Nat) (v2 : Int32) (v3 : Int32) (ls : Array Slot), lv_has ls 3 [(2, .int v2), (1, .int v3), (0, .int v4)] → wpl_X11_power_4 v4 Q n v2 v3 → W p l e (RM 0) s m #[.int a0] below meth c s.heap [] 0 0 Z (F0 m 4 ls []) := by
    intro v4
    intro n
    induction n with
    | zero => intro v2 v3 ls hl h; exact False.elim h
    | succ n ih0 =>
      intro v2 v3 ls hl h
      change (v4 ≤ v2 → (Q v3)) ∧ (¬ v4 ≤ v2 → (wpl_X11_power_4 v4 Q n (v2 + (1 : Int32)) (v3 * (3 : Int32)))) at h
      refine lv_iload_n hx hb dX11_power_4 rfl (lv_at hl 0 rfl) ?_
      refine lv_iload_n hx hb dX11_power_5 rfl (lv_at hl 2 rfl) ?_
      refine lv_icmp_ge (tgt := 19) hx hb dX11_power_6 (by decide) (fun c5 => ?_) (fun c5 => ?_)
      · have h := h.1 c5
        refine lv_iload_n hx hb dX11_power_19 rfl (lv_at hl 1 rfl) ?_
        exact hret ls 20 _ h rfl dX11_power_20
      have h := h.2 c5
      refine lv_iload_n hx hb dX11_power_9 rfl (lv_at hl 1 rfl) ?_
      refine lv_iconst (v := (3 : Int32)) hx hb dX11_power_10 (by decide) ?_
      refine lv_imul hx hb dX11_power_11 ?_
      refine lv_istore_n (lv' := [(1, .int (v3 * (3 : Int32))), (2, .int v2), (0, .int v4)]) hx hb dX11_power_12 rfl hl (by decide) rfl (fun ls hl => ?_)
      refine lv_iinc (v := (v2 + (1 : Int32))) (lv' := [(2, .int (v2 + (1 : Int32))), (1, .int (v3 * (3 : Int32))), (0, .int v4)]) hx hb dX11_power_13 hl (k := 1) rfl rfl (by decide) rfl (fun ls hl => ?_)
      refine lv_goto (tgt := 4) hx hb dX11_power_16 (by decide) ?_
      exact ih0 (v2 + (1 : Int32)) (v3 * (3 : Int32)) ls (lv_sub hl [0, 1, 2] rfl) h
  exact L0 a0 n6 (0 : Int32) (1 : Int32) ls (lv_sub hl [0, 1, 2] rfl) h
def wp_X11_isWord (a0 : Int32) (a1 : Int32) (Q : Int32 → Prop) : Prop :=
  wp_X11_isIn a0 (0 : Int32) (12 : Int32) (fun (r1 : Int32) => (r1 = 0 → (Q (0 : Int32))) ∧ (¬ r1 = 0 → (wp_X11_power a0 (fun (r3 : Int32) => wp_X11_isIn a1 (0 : Int32) (r3 - (1 : Int32)) (fun (r4 : Int32) => (r4 = 0 → (Q (0 : Int32))) ∧ (¬ r4 = 0 → (Q (1 : Int32))))))))
set_option maxHeartbeats 4000000 in
set_option maxRecDepth 100000 in
theorem c_X11_isWord {l : Launch} (a0 : Int32) (a1 : Int32) {Q : Int32 → Prop} (h : wp_X11_isWord a0 a1 Q) : PMi l yX11_isWord (.code yX11_isWord cX11_isWord 2 (Option.some Jvm.ClassFile.FieldType.boolean)) 1 [.int a0, .int a1] Q := by
  refine P_meti (by decide +kernel) (Nat.le_of_ble_eq_true rfl) ?_
  intro p e s m below meth c Z ls hx hb hml hown ht hret hl
  have hl : lv_has ls 2 [(0, .int a0), (1, .int a1)] := hl
  change wp_X11_isIn a0 (0 : Int32) (12 : Int32) (fun (r1 : Int32) => (r1 = 0 → (Q (0 : Int32))) ∧ (¬ r1 = 0 → (wp_X11_power a0 (fun (r3 : Int32) => wp_X11_isIn a1 (0 : Int32) (r3 - (1 : Int32)) (fun (r4 : Int32) => (r4 = 0 → (Q (0 : Int32))) ∧ (¬ r4 = 0 → (Q (1 : Int32)))))))) at h
  refine lv_iload_n hx hb dX11_isWord_0 rfl (lv_at hl 0 rfl) ?_
  refine lv_iconst (v := (0 : Int32)) hx hb dX11_isWord_1 (by decide) ?_
  refine lv_bipush (v := (12 : Int32)) hx hb dX11_isWord_2 (by decide) ?_
  refine P_calli (va_runS (own := "LeastreaderModel") (As := [.int a0, .int (0 : Int32), .int (12 : Int32)]) (rest := []) ⟨hx, hb, hml, hown, ht⟩ (c_X11_isIn a0 (0 : Int32) (12 : Int32) h) (va_cwS 3 ht (G_S q_1349 q_1350 q_56 q_1351) rfl rfl rfl hd_78 ⟨Nat.le_of_ble_eq_true rfl, Nat.le_of_ble_eq_true rfl⟩) ⟨PM_blind, PM_pre⟩ rfl rfl hl.1 rfl (lv_room (Nat.le_of_ble_eq_true rfl)) dX11_isWord_4 ⟨Nat.le_of_ble_eq_true rfl, Nat.le_of_ble_eq_true rfl⟩) (fun r1 h => ?_)
  refine lv_if_eq (tgt := 28) hx hb dX11_isWord_7 (by decide) (fun c2 => ?_) (fun c2 => ?_)
  · have h := h.1 c2
    refine lv_iconst (v := (0 : Int32)) hx hb dX11_isWord_28 (by decide) ?_
    exact hret ls 29 _ h rfl dX11_isWord_29
  have h := h.2 c2
  refine lv_iload_n hx hb dX11_isWord_10 rfl (lv_at hl 1 rfl) ?_
  refine lv_iconst (v := (0 : Int32)) hx hb dX11_isWord_11 (by decide) ?_
  refine lv_iload_n hx hb dX11_isWord_12 rfl (lv_at hl 0 rfl) ?_
  refine P_calli (va_runS (own := "LeastreaderModel") (As := [.int a0]) (rest := [.int (0 : Int32), .int a1]) ⟨hx, hb, hml, hown, ht⟩ (c_X11_power a0 h) (va_cwS 1 ht (G_S q_1513 q_1514 q_56 q_1515) rfl rfl rfl hd_106 ⟨Nat.le_of_ble_eq_true rfl, Nat.le_of_ble_eq_true rfl⟩) ⟨PM_blind, PM_pre⟩ rfl rfl hl.1 rfl (lv_room (Nat.le_of_ble_eq_true rfl)) dX11_isWord_13 ⟨Nat.le_of_ble_eq_true rfl, Nat.le_of_ble_eq_true rfl⟩) (fun r3 h => ?_)
  refine lv_iconst (v := (1 : Int32)) hx hb dX11_isWord_16 (by decide) ?_
  refine lv_isub hx hb dX11_isWord_17 ?_
  refine P_calli (va_runS (own := "LeastreaderModel") (As := [.int a1, .int (0 : Int32), .int (r3 - (1 : Int32))]) (rest := []) ⟨hx, hb, hml, hown, ht⟩ (c_X11_isIn a1 (0 : Int32) (r3 - (1 : Int32)) h) (va_cwS 3 ht (G_S q_1349 q_1350 q_56 q_1351) rfl rfl rfl hd_78 ⟨Nat.le_of_ble_eq_true rfl, Nat.le_of_ble_eq_true rfl⟩) ⟨PM_blind, PM_pre⟩ rfl rfl hl.1 rfl (lv_room (Nat.le_of_ble_eq_true rfl)) dX11_isWord_18 ⟨Nat.le_of_ble_eq_true rfl, Nat.le_of_ble_eq_true rfl⟩) (fun r4 h => ?_)
  refine lv_if_eq (tgt := 28) hx hb dX11_isWord_21 (by decide) (fun c5 => ?_) (fun c5 => ?_)
  · have h := h.1 c5
    refine lv_iconst (v := (0 : Int32)) hx hb dX11_isWord_28 (by decide) ?_
    exact hret ls 29 _ h rfl dX11_isWord_29
  have h := h.2 c5
  refine lv_iconst (v := (1 : Int32)) hx hb dX11_isWord_24 (by decide) ?_
  refine lv_goto (tgt := 29) hx hb dX11_isWord_25 (by decide) ?_
  exact hret ls 29 _ h rfl dX11_isWord_29
def wpl_X11_setAfter_26 (μ : TMem) (v12 : Int32) (v13 : Int32) (v14 : Int32) (v15 : Int32) (v16 : Int32) (K74 : Int32 → Prop) : Nat → Int32 → Int32 → Prop
  | 0, _, _ => False
  | n + 1, v10, v11 =>
    vp_in v15 (ml 1) ∧ (((μ 1 v15.toNatClampNeg) ≤ v10 → (K74 v11)) ∧ (¬ (μ 1 v15.toNatClampNeg) ≤ v10 → ((¬ ((v14 >>> (v10 &&& 31)) &&& (1 : Int32)) = (1 : Int32) → (wpl_X11_setAfter_26 μ v12 v13 v14 v15 v16 K74 n (v10 + (1 : Int32)) v11)) ∧ (((v14 >>> (v10 &&& 31)) &&& (1 : Int32)) = (1 : Int32) → (wp_X11_key v15 v10 (v13 - v13 / (3 : Int32) * (3 : Int32)) (fun (r20 : Int32) => vp_in r20 (ml 4) ∧ (wpl_X11_setAfter_26 μ v12 v13 v14 v15 v16 K74 n (v10 + (1 : Int32)) (v11 ||| (μ 4 r20.toNatClampNeg)))))))))
def wpl_X11_setAfter_14 (μ : TMem) (v6 : Int32) (v7 : Int32) (Q : Int32 → Prop) : Nat → Int32 → Int32 → Int32 → Prop
  | 0, _, _, _ => False
  | n + 1, v3, v4, v5 =>
    (v7 ≤ v3 → (Q v5)) ∧ (¬ v7 ≤ v3 → (∃ n8x, wpl_X11_setAfter_26 μ v3 v4 v5 v6 v7 (fun (u23 : Int32) => wpl_X11_setAfter_14 μ v6 v7 Q n (v3 + (1 : Int32)) (v4 / (3 : Int32)) u23) n8x (0 : Int32) (0 : Int32)))
def wp_X11_setAfter (μ : TMem) (a1 : Int32) (a2 : Int32) (a3 : Int32) (Q : Int32 → Prop) : Prop :=
  vp_in a1 (ml 2) ∧ (∃ n1x, wpl_X11_setAfter_14 μ a1 a2 Q n1x (0 : Int32) a3 (μ 2 a1.toNatClampNeg))
set_option maxHeartbeats 4000000 in
set_option maxRecDepth 100000 in
theorem c_X11_setAfter {l : Launch} {D : va_G} {ad : Nat → Nat} {cI cL : ClassId}  (μ : TMem) (sz : Nat) (a1 : Int32) (a2 : Int32) (a3 : Int32)  {Q : Int32 → Prop} (h : wp_X11_setAfter μ a1 a2 a3 Q) : MMi l yX11_setAfter (.code yX11_setAfter cX11_setAfter 9 (Option.some Jvm.ClassFile.FieldType.int)) 1 0 0 [.ref (ad 0), .int a1, .int a2, .int a3] D ad cI cL sz μ [] (fun r μ1 => μ1 = μ ∧ Q r) := by
  refine M_meti (by decide +kernel) (Nat.le_of_ble_eq_true rfl) ?_
  intro p e s m below meth c Z ls hx hb hml hown ht hK hP0 hI hne hw hret hl
  have hl : lv_has ls 9 [(0, .ref (ad 0)), (1, .int a1), (2, .int a2), (3, .int a3)] := hl
  suffices hh : ∀ (H : Heap) (locs : List Loc), MW D (MR ad cI μ) [] (MA ad s.heap.size) s H locs → W p l e (RA 1 0 0) s m #[.ref (ad 0), .int a1, .int a2, .int a3] below meth c H locs 0 0 Z (F0 m 0 ls []) from hh _ _ hw
  intro H locs hw
  change vp_in a1 (ml 2) ∧ (∃ n1x, wpl_X11_setAfter_14 μ a1 a2 Q n1x (0 : Int32) a3 (μ 2 a1.toNatClampNeg)) at h
  refine lv_aload_n hx hb dX11_setAfter_0 rfl (lv_at hl 0 rfl) ?_
  refine m_get (i := 1) hx hb ht hown hK hw (by decide) (ht _ q_1314) rfl rfl dX11_setAfter_1 ?_
  refine lv_iload_n hx hb dX11_setAfter_4 rfl (lv_at hl 1 rfl) ?_
  obtain ⟨z1, h⟩ := h
  refine m_iald hx hb hK hw (by decide) z1 dX11_setAfter_5 ?_
  refine lv_istore (lv' := [(4, .int (μ 2 a1.toNatClampNeg)), (0, .ref (ad 0)), (1, .int a1), (2, .int a2), (3, .int a3)]) hx hb dX11_setAfter_6 hl (by decide) rfl (fun ls hl => ?_)
  refine lv_iload_n hx hb dX11_setAfter_8 rfl (lv_at hl 4 rfl) ?_
  refine lv_istore (lv' := [(5, .int a3), (4, .int (μ 2 a1.toNatClampNeg)), (0, .ref (ad 0)), (1, .int a1), (2, .int a2), (3, .int a3)]) hx hb dX11_setAfter_9 hl (by decide) rfl (fun ls hl => ?_)
  refine lv_iconst (v := (0 : Int32)) hx hb dX11_setAfter_11 (by decide) ?_
  refine lv_istore (lv' := [(6, .int (0 : Int32)), (5, .int a3), (4, .int (μ 2 a1.toNatClampNeg)), (0, .ref (ad 0)), (1, .int a1), (2, .int a2), (3, .int a3)]) hx hb dX11_setAfter_12 hl (by decide) rfl (fun ls hl => ?_)
  obtain ⟨n24, h⟩ := h
  have L1 : ∀ (v6 : Int32) (v7 : Int32), ∀ (n : Nat), ∀ (v3 : Int32) (v4 : Int32) (v5 : Int32), ∀ (H : Heap) (locs : List Loc) (ls : Array Slot), MW D (MR ad cI μ) [] (MA ad s.heap.size) s H locs → lv_has ls 9 [(6, .int v3), (5, .int v4), (4, .int v5), (0, .ref (ad 0)), (1, .int v6), (2, .int v7)] → wpl_X11_setAfter_14 μ v6 v7 Q n v3 v4 v5 → W p l e (RA 1 0 0) s m #[.ref (ad 0), .int a1, .int a2, .int a3] below meth c H locs 0 0 Z (F0 m 14 ls []) := by
    intro v6 v7
    intro n
    induction n with
    | zero => intro v3 v4 v5 H locs ls hw hl h; exact False.elim h
    | succ n ih1 =>
      intro v3 v4 v5 H locs ls hw hl h
      change (v7 ≤ v3 → (Q v5)) ∧ (¬ v7 ≤ v3 → (∃ n8x, wpl_X11_setAfter_26 μ v3 v4 v5 v6 v7 (fun (u23 : Int32) => wpl_X11_setAfter_14 μ v6 v7 Q n (v3 + (1 : Int32)) (v4 / (3 : Int32)) u23) n8x (0 : Int32) (0 : Int32))) at h
      refine lv_iload hx hb dX11_setAfter_14 (lv_at hl 0 rfl) ?_
      refine lv_iload_n hx hb dX11_setAfter_16 rfl (lv_at hl 5 rfl) ?_
      refine lv_icmp_ge (tgt := 90) hx hb dX11_setAfter_17 (by decide) (fun c8 => ?_) (fun c8 => ?_)
      · have h := h.1 c8
        refine lv_iload hx hb dX11_setAfter_90 (lv_at hl 2 rfl) ?_
        exact hret H locs ls 92 _ _ _ _ _ hw ⟨rfl, h⟩ rfl (show 0 ≤ 0 by omega) (show 0 ≤ 0 by omega) dX11_setAfter_92
      have h := h.2 c8
      refine lv_iconst (v := (0 : Int32)) hx hb dX11_setAfter_20 (by decide) ?_
      refine lv_istore (lv' := [(7, .int (0 : Int32)), (6, .int v3), (5, .int v4), (4, .int v5), (0, .ref (ad 0)), (1, .int v6), (2, .int v7)]) hx hb dX11_setAfter_21 hl (by decide) rfl (fun ls hl => ?_)
      refine lv_iconst (v := (0 : Int32)) hx hb dX11_setAfter_23 (by decide) ?_
      refine lv_istore (lv' := [(8, .int (0 : Int32)), (7, .int (0 : Int32)), (6, .int v3), (5, .int v4), (4, .int v5), (0, .ref (ad 0)), (1, .int v6), (2, .int v7)]) hx hb dX11_setAfter_24 hl (by decide) rfl (fun ls hl => ?_)
      obtain ⟨n22, h⟩ := h
      have L8 : ∀ (v12 : Int32) (v13 : Int32) (v14 : Int32) (v15 : Int32) (v16 : Int32) (K74 : Int32 → Prop), (∀ (v11 : Int32), ∀ (H : Heap) (locs : List Loc) (ls : Array Slot), MW D (MR ad cI μ) [] (MA ad s.heap.size) s H locs → lv_has ls 9 [(7, .int v11), (6, .int v12), (5, .int v13), (0, .ref (ad 0)), (1, .int v15), (2, .int v16)] → K74 v11 → W p l e (RA 1 0 0) s m #[.ref (ad 0), .int a1, .int a2, .int a3] below meth c H locs 0 0 Z (F0 m 74 ls [])) → ∀ (n : Nat), ∀ (v10 : Int32) (v11 : Int32), ∀ (H : Heap) (locs : List Loc) (ls : Array Slot), MW D (MR ad cI μ) [] (MA ad s.heap.size) s H locs → lv_has ls 9 [(8, .int v10), (7, .int v11), (6, .int v12), (5, .int v13), (4, .int v14), (0, .ref (ad 0)), (1, .int v15), (2, .int v16)] → wpl_X11_setAfter_26 μ v12 v13 v14 v15 v16 K74 n v10 v11 → W p l e (RA 1 0 0) s m #[.ref (ad 0), .int a1, .int a2, .int a3] below meth c H locs 0 0 Z (F0 m 26 ls []) := by
        intro v12 v13 v14 v15 v16 K74 hK74
        intro n
        induction n with
        | zero => intro v10 v11 H locs ls hw hl h; exact False.elim h
        | succ n ih8 =>
          intro v10 v11 H locs ls hw hl h
          change vp_in v15 (ml 1) ∧ (((μ 1 v15.toNatClampNeg) ≤ v10 → (K74 v11)) ∧ (¬ (μ 1 v15.toNatClampNeg) ≤ v10 → ((¬ ((v14 >>> (v10 &&& 31)) &&& (1 : Int32)) = (1 : Int32) → (wpl_X11_setAfter_26 μ v12 v13 v14 v15 v16 K74 n (v10 + (1 : Int32)) v11)) ∧ (((v14 >>> (v10 &&& 31)) &&& (1 : Int32)) = (1 : Int32) → (wp_X11_key v15 v10 (v13 - v13 / (3 : Int32) * (3 : Int32)) (fun (r20 : Int32) => vp_in r20 (ml 4) ∧ (wpl_X11_setAfter_26 μ v12 v13 v14 v15 v16 K74 n (v10 + (1 : Int32)) (v11 ||| (μ 4 r20.toNatClampNeg))))))))) at h
          refine lv_iload hx hb dX11_setAfter_26 (lv_at hl 0 rfl) ?_
          refine lv_aload_n hx hb dX11_setAfter_28 rfl (lv_at hl 5 rfl) ?_
          refine m_get (i := 0) hx hb ht hown hK hw (by decide) (ht _ q_1313) rfl rfl dX11_setAfter_29 ?_
          refine lv_iload_n hx hb dX11_setAfter_32 rfl (lv_at hl 6 rfl) ?_
          obtain ⟨z17, h⟩ := h
          refine m_iald hx hb hK hw (by decide) z17 dX11_setAfter_33 ?_
          refine lv_icmp_ge (tgt := 74) hx hb dX11_setAfter_34 (by decide) (fun c18 => ?_) (fun c18 => ?_)
          · have h := h.1 c18
            exact hK74 v11 H locs ls hw (lv_sub hl [1, 2, 3, 5, 6, 7] rfl) h
          have h := h.2 c18
          refine lv_iload hx hb dX11_setAfter_37 (lv_at hl 4 rfl) ?_
          refine lv_iload hx hb dX11_setAfter_39 (lv_at hl 0 rfl) ?_
          refine lv_ishr hx hb dX11_setAfter_41 ?_
          refine lv_iconst (v := (1 : Int32)) hx hb dX11_setAfter_42 (by decide) ?_
          refine lv_iand hx hb dX11_setAfter_43 ?_
          refine lv_iconst (v := (1 : Int32)) hx hb dX11_setAfter_44 (by decide) ?_
          refine lv_icmp_ne (tgt := 68) hx hb dX11_setAfter_45 (by decide) (fun c19 => ?_) (fun c19 => ?_)
          · have h := h.1 c19
            refine lv_iinc (v := (v10 + (1 : Int32))) (lv' := [(8, .int (v10 + (1 : Int32))), (7, .int v11), (6, .int v12), (5, .int v13), (4, .int v14), (0, .ref (ad 0)), (1, .int v15), (2, .int v16)]) hx hb dX11_setAfter_68 hl (k := 0) rfl rfl (by decide) rfl (fun ls hl => ?_)
            refine lv_goto (tgt := 26) hx hb dX11_setAfter_71 (by decide) ?_
            exact ih8 (v10 + (1 : Int32)) v11 H locs ls hw (lv_sub hl [0, 1, 2, 3, 4, 5, 6, 7] rfl) h
          have h := h.2 c19
          refine lv_iload hx hb dX11_setAfter_48 (lv_at hl 1 rfl) ?_
          refine lv_aload_n hx hb dX11_setAfter_50 rfl (lv_at hl 5 rfl) ?_
          refine m_get (i := 3) hx hb ht hown hK hw (by decide) (ht _ q_1316) rfl rfl dX11_setAfter_51 ?_
          refine lv_iload_n hx hb dX11_setAfter_54 rfl (lv_at hl 6 rfl) ?_
          refine lv_iload hx hb dX11_setAfter_55 (lv_at hl 0 rfl) ?_
          refine lv_iload hx hb dX11_setAfter_57 (lv_at hl 3 rfl) ?_
          refine lv_iconst (v := (3 : Int32)) hx hb dX11_setAfter_59 (by decide) ?_
          refine lv_irem hx hb dX11_setAfter_60 (by decide) ?_
          refine P_calli (va_runS (own := "LeastreaderModel") (As := [.int v15, .int v10, .int (v13 - v13 / (3 : Int32) * (3 : Int32))]) (rest := [.ref (ad 4), .int v11]) ⟨hx, hb, hml, hown, ht⟩ (c_X11_key v15 v10 (v13 - v13 / (3 : Int32) * (3 : Int32)) h) (va_cwS 3 ht (G_S q_1360 q_1361 q_56 q_1362) rfl rfl rfl hd_79 ⟨Nat.le_of_ble_eq_true rfl, Nat.le_of_ble_eq_true rfl⟩) ⟨PM_blind, PM_pre⟩ rfl rfl hl.1 rfl (lv_room (Nat.le_of_ble_eq_true rfl)) dX11_setAfter_61 ⟨show 0 + 0 ≤ 0 by omega, show 0 + 0 ≤ 0 by omega⟩) (fun r20 h => ?_)
          obtain ⟨z21, h⟩ := h
          refine m_iald hx hb hK hw (by decide) z21 dX11_setAfter_64 ?_
          refine lv_ior hx hb dX11_setAfter_65 ?_
          refine lv_istore (lv' := [(7, .int (v11 ||| (μ 4 r20.toNatClampNeg))), (8, .int v10), (6, .int v12), (5, .int v13), (4, .int v14), (0, .ref (ad 0)), (1, .int v15), (2, .int v16)]) hx hb dX11_setAfter_66 hl (by decide) rfl (fun ls hl => ?_)
          refine lv_iinc (v := (v10 + (1 : Int32))) (lv' := [(8, .int (v10 + (1 : Int32))), (7, .int (v11 ||| (μ 4 r20.toNatClampNeg))), (6, .int v12), (5, .int v13), (4, .int v14), (0, .ref (ad 0)), (1, .int v15), (2, .int v16)]) hx hb dX11_setAfter_68 hl (k := 1) rfl rfl (by decide) rfl (fun ls hl => ?_)
          refine lv_goto (tgt := 26) hx hb dX11_setAfter_71 (by decide) ?_
          exact ih8 (v10 + (1 : Int32)) (v11 ||| (μ 4 r20.toNatClampNeg)) H locs ls hw (lv_sub hl [0, 1, 2, 3, 4, 5, 6, 7] rfl) h
      refine L8 v3 v4 v5 v6 v7 _ ?_ n22 (0 : Int32) (0 : Int32) H locs ls hw (lv_sub hl [0, 1, 2, 3, 4, 5, 6, 7] rfl) h
      intro u23 H locs ls hw hl h
      refine lv_iload hx hb dX11_setAfter_74 (lv_at hl 0 rfl) ?_
      refine lv_istore (lv' := [(4, .int u23), (7, .int u23), (6, .int v3), (5, .int v4), (0, .ref (ad 0)), (1, .int v6), (2, .int v7)]) hx hb dX11_setAfter_76 hl (by decide) rfl (fun ls hl => ?_)
      refine lv_iload hx hb dX11_setAfter_78 (lv_at hl 3 rfl) ?_
      refine lv_iconst (v := (3 : Int32)) hx hb dX11_setAfter_80 (by decide) ?_
      refine lv_idiv hx hb dX11_setAfter_81 (by decide) ?_
      refine lv_istore (lv' := [(5, .int (v4 / (3 : Int32))), (4, .int u23), (7, .int u23), (6, .int v3), (0, .ref (ad 0)), (1, .int v6), (2, .int v7)]) hx hb dX11_setAfter_82 hl (by decide) rfl (fun ls hl => ?_)
      refine lv_iinc (v := (v3 + (1 : Int32))) (lv' := [(6, .int (v3 + (1 : Int32))), (5, .int (v4 / (3 : Int32))), (4, .int u23), (7, .int u23), (0, .ref (ad 0)), (1, .int v6), (2, .int v7)]) hx hb dX11_setAfter_84 hl (k := 3) rfl rfl (by decide) rfl (fun ls hl => ?_)
      refine lv_goto (tgt := 14) hx hb dX11_setAfter_87 (by decide) ?_
      exact ih1 (v3 + (1 : Int32)) (v4 / (3 : Int32)) u23 H locs ls hw (lv_sub hl [0, 1, 2, 4, 5, 6] rfl) h
  exact L1 a1 a2 n24 (0 : Int32) a3 (μ 2 a1.toNatClampNeg) H locs ls hw (lv_sub hl [0, 1, 2, 3, 4, 5] rfl) h
def wp_X11_takes (μ : TMem) (a1 : Int32) (a2 : Int32) (a3 : Int32) (Q : Int32 → TMem → Prop) : Prop :=
  wp_X11_isOne a1 (fun (r1 : Int32) => wp_X11_isWord a2 a3 (fun (r2 : Int32) => wp_X11_isThrown μ r1 r2 (fun (r4 : Int32) (μ3 : TMem) => (¬ r4 = 0 → (Q (0 : Int32) μ3)) ∧ (r4 = 0 → (wp_X11_setAfter μ3 a1 a2 a3 (fun (r8 : Int32) => vp_in a1 (ml 3) ∧ (((r8 &&& (μ3 3 a1.toNatClampNeg)) = 0 → (Q (0 : Int32) μ3)) ∧ (¬ (r8 &&& (μ3 3 a1.toNatClampNeg)) = 0 → (Q (1 : Int32) μ3)))))))))
set_option maxHeartbeats 4000000 in
set_option maxRecDepth 100000 in
theorem c_X11_takes {l : Launch} {D : va_G} {ad : Nat → Nat} {cI cL : ClassId}  (μ : TMem) (sz : Nat) (a1 : Int32) (a2 : Int32) (a3 : Int32)  {Q : Int32 → TMem → Prop} (h : wp_X11_takes μ a1 a2 a3 Q) : MMi l yX11_takes (.code yX11_takes cX11_takes 4 (Option.some Jvm.ClassFile.FieldType.boolean)) 2 0 0 [.ref (ad 0), .int a1, .int a2, .int a3] D ad cI cL sz μ [] Q := by
  refine M_meti (by decide +kernel) (Nat.le_of_ble_eq_true rfl) ?_
  intro p e s m below meth c Z ls hx hb hml hown ht hK hP0 hI hne hw hret hl
  have hl : lv_has ls 4 [(0, .ref (ad 0)), (1, .int a1), (2, .int a2), (3, .int a3)] := hl
  suffices hh : ∀ (H : Heap) (locs : List Loc), MW D (MR ad cI μ) [] (MA ad s.heap.size) s H locs → W p l e (RA 2 0 0) s m #[.ref (ad 0), .int a1, .int a2, .int a3] below meth c H locs 0 0 Z (F0 m 0 ls []) from hh _ _ hw
  intro H locs hw
  change wp_X11_isOne a1 (fun (r1 : Int32) => wp_X11_isWord a2 a3 (fun (r2 : Int32) => wp_X11_isThrown μ r1 r2 (fun (r4 : Int32) (μ3 : TMem) => (¬ r4 = 0 → (Q (0 : Int32) μ3)) ∧ (r4 = 0 → (wp_X11_setAfter μ3 a1 a2 a3 (fun (r8 : Int32) => vp_in a1 (ml 3) ∧ (((r8 &&& (μ3 3 a1.toNatClampNeg)) = 0 → (Q (0 : Int32) μ3)) ∧ (¬ (r8 &&& (μ3 3 a1.toNatClampNeg)) = 0 → (Q (1 : Int32) μ3))))))))) at h
  refine lv_aload_n hx hb dX11_takes_0 rfl (lv_at hl 0 rfl) ?_
  refine lv_iload_n hx hb dX11_takes_1 rfl (lv_at hl 1 rfl) ?_
  refine P_calli (va_runS (own := "LeastreaderModel") (As := [.int a1]) (rest := [.ref (ad 0)]) ⟨hx, hb, hml, hown, ht⟩ (c_X11_isOne a1 h) (va_cwS 1 ht (G_S q_1346 q_1347 q_56 q_1348) rfl rfl rfl hd_91 ⟨Nat.le_of_ble_eq_true rfl, Nat.le_of_ble_eq_true rfl⟩) ⟨PM_blind, PM_pre⟩ rfl rfl hl.1 rfl (lv_room (Nat.le_of_ble_eq_true rfl)) dX11_takes_2 ⟨show 0 + 0 ≤ 0 by omega, show 0 + 0 ≤ 0 by omega⟩) (fun r1 h => ?_)
  refine lv_iload_n hx hb dX11_takes_5 rfl (lv_at hl 2 rfl) ?_
  refine lv_iload_n hx hb dX11_takes_6 rfl (lv_at hl 3 rfl) ?_
  refine P_calli (va_runS (own := "LeastreaderModel") (As := [.int a2, .int a3]) (rest := [.int r1, .ref (ad 0)]) ⟨hx, hb, hml, hown, ht⟩ (c_X11_isWord a2 a3 h) (va_cwS 2 ht (G_S q_1510 q_1511 q_56 q_1512) rfl rfl rfl hd_107 ⟨Nat.le_of_ble_eq_true rfl, Nat.le_of_ble_eq_true rfl⟩) ⟨PM_blind, PM_pre⟩ rfl rfl hl.1 rfl (lv_room (Nat.le_of_ble_eq_true rfl)) dX11_takes_7 ⟨show 0 + 0 ≤ 0 by omega, show 0 + 0 ≤ 0 by omega⟩) (fun r2 h => ?_)
  refine M_calli hw (MA.up hw.2.2.1.1) (va_runV (own := "LeastreaderModel") (As := [.int r1, .int r2]) (rest := []) ⟨hx, hb, hml, hown, ht⟩ (c_X11_isThrown μ H.size r1 r2 h) (cwV 2 ht (G_V q_1352 q_1354 q_26 q_56 q_1355) rfl rfl rfl ⟨rfl, hd_92⟩ ⟨Nat.le_of_ble_eq_true rfl, Nat.le_of_ble_eq_true rfl⟩) ⟨MB.blind, M_recv hK hw, MB.pre hK hI hw va_P0 ne0⟩ rfl rfl hl.1 rfl (lv_room (Nat.le_of_ble_eq_true rfl)) dX11_takes_10 ⟨show 0 + 0 ≤ 0 by omega, show 0 + 0 ≤ 0 by omega⟩) (fun r4 μ3 H locs h hw => ?_)
  refine lv_if_ne (tgt := 37) hx hb dX11_takes_13 (by decide) (fun c5 => ?_) (fun c5 => ?_)
  · have h := h.1 c5
    refine lv_iconst (v := (0 : Int32)) hx hb dX11_takes_37 (by decide) ?_
    exact hret H locs ls 38 _ _ _ _ _ hw h rfl (show 0 ≤ 0 by omega) (show 0 ≤ 0 by omega) dX11_takes_38
  have h := h.2 c5
  refine lv_aload_n hx hb dX11_takes_16 rfl (lv_at hl 0 rfl) ?_
  refine lv_iload_n hx hb dX11_takes_17 rfl (lv_at hl 1 rfl) ?_
  refine lv_iload_n hx hb dX11_takes_18 rfl (lv_at hl 2 rfl) ?_
  refine lv_iload_n hx hb dX11_takes_19 rfl (lv_at hl 3 rfl) ?_
  refine M_calli hw (MA.up hw.2.2.1.1) (va_runV (own := "LeastreaderModel") (As := [.int a1, .int a2, .int a3]) (rest := []) ⟨hx, hb, hml, hown, ht⟩ (c_X11_setAfter μ3 H.size a1 a2 a3 h) (cwV 3 ht (G_V q_1516 q_1518 q_41 q_56 q_1519) rfl rfl rfl ⟨rfl, hd_108⟩ ⟨Nat.le_of_ble_eq_true rfl, Nat.le_of_ble_eq_true rfl⟩) ⟨MB.blind, M_recv hK hw, MB.pre hK hI hw va_P0 ne0⟩ rfl rfl hl.1 rfl (lv_room (Nat.le_of_ble_eq_true rfl)) dX11_takes_20 ⟨show 0 + 0 ≤ 0 by omega, show 0 + 0 ≤ 0 by omega⟩) (fun r8 μ6 H locs h hw => ?_)
  obtain ⟨e7, h⟩ := h
  rw [e7] at hw
  refine lv_aload_n hx hb dX11_takes_23 rfl (lv_at hl 0 rfl) ?_
  refine m_get (i := 2) hx hb ht hown hK hw (by decide) (ht _ q_1315) rfl rfl dX11_takes_24 ?_
  refine lv_iload_n hx hb dX11_takes_27 rfl (lv_at hl 1 rfl) ?_
  obtain ⟨z9, h⟩ := h
  refine m_iald hx hb hK hw (by decide) z9 dX11_takes_28 ?_
  refine lv_iand hx hb dX11_takes_29 ?_
  refine lv_if_eq (tgt := 37) hx hb dX11_takes_30 (by decide) (fun c10 => ?_) (fun c10 => ?_)
  · have h := h.1 c10
    refine lv_iconst (v := (0 : Int32)) hx hb dX11_takes_37 (by decide) ?_
    exact hret H locs ls 38 _ _ _ _ _ hw h rfl (show 0 ≤ 0 by omega) (show 0 ≤ 0 by omega) dX11_takes_38
  have h := h.2 c10
  refine lv_iconst (v := (1 : Int32)) hx hb dX11_takes_33 (by decide) ?_
  refine lv_goto (tgt := 38) hx hb dX11_takes_34 (by decide) ?_
  exact hret H locs ls 38 _ _ _ _ _ hw h rfl (show 0 ≤ 0 by omega) (show 0 ≤ 0 by omega) dX11_takes_38
def wpl_X11_after_88 (μ16 : TMem) (v23 : Int32) (Q : Int32 → TMem → Prop) : Nat → Int32 → Int32 → Int32 → Prop
  | 0, _, _, _ => False
  | n + 1, v20, v21, v22 =>
    (v23 ≤ v20 → (Q v22 μ16)) ∧ (¬ v23 ≤ v20 → (False))
def wpl_X11_after_88_28 (μ26 : TMem) (f15 : Nat → Int32) (n14 : Nat) (v33 : Int32) (Q : Int32 → TMem → Prop) : Nat → Int32 → Int32 → Int32 → Prop
  | 0, _, _, _ => False
  | n + 1, v30, v31, v32 =>
    (v33 ≤ v30 → (Q v32 μ26)) ∧ (¬ v33 ≤ v30 → (vp_in (((4 : Int32) * v32) + (v31 - v31 / (3 : Int32) * (3 : Int32))) n14 ∧ (wpl_X11_after_88_28 μ26 f15 n14 v33 Q n (v30 + (1 : Int32)) (v31 / (3 : Int32)) (f15 (((4 : Int32) * v32) + (v31 - v31 / (3 : Int32) * (3 : Int32))).toNatClampNeg))))
def wp_X11_after (μ : TMem) (a1 : Int32) (a2 : Int32) (a3 : Int32) (a4 : Int32) (Q : Int32 → TMem → Prop) : Prop :=
  wp_X11_isOne a1 (fun (r1 : Int32) => wp_X11_isWord a2 a3 (fun (r2 : Int32) => ∀ J3 : Int32 → Prop, (∀ (j4 : Int32), (wp_X11_isThrown μ r1 j4 (fun (r6 : Int32) (μ5 : TMem) => (r6 = 0 → ((¬ a4 = 0 → (∀ J9 : Int32 → Prop, (∀ (j10 : Int32), (wp_X11_found μ5 a1 j10 (fun (r37 : Option AI) => (r37 = none → (wp_X11_isCrowded_n μ5 (3 : Int32) (fun (r17 : Int32) (μ16 : TMem) => (r17 = 0 → (∃ n18x, wpl_X11_after_88 μ16 a2 Q n18x (0 : Int32) a3 (0 : Int32))) ∧ (¬ r17 = 0 → (Q (0 : Int32) μ16))))) ∧ (∀ (n14 : Nat) (f15 : Nat → Int32), r37 = some (n14, f15) → (wp_X11_isCrowded μ5 n14 f15 (3 : Int32) (fun (r27 : Int32) (μ26 : TMem) => (r27 = 0 → (∃ n28x, wpl_X11_after_88_28 μ26 f15 n14 a2 Q n28x (0 : Int32) a3 (0 : Int32))) ∧ (¬ r27 = 0 → (Q (0 : Int32) μ26))))))) → J9 j10) → ((¬ a4 = (1 : Int32) → (J9 (0 : Int32))) ∧ (a4 = (1 : Int32) → (J9 (3 : Int32)))))) ∧ (a4 = 0 → (wp_X11_setAfter μ5 a1 a2 a3 (fun (r41 : Int32) => Q r41 μ5))))) ∧ (¬ r6 = 0 → (Q (0 : Int32) μ5)))) → J3 j4) → ((r2 = 0 → (J3 (0 : Int32))) ∧ (¬ r2 = 0 → (wp_X11_isIn a4 (0 : Int32) (2 : Int32) (fun (r43 : Int32) => (r43 = 0 → (J3 (0 : Int32))) ∧ (¬ r43 = 0 → (J3 (1 : Int32)))))))))
set_option maxHeartbeats 4000000 in
set_option maxRecDepth 100000 in
theorem c_X11_after {l : Launch} {D : va_G} {ad : Nat → Nat} {cI cL : ClassId}  (μ : TMem) (sz : Nat) (a1 : Int32) (a2 : Int32) (a3 : Int32) (a4 : Int32)  {Q : Int32 → TMem → Prop} (h : wp_X11_after μ a1 a2 a3 a4 Q) : MMi l yX11_after (.code yX11_after cX11_after 9 (Option.some Jvm.ClassFile.FieldType.int)) 4 41 1685 [.ref (ad 0), .int a1, .int a2, .int a3, .int a4] D ad cI cL sz μ [] Q := by
  refine M_meti (by decide +kernel) (Nat.le_of_ble_eq_true rfl) ?_
  intro p e s m below meth c Z ls hx hb hml hown ht hK hP0 hI hne hw hret hl
  have hl : lv_has ls 9 [(0, .ref (ad 0)), (1, .int a1), (2, .int a2), (3, .int a3), (4, .int a4)] := hl
  suffices hh : ∀ (H : Heap) (locs : List Loc), MW D (MR ad cI μ) [] (MA ad s.heap.size) s H locs → W p l e (RA 4 41 1685) s m #[.ref (ad 0), .int a1, .int a2, .int a3, .int a4] below meth c H locs 0 0 Z (F0 m 0 ls []) from hh _ _ hw
  intro H locs hw
  change wp_X11_isOne a1 (fun (r1 : Int32) => wp_X11_isWord a2 a3 (fun (r2 : Int32) => ∀ J3 : Int32 → Prop, (∀ (j4 : Int32), (wp_X11_isThrown μ r1 j4 (fun (r6 : Int32) (μ5 : TMem) => (r6 = 0 → ((¬ a4 = 0 → (∀ J9 : Int32 → Prop, (∀ (j10 : Int32), (wp_X11_found μ5 a1 j10 (fun (r37 : Option AI) => (r37 = none → (wp_X11_isCrowded_n μ5 (3 : Int32) (fun (r17 : Int32) (μ16 : TMem) => (r17 = 0 → (∃ n18x, wpl_X11_after_88 μ16 a2 Q n18x (0 : Int32) a3 (0 : Int32))) ∧ (¬ r17 = 0 → (Q (0 : Int32) μ16))))) ∧ (∀ (n14 : Nat) (f15 : Nat → Int32), r37 = some (n14, f15) → (wp_X11_isCrowded μ5 n14 f15 (3 : Int32) (fun (r27 : Int32) (μ26 : TMem) => (r27 = 0 → (∃ n28x, wpl_X11_after_88_28 μ26 f15 n14 a2 Q n28x (0 : Int32) a3 (0 : Int32))) ∧ (¬ r27 = 0 → (Q (0 : Int32) μ26))))))) → J9 j10) → ((¬ a4 = (1 : Int32) → (J9 (0 : Int32))) ∧ (a4 = (1 : Int32) → (J9 (3 : Int32)))))) ∧ (a4 = 0 → (wp_X11_setAfter μ5 a1 a2 a3 (fun (r41 : Int32) => Q r41 μ5))))) ∧ (¬ r6 = 0 → (Q (0 : Int32) μ5)))) → J3 j4) → ((r2 = 0 → (J3 (0 : Int32))) ∧ (¬ r2 = 0 → (wp_X11_isIn a4 (0 : Int32) (2 : Int32) (fun (r43 : Int32) => (r43 = 0 → (J3 (0 : Int32))) ∧ (¬ r43 = 0 → (J3 (1 : Int32))))))))) at h
  refine lv_aload_n hx hb dX11_after_0 rfl (lv_at hl 0 rfl) ?_
  refine lv_iload_n hx hb dX11_after_1 rfl (lv_at hl 1 rfl) ?_
  refine P_calli (va_runS (own := "LeastreaderModel") (As := [.int a1]) (rest := [.ref (ad 0)]) ⟨hx, hb, hml, hown, ht⟩ (c_X11_isOne a1 h) (va_cwS 1 ht (G_S q_1346 q_1347 q_56 q_1348) rfl rfl rfl hd_91 ⟨Nat.le_of_ble_eq_true rfl, Nat.le_of_ble_eq_true rfl⟩) ⟨PM_blind, PM_pre⟩ rfl rfl hl.1 rfl (lv_room (Nat.le_of_ble_eq_true rfl)) dX11_after_2 ⟨show 0 + 0 ≤ 41 by omega, show 0 + 0 ≤ 1685 by omega⟩) (fun r1 h => ?_)
  refine lv_iload_n hx hb dX11_after_5 rfl (lv_at hl 2 rfl) ?_
  refine lv_iload_n hx hb dX11_after_6 rfl (lv_at hl 3 rfl) ?_
  refine P_calli (va_runS (own := "LeastreaderModel") (As := [.int a2, .int a3]) (rest := [.int r1, .ref (ad 0)]) ⟨hx, hb, hml, hown, ht⟩ (c_X11_isWord a2 a3 h) (va_cwS 2 ht (G_S q_1510 q_1511 q_56 q_1512) rfl rfl rfl hd_107 ⟨Nat.le_of_ble_eq_true rfl, Nat.le_of_ble_eq_true rfl⟩) ⟨PM_blind, PM_pre⟩ rfl rfl hl.1 rfl (lv_room (Nat.le_of_ble_eq_true rfl)) dX11_after_7 ⟨show 0 + 0 ≤ 41 by omega, show 0 + 0 ≤ 1685 by omega⟩) (fun r2 h => ?_)
  have h := h (fun (j4 : Int32) => ∀ (H : Heap) (locs : List Loc) (ls : Array Slot), MW D (MR ad cI μ) [] (MA ad s.heap.size) s H locs → lv_has ls 9 [(0, .ref (ad 0)), (1, .int a1), (2, .int a2), (3, .int a3), (4, .int a4)] → W p l e (RA 4 41 1685) s m #[.ref (ad 0), .int a1, .int a2, .int a3, .int a4] below meth c H locs 0 0 Z (F0 m 28 ls [.int j4, .int r1, .ref (ad 0)])) (fun j4 h H locs ls hw hl => by
    refine M_calli hw (MA.up hw.2.2.1.1) (va_runV (own := "LeastreaderModel") (As := [.int r1, .int j4]) (rest := []) ⟨hx, hb, hml, hown, ht⟩ (c_X11_isThrown μ H.size r1 j4 h) (cwV 2 ht (G_V q_1352 q_1354 q_26 q_56 q_1355) rfl rfl rfl ⟨rfl, hd_92⟩ ⟨Nat.le_of_ble_eq_true rfl, Nat.le_of_ble_eq_true rfl⟩) ⟨MB.blind, M_recv hK hw, MB.pre hK hI hw va_P0 ne0⟩ rfl rfl hl.1 rfl (lv_room (Nat.le_of_ble_eq_true rfl)) dX11_after_28 ⟨show 0 + 0 ≤ 41 by omega, show 0 + 0 ≤ 1685 by omega⟩) (fun r6 μ5 H locs h hw => ?_)
    refine lv_if_eq (tgt := 36) hx hb dX11_after_31 (by decide) (fun c7 => ?_) (fun c7 => ?_)
    · have h := h.1 c7
      refine lv_iload hx hb dX11_after_36 (lv_at hl 4 rfl) ?_
      refine lv_if_ne (tgt := 49) hx hb dX11_after_38 (by decide) (fun c8 => ?_) (fun c8 => ?_)
      · have h := h.1 c8
        refine lv_aload_n hx hb dX11_after_49 rfl (lv_at hl 0 rfl) ?_
        refine lv_iload_n hx hb dX11_after_50 rfl (lv_at hl 1 rfl) ?_
        refine lv_iload hx hb dX11_after_51 (lv_at hl 4 rfl) ?_
        refine lv_iconst (v := (1 : Int32)) hx hb dX11_after_53 (by decide) ?_
        have h := h (fun (j10 : Int32) => ∀ (H : Heap) (locs : List Loc) (ls : Array Slot), MW D (MR ad cI μ5) [] (MA ad s.heap.size) s H locs → lv_has ls 9 [(0, .ref (ad 0)), (2, .int a2), (3, .int a3)] → W p l e (RA 4 41 1685) s m #[.ref (ad 0), .int a1, .int a2, .int a3, .int a4] below meth c H locs 0 0 Z (F0 m 62 ls [.int j10, .int a1, .ref (ad 0)])) (fun j10 h H locs ls hw hl => by
          refine M_callA hw (MA.up hw.2.2.1.1) (va_runV (own := "LeastreaderModel") (As := [.int a1, .int j10]) (rest := []) ⟨hx, hb, hml, hown, ht⟩ (c_X11_found μ5 H.size a1 j10 h) (cwV 2 ht (G_V q_1452 q_1454 q_36 q_56 q_1455) rfl rfl rfl ⟨rfl, hd_103⟩ ⟨Nat.le_of_ble_eq_true rfl, Nat.le_of_ble_eq_true rfl⟩) ⟨MB.blind, M_recv hK hw, MB.pre hK hI hw va_P0 ne0⟩ rfl rfl hl.1 rfl (lv_room (Nat.le_of_ble_eq_true rfl)) dX11_after_62 ⟨show 0 + 41 ≤ 41 by omega, show 0 + 1685 ≤ 1685 by omega⟩) (fun μ11 H locs h hw => ?_) (fun q13 n14 f15 μ11 H locs hq13 h hw => ?_)
          · skip
            obtain ⟨e12, h⟩ := h
            rw [e12] at hw
            have h := h.1 rfl
            refine lv_astoreN (lv' := [(5, .null), (0, .ref (ad 0)), (2, .int a2), (3, .int a3)]) hx hb dX11_after_65 hl (by decide) rfl (fun ls hl => ?_)
            refine lv_aload_n hx hb dX11_after_67 rfl (lv_at hl 1 rfl) ?_
            refine lv_aloadN hx hb dX11_after_68 (lv_at hl 0 rfl) ?_
            refine lv_iconst (v := (3 : Int32)) hx hb dX11_after_70 (by decide) ?_
            refine M_calli hw (MA.up hw.2.2.1.1) (va_runV (own := "LeastreaderModel") (As := [.null, .int (3 : Int32)]) (rest := []) ⟨hx, hb, hml, hown, ht⟩ (c_X11_isCrowded_n μ5 H.size (3 : Int32) h) (cwV 2 ht (G_V q_1524 q_1526 q_42 q_56 q_1527) rfl rfl rfl ⟨rfl, hd_109⟩ ⟨Nat.le_of_ble_eq_true rfl, Nat.le_of_ble_eq_true rfl⟩) ⟨MB.blind, M_recv hK hw, MB.pre hK hI hw va_P0 ne0⟩ rfl rfl hl.1 rfl (lv_room (Nat.le_of_ble_eq_true rfl)) dX11_after_71 ⟨show 41 + 0 ≤ 41 by omega, show 1685 + 0 ≤ 1685 by omega⟩) (fun r17 μ16 H locs h hw => ?_)
            refine lv_if_eq (tgt := 79) hx hb dX11_after_74 (by decide) (fun c18 => ?_) (fun c18 => ?_)
            · have h := h.1 c18
              refine lv_iconst (v := (0 : Int32)) hx hb dX11_after_79 (by decide) ?_
              refine lv_istore (lv' := [(6, .int (0 : Int32)), (5, .null), (0, .ref (ad 0)), (2, .int a2), (3, .int a3)]) hx hb dX11_after_80 hl (by decide) rfl (fun ls hl => ?_)
              refine lv_iload_n hx hb dX11_after_82 rfl (lv_at hl 4 rfl) ?_
              refine lv_istore (lv' := [(7, .int a3), (6, .int (0 : Int32)), (5, .null), (0, .ref (ad 0)), (2, .int a2), (3, .int a3)]) hx hb dX11_after_83 hl (by decide) rfl (fun ls hl => ?_)
              refine lv_iconst (v := (0 : Int32)) hx hb dX11_after_85 (by decide) ?_
              refine lv_istore (lv' := [(8, .int (0 : Int32)), (7, .int a3), (6, .int (0 : Int32)), (5, .null), (0, .ref (ad 0)), (2, .int a2), (3, .int a3)]) hx hb dX11_after_86 hl (by decide) rfl (fun ls hl => ?_)
              obtain ⟨n25, h⟩ := h
              have L18 : ∀ (v23 : Int32), ∀ (n : Nat), ∀ (v20 : Int32) (v21 : Int32) (v22 : Int32), ∀ (H : Heap) (locs : List Loc) (ls : Array Slot), MW D (MR ad cI μ16) [] (MA ad s.heap.size) s H locs → lv_has ls 9 [(8, .int v20), (7, .int v21), (6, .int v22), (5, .null), (2, .int v23)] → wpl_X11_after_88 μ16 v23 Q n v20 v21 v22 → W p l e (RA 4 41 1685) s m #[.ref (ad 0), .int a1, .int a2, .int a3, .int a4] below meth c H locs 41 1685 Z (F0 m 88 ls []) := by
                intro v23
                intro n
                induction n with
                | zero => intro v20 v21 v22 H locs ls hw hl h; exact False.elim h
                | succ n ih18 =>
                  intro v20 v21 v22 H locs ls hw hl h
                  change (v23 ≤ v20 → (Q v22 μ16)) ∧ (¬ v23 ≤ v20 → (False)) at h
                  refine lv_iload hx hb dX11_after_88 (lv_at hl 0 rfl) ?_
                  refine lv_iload_n hx hb dX11_after_90 rfl (lv_at hl 4 rfl) ?_
                  refine lv_icmp_ge (tgt := 120) hx hb dX11_after_91 (by decide) (fun c24 => ?_) (fun c24 => ?_)
                  · have h := h.1 c24
                    refine lv_iload hx hb dX11_after_120 (lv_at hl 2 rfl) ?_
                    exact hret H locs ls 122 _ _ _ _ _ hw h rfl (show 41 ≤ 41 by omega) (show 1685 ≤ 1685 by omega) dX11_after_122
                  have h := h.2 c24
                  refine lv_aloadN hx hb dX11_after_94 (lv_at hl 3 rfl) ?_
                  refine lv_iconst (v := (4 : Int32)) hx hb dX11_after_96 (by decide) ?_
                  refine lv_iload hx hb dX11_after_97 (lv_at hl 2 rfl) ?_
                  refine lv_imul hx hb dX11_after_99 ?_
                  refine lv_iload hx hb dX11_after_100 (lv_at hl 1 rfl) ?_
                  refine lv_iconst (v := (3 : Int32)) hx hb dX11_after_102 (by decide) ?_
                  refine lv_irem hx hb dX11_after_103 (by decide) ?_
                  refine lv_iadd hx hb dX11_after_104 ?_
                  exact False.elim h
              exact L18 a2 n25 (0 : Int32) a3 (0 : Int32) H locs ls hw (lv_sub hl [0, 1, 2, 3, 5] rfl) h
            have h := h.2 c18
            refine lv_iconst (v := (0 : Int32)) hx hb dX11_after_77 (by decide) ?_
            exact hret H locs ls 78 _ _ _ _ _ hw h rfl (show 41 ≤ 41 by omega) (show 1685 ≤ 1685 by omega) dX11_after_78
          obtain ⟨e12, h⟩ := h
          rw [e12] at hw
          have h := h.2 _ _ rfl
          have hw : MW D (MR ad cI μ5) [eI cI q13 n14 f15] (MA ad s.heap.size) s H locs := hw
          refine lv_astore (lv' := [(5, .ref q13), (0, .ref (ad 0)), (2, .int a2), (3, .int a3)]) hx hb dX11_after_65 hl (by decide) rfl (fun ls hl => ?_)
          refine lv_aload_n hx hb dX11_after_67 rfl (lv_at hl 1 rfl) ?_
          refine lv_aload hx hb dX11_after_68 (lv_at hl 0 rfl) ?_
          refine lv_iconst (v := (3 : Int32)) hx hb dX11_after_70 (by decide) ?_
          refine M_calli hw (MA.up hw.2.2.1.1) (va_runV (own := "LeastreaderModel") (As := [.ref q13, .int (3 : Int32)]) (rest := []) ⟨hx, hb, hml, hown, ht⟩ (c_X11_isCrowded q13 μ5 H.size n14 f15 (3 : Int32) h) (cwV 2 ht (G_V q_1524 q_1526 q_42 q_56 q_1527) rfl rfl rfl ⟨rfl, hd_109⟩ ⟨Nat.le_of_ble_eq_true rfl, Nat.le_of_ble_eq_true rfl⟩) ⟨MB.blind, M_recv hK hw, MB.pre hK hI hw (va_Pc2 (hw.n (j := 0) rfl) va_P0) (neC (hw.ne (j := 0) rfl) ne0)⟩ rfl rfl hl.1 rfl (lv_room (Nat.le_of_ble_eq_true rfl)) dX11_after_71 ⟨show 41 + 0 ≤ 41 by omega, show 1685 + 0 ≤ 1685 by omega⟩) (fun r27 μ26 H locs h hw => ?_)
          refine lv_if_eq (tgt := 79) hx hb dX11_after_74 (by decide) (fun c28 => ?_) (fun c28 => ?_)
          · have h := h.1 c28
            refine lv_iconst (v := (0 : Int32)) hx hb dX11_after_79 (by decide) ?_
            refine lv_istore (lv' := [(6, .int (0 : Int32)), (5, .ref q13), (0, .ref (ad 0)), (2, .int a2), (3, .int a3)]) hx hb dX11_after_80 hl (by decide) rfl (fun ls hl => ?_)
            refine lv_iload_n hx hb dX11_after_82 rfl (lv_at hl 4 rfl) ?_
            refine lv_istore (lv' := [(7, .int a3), (6, .int (0 : Int32)), (5, .ref q13), (0, .ref (ad 0)), (2, .int a2), (3, .int a3)]) hx hb dX11_after_83 hl (by decide) rfl (fun ls hl => ?_)
            refine lv_iconst (v := (0 : Int32)) hx hb dX11_after_85 (by decide) ?_
            refine lv_istore (lv' := [(8, .int (0 : Int32)), (7, .int a3), (6, .int (0 : Int32)), (5, .ref q13), (0, .ref (ad 0)), (2, .int a2), (3, .int a3)]) hx hb dX11_after_86 hl (by decide) rfl (fun ls hl => ?_)
            obtain ⟨n36, h⟩ := h
            have L28 : ∀ (v33 : Int32), ∀ (n : Nat), ∀ (v30 : Int32) (v31 : Int32) (v32 : Int32), ∀ (H : Heap) (locs : List Loc) (ls : Array Slot), MW D (MR ad cI μ26) [eI cI q13 n14 f15] (MA ad s.heap.size) s H locs → lv_has ls 9 [(8, .int v30), (7, .int v31), (6, .int v32), (5, .ref q13), (2, .int v33)] → wpl_X11_after_88_28 μ26 f15 n14 v33 Q n v30 v31 v32 → W p l e (RA 4 41 1685) s m #[.ref (ad 0), .int a1, .int a2, .int a3, .int a4] below meth c H locs 41 1685 Z (F0 m 88 ls []) := by
              intro v33
              intro n
              induction n with
              | zero => intro v30 v31 v32 H locs ls hw hl h; exact False.elim h
              | succ n ih28 =>
                intro v30 v31 v32 H locs ls hw hl h
                change (v33 ≤ v30 → (Q v32 μ26)) ∧ (¬ v33 ≤ v30 → (vp_in (((4 : Int32) * v32) + (v31 - v31 / (3 : Int32) * (3 : Int32))) n14 ∧ (wpl_X11_after_88_28 μ26 f15 n14 v33 Q n (v30 + (1 : Int32)) (v31 / (3 : Int32)) (f15 (((4 : Int32) * v32) + (v31 - v31 / (3 : Int32) * (3 : Int32))).toNatClampNeg)))) at h
                refine lv_iload hx hb dX11_after_88 (lv_at hl 0 rfl) ?_
                refine lv_iload_n hx hb dX11_after_90 rfl (lv_at hl 4 rfl) ?_
                refine lv_icmp_ge (tgt := 120) hx hb dX11_after_91 (by decide) (fun c34 => ?_) (fun c34 => ?_)
                · have h := h.1 c34
                  refine lv_iload hx hb dX11_after_120 (lv_at hl 2 rfl) ?_
                  exact hret H locs ls 122 _ _ _ _ _ hw h rfl (show 41 ≤ 41 by omega) (show 1685 ≤ 1685 by omega) dX11_after_122
                have h := h.2 c34
                refine lv_aload hx hb dX11_after_94 (lv_at hl 3 rfl) ?_
                refine lv_iconst (v := (4 : Int32)) hx hb dX11_after_96 (by decide) ?_
                refine lv_iload hx hb dX11_after_97 (lv_at hl 2 rfl) ?_
                refine lv_imul hx hb dX11_after_99 ?_
                refine lv_iload hx hb dX11_after_100 (lv_at hl 1 rfl) ?_
                refine lv_iconst (v := (3 : Int32)) hx hb dX11_after_102 (by decide) ?_
                refine lv_irem hx hb dX11_after_103 (by decide) ?_
                refine lv_iadd hx hb dX11_after_104 ?_
                obtain ⟨z35, h⟩ := h
                refine n_iald hx hb hK (hw.n (j := 0) rfl) z35 dX11_after_105 ?_
                refine lv_istore (lv' := [(6, .int (f15 (((4 : Int32) * v32) + (v31 - v31 / (3 : Int32) * (3 : Int32))).toNatClampNeg)), (8, .int v30), (7, .int v31), (5, .ref q13), (2, .int v33)]) hx hb dX11_after_106 hl (by decide) rfl (fun ls hl => ?_)
                refine lv_iload hx hb dX11_after_108 (lv_at hl 2 rfl) ?_
                refine lv_iconst (v := (3 : Int32)) hx hb dX11_after_110 (by decide) ?_
                refine lv_idiv hx hb dX11_after_111 (by decide) ?_
                refine lv_istore (lv' := [(7, .int (v31 / (3 : Int32))), (6, .int (f15 (((4 : Int32) * v32) + (v31 - v31 / (3 : Int32) * (3 : Int32))).toNatClampNeg)), (8, .int v30), (5, .ref q13), (2, .int v33)]) hx hb dX11_after_112 hl (by decide) rfl (fun ls hl => ?_)
                refine lv_iinc (v := (v30 + (1 : Int32))) (lv' := [(8, .int (v30 + (1 : Int32))), (7, .int (v31 / (3 : Int32))), (6, .int (f15 (((4 : Int32) * v32) + (v31 - v31 / (3 : Int32) * (3 : Int32))).toNatClampNeg)), (5, .ref q13), (2, .int v33)]) hx hb dX11_after_114 hl (k := 2) rfl rfl (by decide) rfl (fun ls hl => ?_)
                refine lv_goto (tgt := 88) hx hb dX11_after_117 (by decide) ?_
                exact ih28 (v30 + (1 : Int32)) (v31 / (3 : Int32)) (f15 (((4 : Int32) * v32) + (v31 - v31 / (3 : Int32) * (3 : Int32))).toNatClampNeg) H locs ls hw (lv_sub hl [0, 1, 2, 3, 4] rfl) h
            exact L28 a2 n36 (0 : Int32) a3 (0 : Int32) H locs ls hw (lv_sub hl [0, 1, 2, 3, 5] rfl) h
          have h := h.2 c28
          refine lv_iconst (v := (0 : Int32)) hx hb dX11_after_77 (by decide) ?_
          exact hret H locs ls 78 _ _ _ _ _ hw h rfl (show 41 ≤ 41 by omega) (show 1685 ≤ 1685 by omega) dX11_after_78)
        refine lv_icmp_ne (tgt := 61) hx hb dX11_after_54 (by decide) (fun c38 => ?_) (fun c38 => ?_)
        · have h := h.1 c38
          refine lv_iconst (v := (0 : Int32)) hx hb dX11_after_61 (by decide) ?_
          exact h H locs ls hw (lv_sub hl [0, 2, 3] rfl)
        have h := h.2 c38
        refine lv_iconst (v := (3 : Int32)) hx hb dX11_after_57 (by decide) ?_
        refine lv_goto (tgt := 62) hx hb dX11_after_58 (by decide) ?_
        exact h H locs ls hw (lv_sub hl [0, 2, 3] rfl)
      have h := h.2 c8
      refine lv_aload_n hx hb dX11_after_41 rfl (lv_at hl 0 rfl) ?_
      refine lv_iload_n hx hb dX11_after_42 rfl (lv_at hl 1 rfl) ?_
      refine lv_iload_n hx hb dX11_after_43 rfl (lv_at hl 2 rfl) ?_
      refine lv_iload_n hx hb dX11_after_44 rfl (lv_at hl 3 rfl) ?_
      refine M_calli hw (MA.up hw.2.2.1.1) (va_runV (own := "LeastreaderModel") (As := [.int a1, .int a2, .int a3]) (rest := []) ⟨hx, hb, hml, hown, ht⟩ (c_X11_setAfter μ5 H.size a1 a2 a3 h) (cwV 3 ht (G_V q_1516 q_1518 q_41 q_56 q_1519) rfl rfl rfl ⟨rfl, hd_108⟩ ⟨Nat.le_of_ble_eq_true rfl, Nat.le_of_ble_eq_true rfl⟩) ⟨MB.blind, M_recv hK hw, MB.pre hK hI hw va_P0 ne0⟩ rfl rfl hl.1 rfl (lv_room (Nat.le_of_ble_eq_true rfl)) dX11_after_45 ⟨show 0 + 0 ≤ 41 by omega, show 0 + 0 ≤ 1685 by omega⟩) (fun r41 μ39 H locs h hw => ?_)
      obtain ⟨e40, h⟩ := h
      rw [e40] at hw
      exact hret H locs ls 48 _ _ _ _ _ hw h rfl (show 0 ≤ 41 by omega) (show 0 ≤ 1685 by omega) dX11_after_48
    have h := h.2 c7
    refine lv_iconst (v := (0 : Int32)) hx hb dX11_after_34 (by decide) ?_
    exact hret H locs ls 35 _ _ _ _ _ hw h rfl (show 0 ≤ 41 by omega) (show 0 ≤ 1685 by omega) dX11_after_35)
  refine lv_if_eq (tgt := 27) hx hb dX11_after_10 (by decide) (fun c42 => ?_) (fun c42 => ?_)
  · have h := h.1 c42
    refine lv_iconst (v := (0 : Int32)) hx hb dX11_after_27 (by decide) ?_
    exact h H locs ls hw (lv_sub hl [0, 1, 2, 3, 4] rfl)
  have h := h.2 c42
  refine lv_iload hx hb dX11_after_13 (lv_at hl 4 rfl) ?_
  refine lv_iconst (v := (0 : Int32)) hx hb dX11_after_15 (by decide) ?_
  refine lv_iconst (v := (2 : Int32)) hx hb dX11_after_16 (by decide) ?_
  refine P_calli (va_runS (own := "LeastreaderModel") (As := [.int a4, .int (0 : Int32), .int (2 : Int32)]) (rest := [.int r1, .ref (ad 0)]) ⟨hx, hb, hml, hown, ht⟩ (c_X11_isIn a4 (0 : Int32) (2 : Int32) h) (va_cwS 3 ht (G_S q_1349 q_1350 q_56 q_1351) rfl rfl rfl hd_78 ⟨Nat.le_of_ble_eq_true rfl, Nat.le_of_ble_eq_true rfl⟩) ⟨PM_blind, PM_pre⟩ rfl rfl hl.1 rfl (lv_room (Nat.le_of_ble_eq_true rfl)) dX11_after_17 ⟨show 0 + 0 ≤ 41 by omega, show 0 + 0 ≤ 1685 by omega⟩) (fun r43 h => ?_)
  refine lv_if_eq (tgt := 27) hx hb dX11_after_20 (by decide) (fun c44 => ?_) (fun c44 => ?_)
  · have h := h.1 c44
    refine lv_iconst (v := (0 : Int32)) hx hb dX11_after_27 (by decide) ?_
    exact h H locs ls hw (lv_sub hl [0, 1, 2, 3, 4] rfl)
  have h := h.2 c44
  refine lv_iconst (v := (1 : Int32)) hx hb dX11_after_23 (by decide) ?_
  refine lv_goto (tgt := 28) hx hb dX11_after_24 (by decide) ?_
  exact h H locs ls hw (lv_sub hl [0, 1, 2, 3, 4] rfl)
